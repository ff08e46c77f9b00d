/-! READING: a word that is no LITERAL, on both sides -/
abbrev mO {α β : Type} (x : Option α) (n : β) (f : α → β) : β := match x with | some v => f v | none => n
/-- the class adds a word -/
def cwd (g : Nat) (T : St) (a : Nat) (k : Nat) (v : Int64) : Option (St × Int32) := (m_Pg_addWord g T (gR T 3 2) (nI (ckW k)) (nI (sgW k)) v (nI a)).bind fun S' => some (S', 1)
section RDI
variable {g : Nat} {S S2 T : St} {tp : List Int32} {a b i j le : Nat} {c : Int32}
theorem c_lt {v m : Nat} (hv : v < 100) (hm : m < 101) : ((nI v).toInt64 < (nI m).toInt64) ↔ v < m := by
  rw [Int64.lt_iff_toInt_lt, j64, j64, nI_toInt (by omega), nI_toInt (by omega)]
  omega
theorem C_name {mx pl : Nat} {sg : Int32} (hg : 100000 ≤ g) (hb : ∀ x ∈ tp, ∃ n : Nat, n < 256 ∧ x = nI n) (hl : b ≤ tp.length) (w : Rw T 10 tp 0) (ha : a < b) (hc : rdB tp a = c) (hcm : m_Rd_countOf g c = some (nI (mx + 1))) (hmx : mx < 100) (hp : gR T 3 2 = 1 ∨ gR T 3 2 = 2) : m_Rd_readName g T sg (nI pl) (nI a) (nI b) = (mO (nmV tp a b c mx) (some (T, 0)) fun v => (m_Pg_addWord g T (gR T 3 2) c sg (nI v).toInt64 (nI pl)).bind (fun S' => some (S', 1))) := by
  have h30 : tp.length ≤ 3000 := w.2.2.2.2.1
  unfold m_Rd_readName
  rw [C_byte w (by omega), Option.bind_some, hc, nI_sub (show a ≤ b by omega), show nI (b - a) - 1 = nI (b - a - 1) from by rw [show b - a = (b - a - 1) + 1 by omega, nI_pred, Nat.add_sub_cancel], lt_d, nI_1]
  by_cases q1 : b - a - 1 < 1
  · rw [if_pos (show nI (b - a - 1) < 1 from nI_lt (b := 1) q1 (by omega)), show nmV tp a b c mx = none from if_neg (by omega)]
  rw [if_neg (show ¬ nI (b - a - 1) < 1 from nI_nlt (b := 1) (by omega) (by omega))]
  by_cases q2 : 2 < b - a - 1
  · rw [if_pos (show (2 : Int32) < nI (b - a - 1) from nI_lt (a := 2) q2 (by omega)), show nmV tp a b c mx = none from if_neg (by omega)]
  rw [if_neg (show ¬ (2 : Int32) < nI (b - a - 1) from nI_nlt (a := 2) (by omega) (by omega))]
  have e53 : ¬ (b = a + 3 ∧ rdB tp (a + 1) = 48) → m_Rd_readName_53 g T sg (nI pl) (nI a) (nI b) c = (mO (nmV tp a b c mx) (some (T, 0)) fun v => (m_Pg_addWord g T (gR T 3 2) c sg (nI v).toInt64 (nI pl)).bind (fun S' => some (S', 1))) := by
    intro h48
    have en : nmV tp a b c mx = (match dg12 tp (b - a - 1) (a + 1) with | some v => if v ≤ mx then some v else none | none => none) := if_pos ⟨by omega, hc, h48⟩
    unfold m_Rd_readName_53
    rw [nI_1, en]
    have cm := C_minus hg hb hl w (show a + 1 < b by omega)
    rw [show b - (a + 1) = b - a - 1 by omega] at cm
    rcases tel12 (tp := tp) (i := a + 1) (k := b - a - 1) (by omega) with ⟨z1, z2⟩ | ⟨v, x, z1, z2, z3, z4⟩
    · rcases cm with ⟨y, y1, -, -⟩ | ⟨-, y2⟩
      · rw [z2] at y1; cases y1
      · rw [y2, Option.bind_some, z1, if_pos (by decide)]
    · rcases cm with ⟨y, y1, -, y3⟩ | ⟨y1, -⟩
      · rw [z2] at y1
        cases y1
        have hv := dg12_b z1
        rw [y3, Option.bind_some, if_neg z3, hcm, Option.bind_some, z1, z4]
        dsimp only [mO]
        by_cases q3 : v ≤ mx
        · rw [if_pos ((c_lt hv (by omega)).mpr (by omega)), if_pos hp, lt_d, if_pos q3]
        · rw [if_neg (fun z => q3 (by have := (c_lt hv (by omega)).mp z; omega)), if_neg q3]
      · rw [z2] at y1; cases y1
  by_cases q3 : b = a + 3
  · rw [if_pos (show nI (b - a - 1) = 2 from by rw [q3, show a + 3 - a - 1 = 2 by omega]; rfl), C_byte w (by omega), Option.bind_some]
    by_cases q4 : rdB tp (a + 1) = 48
    · rw [if_pos q4, show nmV tp a b c mx = none from if_neg (fun z => z.2.2 ⟨q3, q4⟩)]
    · rw [if_neg q4]
      exact e53 (fun z => q4 z.2)
  · rw [if_neg (show ¬ nI (b - a - 1) = 2 from i_lit (b := 2) (by omega) (by omega) (by omega))]
    exact e53 (fun z => q3 z.1)
/-- a COUNT -/
def cnV (tp : List Int32) (a b : Nat) : Option Nat := if b - a ≤ 2 then dg12 tp (b - a) a else none
theorem C_count (hg : 100000 ≤ g) (hb : ∀ x ∈ tp, ∃ n : Nat, n < 256 ∧ x = nI n) (hl : b ≤ tp.length) (w : Rw T 10 tp 0) (ha : a < b) (hp : gR T 3 2 = 1 ∨ gR T 3 2 = 2) : m_Rd_readCount g T (nI a) (nI b) = (mO (cnV tp a b) (some (T, 0)) fun v => cwd g T a 9 (nI v).toInt64) := by
  have h30 : tp.length ≤ 3000 := w.2.2.2.2.1
  unfold m_Rd_readCount cnV
  rw [nI_sub (show a ≤ b by omega)]
  have cm := C_minus hg hb hl w ha
  by_cases q : b - a ≤ 2
  · rw [if_pos q]
    rcases tel12 (tp := tp) (i := a) (k := b - a) (by omega) with ⟨z1, z2⟩ | ⟨v, x, z1, z2, z3, z4⟩
    · rcases cm with ⟨y, y1, -, -⟩ | ⟨-, y2⟩
      · rw [z2] at y1; cases y1
      · rw [y2, Option.bind_some, z1, if_pos (by decide)]
    · rcases cm with ⟨y, y1, -, y3⟩ | ⟨y1, -⟩
      · rw [z2] at y1
        cases y1
        rw [y3, Option.bind_some, if_neg z3, z1, z4, if_pos (show nI (b - a) ≤ 2 from nI_le (b := 2) q (by omega)), if_pos hp, lt_d]
        rfl
      · rw [z2] at y1; cases y1
  · rw [if_neg q]
    have q' : ¬ nI (b - a) ≤ 2 := nI_ge (a := 2) (by omega) (by omega)
    rcases cm with ⟨y, -, -, y3⟩ | ⟨-, y2⟩
    · rw [y3, Option.bind_some, if_neg q']
      exact ifo rfl rfl
    · rw [y2, Option.bind_some, if_neg q']
      exact ifo rfl rfl
theorem M_count {X : Nat} (hg : 100000 ≤ g) (t : TpM S2 tp) (hm : LM S2) (hl : b ≤ tp.length) (h20 : gI S2 0 20 = nI a) (h21 : gI S2 0 21 = nI b) (h23 : gI S2 0 23 = 0) (ha : a < b) (hX : X < 1800) : m_readsCount g S2 (nI X) = (mO (cnV tp a b) (some (S2, 0)) fun v => some (kpS S2 X 9 (nI v).toInt64, 1)) := by
  have h30 := t.2.1
  have hb := t.2.2.2
  unfold m_readsCount cnV
  rw [h20, h21, nI_sub (show a ≤ b by omega), lt_d, if_pos h23]
  by_cases q : b - a ≤ 2
  · rw [if_pos q, if_pos (show nI (b - a) ≤ 2 from nI_le (b := 2) q (by omega)), lt_d]
    obtain ⟨n, rfl⟩ : ∃ n, g = n + 3 := ⟨g - 3, by omega⟩
    obtain ⟨x, x1, x2⟩ := rdB_b hb (show a < tp.length by omega)
    have st : ∀ (m i : Nat) (x : Nat) (y : Nat), i < b → x < 256 → rdB tp i = nI x → m_readsCount_32 (n + 3) (m + 1) S2 (nI X) (nI y) (nI i) = (match decN x with | none => some (S2, 0) | some d => m_readsCount_32 (n + 3) m S2 (nI X) (nI (10 * y + d)) (nI (i + 1))) := by
      intro m i x y hi hx hx2
      show b_readsCount_32 (n + 3) (m_readsCount_32 (n + 3) m) _ _ _ _ = _
      unfold b_readsCount_32
      rw [h21, if_neg (nI_ge hi (by omega)), M_byte t hm (by omega), Option.bind_some, hx2, in_dg hx, Option.bind_some]
      cases q : decN x with
      | none => rw [if_pos rfl, if_pos rfl]
      | some d =>
        obtain ⟨d1, d2⟩ := decN_b q
        rw [if_neg (show ¬ (if some d = none then (0 : Int32) else 1) = 0 from by rw [if_neg (by simp)]; decide), Option.bind_some, lt_d, lt_d, nI_1]
        dsimp only [mO]
        have e : (10 : Int32) * nI y + nI x - 48 = nI (10 * y + d) := by
          rw [show (10 : Int32) = nI 10 from rfl, nI_mulE, nI_add, show (48 : Int32) = nI 48 from rfl, nI_sub (by omega), d2]
          congr 1
          omega
        rw [e]
    have en : ∀ (m y i : Nat), i = b → m_readsCount_32 (n + 3) (m + 1) S2 (nI X) (nI y) (nI i) = some (kpS S2 X 9 (nI y).toInt64, 1) := by
      intro m y i hi
      show b_readsCount_32 (n + 3) (m_readsCount_32 (n + 3) m) _ _ _ _ = _
      unfold b_readsCount_32
      rw [h21, if_pos (nI_le (by omega) (by omega)), M_keeps hm hX, Option.bind_some]
      exact if_pos (Or.inr rfl)
    rw [show (0 : Int32) = nI 0 from rfl, st (n + 2) a x 0 (by omega) x1 x2]
    unfold dg12
    rw [x2, nI_nat (by omega)]
    cases q4 : decN x with
    | none => rfl
    | some d =>
      dsimp only [mO]
      by_cases q5 : b = a + 1
      · rw [en (n + 1) _ (a + 1) (by omega), if_pos (show b - a = 1 by omega), show 10 * 0 + d = d by omega]
      · obtain ⟨y, y1, y2⟩ := rdB_b hb (show a + 1 < tp.length by omega)
        rw [st (n + 1) (a + 1) y (10 * 0 + d) (by omega) y1 y2, if_neg (show ¬ b - a = 1 by omega), y2, nI_nat (by omega)]
        cases q6 : decN y with
        | none => rfl
        | some e =>
          dsimp only [mO]
          rw [en n _ (a + 1 + 1) (by omega), show 10 * (10 * 0 + d) + e = 10 * d + e by omega]
  · rw [if_neg q, if_neg (show ¬ nI (b - a) ≤ 2 from nI_ge (a := 2) (by omega) (by omega))]
/-- NUMBERS as one value on both sides -/
theorem B_num2 {pl : Nat} (hg : 100000 ≤ g) (t : TpM S2 tp) (hm : LM S2) (hl : b ≤ tp.length) (h21 : gI S2 0 21 = nI b) (h23 : gI S2 0 23 = 0) (w : Rw T 10 tp 0) (ha : a ≤ b) (hp : gR T 3 2 = 1 ∨ gR T 3 2 = 2) : ∃ num : Option Int64, (∀ sg, m_Rd_readNumber g T sg (nI pl) (nI a) (nI b) = (mO num (some (T, 0)) fun z => (m_Pg_addWord g T (gR T 3 2) 48 sg z (nI pl)).bind (fun S' => some (S', 1)))) ∧ m_isNumber g S2 (nI a) = (mO num (some (S2, 0)) fun z => some (sL S2 0 26 z, 1)) ∧ (a < b → (∃ n : Nat, n < 256 ∧ rdB tp a = nI n ∧ ¬ (48 ≤ n ∧ n ≤ 57) ∧ n ≠ 45) → num = none) := by
  have key : ∀ sg, (∃ z : Int64, m_Rd_readNumber g T sg (nI pl) (nI a) (nI b) = m_Rd_readNumber_94 g T (nI pl) (gR T 3 2) 48 sg z ∧ m_isNumber g S2 (nI a) = some (sL S2 0 26 z, 1)) ∨ (m_Rd_readNumber g T sg (nI pl) (nI a) (nI b) = some (T, 0) ∧ m_isNumber g S2 (nI a) = some (S2, 0)) := fun sg => B_num hg t hm hl h21 h23 w ha hp
  rcases key 0 with ⟨z, -, z2⟩ | ⟨-, z2⟩
  · refine ⟨some z, fun sg => ?_, z2, fun hab hx => ?_⟩
    · rcases key sg with ⟨y, y1, y2⟩ | ⟨-, y2⟩
      · rw [z2] at y2
        have e := congrArg Prod.fst (Option.some.inj y2)
        have e : gL (sL S2 0 26 z) 0 26 = gL (sL S2 0 26 y) 0 26 := by
          have e' : sL S2 0 26 z = sL S2 0 26 y := e
          rw [e']
        rw [gL_s, gL_s] at e
        rw [y1, ← e]
        rfl
      · rw [z2] at y2
        have e := congrArg Prod.snd (Option.some.inj y2)
        exact absurd e (show ¬ (1 : Int32) = 0 by decide)
    · obtain ⟨n, n1, n2, n3, n4⟩ := hx
      exfalso
      have h30 := t.2.1
      have e : m_isNumber g S2 (nI a) = some (S2, 0) := by
        obtain ⟨G, hG⟩ : ∃ G, g = G + 1 := ⟨g - 1, by omega⟩
        unfold m_isNumber m_isNumber_23 m_isNumber_24 m_isNumber_36
        rw [h21, if_neg (nI_ge hab (by omega)), M_byte t hm (by omega), Option.bind_some, n2, if_neg (show ¬ nI n = 45 from i_lit (b := 45) (by omega) (by omega) n4), if_pos rfl, if_pos h23, if_pos (nI_lt hab (by omega)), M_num t hm hl h21 (b - a) g a 0 (by omega) (by omega)]
        obtain ⟨k, hk⟩ : ∃ k, b - a = k + 1 := ⟨b - a - 1, by omega⟩
        rw [hk]
        unfold telJ
        rw [n2, nI_nat (by omega), show decN n = none from if_neg n3]
      rw [e] at z2
      have e := congrArg Prod.snd (Option.some.inj z2)
      exact absurd e (show ¬ (0 : Int32) = 1 by decide)
  · refine ⟨none, fun sg => ?_, z2, fun _ _ => rfl⟩
    rcases key sg with ⟨y, y1, y2⟩ | ⟨y1, -⟩
    · rw [z2] at y2
      have e := congrArg Prod.snd (Option.some.inj y2)
      exact absurd e (show ¬ (0 : Int32) = 1 by decide)
    · exact y1
/-- what the reference reads, by roles -/
theorem oN_s {v : Nat} (h : v < 2 ^ 31) : ¬ oN (some v) < 0 := nI_pos h
theorem oN_n : oN none < 0 := by decide
theorem M_reads {X : Nat} {v1 v2 v3 : Option Nat} {num : Option Int64} (hm : LM S2) (hX : X < 1800) (h20 : gI S2 0 20 = nI a) (h23 : gI S2 0 23 = 0) (h1 : m_numbered g S2 (nI a) 118 19 = some (oN v1)) (h2 : m_numbered g S2 (nI a) 119 11 = some (oN v2)) (h3 : m_numbered g S2 (nI a) 98 5 = some (oN v3)) (b1 : ∀ v, v1 = some v → v < 100) (b2 : ∀ v, v2 = some v → v < 100) (b3 : ∀ v, v3 = some v → v < 100) (hn : m_isNumber g S2 (nI a) = (mO num (some (S2, 0)) fun z => some (sL S2 0 26 z, 1))) : m_reads g S2 (nI X) 1 = (mO v1 (some (S2, 0)) fun v => some (kpS S2 X 0 (nI v).toInt64, 1)) ∧ m_reads g S2 (nI X) 2 = (mO v2 (some (S2, 0)) fun v => some (kpS S2 X 1 (nI v).toInt64, 1)) ∧ m_reads g S2 (nI X) 3 = (mO v3 (some (S2, 0)) fun v => some (kpS S2 X 2 (nI v).toInt64, 1)) ∧ m_reads g S2 (nI X) 7 = (mO v3 (some (S2, 0)) fun v => some (kpS S2 X 2 (nI v).toInt64, 1)) ∧ m_reads g S2 (nI X) 4 = (mO v1 (some (S2, 0)) fun v => some (kpS S2 X 0 (nI v).toInt64, 1)) ∧ m_reads g S2 (nI X) 5 = (mO v2 ((mO num (some (S2, 0)) fun z => some (kpS (sL S2 0 26 z) X 4 z, 1))) fun v => some (kpS S2 X 1 (nI v).toInt64, 1)) ∧ m_reads g S2 (nI X) 8 = (m_readsCount g S2 (nI X)).bind (fun (S_7, v_8) => if v_8 = 0 ∨ v_8 = 1 then some (S_7, v_8) else none) ∧ m_reads g S2 (nI X) 6 = (mO v1 ((mO v2 ((mO num ((mO v3 ((m_readsMarked g S2 (nI X)).bind (fun (S_6, v_7) => if v_7 = 0 ∨ v_7 = 1 then some (S_6, v_7) else none)) fun v => some (kpS S2 X 2 (nI v).toInt64, 1))) fun z => some (kpS (sL S2 0 26 z) X 4 z, 1))) fun v => some (kpS S2 X 1 (nI v).toInt64, 1))) fun v => some (kpS S2 X 0 (nI v).toInt64, 1)) := by
  have kp : ∀ (k : Int32) (v : Int64), (m_keeps g S2 (nI X) k v).bind (fun (S_12, v_13) => if v_13 = 0 then some (S_12, (0 : Int32)) else some (S_12, 1)) = some (kpS S2 X k v, 1) := fun k v => by
    rw [M_keeps hm hX, Option.bind_some]
    exact if_neg (by decide)
  have kq : ∀ (k : Int32) (v : Int64), (m_keeps g S2 (nI X) k v).bind (fun (S_12, v_13) => if v_13 = 0 ∨ v_13 = 1 then some (S_12, v_13) else none) = some (kpS S2 X k v, 1) := fun k v => by
    rw [M_keeps hm hX, Option.bind_some]
    exact if_pos (Or.inr rfl)
  have hm' : ∀ z, LM (sL S2 0 26 z) := fun z => hm.of rfl
  have e176 : ∀ r : Int32, r = 5 ∨ r = 6 → m_reads_176 g S2 (nI X) r (oN v2) (oN v3) = (mO v2 ((mO num ((if r = 5 then some (S2, 0) else (mO v3 ((m_readsMarked g S2 (nI X)).bind (fun (S_6, v_7) => if v_7 = 0 ∨ v_7 = 1 then some (S_6, v_7) else none)) fun v => some (kpS S2 X 2 (nI v).toInt64, 1)))) fun z => some (kpS (sL S2 0 26 z) X 4 z, 1))) fun v => some (kpS S2 X 1 (nI v).toInt64, 1)) := by
    intro r hr
    unfold m_reads_176
    rw [if_neg (show ¬ r = 4 from by rcases hr with rfl | rfl <;> decide), h20, hn]
    cases v2 with
    | some v =>
      rw [if_neg (oN_s (by have := b2 v rfl; omega)), kq]
      rfl
    | none =>
      rw [if_pos oN_n]
      cases num with
      | some z =>
        rw [Option.bind_some]
        dsimp only [mO]
        rw [if_neg (by decide), gL_s, M_keeps (hm' z) hX, Option.bind_some]
        exact if_pos (Or.inr rfl)
      | none =>
        rw [Option.bind_some]
        dsimp only [mO]
        rw [if_pos rfl]
        by_cases q : r = 5
        · rw [if_pos q, if_pos q]
        · rw [if_neg q, if_neg q, if_pos h23]
          cases v3 with
          | some v =>
            rw [if_neg (oN_s (by have := b3 v rfl; omega)), kq]
            rfl
          | none => rw [if_pos oN_n]
  have e158 : ∀ r : Int32, r = 5 ∨ r = 6 → m_reads_158 g S2 (nI X) r (oN v2) (oN v3) = m_reads_176 g S2 (nI X) r (oN v2) (oN v3) := by
    intro r hr
    unfold m_reads_158
    rw [if_pos h23]
    exact ifo rfl rfl
  have e105 : m_reads_105 g S2 (nI X) (oN v3) = (mO v3 (some (S2, 0)) fun v => some (kpS S2 X 2 (nI v).toInt64, 1)) := by
    unfold m_reads_105
    cases v3 with
    | some v => rw [if_neg (oN_s (by have := b3 v rfl; omega)), kp]; rfl
    | none => rw [if_pos oN_n]
  refine ⟨?_, ?_, ?_, ?_, ?_, ?_, ?_, ?_⟩ <;> unfold m_reads <;> rw [h20, h1, h2, h3, Option.bind_some, Option.bind_some, Option.bind_some]
  · rw [if_pos rfl]
    cases v1 with
    | some v => rw [if_neg (oN_s (by have := b1 v rfl; omega)), kp]; rfl
    | none => rw [if_pos oN_n]
  · rw [if_neg (by decide), if_pos rfl]
    cases v2 with
    | some v => rw [if_neg (oN_s (by have := b2 v rfl; omega)), kp]; rfl
    | none => rw [if_pos oN_n]
  · rw [if_neg (by decide), if_neg (by decide), if_pos rfl, e105]
  · rw [if_neg (by decide), if_neg (by decide), if_neg (by decide), if_pos rfl, e105]
  · rw [if_neg (by decide), if_neg (by decide), if_neg (by decide), if_neg (by decide), if_neg (by decide), if_neg (by decide)]
    cases v1 with
    | some v => rw [if_neg (oN_s (by have := b1 v rfl; omega)), kq]; rfl
    | none =>
      rw [if_pos oN_n]
      unfold m_reads_158 m_reads_176
      rw [if_pos h23, if_pos rfl]
      exact ifo rfl rfl
  · rw [if_neg (by decide), if_neg (by decide), if_neg (by decide), if_neg (by decide), if_neg (by decide), if_pos rfl, e158 5 (Or.inl rfl), e176 5 (Or.inl rfl)]
    rfl
  · rw [if_neg (by decide), if_neg (by decide), if_neg (by decide), if_neg (by decide), if_pos rfl]
  · rw [if_neg (by decide), if_neg (by decide), if_neg (by decide), if_neg (by decide), if_neg (by decide), if_neg (by decide), e158 6 (Or.inr rfl), e176 6 (Or.inr rfl), if_neg (show ¬ (6 : Int32) = 5 by decide)]
    cases v1 with
    | some v => rw [if_neg (oN_s (by have := b1 v rfl; omega)), kq]; rfl
    | none => rw [if_pos oN_n]
end RDI
