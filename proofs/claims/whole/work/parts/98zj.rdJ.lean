/-! READING: a word that is no LITERAL, joined -/
theorem wr0 {o : Option St} : ((o.bind fun S' => some (S', (1 : Int32))).bind fun (S_7, v_8) => if v_8 = 0 then some (S_7, (0 : Int32)) else some (S_7, 1)) = o.bind fun S' => some (S', 1) := by
  cases o with
  | none => rfl
  | some x =>
    show (if (1 : Int32) = 0 then some (x, (0 : Int32)) else some (x, 1)) = some (x, 1)
    rw [if_neg (by decide)]
theorem wr1 {o : Option St} : ((o.bind fun S' => some (S', (1 : Int32))).bind fun (S_7, v_8) => if v_8 = 0 ∨ v_8 = 1 then some (S_7, v_8) else none) = o.bind fun S' => some (S', 1) := by
  cases o with
  | none => rfl
  | some x =>
    show (if (1 : Int32) = 0 ∨ (1 : Int32) = 1 then some (x, (1 : Int32)) else none) = some (x, 1)
    rw [if_pos (Or.inr rfl)]
section RDJ
variable {g : Nat} {S S2 T : St} {tp : List Int32} {a b le : Nat} {c : Int32}
theorem C_word0 (hg : 100000 ≤ g) (w : Rw S 10 tp 0) (hle : le ≤ tp.length) (ha : a < le) (h3 : gI S 3 3 = nI a) (h4 : gI S 3 4 = nI le) (hx : ¬ rdB tp a = 34) (hb : b = rdN tp 32 (le - a) a) (hT : T = sI S 3 3 (nI b)) : m_Rd_readWord g S c = (if c = 78 then (m_Rd_readCount g T (nI a) (nI b)).bind (fun (S_5, v_6) => if v_6 = 0 ∨ v_6 = 1 then some (S_5, v_6) else none) else (if c = 88 then (if rdB tp a = 64 then m_Rd_readWord_99 g T (nI a) (rdB tp a) (nI b) else (if rdB tp a = 63 then m_Rd_readWord_99 g T (nI a) (rdB tp a) (nI b) else m_Rd_readWord_111 g T c (nI a) (rdB tp a) (nI b))) else m_Rd_readWord_111 g T c (nI a) (rdB tp a) (nI b))) := by
  have h30 : tp.length ≤ 3000 := w.2.2.2.2.1
  unfold m_Rd_readWord
  rw [h3, h4, lt_d, C_byte w (by omega), Option.bind_some, if_neg hx, C_next hg w (by omega) (by omega), Option.bind_some, lt_d, ← hb, ← hT]
theorem C_111 {A1 A2 A3 A4 : Int32} {num : Option Int64} (hg : 100000 ≤ g) (hby : ∀ x ∈ tp, ∃ n : Nat, n < 256 ∧ x = nI n) (hl : b ≤ tp.length) (w : Rw T 10 tp 0) (ha : a < b) (hp : gR T 3 2 = 1 ∨ gR T 3 2 = 2) (h1 : alw 1 c = some A1) (h2 : alw 2 c = some A2) (h3 : alw 3 c = some A3) (h4 : alw 4 c = some A4) (hn : ∀ sg, m_Rd_readNumber g T sg (nI a) (nI a) (nI b) = (mO num (some (T, 0)) fun z => (m_Pg_addWord g T (gR T 3 2) 48 sg z (nI a)).bind (fun S' => some (S', 1)))) : m_Rd_readWord_111 g T c (nI a) (rdB tp a) (nI b) = (if rdB tp a = 98 then (if A2 = 0 then some (T, 0) else mO (nmV tp a b 98 5) (some (T, 0)) fun v => cwd g T a 2 (nI v).toInt64) else if rdB tp a = 118 then (if A1 = 0 then some (T, 0) else mO (nmV tp a b 118 19) (some (T, 0)) fun v => cwd g T a 0 (nI v).toInt64) else if rdB tp a = 119 then (if A3 = 0 then some (T, 0) else mO (nmV tp a b 119 11) (some (T, 0)) fun v => cwd g T a 1 (nI v).toInt64) else (if A4 = 0 then some (T, 0) else mO num (some (T, 0)) fun z => cwd g T a 4 z)) := by
  unfold m_Rd_readWord_111
  rw [h1, h2, h3, h4, Option.bind_some, Option.bind_some, Option.bind_some, Option.bind_some]
  by_cases q1 : rdB tp a = 98
  · rw [if_pos q1, if_pos q1, C_name (mx := 5) hg hby hl w ha q1 rfl (by omega) hp]
    cases nmV tp a b 98 5 with
    | none => rfl
    | some v => dsimp only [mO]; rw [wr0]; rfl
  rw [if_neg q1, if_neg q1]
  by_cases q2 : rdB tp a = 118
  · rw [if_pos q2, if_pos q2, C_name (mx := 19) hg hby hl w ha q2 rfl (by omega) hp]
    cases nmV tp a b 118 19 with
    | none => rfl
    | some v => dsimp only [mO]; rw [wr0]; rfl
  rw [if_neg q2, if_neg q2]
  by_cases q3 : rdB tp a = 119
  · rw [if_pos q3, if_pos q3, C_name (mx := 11) hg hby hl w ha q3 rfl (by omega) hp]
    cases nmV tp a b 119 11 with
    | none => rfl
    | some v => dsimp only [mO]; rw [wr0]; rfl
  rw [if_neg q3, if_neg q3, hn]
  cases num with
  | none => rfl
  | some v => dsimp only [mO]; rw [wr0]; rfl
/-- a word with a mark -/
theorem B_mark {X k5 k6 : Nat} (hg : 100000 ≤ g) (t : TpM S2 tp) (hm : LM S2) (hl : b ≤ tp.length) (h20 : gI S2 0 20 = nI a) (h21 : gI S2 0 21 = nI b) (h23 : gI S2 0 23 = 0) (w : Rw T 10 tp 0) (ha : a < b) (hp : gR T 3 2 = 1 ∨ gR T 3 2 = 2) (hX : X < 1800) (hk : (rdB tp a = 64 ∧ k5 = 5 ∧ k6 = 6) ∨ (rdB tp a = 63 ∧ k5 = 7 ∧ k6 = 8)) : ∃ num : Option Int64, m_Rd_readWord_99 g T (nI a) (rdB tp a) (nI b) = (mO (nmV tp (a + 1) b 119 11) (mO num (some (T, 0)) fun z => cwd g T a k6 z) fun v => cwd g T a k5 (nI v).toInt64) ∧ m_readsMarked g S2 (nI X) = (mO (nmV tp (a + 1) b 119 11) (mO num (some (S2, 0)) fun z => some (kpS (sL S2 0 26 z) X (nI k6) z, 1)) fun v => some (kpS S2 X (nI k5) (nI v).toInt64, 1)) := by
  have h30 := t.2.1
  have hby := t.2.2.2
  obtain ⟨num, n1, n2, n3⟩ := B_num2 (g := g) (a := a + 1) (pl := a) hg t hm hl h21 h23 w (by omega) hp
  have ck5 : nI (ckW k5) = 119 := by rcases hk with ⟨-, rfl, -⟩ | ⟨-, rfl, -⟩ <;> rfl
  have ck6 : nI (ckW k6) = 48 := by rcases hk with ⟨-, -, rfl⟩ | ⟨-, -, rfl⟩ <;> rfl
  have sg5 : nI (sgW k5) = rdB tp a := by rcases hk with ⟨z, rfl, -⟩ | ⟨z, rfl, -⟩ <;> rw [z] <;> rfl
  have sg6 : nI (sgW k6) = rdB tp a := by rcases hk with ⟨z, -, rfl⟩ | ⟨z, -, rfl⟩ <;> rw [z] <;> rfl
  refine ⟨num, ?_, ?_⟩
  · have e29 : m_Rd_readWhole_29 g T (rdB tp a) (nI a) (nI (a + 1)) (nI b) = (mO num (some (T, 0)) fun z => cwd g T a k6 z) := by
      unfold m_Rd_readWhole_29
      rw [n1]
      cases num with
      | none => rfl
      | some z =>
        dsimp only [mO]
        rw [wr1]
        unfold cwd
        rw [ck6, sg6]
    have eW : m_Rd_readWhole g T (rdB tp a) (nI a) (nI (a + 1)) (nI b) = (mO (nmV tp (a + 1) b 119 11) (mO num (some (T, 0)) fun z => cwd g T a k6 z) fun v => cwd g T a k5 (nI v).toInt64) := by
      unfold m_Rd_readWhole
      rw [e29]
      by_cases q : b ≤ a + 1
      · rw [if_pos (nI_le q (by omega)), show nmV tp (a + 1) b 119 11 = none from if_neg (by omega)]
      · rw [if_neg (nI_ge (by omega) (by omega)), C_byte w (by omega), Option.bind_some]
        by_cases q2 : rdB tp (a + 1) = 119
        · rw [if_pos q2, C_name (mx := 11) (pl := a) hg hby hl w (by omega) q2 rfl (by omega) hp, n3 (by omega) ⟨119, by omega, by rw [q2]; rfl, by omega, by omega⟩]
          cases nmV tp (a + 1) b 119 11 with
          | none => rfl
          | some v =>
            dsimp only [mO]
            rw [wr1]
            unfold cwd
            rw [ck5, sg5]
        · rw [if_neg q2, nmV_n q2]
    unfold m_Rd_readWord_99
    rw [nI_1, eW]
    cases nmV tp (a + 1) b 119 11 with
    | some v =>
      dsimp only [mO]
      unfold cwd
      rw [wr1]
    | none =>
      cases num with
      | none => rfl
      | some z =>
        dsimp only [mO]
        unfold cwd
        rw [wr1]
  · have e24 : m_readsMarked g S2 (nI X) = m_readsMarked_24 g S2 (nI X) (rdB tp a) := by
      unfold m_readsMarked
      rw [h20, M_byte t hm (by omega), Option.bind_some]
      rcases hk with ⟨z, -, -⟩ | ⟨z, -, -⟩
      · rw [if_pos z]
      · rw [if_neg (by rw [z]; decide), if_pos z]
    rw [e24]
    have kq : ∀ (k : Int32) (v : Int64), (m_keeps g S2 (nI X) k v).bind (fun (S_12, v_13) => if v_13 = 0 ∨ v_13 = 1 then some (S_12, v_13) else none) = some (kpS S2 X k v, 1) := fun k v => by
      rw [M_keeps hm hX, Option.bind_some]
      exact if_pos (Or.inr rfl)
    have kp : ∀ (k : Int32) (z : Int64), m_readsMarked_91 g (sL S2 0 26 z) (nI X) k = some (kpS (sL S2 0 26 z) X k z, 1) := fun k z => by
      unfold m_readsMarked_91
      rw [M_keeps (S2 := sL S2 0 26 z) (hm.of rfl) hX, Option.bind_some, gL_s]
      exact if_neg (by decide)
    unfold m_readsMarked_24 m_readsMarked_57
    rw [h20, nI_1, show (11 : Int32) = nI 11 from rfl, M_named (a := a + 1) t hm hl hg h21 h23 (by omega) (by omega), Option.bind_some, n2, kq, kq]
    cases q : nmV tp (a + 1) b 119 11 with
    | some v =>
      have := nmV_b q
      rw [if_neg (oN_s (by omega))]
      dsimp only [mO]
      rcases hk with ⟨z, rfl, -⟩ | ⟨z, rfl, -⟩
      · rw [if_pos z]; rfl
      · rw [if_neg (by rw [z]; decide)]; rfl
    | none =>
      rw [if_pos oN_n]
      cases num with
      | none => rfl
      | some y =>
        dsimp only [mO]
        rw [Option.bind_some]
        show (if (1 : Int32) = 0 then _ else _) = _
        rw [if_neg (by decide), kp, kp]
        rcases hk with ⟨z, -, rfl⟩ | ⟨z, -, rfl⟩
        · rw [if_pos z]; rfl
        · rw [if_neg (by rw [z]; decide)]; rfl
theorem nv_arg {v m : Nat} {k : Nat} {pl : Int32} (h : v ≤ m) (hm : m < 100) : argN (k, (nI v).toInt64, pl) (m + 1) := ⟨v, by omega, by rw [j64, nI_toInt (by omega)]⟩
/-- outcome of a word on both sides -/
def WdO (g : Nat) (S S2 T : St) (a X : Nat) (c r : Int32) : Prop := (∃ (k : Nat) (v : Int64) (U2 : St), m_Rd_readWord g S c = cwd g T a k v ∧ m_reads g S2 (nI X) r = some (kpS U2 X (nI k) v, 1) ∧ (U2 = S2 ∨ ∃ z, U2 = sL S2 0 26 z) ∧ (∀ U, okL U c (k, v, nI a)) ∧ (k = 9 → ∃ n : Nat, n < 100 ∧ v.toInt = (n : Int))) ∨ (m_Rd_readWord g S c = some (T, 0) ∧ m_reads g S2 (nI X) r = some (S2, 0))
theorem B_wordN {X : Nat} {r : Int32} (hg : 100000 ≤ g) (t : TpM S2 tp) (hm : LM S2) (w : Rw S 10 tp 0) (hle : le ≤ tp.length) (ha : a < le) (h3 : gI S 3 3 = nI a) (h4 : gI S 3 4 = nI le) (hx : ¬ rdB tp a = 34) (hb : b = rdN tp 32 (le - a) a) (hT : T = sI S 3 3 (nI b)) (hab : a < b) (hbl : b ≤ le) (h20 : gI S2 0 20 = nI a) (h21 : gI S2 0 21 = nI b) (h23 : gI S2 0 23 = 0) (hp : gR T 3 2 = 1 ∨ gR T 3 2 = 2) (hX : X < 1800) (hr : rlL r c) : WdO g S S2 T a X c r := by
  have h30 := t.2.1
  have hby := t.2.2.2
  have wT : Rw T 10 tp 0 := by rw [hT]; exact w.fi (Fi.sI (K := (· = 3)) rfl) (by decide)
  have cw := C_word0 (c := c) hg w hle ha h3 h4 hx hb hT
  obtain ⟨num, n1, n2, n3⟩ := B_num2 (g := g) (a := a) (pl := a) hg t hm (show b ≤ tp.length by omega) h21 h23 wT (by omega) hp
  obtain ⟨x, x1, x2⟩ := rdB_b hby (show a < tp.length by omega)
  have hm1 := M_named (g := g) (a := a) (b := b) (c := 118) (mx := 19) t hm (show b ≤ tp.length by omega) hg h21 h23 (by omega) (by omega)
  have hm2 := M_named (g := g) (a := a) (b := b) (c := 119) (mx := 11) t hm (show b ≤ tp.length by omega) hg h21 h23 (by omega) (by omega)
  have hm3 := M_named (g := g) (a := a) (b := b) (c := 98) (mx := 5) t hm (show b ≤ tp.length by omega) hg h21 h23 (by omega) (by omega)
  have nb1 : ∀ v, nmV tp a b 118 19 = some v → v < 100 := fun v h => by have := nmV_b h; omega
  have nb2 : ∀ v, nmV tp a b 119 11 = some v → v < 100 := fun v h => by have := nmV_b h; omega
  have nb3 : ∀ v, nmV tp a b 98 5 = some v → v < 100 := fun v h => by have := nmV_b h; omega
  obtain ⟨m1, m2, m3, m7, m4, m5, m8, m6⟩ := M_reads (X := X) hm hX h20 h23 hm1 hm2 hm3 nb1 nb2 nb3 n2
  have nn : ∀ n : Nat, rdB tp a = nI n → n < 256 → ¬ (48 ≤ n ∧ n ≤ 57) → n ≠ 45 → num = none := fun n e1 e2 e3 e4 => n3 hab ⟨n, e2, e1, e3, e4⟩
  have c111 : ∀ {A1 A2 A3 A4 : Int32}, alw 1 c = some A1 → alw 2 c = some A2 → alw 3 c = some A3 → alw 4 c = some A4 → _ := fun h1 h2 h3 h4 => C_111 (c := c) hg hby (show b ≤ tp.length by omega) wT hab hp h1 h2 h3 h4 n1
  have bad : m_Rd_readWord g S c = some (T, 0) → m_reads g S2 (nI X) r = some (S2, 0) → WdO g S S2 T a X c r := fun h1 h2 => Or.inr ⟨h1, h2⟩
  have good : ∀ (k : Nat) (v : Int64) (U2 : St), m_Rd_readWord g S c = cwd g T a k v → m_reads g S2 (nI X) r = some (kpS U2 X (nI k) v, 1) → (U2 = S2 ∨ ∃ z, U2 = sL S2 0 26 z) → (∀ U, okL U c (k, v, nI a)) → (k = 9 → ∃ n : Nat, n < 100 ∧ v.toInt = (n : Int)) → WdO g S S2 T a X c r := fun k v U2 h1 h2 h3 h4 h5 => Or.inl ⟨k, v, U2, h1, h2, h3, h4, h5⟩
  rcases hr with ⟨rfl, rfl⟩ | ⟨rfl, rfl⟩ | ⟨rfl, rfl⟩ | ⟨rfl, rfl | rfl⟩ | ⟨rfl, rfl⟩ | ⟨rfl, rfl⟩ | ⟨rfl, rfl⟩ | ⟨rfl, rfl⟩
  · rw [if_neg (by decide), if_neg (by decide), c111 (A1 := 1) (A2 := 0) (A3 := 0) (A4 := 0) (by decide +kernel) (by decide +kernel) (by decide +kernel) (by decide +kernel)] at cw
    have e : m_Rd_readWord g S 118 = (mO (nmV tp a b 118 19) (some (T, 0)) fun v => cwd g T a 0 (nI v).toInt64) := by
      rw [cw]
      by_cases q98 : rdB tp a = 98
      · rw [if_pos q98, if_pos rfl, nmV_n (by rw [q98]; decide)]
      rw [if_neg q98]
      by_cases q118 : rdB tp a = 118
      · rw [if_pos q118, if_neg (by decide)]
      rw [if_neg q118]
      by_cases q119 : rdB tp a = 119
      · rw [if_pos q119, if_pos rfl, nmV_n (by rw [q119]; decide)]
      rw [if_neg q119]
      rw [if_pos rfl, nmV_n q118]
    cases q : nmV tp a b 118 19 with
    | none =>
      rw [q] at e m1
      exact bad e m1
    | some v =>
      have hv := nmV_b q
      rw [q] at e m1
      exact good 0 _ S2 e m1 (Or.inl rfl) (fun U => Or.inl ⟨rfl, rfl, nv_arg hv (by omega)⟩) (fun h => absurd h (by decide))
  · rw [if_neg (by decide), if_neg (by decide), c111 (A1 := 0) (A2 := 0) (A3 := 1) (A4 := 0) (by decide +kernel) (by decide +kernel) (by decide +kernel) (by decide +kernel)] at cw
    have e : m_Rd_readWord g S 119 = (mO (nmV tp a b 119 11) (some (T, 0)) fun v => cwd g T a 1 (nI v).toInt64) := by
      rw [cw]
      by_cases q98 : rdB tp a = 98
      · rw [if_pos q98, if_pos rfl, nmV_n (by rw [q98]; decide)]
      rw [if_neg q98]
      by_cases q118 : rdB tp a = 118
      · rw [if_pos q118, if_pos rfl, nmV_n (by rw [q118]; decide)]
      rw [if_neg q118]
      by_cases q119 : rdB tp a = 119
      · rw [if_pos q119, if_neg (by decide)]
      rw [if_neg q119]
      rw [if_pos rfl, nmV_n q119]
    cases q : nmV tp a b 119 11 with
    | none =>
      rw [q] at e m2
      exact bad e m2
    | some v =>
      have hv := nmV_b q
      rw [q] at e m2
      exact good 1 _ S2 e m2 (Or.inl rfl) (fun U => Or.inr (Or.inl ⟨rfl, rfl, nv_arg hv (by omega)⟩)) (fun h => absurd h (by decide))
  · rw [if_neg (by decide), if_neg (by decide), c111 (A1 := 0) (A2 := 1) (A3 := 0) (A4 := 0) (by decide +kernel) (by decide +kernel) (by decide +kernel) (by decide +kernel)] at cw
    have e : m_Rd_readWord g S 66 = (mO (nmV tp a b 98 5) (some (T, 0)) fun v => cwd g T a 2 (nI v).toInt64) := by
      rw [cw]
      by_cases q98 : rdB tp a = 98
      · rw [if_pos q98, if_neg (by decide)]
      rw [if_neg q98]
      by_cases q118 : rdB tp a = 118
      · rw [if_pos q118, if_pos rfl, nmV_n (by rw [q118]; decide)]
      rw [if_neg q118]
      by_cases q119 : rdB tp a = 119
      · rw [if_pos q119, if_pos rfl, nmV_n (by rw [q119]; decide)]
      rw [if_neg q119]
      rw [if_pos rfl, nmV_n q98]
    cases q : nmV tp a b 98 5 with
    | none =>
      rw [q] at e m3
      exact bad e m3
    | some v =>
      have hv := nmV_b q
      rw [q] at e m3
      exact good 2 _ S2 e m3 (Or.inl rfl) (fun U => Or.inr (Or.inr (Or.inl ⟨Or.inr rfl, rfl, nv_arg hv (by omega)⟩))) (fun h => absurd h (by decide))
  · rw [if_neg (by decide), if_neg (by decide), c111 (A1 := 1) (A2 := 0) (A3 := 0) (A4 := 0) (by decide +kernel) (by decide +kernel) (by decide +kernel) (by decide +kernel)] at cw
    have e : m_Rd_readWord g S 84 = (mO (nmV tp a b 118 19) (some (T, 0)) fun v => cwd g T a 0 (nI v).toInt64) := by
      rw [cw]
      by_cases q98 : rdB tp a = 98
      · rw [if_pos q98, if_pos rfl, nmV_n (by rw [q98]; decide)]
      rw [if_neg q98]
      by_cases q118 : rdB tp a = 118
      · rw [if_pos q118, if_neg (by decide)]
      rw [if_neg q118]
      by_cases q119 : rdB tp a = 119
      · rw [if_pos q119, if_pos rfl, nmV_n (by rw [q119]; decide)]
      rw [if_neg q119]
      rw [if_pos rfl, nmV_n q118]
    cases q : nmV tp a b 118 19 with
    | none =>
      rw [q] at e m4
      exact bad e m4
    | some v =>
      have hv := nmV_b q
      rw [q] at e m4
      exact good 0 _ S2 e m4 (Or.inl rfl) (fun U => Or.inr (Or.inr (Or.inr (Or.inl ⟨Or.inl rfl, Or.inl ⟨rfl, nv_arg hv (by omega)⟩⟩)))) (fun h => absurd h (by decide))
  · rw [if_neg (by decide), if_neg (by decide), c111 (A1 := 1) (A2 := 0) (A3 := 0) (A4 := 0) (by decide +kernel) (by decide +kernel) (by decide +kernel) (by decide +kernel)] at cw
    have e : m_Rd_readWord g S 116 = (mO (nmV tp a b 118 19) (some (T, 0)) fun v => cwd g T a 0 (nI v).toInt64) := by
      rw [cw]
      by_cases q98 : rdB tp a = 98
      · rw [if_pos q98, if_pos rfl, nmV_n (by rw [q98]; decide)]
      rw [if_neg q98]
      by_cases q118 : rdB tp a = 118
      · rw [if_pos q118, if_neg (by decide)]
      rw [if_neg q118]
      by_cases q119 : rdB tp a = 119
      · rw [if_pos q119, if_pos rfl, nmV_n (by rw [q119]; decide)]
      rw [if_neg q119]
      rw [if_pos rfl, nmV_n q118]
    cases q : nmV tp a b 118 19 with
    | none =>
      rw [q] at e m4
      exact bad e m4
    | some v =>
      have hv := nmV_b q
      rw [q] at e m4
      exact good 0 _ S2 e m4 (Or.inl rfl) (fun U => Or.inr (Or.inr (Or.inr (Or.inl ⟨Or.inr rfl, Or.inl ⟨rfl, nv_arg hv (by omega)⟩⟩)))) (fun h => absurd h (by decide))
  · rw [if_neg (by decide), if_neg (by decide), c111 (A1 := 0) (A2 := 0) (A3 := 1) (A4 := 1) (by decide +kernel) (by decide +kernel) (by decide +kernel) (by decide +kernel)] at cw
    have e : m_Rd_readWord g S 87 = (mO (nmV tp a b 119 11) (mO num (some (T, 0)) fun z => cwd g T a 4 z) fun v => cwd g T a 1 (nI v).toInt64) := by
      rw [cw]
      by_cases q98 : rdB tp a = 98
      · rw [if_pos q98, if_pos rfl, nmV_n (by rw [q98]; decide), nn 98 (by rw [q98]; rfl) (by omega) (by omega) (by omega)]
      rw [if_neg q98]
      by_cases q118 : rdB tp a = 118
      · rw [if_pos q118, if_pos rfl, nmV_n (by rw [q118]; decide), nn 118 (by rw [q118]; rfl) (by omega) (by omega) (by omega)]
      rw [if_neg q118]
      by_cases q119 : rdB tp a = 119
      · rw [if_pos q119, if_neg (by decide), nn 119 (by rw [q119]; rfl) (by omega) (by omega) (by omega)]
      rw [if_neg q119, if_neg (by decide), nmV_n q119]
    cases q : nmV tp a b 119 11 with
    | some v =>
      have hv := nmV_b q
      rw [q] at e m5
      exact good 1 _ S2 e m5 (Or.inl rfl) (fun U => Or.inr (Or.inr (Or.inr (Or.inr (Or.inl ⟨rfl, Or.inl ⟨rfl, nv_arg hv (by omega)⟩⟩))))) (fun h => absurd h (by decide))
    | none =>
      rw [q] at e m5
      cases num with
      | none => exact bad e m5
      | some z => exact good 4 z (sL S2 0 26 z) e m5 (Or.inr ⟨z, rfl⟩) (fun U => Or.inr (Or.inr (Or.inr (Or.inr (Or.inl ⟨rfl, Or.inr rfl⟩))))) (fun h => absurd h (by decide))
  · rw [if_neg (by decide), if_pos rfl, c111 (A1 := 1) (A2 := 1) (A3 := 1) (A4 := 1) (by decide +kernel) (by decide +kernel) (by decide +kernel) (by decide +kernel)] at cw
    have mk : ∀ k5 k6 : Nat, (rdB tp a = 64 ∧ k5 = 5 ∧ k6 = 6) ∨ (rdB tp a = 63 ∧ k5 = 7 ∧ k6 = 8) → m_Rd_readWord g S 88 = m_Rd_readWord_99 g T (nI a) (rdB tp a) (nI b) → WdO g S S2 T a X 88 6 := by
      intro k5 k6 hk e0
      obtain ⟨y, y1, y2⟩ : ∃ y : Nat, rdB tp a = nI y ∧ (y = 64 ∨ y = 63) := by
        rcases hk with ⟨z, -, -⟩ | ⟨z, -, -⟩
        · exact ⟨64, z, Or.inl rfl⟩
        · exact ⟨63, z, Or.inr rfl⟩
      obtain ⟨nu, u1, u2⟩ := B_mark (X := X) hg t hm (show b ≤ tp.length by omega) h20 h21 h23 wT hab hp hX hk
      have ne : ∀ d : Nat, d < 256 → d ≠ y → ¬ rdB tp a = nI d := fun d hd hne h => by
        rw [y1] at h
        exact hne ((nI_eq (by omega) (by omega)).mp h).symm
      rw [nmV_n (c := 118) (ne 118 (by omega) (by omega)), nmV_n (c := 119) (ne 119 (by omega) (by omega)), nn y y1 (by omega) (by omega) (by omega), nmV_n (c := 98) (ne 98 (by omega) (by omega))] at m6
      rw [u2] at m6
      rw [u1] at e0
      cases q : nmV tp (a + 1) b 119 11 with
      | some v =>
        have hv := nmV_b q
        rw [q] at e0 m6
        refine good k5 _ S2 e0 m6 (Or.inl rfl) (fun U => Or.inr (Or.inr (Or.inr (Or.inr (Or.inr (Or.inl ⟨rfl, Or.inr (Or.inr (Or.inr (Or.inl ⟨?_, nv_arg hv (by omega)⟩)))⟩)))))) (fun h => by omega)
        show k5 = 1 ∨ k5 = 5 ∨ k5 = 7
        omega
      | none =>
        rw [q] at e0 m6
        cases nu with
        | none => exact bad e0 m6
        | some z =>
          refine good k6 z (sL S2 0 26 z) e0 m6 (Or.inr ⟨z, rfl⟩) (fun U => Or.inr (Or.inr (Or.inr (Or.inr (Or.inr (Or.inl ⟨rfl, Or.inr (Or.inr (Or.inr (Or.inr ?_)))⟩)))))) (fun h => by omega)
          show k6 = 4 ∨ k6 = 6 ∨ k6 = 8
          omega
    by_cases q64 : rdB tp a = 64
    · rw [if_pos q64] at cw
      exact mk 5 6 (Or.inl ⟨q64, rfl, rfl⟩) cw
    rw [if_neg q64] at cw
    by_cases q63 : rdB tp a = 63
    · rw [if_pos q63] at cw
      exact mk 7 8 (Or.inr ⟨q63, rfl, rfl⟩) cw
    rw [if_neg q63, if_neg (show ¬ (1 : Int32) = 0 by decide), if_neg (show ¬ (1 : Int32) = 0 by decide), if_neg (show ¬ (1 : Int32) = 0 by decide), if_neg (show ¬ (1 : Int32) = 0 by decide)] at cw
    have mk0 : m_readsMarked g S2 (nI X) = some (S2, 0) := by
      unfold m_readsMarked
      rw [h20, M_byte t hm (by omega), Option.bind_some, if_neg q64, if_neg q63]
    rw [mk0] at m6
    have e : m_Rd_readWord g S 88 = (mO (nmV tp a b 118 19) (mO (nmV tp a b 119 11) (mO num (mO (nmV tp a b 98 5) (some (T, 0)) fun v => cwd g T a 2 (nI v).toInt64) fun z => cwd g T a 4 z) fun v => cwd g T a 1 (nI v).toInt64) fun v => cwd g T a 0 (nI v).toInt64) := by
      rw [cw]
      by_cases q98 : rdB tp a = 98
      · rw [if_pos q98, nmV_n (c := 118) (by rw [q98]; decide), nmV_n (c := 119) (by rw [q98]; decide), nn 98 (by rw [q98]; rfl) (by omega) (by omega) (by omega)]
      rw [if_neg q98, nmV_n q98]
      by_cases q118 : rdB tp a = 118
      · rw [if_pos q118, nmV_n (c := 119) (by rw [q118]; decide), nn 118 (by rw [q118]; rfl) (by omega) (by omega) (by omega)]
      rw [if_neg q118, nmV_n q118]
      by_cases q119 : rdB tp a = 119
      · rw [if_pos q119, nn 119 (by rw [q119]; rfl) (by omega) (by omega) (by omega)]
      rw [if_neg q119, nmV_n q119]
    cases q1 : nmV tp a b 118 19 with
    | some v =>
      have hv := nmV_b q1
      rw [q1] at e m6
      exact good 0 _ S2 e m6 (Or.inl rfl) (fun U => Or.inr (Or.inr (Or.inr (Or.inr (Or.inr (Or.inl ⟨rfl, Or.inl ⟨rfl, nv_arg hv (by omega)⟩⟩)))))) (fun h => absurd h (by decide))
    | none =>
      rw [q1] at e m6
      cases q2 : nmV tp a b 119 11 with
      | some v =>
        have hv := nmV_b q2
        rw [q2] at e m6
        exact good 1 _ S2 e m6 (Or.inl rfl) (fun U => Or.inr (Or.inr (Or.inr (Or.inr (Or.inr (Or.inl ⟨rfl, Or.inr (Or.inr (Or.inr (Or.inl ⟨Or.inl rfl, nv_arg hv (by omega)⟩)))⟩)))))) (fun h => absurd h (by decide))
      | none =>
        rw [q2] at e m6
        cases num with
        | some z => exact good 4 z (sL S2 0 26 z) e m6 (Or.inr ⟨z, rfl⟩) (fun U => Or.inr (Or.inr (Or.inr (Or.inr (Or.inr (Or.inl ⟨rfl, Or.inr (Or.inr (Or.inr (Or.inr (Or.inl rfl))))⟩)))))) (fun h => absurd h (by decide))
        | none =>
          cases q3 : nmV tp a b 98 5 with
          | some v =>
            have hv := nmV_b q3
            rw [q3] at e m6
            exact good 2 _ S2 e m6 (Or.inl rfl) (fun U => Or.inr (Or.inr (Or.inr (Or.inr (Or.inr (Or.inl ⟨rfl, Or.inr (Or.inr (Or.inl ⟨rfl, nv_arg hv (by omega)⟩))⟩)))))) (fun h => absurd h (by decide))
          | none =>
            rw [q3] at e m6
            exact bad e m6
  · rw [if_neg (by decide), if_neg (by decide), c111 (A1 := 0) (A2 := 1) (A3 := 0) (A4 := 0) (by decide +kernel) (by decide +kernel) (by decide +kernel) (by decide +kernel)] at cw
    have e : m_Rd_readWord g S 98 = (mO (nmV tp a b 98 5) (some (T, 0)) fun v => cwd g T a 2 (nI v).toInt64) := by
      rw [cw]
      by_cases q98 : rdB tp a = 98
      · rw [if_pos q98, if_neg (by decide)]
      rw [if_neg q98]
      by_cases q118 : rdB tp a = 118
      · rw [if_pos q118, if_pos rfl, nmV_n (by rw [q118]; decide)]
      rw [if_neg q118]
      by_cases q119 : rdB tp a = 119
      · rw [if_pos q119, if_pos rfl, nmV_n (by rw [q119]; decide)]
      rw [if_neg q119]
      rw [if_pos rfl, nmV_n q98]
    cases q : nmV tp a b 98 5 with
    | none =>
      rw [q] at e m7
      exact bad e m7
    | some v =>
      have hv := nmV_b q
      rw [q] at e m7
      exact good 2 _ S2 e m7 (Or.inl rfl) (fun U => Or.inr (Or.inr (Or.inl ⟨Or.inl rfl, rfl, nv_arg hv (by omega)⟩))) (fun h => absurd h (by decide))
  · rw [if_pos rfl, C_count hg hby (show b ≤ tp.length by omega) wT hab hp] at cw
    rw [M_count hg t hm (show b ≤ tp.length by omega) h20 h21 h23 hab hX] at m8
    cases q : cnV tp a b with
    | none =>
      rw [q] at cw m8
      exact bad cw m8
    | some v =>
      rw [q] at cw m8
      have hv : v < 100 := by
        unfold cnV at q
        by_cases q2 : b - a ≤ 2
        · rw [if_pos q2] at q
          exact dg12_b q
        · rw [if_neg q2] at q; cases q
      refine good 9 (nI v).toInt64 S2 (cw.trans ?_) (m8.trans ?_) (Or.inl rfl) (fun U => Or.inr (Or.inr (Or.inr (Or.inr (Or.inr (Or.inr ⟨rfl, rfl⟩)))))) (fun _ => ⟨v, hv, by rw [j64, nI_toInt (by omega)]⟩)
      · dsimp only [mO]
        unfold cwd
        rw [wr1]
      · rfl
end RDJ
