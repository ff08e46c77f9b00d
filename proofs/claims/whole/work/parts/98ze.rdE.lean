/-! READING: numbers and names on both sides -/
def decN (n : Nat) : Option Nat := if 48 ≤ n ∧ n ≤ 57 then some (n - 48) else none
theorem de_C0 : ∀ n, n < 256 → m_Lt_digit 0 (nI n) 10 = some (oN (decN n)) := by decide +kernel
theorem de_C {g n : Nat} (h : n < 256) : m_Lt_digit g (nI n) 10 = some (oN (decN n)) := de_C0 n h
theorem de_q : ∀ d, d < 10 → ((-9223372036854775808 : Int64) + (nI d).toInt64) / ((10 : Int32).toInt64) = (if 8 < d then -922337203685477579 else -922337203685477580) := by decide +kernel
theorem de_o {x : Int64} {d : Nat} (hd : d < 10) : (x < ((-9223372036854775808 : Int64) + (nI d).toInt64) / ((10 : Int32).toInt64)) ↔ (x < -922337203685477580 ∨ (x = -922337203685477580 ∧ 8 < d)) := by
  rw [de_q d hd]
  have c0 : (-922337203685477580 : Int64).toInt = -922337203685477580 := by decide +kernel
  have c9 : (-922337203685477579 : Int64).toInt = -922337203685477579 := by decide +kernel
  have e : x = -922337203685477580 ↔ x.toInt = -922337203685477580 := by
    rw [← Int64.toInt_inj, c0]
  rw [e, Int64.lt_iff_toInt_lt, Int64.lt_iff_toInt_lt, c0]
  by_cases q : 8 < d
  · rw [if_pos q, c9]
    omega
  · rw [if_neg q, c0]
    omega
/-- k digits from i on, told as the reference tells them -/
def telJ (tp : List Int32) : Nat → Nat → Int64 → Option Int64
  | 0, _, x => some x
  | k + 1, i, x => match decN (rdB tp i).toNatClampNeg with
    | some d => if x < -922337203685477580 ∨ (x = -922337203685477580 ∧ 8 < d) then none else telJ tp k (i + 1) (10 * x - (nI d).toInt64)
    | none => none
theorem decN_b {n d : Nat} (h : decN n = some d) : d < 10 ∧ n = 48 + d := by
  unfold decN at h
  by_cases q : 48 ≤ n ∧ n ≤ 57
  · rw [if_pos q] at h; cases h; omega
  · rw [if_neg q] at h; cases h
theorem decN_n {n : Nat} (h : decN n = none) : ¬ (48 ≤ n ∧ n ≤ 57) := by
  unfold decN at h
  by_cases q : 48 ≤ n ∧ n ≤ 57
  · rw [if_pos q] at h; cases h
  · exact q
theorem t10 : ((10 : Int32).toInt64) = 10 := by decide +kernel
theorem tel_w {x : Int64} {d : Nat} (hd : d < 10) (hx : x.toInt ≤ 0) (h : ¬ (x < -922337203685477580 ∨ (x = -922337203685477580 ∧ 8 < d))) : (10 * x - (nI d).toInt64).toInt ≤ 0 := by
  have h2 := prs_w (B := 10) (X := 10) (d := d) (x := x) (by decide +kernel) (by omega) (by omega) hd hx (fun z => h ((de_o hd).mp (by rw [t10]; exact z)))
  rw [Int64.mul_comm] at h2
  exact h2
section RDE
variable {g : Nat} {S S2 : St} {tp : List Int32} {a b i j le : Nat}
theorem C_told (hb : ∀ x ∈ tp, ∃ n : Nat, n < 256 ∧ x = nI n) (hl : b ≤ tp.length) (w : Rw S 10 tp 0) : ∀ (k n i : Nat) (x : Int64), i + k = b → k < n → x.toInt ≤ 0 → (∃ v, telJ tp k i x = some v ∧ v.toInt ≤ 0 ∧ m_Lt_minusTold_24 g S n 10 (nI b) 10 x (nI i) = some v) ∨ (telJ tp k i x = none ∧ m_Lt_minusTold_24 g S n 10 (nI b) 10 x (nI i) = some 1) := by
  have h30 : tp.length ≤ 3000 := w.2.2.2.2.1
  intro k
  induction k with
  | zero =>
    intro n i x hi hn hx
    obtain ⟨n, rfl⟩ : ∃ m, n = m + 1 := ⟨n - 1, by omega⟩
    refine Or.inl ⟨x, rfl, hx, ?_⟩
    show b_Lt_minusTold_24 g S (m_Lt_minusTold_24 g S n) 10 _ _ _ _ = _
    unfold b_Lt_minusTold_24
    rw [if_pos (nI_le (by omega) (by omega))]
  | succ k ih =>
    intro n i x hi hn hx
    obtain ⟨n, rfl⟩ : ∃ m, n = m + 1 := ⟨n - 1, by omega⟩
    have eq : m_Lt_minusTold_24 g S (n + 1) 10 (nI b) 10 x (nI i) = b_Lt_minusTold_24 g S (m_Lt_minusTold_24 g S n) 10 (nI b) 10 x (nI i) := rfl
    unfold b_Lt_minusTold_24 at eq
    obtain ⟨c, c1, c2⟩ := rdB_b hb (show i < tp.length by omega)
    rw [if_neg (nI_ge (by omega) (by omega)), C_byte w (by omega), Option.bind_some, c2, de_C c1, Option.bind_some] at eq
    unfold telJ
    rw [c2, nI_nat (by omega)]
    cases q : decN c with
    | none =>
      rw [q] at eq
      exact Or.inr ⟨rfl, eq.trans (if_pos rfl)⟩
    | some d =>
      have hd := (decN_b q).1
      rw [q] at eq
      have eq := eq.trans (if_neg (nI_m1 (by omega)))
      rw [if_neg (show ¬ (10 : Int32).toInt64 = 0 from by decide +kernel)] at eq
      dsimp only
      by_cases q2 : x < -922337203685477580 ∨ (x = -922337203685477580 ∧ 8 < d)
      · rw [if_pos q2]
        exact Or.inr ⟨rfl, eq.trans (if_pos ((de_o hd).mpr q2))⟩
      · rw [if_neg q2]
        have eq := eq.trans (if_neg (fun z => q2 ((de_o hd).mp z)))
        rw [lt_d, lt_d, nI_1, t10, Int64.mul_comm] at eq
        rw [eq]
        exact ih n (i + 1) (10 * x - (nI d).toInt64) (by omega) (by omega) (tel_w hd hx q2)
/-- the told number of a stretch, by the class -/
theorem C_minus (hg : 100000 ≤ g) (hb : ∀ x ∈ tp, ∃ n : Nat, n < 256 ∧ x = nI n) (hl : b ≤ tp.length) (w : Rw S 10 tp 0) (ha : a < b) : (∃ v, telJ tp (b - a) a 0 = some v ∧ v.toInt ≤ 0 ∧ m_Lt_minusTold g S 10 (nI a) (nI b) 10 = some v) ∨ (telJ tp (b - a) a 0 = none ∧ m_Lt_minusTold g S 10 (nI a) (nI b) 10 = some 1) := by
  have h30 : tp.length ≤ 3000 := w.2.2.2.2.1
  have e : m_Lt_minusTold g S 10 (nI a) (nI b) 10 = m_Lt_minusTold_24 g S g 10 (nI b) 10 0 (nI a) := by
    unfold m_Lt_minusTold
    rw [if_neg (nI_ge (by omega) (by omega)), if_neg (by decide), if_pos (by decide)]
  rw [e]
  exact C_told hb hl w (b - a) g a 0 (by omega) (by omega) (by decide)
theorem M_num (t : TpM S2 tp) (hm : LM S2) (hl : b ≤ tp.length) (h21 : gI S2 0 21 = nI b) {x2 : Int32} : ∀ (k n i : Nat) (x : Int64), i + k = b → k < n → m_isNumber_57 g n S2 x2 (nI i) x = (match telJ tp k i x with | some v => (if x2 = 0 then (if v = -9223372036854775808 then some (S2, 0) else m_isNumber_148 g S2 x2 v) else m_isNumber_148 g S2 x2 v) | none => some (S2, 0)) := by
  have h30 := t.2.1
  intro k
  induction k with
  | zero =>
    intro n i x hi hn
    obtain ⟨n, rfl⟩ : ∃ m, n = m + 1 := ⟨n - 1, by omega⟩
    show b_isNumber_57 g (m_isNumber_57 g n) S2 x2 (nI i) x = _
    unfold b_isNumber_57 telJ
    rw [h21, if_pos (nI_le (by omega) (by omega))]
  | succ k ih =>
    intro n i x hi hn
    obtain ⟨n, rfl⟩ : ∃ m, n = m + 1 := ⟨n - 1, by omega⟩
    have eq : m_isNumber_57 g (n + 1) S2 x2 (nI i) x = b_isNumber_57 g (m_isNumber_57 g n) S2 x2 (nI i) x := rfl
    unfold b_isNumber_57 at eq
    obtain ⟨c, c1, c2⟩ := rdB_b t.2.2.2 (show i < tp.length by omega)
    rw [h21, if_neg (nI_ge (by omega) (by omega)), M_byte t hm (by omega), Option.bind_some, lt_d, c2] at eq
    unfold telJ
    rw [c2, nI_nat (by omega)]
    cases q : decN c with
    | none =>
      have hq := decN_n q
      rw [eq]
      by_cases q2 : c < 48
      · have e : (nI c - 48).toInt = (c : Int) - 48 := nI_subI (b := 48) (by omega) (by omega)
        rw [if_pos (by rw [Int32.lt_iff_toInt_lt, e, show (0 : Int32).toInt = 0 from by decide]; omega)]
      · rw [show nI c - 48 = nI (c - 48) from nI_sub (b := 48) (by omega), if_neg (nI_pos (by omega)), if_pos (show (9 : Int32) < nI (c - 48) from nI_lt (a := 9) (by omega) (by omega))]
    | some d =>
      obtain ⟨d1, rfl⟩ := decN_b q
      rw [eq, show nI (48 + d) - 48 = nI d from by rw [show (48 : Int32) = nI 48 from rfl, nI_sub (by omega), Nat.add_sub_cancel_left], if_neg (nI_pos (by omega)), if_neg (show ¬ (9 : Int32) < nI d from nI_nlt (a := 9) (by omega) (by omega))]
      dsimp only
      have e115 : m_isNumber_115 g (m_isNumber_57 g n) S2 x2 (nI i) x (nI d) = m_isNumber_57 g n S2 x2 (nI (i + 1)) (10 * x - (nI d).toInt64) := by
        unfold m_isNumber_115
        rw [lt_d, lt_d, nI_1]
      rw [e115, ih n (i + 1) _ (by omega) (by omega)]
      by_cases q2 : x < -922337203685477580
      · rw [if_pos q2, if_pos (Or.inl q2)]
      · rw [if_neg q2]
        by_cases q3 : x = -922337203685477580
        · rw [if_pos q3]
          by_cases q4 : 8 < d
          · rw [if_neg (show ¬ nI d ≤ 8 from nI_ge (a := 8) q4 (by omega)), if_pos (Or.inr ⟨q3, q4⟩)]
          · rw [if_pos (show nI d ≤ 8 from nI_le (b := 8) (by omega) (by omega)), if_neg (fun z => z.elim q2 (fun y => q4 y.2))]
        · rw [if_neg q3, if_neg (fun z => z.elim q2 (fun y => q3 y.1))]
/-- a NUMBER on both sides -/
theorem B_num (hg : 100000 ≤ g) (t : TpM S2 tp) (hm : LM S2) (hl : b ≤ tp.length) (h21 : gI S2 0 21 = nI b) (h23 : gI S2 0 23 = 0) (w : Rw S 10 tp 0) (ha : a ≤ b) (hp : gR S 3 2 = 1 ∨ gR S 3 2 = 2) {sg pl : Int32} : (∃ z : Int64, m_Rd_readNumber g S sg pl (nI a) (nI b) = m_Rd_readNumber_94 g S pl (gR S 3 2) 48 sg z ∧ m_isNumber g S2 (nI a) = some (sL S2 0 26 z, 1)) ∨ (m_Rd_readNumber g S sg pl (nI a) (nI b) = some (S, 0) ∧ m_isNumber g S2 (nI a) = some (S2, 0)) := by
  have h30 := t.2.1
  have hb := t.2.2.2
  have key : ∀ (x5 : Int32) (y : Nat), x5 = 0 ∨ x5 = 1 → y ≤ b + 1 → (∃ z : Int64, m_Rd_readNumber_42 g S sg pl (nI b) x5 (nI y) = m_Rd_readNumber_94 g S pl (gR S 3 2) 48 sg z ∧ m_isNumber_36 g S2 x5 (nI y) = some (sL S2 0 26 z, 1)) ∨ (m_Rd_readNumber_42 g S sg pl (nI b) x5 (nI y) = some (S, 0) ∧ m_isNumber_36 g S2 x5 (nI y) = some (S2, 0)) := by
    intro x5 y hx hy
    unfold m_Rd_readNumber_42 m_isNumber_36
    rw [if_pos h23, h21]
    by_cases q : y < b
    · rw [if_pos (nI_lt q (by omega)), M_num t hm hl h21 (b - y) g y 0 (by omega) (by omega)]
      rcases C_minus hg hb hl w q with ⟨v, v1, v2, v3⟩ | ⟨v1, v2⟩
      · rw [v3, Option.bind_some, v1, if_neg (by rw [Int64.lt_iff_toInt_lt, z64]; omega)]
        unfold m_Rd_readNumber_74 m_isNumber_148
        rw [if_pos hp, lt_d]
        dsimp only
        rcases hx with rfl | rfl
        · rw [if_pos rfl, if_pos rfl, if_pos rfl, if_pos rfl]
          by_cases q2 : v = -9223372036854775808
          · rw [if_pos q2, if_pos q2]
            exact Or.inr ⟨rfl, rfl⟩
          · rw [if_neg q2, if_neg q2]
            exact Or.inl ⟨-v, rfl, rfl⟩
        · rw [if_neg (by decide), if_neg (by decide), if_neg (by decide), if_neg (by decide)]
          exact Or.inl ⟨v, rfl, rfl⟩
      · rw [v2, Option.bind_some, v1, if_pos (by decide)]
        exact Or.inr ⟨rfl, rfl⟩
    · rw [if_neg (nI_nlt (by omega) (by omega))]
      have e : m_Lt_minusTold g S 10 (nI y) (nI b) 10 = some 1 := by
        unfold m_Lt_minusTold
        rw [if_pos (nI_le (by omega) (by omega))]
      rw [e, Option.bind_some, if_pos (by decide)]
      exact Or.inr ⟨rfl, rfl⟩
  have c0 : m_Rd_readNumber_23 g S sg pl (nI a) (nI b) = m_Rd_readNumber_42 g S sg pl (nI b) 0 (nI a) := by
    unfold m_Rd_readNumber_23 m_Rd_readNumber_24
    rw [if_pos rfl]
  have c1 : m_Rd_readNumber_24 g S sg pl (nI a) (nI b) 1 = m_Rd_readNumber_42 g S sg pl (nI b) 1 (nI (a + 1)) := by
    unfold m_Rd_readNumber_24
    rw [if_neg (by decide), nI_1]
  have m0 : m_isNumber_23 g S2 (nI a) = m_isNumber_36 g S2 0 (nI a) := by
    unfold m_isNumber_23 m_isNumber_24
    rw [if_pos rfl]
  have m1 : m_isNumber_24 g S2 (nI a) 1 = m_isNumber_36 g S2 1 (nI (a + 1)) := by
    unfold m_isNumber_24
    rw [if_neg (by decide), nI_1]
  unfold m_Rd_readNumber m_isNumber
  rw [h21, c0, c1, m0, m1]
  by_cases q : b ≤ a
  · rw [if_pos (nI_le q (by omega)), if_pos (nI_le q (by omega))]
    exact key 0 a (Or.inl rfl) (by omega)
  · rw [if_neg (nI_ge (by omega) (by omega)), if_neg (nI_ge (by omega) (by omega)), C_byte w (by omega), M_byte t hm (by omega), Option.bind_some, Option.bind_some]
    by_cases q2 : rdB tp a = 45
    · rw [if_pos q2, if_pos q2]
      exact key 1 (a + 1) (Or.inr rfl) (by omega)
    · rw [if_neg q2, if_neg q2]
      exact key 0 a (Or.inl rfl) (by omega)
theorem d1_t : ∀ d, d < 10 → ¬ ((0 : Int64) < 10 * 0 - (nI d).toInt64) ∧ -((10 : Int64) * 0 - (nI d).toInt64) = (nI d).toInt64 ∧ ¬ ((10 : Int64) * 0 - (nI d).toInt64 < -922337203685477580) ∧ ¬ ((10 : Int64) * 0 - (nI d).toInt64 = -922337203685477580) := by decide +kernel
theorem d2_t : ∀ d, d < 10 → ∀ e, e < 10 → ¬ ((0 : Int64) < 10 * (10 * 0 - (nI d).toInt64) - (nI e).toInt64) ∧ -((10 : Int64) * (10 * 0 - (nI d).toInt64) - (nI e).toInt64) = (nI (10 * d + e)).toInt64 := by decide +kernel
/-- one or two digits -/
def dg12 (tp : List Int32) (k i : Nat) : Option Nat := match decN (rdB tp i).toNatClampNeg with
  | none => none
  | some d => if k = 1 then some d else match decN (rdB tp (i + 1)).toNatClampNeg with
    | none => none
    | some e => some (10 * d + e)
theorem dg12_b {k : Nat} {v : Nat} (h : dg12 tp k i = some v) : v < 100 := by
  unfold dg12 at h
  cases q : decN (rdB tp i).toNatClampNeg with
  | none => rw [q] at h; cases h
  | some d =>
    have := (decN_b q).1
    rw [q] at h
    dsimp only at h
    by_cases q2 : k = 1
    · rw [if_pos q2] at h; cases h; omega
    · rw [if_neg q2] at h
      cases q3 : decN (rdB tp (i + 1)).toNatClampNeg with
      | none => rw [q3] at h; cases h
      | some e =>
        have := (decN_b q3).1
        rw [q3] at h; cases h; omega
theorem tel12 {k : Nat} (hk : k = 1 ∨ k = 2) : (dg12 tp k i = none ∧ telJ tp k i 0 = none) ∨ ∃ v x, dg12 tp k i = some v ∧ telJ tp k i 0 = some x ∧ ¬ (0 : Int64) < x ∧ -x = (nI v).toInt64 := by
  have c0 : ∀ d : Nat, ¬ ((0 : Int64) < -922337203685477580 ∨ ((0 : Int64) = -922337203685477580 ∧ 8 < d)) := fun d z => by
    rcases z with z | z
    · exact absurd z (by decide)
    · exact absurd z.1 (by decide)
  unfold dg12
  cases q : decN (rdB tp i).toNatClampNeg with
  | none =>
    refine Or.inl ⟨rfl, ?_⟩
    rcases hk with rfl | rfl
    · unfold telJ; rw [q]
    · unfold telJ; rw [q]
  | some d =>
    have hd := (decN_b q).1
    obtain ⟨p1, p2, p3, p4⟩ := d1_t d hd
    dsimp only
    rcases hk with rfl | rfl
    · rw [if_pos rfl]
      refine Or.inr ⟨d, _, rfl, ?_, p1, p2⟩
      unfold telJ
      rw [q]
      dsimp only
      rw [if_neg (c0 d)]
      rfl
    · rw [if_neg (by decide)]
      have e : telJ tp 2 i 0 = telJ tp 1 (i + 1) (10 * 0 - (nI d).toInt64) := by
        conv => lhs; unfold telJ
        rw [q]
        dsimp only
        rw [if_neg (c0 d)]
      rw [e]
      unfold telJ
      cases q2 : decN (rdB tp (i + 1)).toNatClampNeg with
      | none => exact Or.inl ⟨rfl, rfl⟩
      | some f =>
        have hf := (decN_b q2).1
        obtain ⟨r1, r2⟩ := d2_t d hd f hf
        dsimp only
        rw [if_neg (fun z => z.elim p3 (fun y => p4 y.1))]
        exact Or.inr ⟨_, _, rfl, rfl, r1, r2⟩
theorem in_dg {n : Nat} (hn : n < 256) : m_isIn g (nI n).toInt64 48 57 = some (if decN n = none then 0 else 1) := by
  have h : ∀ n, n < 256 → m_isIn 0 (nI n).toInt64 48 57 = some (if decN n = none then 0 else 1) := by decide +kernel
  exact h n hn
/-- the value of a NAME -/
def nmV (tp : List Int32) (a b : Nat) (c : Int32) (mx : Nat) : Option Nat := if (b = a + 2 ∨ b = a + 3) ∧ rdB tp a = c ∧ ¬ (b = a + 3 ∧ rdB tp (a + 1) = 48) then (match dg12 tp (b - a - 1) (a + 1) with | some v => if v ≤ mx then some v else none | none => none) else none
theorem nmV_b {c : Int32} {mx v : Nat} (h : nmV tp a b c mx = some v) : v ≤ mx := by
  unfold nmV at h
  by_cases q : (b = a + 2 ∨ b = a + 3) ∧ rdB tp a = c ∧ ¬ (b = a + 3 ∧ rdB tp (a + 1) = 48)
  · rw [if_pos q] at h
    cases q2 : dg12 tp (b - a - 1) (a + 1) with
    | none => rw [q2] at h; cases h
    | some u =>
      rw [q2] at h
      dsimp only at h
      by_cases q3 : u ≤ mx
      · rw [if_pos q3] at h; cases h; exact q3
      · rw [if_neg q3] at h; cases h
  · rw [if_neg q] at h; cases h
theorem nmV_n {c : Int32} {mx : Nat} (h : ¬ rdB tp a = c) : nmV tp a b c mx = none := if_neg (fun z => h z.2.1)
/-- a NAME in the reference -/
theorem M_named (t : TpM S2 tp) (hm : LM S2) (hl : b ≤ tp.length) (hg : 100000 ≤ g) (h21 : gI S2 0 21 = nI b) (h23 : gI S2 0 23 = 0) (ha : a ≤ b) {c : Int32} {mx : Nat} (hmx : mx < 100) : m_numbered g S2 (nI a) c (nI mx) = some (oN (nmV tp a b c mx)) := by
  have h30 := t.2.1
  have hb := t.2.2.2
  have N : ∀ (h : ¬ ((b = a + 2 ∨ b = a + 3) ∧ rdB tp a = c ∧ ¬ (b = a + 3 ∧ rdB tp (a + 1) = 48))), nmV tp a b c mx = none := fun h => if_neg h
  unfold m_numbered
  rw [h21, nI_sub ha, lt_d, if_pos h23]
  by_cases q1 : b - a < 2
  · rw [if_pos (show nI (b - a) < 2 from nI_lt (b := 2) q1 (by omega)), N (by omega)]
    rfl
  rw [if_neg (show ¬ nI (b - a) < 2 from nI_nlt (b := 2) (by omega) (by omega))]
  by_cases q2 : 3 < b - a
  · rw [if_pos (show (3 : Int32) < nI (b - a) from nI_lt (a := 3) q2 (by omega)), N (by omega)]
    rfl
  rw [if_neg (show ¬ (3 : Int32) < nI (b - a) from nI_nlt (a := 3) (by omega) (by omega)), M_byte t hm (by omega), Option.bind_some]
  by_cases q3 : rdB tp a = c
  · rw [if_pos q3, lt_d, nI_1]
    obtain ⟨n, rfl⟩ : ∃ n, g = n + 3 := ⟨g - 3, by omega⟩
    obtain ⟨x, x1, x2⟩ := rdB_b hb (show a + 1 < tp.length by omega)
    have st : ∀ (m i : Nat) (x : Nat) (y : Nat), i < b → x < 256 → rdB tp i = nI x → m_numbered_47 (n + 3) S2 (m + 1) (nI a) (nI mx) (nI (b - a)) (nI y) (nI i) = (match decN x with | none => some (-1) | some d => m_numbered_47 (n + 3) S2 m (nI a) (nI mx) (nI (b - a)) (nI (10 * y + d)) (nI (i + 1))) := by
      intro m i x y hi hx hx2
      show b_numbered_47 (n + 3) S2 (m_numbered_47 (n + 3) S2 m) _ _ _ _ _ = _
      unfold b_numbered_47
      rw [h21, if_neg (nI_ge hi (by omega)), M_byte t hm (by omega), Option.bind_some, hx2, in_dg hx, Option.bind_some]
      cases q : decN x with
      | none => rw [if_pos rfl, if_pos rfl]
      | some d =>
        obtain ⟨d1, d2⟩ := decN_b q
        rw [if_neg (show ¬ (if some d = none then (0 : Int32) else 1) = 0 from by rw [if_neg (by simp)]; decide), Option.bind_some, lt_d, lt_d, nI_1]
        dsimp only
        have e : (10 : Int32) * nI y + nI x - 48 = nI (10 * y + d) := by
          rw [show (10 : Int32) = nI 10 from rfl, nI_mulE, nI_add, show (48 : Int32) = nI 48 from rfl, nI_sub (by omega), d2]
          congr 1
          omega
        rw [e]
    have en : ∀ (m y i : Nat), i = b → m_numbered_47 (n + 3) S2 (m + 1) (nI a) (nI mx) (nI (b - a)) (nI y) (nI i) = (if b = a + 3 ∧ rdB tp (a + 1) = 48 then some (-1) else if nI y ≤ nI mx then some (nI y) else some (-1)) := by
      intro m y i hi
      show b_numbered_47 (n + 3) S2 (m_numbered_47 (n + 3) S2 m) _ _ _ _ _ = _
      unfold b_numbered_47 m_numbered_121
      rw [h21, if_pos (nI_le (by omega) (by omega))]
      by_cases q : b = a + 3
      · rw [if_pos (show nI (b - a) = 3 from by rw [q, Nat.add_sub_cancel_left]; rfl), nI_1, M_byte t hm (by omega), Option.bind_some]
        by_cases q5 : rdB tp (a + 1) = 48
        · rw [if_pos q5, if_pos ⟨q, q5⟩]
        · rw [if_neg q5, if_neg (show ¬ (b = a + 3 ∧ rdB tp (a + 1) = 48) from fun z => q5 z.2)]
      · rw [if_neg (show ¬ nI (b - a) = 3 from i_lit (b := 3) (by omega) (by omega) (by omega)), if_neg (show ¬ (b = a + 3 ∧ rdB tp (a + 1) = 48) from fun z => q z.1)]
    rw [show (0 : Int32) = nI 0 from rfl, st (n + 2) (a + 1) x 0 (by omega) x1 x2]
    unfold nmV dg12
    rw [x2, nI_nat (by omega)]
    cases q4 : decN x with
    | none =>
      dsimp only
      rw [ite_self]
      rfl
    | some d =>
      obtain ⟨d1, d2⟩ := decN_b q4
      dsimp only
      by_cases q5 : b = a + 2
      · rw [en (n + 1) _ (a + 1 + 1) (by omega), if_neg (show ¬ (b = a + 3 ∧ rdB tp (a + 1) = 48) by omega), if_pos (show ((b = a + 2 ∨ b = a + 3) ∧ rdB tp a = c ∧ ¬ (b = a + 3 ∧ nI x = 48)) from ⟨Or.inl q5, q3, by omega⟩), if_pos (show b - a - 1 = 1 by omega), show 10 * 0 + d = d by omega]
        dsimp only
        by_cases q6 : d ≤ mx
        · rw [if_pos (nI_le q6 (by omega)), if_pos q6]
          rfl
        · rw [if_neg (nI_ge (by omega) (by omega)), if_neg q6]
          rfl
      · have q5' : b = a + 3 := by omega
        obtain ⟨y, y1, y2⟩ := rdB_b hb (show a + 2 < tp.length by omega)
        rw [show a + 1 + 1 = a + 2 by omega, st (n + 1) (a + 2) y (10 * 0 + d) (by omega) y1 y2, if_neg (show ¬ b - a - 1 = 1 by omega), y2, nI_nat (by omega)]
        cases q6 : decN y with
        | none =>
          dsimp only
          rw [ite_self]
          rfl
        | some e =>
          obtain ⟨e1, e2⟩ := decN_b q6
          dsimp only
          rw [en n _ (a + 2 + 1) (by omega), x2, show 10 * (10 * 0 + d) + e = 10 * d + e by omega]
          by_cases q7 : nI x = 48
          · rw [if_pos ⟨q5', q7⟩, if_neg (show ¬ ((b = a + 2 ∨ b = a + 3) ∧ rdB tp a = c ∧ ¬ (b = a + 3 ∧ nI x = 48)) from fun z => z.2.2 ⟨q5', q7⟩)]
            rfl
          · rw [if_neg (show ¬ (b = a + 3 ∧ nI x = 48) from fun z => q7 z.2), if_pos (show ((b = a + 2 ∨ b = a + 3) ∧ rdB tp a = c ∧ ¬ (b = a + 3 ∧ nI x = 48)) from ⟨Or.inr q5', q3, fun z => q7 z.2⟩)]
            by_cases q8 : 10 * d + e ≤ mx
            · rw [if_pos (nI_le q8 (by omega)), if_pos q8]
              rfl
            · rw [if_neg (nI_ge (by omega) (by omega)), if_neg q8]
              rfl
  · rw [if_neg q3, nmV_n q3]
    rfl
end RDE
