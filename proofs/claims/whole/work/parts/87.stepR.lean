/-! the STEPS: parse, small -/
/-- a digit on both sides -/
theorem dig_C {g B : Nat} {u : Int32} (hu : isU u) (h1 : 2 ≤ B) (h2 : B ≤ 36) : (∃ d, d < B ∧ m_Lt_digit g u (nI B) = some (nI d) ∧ m_digitOf g u = some (nI d)) ∨ (m_Lt_digit g u (nI B) = some (-1) ∧ ∃ d, B ≤ d ∧ d < 2 ^ 31 ∧ m_digitOf g u = some (nI d)) := by
  obtain ⟨n, hn, rfl⟩ := hu
  have key : ∀ d : Nat, d < 2 ^ 31 → m_Lt_digit_65 g (nI B) (nI d) = if d < B then some (nI d) else some (-1) := by
    intro d hd
    unfold m_Lt_digit_65
    by_cases h : d < B
    · rw [if_pos h, if_neg (nI_ge h (by omega))]
    · rw [if_neg h, if_pos (nI_le (by omega) (by omega))]
  have fin : ∀ d : Nat, d < 2 ^ 31 → m_Lt_digit g (nI n) (nI B) = m_Lt_digit_65 g (nI B) (nI d) → m_digitOf g (nI n) = some (nI d) → (∃ d, d < B ∧ m_Lt_digit g (nI n) (nI B) = some (nI d) ∧ m_digitOf g (nI n) = some (nI d)) ∨ (m_Lt_digit g (nI n) (nI B) = some (-1) ∧ ∃ d, B ≤ d ∧ d < 2 ^ 31 ∧ m_digitOf g (nI n) = some (nI d)) := by
    intro d hd e1 e2
    rw [key d hd] at e1
    by_cases h : d < B
    · rw [if_pos h] at e1
      exact Or.inl ⟨d, h, e1, e2⟩
    · rw [if_neg h] at e1
      exact Or.inr ⟨e1, d, by omega, hd, e2⟩
  have none : m_Lt_digit g (nI n) (nI B) = m_Lt_digit_65 g (nI B) (-1) → m_digitOf g (nI n) = some 99 → (∃ d, d < B ∧ m_Lt_digit g (nI n) (nI B) = some (nI d) ∧ m_digitOf g (nI n) = some (nI d)) ∨ (m_Lt_digit g (nI n) (nI B) = some (-1) ∧ ∃ d, B ≤ d ∧ d < 2 ^ 31 ∧ m_digitOf g (nI n) = some (nI d)) := by
    intro e1 e2
    refine Or.inr ⟨?_, 99, by omega, by omega, e2⟩
    rw [e1]
    unfold m_Lt_digit_65
    exact ifo rfl rfl
  have L : ∀ k : Nat, k < 200 → ((nI n < nI k) ↔ n < k) := fun k hk => nI_ltI (by omega) (by omega)
  have G : ∀ k : Nat, k < 200 → ((nI k < nI n) ↔ k < n) := fun k hk => nI_ltI (by omega) (by omega)
  by_cases a1 : 48 ≤ n ∧ n ≤ 57
  · refine fin (n - 48) (by omega) ?_ ?_
    · unfold m_Lt_digit
      rw [if_neg (show ¬ nI n < (48 : Int32) from fun z => by have := (L 48 (by omega)).mp z; omega), if_neg (show ¬ (57 : Int32) < nI n from fun z => by have := (G 57 (by omega)).mp z; omega), lt_d, show (48 : Int32) = nI 48 from rfl, nI_sub (by omega)]
    · unfold m_digitOf
      rw [if_neg (show ¬ nI n < (48 : Int32) from fun z => by have := (L 48 (by omega)).mp z; omega), if_neg (show ¬ (57 : Int32) < nI n from fun z => by have := (G 57 (by omega)).mp z; omega), show (48 : Int32) = nI 48 from rfl, nI_sub (by omega)]
  have eC : m_Lt_digit g (nI n) (nI B) = m_Lt_digit_22 g (nI n) (nI B) (-1) := by
    unfold m_Lt_digit
    by_cases h : n < 48
    · rw [if_pos (show nI n < (48 : Int32) from (L 48 (by omega)).mpr h)]
    · rw [if_neg (show ¬ nI n < (48 : Int32) from fun z => h ((L 48 (by omega)).mp z)), if_pos (show (57 : Int32) < nI n from (G 57 (by omega)).mpr (by omega))]
  have eM : m_digitOf g (nI n) = m_digitOf_17 g (nI n) := by
    unfold m_digitOf
    by_cases h : n < 48
    · rw [if_pos (show nI n < (48 : Int32) from (L 48 (by omega)).mpr h)]
    · rw [if_neg (show ¬ nI n < (48 : Int32) from fun z => h ((L 48 (by omega)).mp z)), if_pos (show (57 : Int32) < nI n from (G 57 (by omega)).mpr (by omega))]
  by_cases a2 : 97 ≤ n ∧ n ≤ 122
  · refine fin (n - 97 + 10) (by omega) ?_ ?_
    · rw [eC]
      unfold m_Lt_digit_22
      rw [if_neg (show ¬ nI n < (97 : Int32) from fun z => by have := (L 97 (by omega)).mp z; omega), if_neg (show ¬ (122 : Int32) < nI n from fun z => by have := (G 122 (by omega)).mp z; omega), lt_d, show (97 : Int32) = nI 97 from rfl, show (10 : Int32) = nI 10 from rfl, nI_add, nI_sub (by omega), show 10 + n - 97 = n - 97 + 10 by omega]
    · rw [eM]
      unfold m_digitOf_17
      rw [if_neg (show ¬ nI n < (97 : Int32) from fun z => by have := (L 97 (by omega)).mp z; omega), if_neg (show ¬ (122 : Int32) < nI n from fun z => by have := (G 122 (by omega)).mp z; omega), show (97 : Int32) = nI 97 from rfl, show (10 : Int32) = nI 10 from rfl, nI_sub (by omega), nI_add]
  have eC2 : m_Lt_digit g (nI n) (nI B) = m_Lt_digit_45 g (nI n) (nI B) (-1) := by
    rw [eC]
    unfold m_Lt_digit_22
    by_cases h : n < 97
    · rw [if_pos (show nI n < (97 : Int32) from (L 97 (by omega)).mpr h)]
    · rw [if_neg (show ¬ nI n < (97 : Int32) from fun z => h ((L 97 (by omega)).mp z)), if_pos (show (122 : Int32) < nI n from (G 122 (by omega)).mpr (by omega))]
  have eM2 : m_digitOf g (nI n) = m_digitOf_37 g (nI n) := by
    rw [eM]
    unfold m_digitOf_17
    by_cases h : n < 97
    · rw [if_pos (show nI n < (97 : Int32) from (L 97 (by omega)).mpr h)]
    · rw [if_neg (show ¬ nI n < (97 : Int32) from fun z => h ((L 97 (by omega)).mp z)), if_pos (show (122 : Int32) < nI n from (G 122 (by omega)).mpr (by omega))]
  by_cases a3 : 65 ≤ n ∧ n ≤ 90
  · refine fin (n - 65 + 10) (by omega) ?_ ?_
    · rw [eC2]
      unfold m_Lt_digit_45
      rw [if_neg (show ¬ nI n < (65 : Int32) from fun z => by have := (L 65 (by omega)).mp z; omega), if_neg (show ¬ (90 : Int32) < nI n from fun z => by have := (G 90 (by omega)).mp z; omega), lt_d, show (65 : Int32) = nI 65 from rfl, show (10 : Int32) = nI 10 from rfl, nI_add, nI_sub (by omega), show 10 + n - 65 = n - 65 + 10 by omega]
    · rw [eM2]
      unfold m_digitOf_37
      rw [if_neg (show ¬ nI n < (65 : Int32) from fun z => by have := (L 65 (by omega)).mp z; omega), if_neg (show ¬ (90 : Int32) < nI n from fun z => by have := (G 90 (by omega)).mp z; omega), show (65 : Int32) = nI 65 from rfl, show (10 : Int32) = nI 10 from rfl, nI_sub (by omega), nI_add]
  · refine none ?_ ?_
    · rw [eC2]
      unfold m_Lt_digit_45
      by_cases h : n < 65
      · rw [if_pos (show nI n < (65 : Int32) from (L 65 (by omega)).mpr h)]
      · rw [if_neg (show ¬ nI n < (65 : Int32) from fun z => h ((L 65 (by omega)).mp z)), if_pos (show (90 : Int32) < nI n from (G 90 (by omega)).mpr (by omega))]
    · rw [eM2]
      unfold m_digitOf_37
      by_cases h : n < 65
      · rw [if_pos (show nI n < (65 : Int32) from (L 65 (by omega)).mpr h)]
      · rw [if_neg (show ¬ nI n < (65 : Int32) from fun z => h ((L 65 (by omega)).mp z)), if_pos (show (90 : Int32) < nI n from (G 90 (by omega)).mpr (by omega))]
/-- no wrap: the next value -/
theorem prs_w {x X : Int64} {B d : Nat} (hX : X.toInt = (B : Int)) (h2 : 2 ≤ B) (h36 : B ≤ 36) (hd : d < B) (hx : x.toInt ≤ 0) (h : ¬ x < ((-9223372036854775808 : Int64) + (nI d).toInt64) / X) : (x * X - (nI d).toInt64).toInt ≤ 0 := by
  have hm : (-9223372036854775808 : Int64).toInt = -9223372036854775808 := by decide +kernel
  have e1 : ((-9223372036854775808 : Int64) + (nI d).toInt64).toInt = -9223372036854775808 + (d : Int) := by
    rw [Int64.toInt_add, hm, j64, nI_toInt (by omega)]
    exact Int.bmod_eq_of_le (by omega) (by omega)
  rw [Int64.lt_iff_toInt_lt, Int64.toInt_div, e1, hX] at h
  have hq := Int.mul_tdiv_add_tmod (-9223372036854775808 + (d : Int)) (B : Int)
  have hr : (-9223372036854775808 + (d : Int)).tmod (B : Int) ≤ 0 := by
    have h9 := Int.tmod_nonneg (B : Int) (show 0 ≤ 9223372036854775808 - (d : Int) by omega)
    rw [show (-9223372036854775808 + (d : Int)) = -(9223372036854775808 - (d : Int)) by omega, Int.neg_tmod]
    omega
  have hq0 : (-9223372036854775808 + (d : Int)).tdiv (B : Int) ≤ 0 := by
    rcases Int.lt_or_le 0 ((-9223372036854775808 + (d : Int)).tdiv (B : Int)) with hz | hz
    · have := Int.mul_le_mul_of_nonneg_right (show (2 : Int) ≤ (B : Int) by omega) (Int.le_of_lt hz)
      have hr2 := Int.lt_tmod_of_pos (-9223372036854775808 + (d : Int)) (show (0 : Int) < (B : Int) by omega)
      omega
    · exact hz
  have hql : -9223372036854775808 ≤ (-9223372036854775808 + (d : Int)).tdiv (B : Int) := by
    rcases Int.lt_or_le ((-9223372036854775808 + (d : Int)).tdiv (B : Int)) (-9223372036854775808) with hz | hz
    · have h1 : (B : Int) * (-9223372036854775808 + (d : Int)).tdiv (B : Int) ≤ 2 * (-9223372036854775808 + (d : Int)).tdiv (B : Int) := by
        have := Int.mul_le_mul_of_nonneg_right (show (2 : Int) ≤ (B : Int) by omega) (show 0 ≤ -(-9223372036854775808 + (d : Int)).tdiv (B : Int) by omega)
        rw [Int.mul_neg, Int.mul_neg] at this
        omega
      have hr2 := Int.lt_tmod_of_pos (-9223372036854775808 + (d : Int)) (show (0 : Int) < (B : Int) by omega)
      omega
    · exact hz
  generalize hqq : (-9223372036854775808 + (d : Int)).tdiv (B : Int) = q at h hq hq0 hql
  generalize (-9223372036854775808 + (d : Int)).tmod (B : Int) = rr at hq hr
  rw [Int.bmod_eq_of_le (by omega) (by omega)] at h
  have h3 : q ≤ x.toInt := by omega
  have h4 : (B : Int) * q ≤ (B : Int) * x.toInt := Int.mul_le_mul_of_nonneg_left h3 (by omega)
  have h5 : (B : Int) * x.toInt ≤ 0 := Int.mul_nonpos_of_nonneg_of_nonpos (by omega) hx
  have h6 : (x * X).toInt = (B : Int) * x.toInt := by
    rw [Int64.toInt_mul, hX, Int.mul_comm]
    exact Int.bmod_eq_of_le (by omega) (by omega)
  rw [Int64.toInt_sub, h6, j64, nI_toInt (by omega), Int.bmod_eq_of_le (by omega) (by omega)]
  omega
section PRS
variable {g : Nat} {S S2 : St} {cs ts : List (List Int32)} {u p q B s a : Nat} {l : List Int32} {X : Int64} {x7 : Int32}
theorem prs_l (hT : TXc S cs) (hM : TXs S2 ts u) (hm : LM S2) (l1 : cs[p]? = some l) (l2 : ts[q]? = some l) (hl : l.length ≤ 400) (hu : usL l) (hX : X.toInt = (B : Int)) (h2 : 2 ≤ B) (h36 : B ≤ 36) (h0 : gI S2 0 58 = 0) : ∀ (k n1 n2 i : Nat) (x9 : Int64), i + k = l.length → k < n1 → k + 1 < n2 → x9.toInt ≤ 0 → (∃ v, m_Lt_minusTold_24 g S n1 18 (nI (stC cs p + l.length)) (nI B) x9 (nI (stC cs p + i)) = some v ∧ v.toInt ≤ 0 ∧ m_parses_132 g n2 S2 (nI s) (nI a) (nI q) X (nI l.length) x7 (nI i) x9 = m_parses_210 g S2 (nI s) (nI a) x7 v) ∨ (m_Lt_minusTold_24 g S n1 18 (nI (stC cs p + l.length)) (nI B) x9 (nI (stC cs p + i)) = some 1 ∧ ∃ v, m_parses_132 g n2 S2 (nI s) (nI a) (nI q) X (nI l.length) x7 (nI i) x9 = m_parses_210 g (sI S2 0 58 2) (nI s) (nI a) x7 v) := by
  have b := C_bounds hT l1
  have hXB : (nI B).toInt64 = X := Int64.toInt_inj.mp (by rw [j64, nI_toInt (by omega), hX])
  have hX0 : ¬ X = 0 := fun z => by
    rw [z, z64] at hX
    omega
  intro k
  induction k with
  | zero =>
    intro n1 n2 i x9 hi h1 h3 hx
    obtain ⟨n1, rfl⟩ : ∃ m, n1 = m + 1 := ⟨n1 - 1, by omega⟩
    obtain ⟨n2, rfl⟩ : ∃ m, n2 = m + 1 := ⟨n2 - 1, by omega⟩
    refine Or.inl ⟨x9, ?_, hx, ?_⟩
    · show b_Lt_minusTold_24 g S (m_Lt_minusTold_24 g S n1) 18 _ _ _ _ = _
      unfold b_Lt_minusTold_24
      rw [if_pos (nI_le (by omega) (by omega))]
    · show b_parses_132 g (m_parses_132 g n2) S2 (nI s) (nI a) (nI q) _ _ _ _ _ = _
      unfold b_parses_132
      rw [if_pos (nI_le (by omega) (by omega))]
  | succ k ih =>
    intro n1 n2 i x9 hi h1 h3 hx
    obtain ⟨n1, rfl⟩ : ∃ m, n1 = m + 1 := ⟨n1 - 1, by omega⟩
    obtain ⟨n2, rfl⟩ : ∃ m, n2 = m + 1 := ⟨n2 - 1, by omega⟩
    have eC : m_Lt_minusTold_24 g S (n1 + 1) 18 (nI (stC cs p + l.length)) (nI B) x9 (nI (stC cs p + i)) = b_Lt_minusTold_24 g S (m_Lt_minusTold_24 g S n1) 18 (nI (stC cs p + l.length)) (nI B) x9 (nI (stC cs p + i)) := rfl
    have eM : m_parses_132 g (n2 + 1) S2 (nI s) (nI a) (nI q) X (nI l.length) x7 (nI i) x9 = b_parses_132 g (m_parses_132 g n2) S2 (nI s) (nI a) (nI q) X (nI l.length) x7 (nI i) x9 := rfl
    unfold b_Lt_minusTold_24 at eC
    unfold b_parses_132 at eM
    rw [if_neg (nI_ge (by omega) (by omega)), C_at hT l1 (by omega), Option.bind_some] at eC
    rw [if_neg (nI_ge (by omega) (by omega)), if_pos h0, T_unit hM hm l2 (by omega), Option.bind_some] at eM
    have bad : ∀ (y : Int32), m_parses_184 g (m_parses_132 g n2) S2 (nI s) (nI a) (nI q) X (nI l.length) x7 (nI i) x9 y = m_parses_210 g (sI S2 0 58 2) (nI s) (nI a) x7 ((x9 * X) - y.toInt64) := by
      intro y
      unfold m_parses_184 m_parses_189
      rw [M_ref1 h0, Option.bind_some, lt_d, lt_d, nI_1]
      obtain ⟨n2, rfl⟩ : ∃ m, n2 = m + 1 := ⟨n2 - 1, by omega⟩
      show b_parses_132 g (m_parses_132 g n2) (sI S2 0 58 2) (nI s) (nI a) (nI q) _ _ _ _ _ = _
      unfold b_parses_132
      rw [if_neg (show ¬ gI (sI S2 0 58 2) 0 58 = 0 from by rw [sI_58]; decide)]
      exact ifo rfl rfl
    rcases dig_C (g := g) (hu i (by omega)) h2 h36 with ⟨d, d1, d2, d3⟩ | ⟨d1, d, d2, d4, d3⟩
    · rw [d2, Option.bind_some, if_neg (m1_ne (by omega)), hXB, if_neg hX0, lt_d, lt_d, nI_1] at eC
      rw [d3, Option.bind_some, if_pos (by
        rw [Int64.lt_iff_toInt_lt, j64, nI_toInt (by omega), hX]
        omega), if_neg hX0] at eM
      by_cases hov : x9 < ((-9223372036854775808 : Int64) + (nI d).toInt64) / X
      · rw [if_pos hov] at eC
        rw [if_pos hov, bad] at eM
        exact Or.inr ⟨eC, _, eM⟩
      · rw [if_neg hov] at eC
        rw [if_neg hov] at eM
        unfold m_parses_189 at eM
        rw [M_ref0, Option.bind_some, lt_d, lt_d, nI_1] at eM
        rw [eC, eM]
        exact ih n1 n2 (i + 1) _ (by omega) (by omega) (by omega) (prs_w hX h2 h36 d1 hx hov)
    · rw [d1, Option.bind_some, if_pos rfl] at eC
      rw [d3, Option.bind_some, if_neg (by
        rw [Int64.lt_iff_toInt_lt, j64, nI_toInt d4, hX]
        omega), bad] at eM
      exact Or.inr ⟨eC, _, eM⟩
end PRS
section P210
variable {g : Nat} {T : St} {a x7 : Int32} {v : Int64}
theorem prs_r {s : Int32} (h : ¬ gI T 0 58 = 0) : m_parses_210 g T s a x7 v = some T := by
  have h270 : ∀ x, m_parses_270 g T a x 0 = some T ∧ m_parses_270 g T a x 1 = some T := by
    intro x
    unfold m_parses_270
    rw [M_ref0, M_ref1n h, Option.bind_some, M_gwn h]
    exact ⟨rfl, rfl⟩
  have h244 : ∀ x, m_parses_244 g T s a x = some T := by
    intro x
    unfold m_parses_244 m_parses_269
    rw [isIn_s, Option.bind_some]
    exact ifo (ifo (h270 x).2 (h270 x).1) (h270 x).1
  have h230 : m_parses_230 g T s a x7 v 0 = some T ∧ m_parses_230 g T s a x7 v 1 = some T := by
    unfold m_parses_230
    rw [M_ref0, M_ref1n h, Option.bind_some, lt_d, h244, h244]
    exact ⟨ifo rfl rfl, ifo rfl rfl⟩
  unfold m_parses_210 m_parses_229
  exact ifo (ifo h230.2 h230.1) h230.1
theorem prs_47n (h : gI T 0 58 = 0) : m_parses_210 g T (nI 47) a 1 v = m_givesWhole g T a v := by
  unfold m_parses_210 m_parses_229 m_parses_230 m_parses_244 m_parses_269 m_parses_270
  rw [if_neg (show ¬ (1 : Int32) = 0 by decide), M_ref0, Option.bind_some, if_neg (show ¬ (1 : Int32) = 0 by decide), if_neg (show ¬ nI 47 = 48 by decide), M_ref0, Option.bind_some, bS]
theorem prs_47p (h : gI T 0 58 = 0) : m_parses_210 g T (nI 47) a 0 v = if v = (-9223372036854775808 : Int64) then some (sI T 0 58 2) else m_givesWhole g T a (-v) := by
  by_cases e : v = (-9223372036854775808 : Int64)
  · rw [if_pos e]
    unfold m_parses_210 m_parses_230 m_parses_244 m_parses_269 m_parses_270
    rw [if_pos rfl, if_pos e, M_ref1 h, Option.bind_some, if_pos rfl, lt_d, if_neg (show ¬ nI 47 = 48 by decide), M_ref0, Option.bind_some, bS, M_gwn (by rw [sI_58]; decide)]
  · rw [if_neg e]
    unfold m_parses_210 m_parses_229 m_parses_230 m_parses_244 m_parses_269 m_parses_270
    rw [if_pos rfl, if_neg e, M_ref0, Option.bind_some, if_pos rfl, lt_d, if_neg (show ¬ nI 47 = 48 by decide), M_ref0, Option.bind_some, bS]
theorem mn32 : (-2147483648 : Int64).toInt = -2147483648 ∧ (2147483647 : Int64).toInt = 2147483647 ∧ (-9223372036854775808 : Int64).toInt = -9223372036854775808 := by decide +kernel
theorem prs_48n (h : gI T 0 58 = 0) (hv : v.toInt ≤ 0) : m_parses_210 g T (nI 48) a 1 v = if v < (-2147483648 : Int64) then some (sI T 0 58 2) else m_givesWhole g T a v := by
  unfold m_parses_210 m_parses_229 m_parses_230 m_parses_244 m_parses_269 m_parses_270
  rw [if_neg (show ¬ (1 : Int32) = 0 by decide), M_ref0, Option.bind_some, if_neg (show ¬ (1 : Int32) = 0 by decide), if_pos (show nI 48 = 48 from rfl), isIn_s, Option.bind_some, mn32.1, mn32.2.1, M_ref0, M_ref1 h, Option.bind_some, Option.bind_some, bS, bS]
  by_cases e : v < (-2147483648 : Int64)
  · have e2 := e
    rw [Int64.lt_iff_toInt_lt, mn32.1] at e2
    rw [if_pos e, c01_f (fun z => by have := z.1; omega), if_pos rfl, M_gwn (by rw [sI_58]; decide)]
  · have e2 := e
    rw [Int64.lt_iff_toInt_lt, mn32.1] at e2
    rw [if_neg e, c01_t (by omega), if_neg (by decide)]
theorem prs_48p (h : gI T 0 58 = 0) (hv : v.toInt ≤ 0) : m_parses_210 g T (nI 48) a 0 v = if v < (-2147483648 : Int64) then some (sI T 0 58 2) else if v = (-2147483648 : Int64) then some (sI T 0 58 2) else m_givesWhole g T a (-v) := by
  by_cases e0 : v = (-9223372036854775808 : Int64)
  · rw [if_pos (by rw [e0]; decide +kernel)]
    unfold m_parses_210 m_parses_230 m_parses_244 m_parses_269 m_parses_270
    have h4 : ¬ gI (sI T 0 58 2) 0 58 = 0 := by rw [sI_58]; decide
    rw [if_pos rfl, if_pos e0, M_ref1 h, Option.bind_some, if_pos rfl, lt_d, if_pos (show nI 48 = 48 from rfl), isIn_s, Option.bind_some, M_ref0, M_ref1n h4, Option.bind_some, M_gwn h4]
    exact ifo rfl rfl
  · have e1 : v.toInt ≠ -9223372036854775808 := fun z => e0 (Int64.toInt_inj.mp (by rw [z, mn32.2.2]))
    have e2 := Int64.le_toInt v
    have e3 : (-v).toInt = -v.toInt := by
      rw [Int64.toInt_neg]
      exact Int.bmod_eq_of_le (by omega) (by omega)
    unfold m_parses_210 m_parses_229 m_parses_230 m_parses_244 m_parses_269 m_parses_270
    rw [if_pos rfl, if_neg e0, M_ref0, Option.bind_some, if_pos rfl, lt_d, if_pos (show nI 48 = 48 from rfl), isIn_s, Option.bind_some, mn32.1, mn32.2.1, M_ref0, M_ref1 h, Option.bind_some, Option.bind_some, bS, bS, e3]
    by_cases e : v < (-2147483648 : Int64)
    · have e4 := e
      rw [Int64.lt_iff_toInt_lt, mn32.1] at e4
      rw [if_pos e, c01_f (fun z => by have := z.2; omega), if_pos rfl, M_gwn (by rw [sI_58]; decide)]
    · have e4 := e
      rw [Int64.lt_iff_toInt_lt, mn32.1] at e4
      rw [if_neg e]
      by_cases e5 : v = (-2147483648 : Int64)
      · rw [if_pos e5, c01_f (fun z => by
          have := z.2
          rw [e5, mn32.1] at this
          omega), if_pos rfl, M_gwn (by rw [sI_58]; decide)]
      · have e6 : v.toInt ≠ -2147483648 := fun z => e5 (Int64.toInt_inj.mp (by rw [z, mn32.1]))
        rw [if_neg e5, c01_t (by omega), if_neg (by decide)]
end P210
theorem St47 : StOK 47 := by
  intro g U k S S2 ws a hg hk hR c cm hW h0
  obtain ⟨φ, cs, ts, u, pl, pm, ps, qs, r, bd⟩ := hR
  obtain ⟨q1, q2, q3⟩ := hW
  have q1 : 3 ≤ ws.length := q1
  have q2 : ws.length ≤ 3 := q2
  obtain ⟨w0, w1, w2, rfl⟩ := ls3 (show ws.length = 3 by omega)
  change ∃ S' S2' kd, doC g S 47 = some (S', nI kd) ∧ m_does g S2 (nI 47) (nI a) (nI 3) = some S2' ∧ gI S2' 0 58 = nI kd ∧ kd ≤ 5 ∧ RSx U (k + 1) S' S2' ∧ FC S S' ∧ FS S2 S2'
  have hl := r.2.1
  have hm := r.2.2.1
  have hT := r.2.2.2.1
  have hx := r.2.2.2.2.2.2.2.2.2.2.2.2.2
  have f1 : F0M S2 (sI S2 0 57 0) := F0M_sI (Or.inl rfl)
  have f2 : F0M S2 (sI (sI S2 0 57 0) 0 58 4) := f1.tr (F0M_sI (Or.inr (Or.inl rfl)))
  have f3 : F0M S2 (sI (sI S2 0 57 0) 0 58 1) := f1.tr (F0M_sI (Or.inr (Or.inl rfl)))
  have h0' : gI (sI S2 0 57 0) 0 58 = 0 := by rw [gI_ne (by decide)]; exact h0
  have cm' := cm.fs (FS.f0 f1)
  have hm' := hm.fs (FS.f0 f1)
  have T2 := hT.2.1.f0 f1
  obtain ⟨-, n, hn, hv⟩ := okL_w (show okL U 119 w0 from q3 0 w0 rfl)
  obtain ⟨x, y, e1, e2, e3, e4⟩ := getT (g := g) (j := 1) (w := w1) r c cm rfl (show okL U 116 w1 from q3 1 w1 rfl) (by decide)
  have o2 : okW w2 := okL_W (show okL U 87 w2 from q3 2 w2 rfl)
  have m2 : m_value g (sI S2 0 57 0) (nI a + (2 : Int32)) = some (valW S2 w2) := by rw [show (2 : Int32) = nI 2 from rfl, nI_add]; exact M_value (g := g) (j := 2) (w := w2) cm' hm' rfl o2
  have hlk := lacks0 (s := 47) hg c (show ∀ j, j < 3 → ¬ lett 47 (nI j) = 84 from by decide +kernel)
  have hWR : WR S S2 := r.2.2.2.2.2.2.2.2.1
  have f5 : F0M S2 (sI (sI S2 0 57 0) 0 58 2) := f1.tr (F0M_sI (Or.inr (Or.inl rfl)))
  have h5 : ¬ gI (sI (sI S2 0 57 0) 0 58 2) 0 58 = 0 := by rw [sI_58]; decide
  have hC : doC g S 47 = m_WS_parse g S (-9223372036854775808 : Int64) := by
    rw [doC_W hlk (by decide +kernel), dC_47, bS2]
  unfold m_WS_parse at hC
  rw [show m_Bn_textAt g S 1 = some x from e1, Option.bind_some, show m_Bn_wholeAt g S 2 = some (valW S2 w2) from B_whole (S2 := S2) (j := 2) (w := w2) c hl rfl o2 hWR, Option.bind_some] at hC
  have hM := dM_47 (g := g) (S := S2) (x2 := nI a) (x3 := nI 3)
  rw [dM2_47, bS, bS] at hM
  unfold m_parses at hM
  rw [show m_text g (sI S2 0 57 0) (nI a + 1) = some y from e2 _ f1, Option.bind_some, m2, Option.bind_some, isIn_s, Option.bind_some, show (2 : Int64).toInt = 2 from by decide +kernel, show (36 : Int64).toInt = 36 from by decide +kernel] at hM
  have REF : doC g S 47 = some (S, 2) → m_does g S2 (nI 47) (nI a) (nI 3) = some (sI (sI S2 0 57 0) 0 58 2) → ∃ S' S2' kd, doC g S 47 = some (S', nI kd) ∧ m_does g S2 (nI 47) (nI a) (nI 3) = some S2' ∧ gI S2' 0 58 = nI kd ∧ kd ≤ 5 ∧ RSx U (k + 1) S' S2' ∧ FC S S' ∧ FS S2 S2' := fun h1 h2 => ⟨S, sI (sI S2 0 57 0) 0 58 2, 2, h1, h2, fin_no r bd F0C.rf hx f5 sI_58 (by decide)⟩
  have GIV : ∀ v : Int64, doC g S 47 = m_Bn_giveWhole g S v → m_does g S2 (nI 47) (nI a) (nI 3) = m_givesWhole g (sI S2 0 57 0) (nI a) v → ∃ S' S2' kd, doC g S 47 = some (S', nI kd) ∧ m_does g S2 (nI 47) (nI a) (nI 3) = some S2' ∧ gI S2' 0 58 = nI kd ∧ kd ≤ 5 ∧ RSx U (k + 1) S' S2' ∧ FC S S' ∧ FS S2 S2' := by
    intro v h1 h2
    refine ⟨sG S 75 n v, sG (sI S2 0 57 0) 32 n v, 0, ?_, ?_, fin_gw r bd f1 h0' hn⟩
    · rw [h1, B_gw c hl (w := w0) rfl hn hv]
      rfl
    · rw [h2, M_gw cm' hm' (w := w0) rfl hn hv h0']
  have h36 : ∀ z w, m_parses_36 g (sI S2 0 57 0) (nI 47) (nI a) z w = some (sI (sI S2 0 57 0) 0 58 2) := by
    intro z w
    unfold m_parses_36 m_parses_41
    rw [M_ref1 h0', Option.bind_some, if_neg h5]
  rcases e4 with ⟨rfl, rfl⟩ | ⟨p, q, l, rfl, rfl, hpq, hp, hq, l1, l2, l3, l4⟩
  · refine REF ?_ ?_
    · rw [hC, if_pos rfl]
    · rw [hM, if_pos (by decide), h36]
  rw [if_neg (m1_ne (by omega))] at hC
  rw [if_neg (nI_pos (by omega))] at hM
  have b := C_bounds hT.1 l1
  rcases Classical.em (¬ (2 ≤ (valW S2 w2).toInt ∧ (valW S2 w2).toInt ≤ 36)) with hin | hin
  · refine REF ?_ ?_
    · rw [hC]
      by_cases h1 : valW S2 w2 < 2
      · rw [if_pos h1]
      · rw [if_neg h1, if_pos (by
          rw [Int64.lt_iff_toInt_lt, show (2 : Int64).toInt = 2 from by decide +kernel] at h1
          rw [Int64.lt_iff_toInt_lt, show (36 : Int64).toInt = 36 from by decide +kernel]
          omega)]
    · rw [hM, c01_f hin, if_pos rfl, h36]
  have hin := Classical.not_not.mp hin
  rw [if_neg (fun h1 => by
    rw [Int64.lt_iff_toInt_lt, show (2 : Int64).toInt = 2 from by decide +kernel] at h1
    omega), if_neg (fun h1 => by
    rw [Int64.lt_iff_toInt_lt, show (36 : Int64).toInt = 36 from by decide +kernel] at h1
    omega), C_start hT.1 b.1, Option.bind_some, C_unit hT.1 l1, Option.bind_some] at hC
  rw [c01_t hin, if_neg (by decide)] at hM
  unfold m_parses_41 at hM
  rw [M_ref0, Option.bind_some, if_pos h0', (T_size T2 hm' l2).1, Option.bind_some] at hM
  obtain ⟨B, hB⟩ : ∃ B : Nat, (valW S2 w2).toInt = (B : Int) := ⟨(valW S2 w2).toInt.toNat, by omega⟩
  have hB32 : (valW S2 w2).toInt32 = nI B := j32 hB (by omega)
  obtain ⟨g', hg'⟩ : ∃ g', g = g' + 1 := ⟨g - 1, by omega⟩
  have r125 : ∀ (x6 x7 x8 : Int32), x6 ≤ x8 → m_parses_125 g (sI S2 0 57 0) (nI 47) (nI a) (nI q) (valW S2 w2) x6 x7 x8 1 = some (sI (sI S2 0 57 0) 0 58 2) := by
    intro x6 x7 x8 h
    unfold m_parses_125
    rw [M_ref1 h0', Option.bind_some, show m_parses_132 g g = m_parses_132 g (g' + 1) from by rw [← hg']]
    show b_parses_132 g (m_parses_132 g g') _ _ _ _ _ _ _ _ _ = _
    unfold b_parses_132
    rw [if_pos h, prs_r h5]
  have c82 : ∀ (j : Nat) (x7 : Int32), l.length ≤ j → j ≤ 401 → m_WS_parse_82 g S (-9223372036854775808 : Int64) (nI p) (valW S2 w2) (nI (stC cs p + j)) x7 = some (S, 2) := by
    intro j x7 h hj
    unfold m_WS_parse_82 m_Lt_minusTold
    rw [C_end hT.1 b.1, Option.bind_some, stC_succ l1, if_pos (nI_le (by omega) (by omega)), Option.bind_some, if_pos (by decide +kernel)]
  by_cases hz : l.length = 0
  · have hl0 : l = [] := List.length_eq_zero_iff.mp hz
    subst hl0
    refine REF ?_ ?_
    · rw [hC, show atR ([] : List Int32) 0 = -1 from rfl, if_neg (by decide), if_neg (by decide)]
      exact c82 0 (-1) (Nat.le_refl _) (by omega)
    · rw [hM, if_pos (by decide)]
      unfold m_parses_81 m_parses_82
      rw [if_pos rfl, if_pos (by decide)]
      unfold m_parses_109 m_parses_110
      rw [if_pos (by rfl)]
      exact r125 _ _ _ (by decide)
  have hu0 : m_unitAt g (sI S2 0 57 0) (nI q) 0 = some (l.getD 0 0) := T_unit (k := 0) T2 hm' l2 (by omega)
  rw [if_neg (nI_nle (by omega) (by omega)), hu0, Option.bind_some] at hM
  rw [show atR l 0 = l.getD 0 0 from (atR_nI (i := 0) (by omega)).trans (getD_d (by omega))] at hC
  -- the digits, from j on
  have main : ∀ (j : Nat) (u0 x7 : Int32), j ≤ 1 → (x7 = if u0 = 45 then 1 else 0) → doC g S 47 = m_WS_parse_82 g S (-9223372036854775808 : Int64) (nI p) (valW S2 w2) (nI (stC cs p + j)) u0 → m_does g S2 (nI 47) (nI a) (nI 3) = m_parses_110 g (sI S2 0 57 0) (nI 47) (nI a) (nI q) (valW S2 w2) (nI l.length) x7 (nI j) → ∃ S' S2' kd, doC g S 47 = some (S', nI kd) ∧ m_does g S2 (nI 47) (nI a) (nI 3) = some S2' ∧ gI S2' 0 58 = nI kd ∧ kd ≤ 5 ∧ RSx U (k + 1) S' S2' ∧ FC S S' ∧ FS S2 S2' := by
    intro j u0 x7 hj h7 hC hM
    unfold m_parses_110 at hM
    by_cases hjl : j = l.length
    · rw [if_pos (by rw [hjl])] at hM
      refine REF (hC.trans (c82 j u0 (by omega) (by omega))) (hM.trans (r125 _ _ _ (nI_le (by omega) (by omega))))
    rw [if_neg (i_lit (by omega) (by omega) hjl)] at hM
    unfold m_parses_125 at hM
    rw [M_ref0, Option.bind_some] at hM
    unfold m_WS_parse_82 m_Lt_minusTold at hC
    rw [C_end hT.1 b.1, Option.bind_some, stC_succ l1, if_neg (nI_ge (by omega) (by omega)), hB32, if_neg (show ¬ nI B < (2 : Int32) from nI_nlt (b := 2) (by omega) (by omega)), if_pos (show nI B ≤ (36 : Int32) from nI_le (b := 36) (by omega) (by omega))] at hC
    rcases prs_l (g := g) (s := 47) (a := a) (x7 := x7) hT.1 T2 hm' l1 l2 l3 l4 hB (by omega) (by omega) h0' (l.length - j) g g j 0 (by omega) (by omega) (by omega) (by rw [z64]; omega) with ⟨v, v1, v2, v3⟩ | ⟨v1, v, v3⟩
    · rw [v1, Option.bind_some, if_neg (fun z => by
        rw [Int64.lt_iff_toInt_lt, z64] at z
        omega)] at hC
      rw [v3] at hM
      unfold m_WS_parse_137 m_WS_parse_156 at hC
      rw [bS2, bS2] at hC
      by_cases h45 : u0 = 45
      · rw [if_pos h45] at h7 hC
        rw [if_pos h45] at hC
        subst h7
        rw [if_neg (fun z => by
          have h1 := Int64.le_toInt v
          rw [Int64.lt_iff_toInt_lt, mn32.2.2] at z
          omega)] at hC
        rw [prs_47n h0'] at hM
        exact GIV v hC hM
      · rw [if_neg h45] at h7 hC
        rw [if_neg h45] at hC
        subst h7
        rw [if_neg (fun z => by
          have h1 := Int64.le_toInt v
          rw [Int64.lt_iff_toInt_lt, mn32.2.2] at z
          omega)] at hC
        rw [prs_47p h0'] at hM
        by_cases hmin : v = (-9223372036854775808 : Int64)
        · rw [if_pos hmin] at hM hC
          exact REF hC hM
        · rw [if_neg hmin] at hM hC
          exact GIV (-v) hC hM
    · rw [v1, Option.bind_some, if_pos (by decide +kernel)] at hC
      rw [v3, prs_r h5] at hM
      exact REF hC hM
  by_cases h45 : l.getD 0 0 = 45
  · rw [if_pos h45] at hM
    rw [if_neg (by rw [h45]; decide), if_pos h45] at hC
    unfold m_parses_82 m_parses_105 at hM
    rw [if_neg (by decide)] at hM
    unfold m_WS_parse_79 at hC
    rw [lt_d, nI_1] at hC
    exact main 1 (l.getD 0 0) 1 (by omega) (by rw [if_pos h45]) hC hM
  · rw [if_neg h45] at hM
    unfold m_parses_81 m_parses_82 at hM
    rw [if_pos rfl, if_neg (nI_nle (by omega) (by omega)), hu0, Option.bind_some] at hM
    unfold m_parses_105 m_parses_109 at hM
    by_cases h43 : l.getD 0 0 = 43
    · rw [if_pos h43] at hM
      rw [if_pos h43] at hC
      unfold m_WS_parse_79 at hC
      rw [lt_d, nI_1] at hC
      exact main 1 (l.getD 0 0) 0 (by omega) (by rw [if_neg h45]) hC hM
    · rw [if_neg h43] at hM
      rw [if_neg h43, if_neg h45] at hC
      exact main 0 (l.getD 0 0) 0 (by omega) (by rw [if_neg h45]) hC hM
theorem St48 : StOK 48 := by
  intro g U k S S2 ws a hg hk hR c cm hW h0
  obtain ⟨φ, cs, ts, u, pl, pm, ps, qs, r, bd⟩ := hR
  obtain ⟨q1, q2, q3⟩ := hW
  have q1 : 3 ≤ ws.length := q1
  have q2 : ws.length ≤ 3 := q2
  obtain ⟨w0, w1, w2, rfl⟩ := ls3 (show ws.length = 3 by omega)
  change ∃ S' S2' kd, doC g S 48 = some (S', nI kd) ∧ m_does g S2 (nI 48) (nI a) (nI 3) = some S2' ∧ gI S2' 0 58 = nI kd ∧ kd ≤ 5 ∧ RSx U (k + 1) S' S2' ∧ FC S S' ∧ FS S2 S2'
  have hl := r.2.1
  have hm := r.2.2.1
  have hT := r.2.2.2.1
  have hx := r.2.2.2.2.2.2.2.2.2.2.2.2.2
  have f1 : F0M S2 (sI S2 0 57 0) := F0M_sI (Or.inl rfl)
  have f2 : F0M S2 (sI (sI S2 0 57 0) 0 58 4) := f1.tr (F0M_sI (Or.inr (Or.inl rfl)))
  have f3 : F0M S2 (sI (sI S2 0 57 0) 0 58 1) := f1.tr (F0M_sI (Or.inr (Or.inl rfl)))
  have h0' : gI (sI S2 0 57 0) 0 58 = 0 := by rw [gI_ne (by decide)]; exact h0
  have cm' := cm.fs (FS.f0 f1)
  have hm' := hm.fs (FS.f0 f1)
  have T2 := hT.2.1.f0 f1
  obtain ⟨-, n, hn, hv⟩ := okL_w (show okL U 119 w0 from q3 0 w0 rfl)
  obtain ⟨x, y, e1, e2, e3, e4⟩ := getT (g := g) (j := 1) (w := w1) r c cm rfl (show okL U 116 w1 from q3 1 w1 rfl) (by decide)
  have o2 : okW w2 := okL_W (show okL U 87 w2 from q3 2 w2 rfl)
  have m2 : m_value g (sI S2 0 57 0) (nI a + (2 : Int32)) = some (valW S2 w2) := by rw [show (2 : Int32) = nI 2 from rfl, nI_add]; exact M_value (g := g) (j := 2) (w := w2) cm' hm' rfl o2
  have hlk := lacks0 (s := 48) hg c (show ∀ j, j < 3 → ¬ lett 48 (nI j) = 84 from by decide +kernel)
  have hWR : WR S S2 := r.2.2.2.2.2.2.2.2.1
  have f5 : F0M S2 (sI (sI S2 0 57 0) 0 58 2) := f1.tr (F0M_sI (Or.inr (Or.inl rfl)))
  have h5 : ¬ gI (sI (sI S2 0 57 0) 0 58 2) 0 58 = 0 := by rw [sI_58]; decide
  have hC : doC g S 48 = m_WS_parse g S (-2147483648 : Int64) := by
    rw [doC_W hlk (by decide +kernel), dC_48, bS2]
  unfold m_WS_parse at hC
  rw [show m_Bn_textAt g S 1 = some x from e1, Option.bind_some, show m_Bn_wholeAt g S 2 = some (valW S2 w2) from B_whole (S2 := S2) (j := 2) (w := w2) c hl rfl o2 hWR, Option.bind_some] at hC
  have hM := dM_48 (g := g) (S := S2) (x2 := nI a) (x3 := nI 3)
  rw [dM2_48, bS, bS] at hM
  unfold m_parses at hM
  rw [show m_text g (sI S2 0 57 0) (nI a + 1) = some y from e2 _ f1, Option.bind_some, m2, Option.bind_some, isIn_s, Option.bind_some, show (2 : Int64).toInt = 2 from by decide +kernel, show (36 : Int64).toInt = 36 from by decide +kernel] at hM
  have REF : doC g S 48 = some (S, 2) → m_does g S2 (nI 48) (nI a) (nI 3) = some (sI (sI S2 0 57 0) 0 58 2) → ∃ S' S2' kd, doC g S 48 = some (S', nI kd) ∧ m_does g S2 (nI 48) (nI a) (nI 3) = some S2' ∧ gI S2' 0 58 = nI kd ∧ kd ≤ 5 ∧ RSx U (k + 1) S' S2' ∧ FC S S' ∧ FS S2 S2' := fun h1 h2 => ⟨S, sI (sI S2 0 57 0) 0 58 2, 2, h1, h2, fin_no r bd F0C.rf hx f5 sI_58 (by decide)⟩
  have GIV : ∀ v : Int64, doC g S 48 = m_Bn_giveWhole g S v → m_does g S2 (nI 48) (nI a) (nI 3) = m_givesWhole g (sI S2 0 57 0) (nI a) v → ∃ S' S2' kd, doC g S 48 = some (S', nI kd) ∧ m_does g S2 (nI 48) (nI a) (nI 3) = some S2' ∧ gI S2' 0 58 = nI kd ∧ kd ≤ 5 ∧ RSx U (k + 1) S' S2' ∧ FC S S' ∧ FS S2 S2' := by
    intro v h1 h2
    refine ⟨sG S 75 n v, sG (sI S2 0 57 0) 32 n v, 0, ?_, ?_, fin_gw r bd f1 h0' hn⟩
    · rw [h1, B_gw c hl (w := w0) rfl hn hv]
      rfl
    · rw [h2, M_gw cm' hm' (w := w0) rfl hn hv h0']
  have h36 : ∀ z w, m_parses_36 g (sI S2 0 57 0) (nI 48) (nI a) z w = some (sI (sI S2 0 57 0) 0 58 2) := by
    intro z w
    unfold m_parses_36 m_parses_41
    rw [M_ref1 h0', Option.bind_some, if_neg h5]
  rcases e4 with ⟨rfl, rfl⟩ | ⟨p, q, l, rfl, rfl, hpq, hp, hq, l1, l2, l3, l4⟩
  · refine REF ?_ ?_
    · rw [hC, if_pos rfl]
    · rw [hM, if_pos (by decide), h36]
  rw [if_neg (m1_ne (by omega))] at hC
  rw [if_neg (nI_pos (by omega))] at hM
  have b := C_bounds hT.1 l1
  rcases Classical.em (¬ (2 ≤ (valW S2 w2).toInt ∧ (valW S2 w2).toInt ≤ 36)) with hin | hin
  · refine REF ?_ ?_
    · rw [hC]
      by_cases h1 : valW S2 w2 < 2
      · rw [if_pos h1]
      · rw [if_neg h1, if_pos (by
          rw [Int64.lt_iff_toInt_lt, show (2 : Int64).toInt = 2 from by decide +kernel] at h1
          rw [Int64.lt_iff_toInt_lt, show (36 : Int64).toInt = 36 from by decide +kernel]
          omega)]
    · rw [hM, c01_f hin, if_pos rfl, h36]
  have hin := Classical.not_not.mp hin
  rw [if_neg (fun h1 => by
    rw [Int64.lt_iff_toInt_lt, show (2 : Int64).toInt = 2 from by decide +kernel] at h1
    omega), if_neg (fun h1 => by
    rw [Int64.lt_iff_toInt_lt, show (36 : Int64).toInt = 36 from by decide +kernel] at h1
    omega), C_start hT.1 b.1, Option.bind_some, C_unit hT.1 l1, Option.bind_some] at hC
  rw [c01_t hin, if_neg (by decide)] at hM
  unfold m_parses_41 at hM
  rw [M_ref0, Option.bind_some, if_pos h0', (T_size T2 hm' l2).1, Option.bind_some] at hM
  obtain ⟨B, hB⟩ : ∃ B : Nat, (valW S2 w2).toInt = (B : Int) := ⟨(valW S2 w2).toInt.toNat, by omega⟩
  have hB32 : (valW S2 w2).toInt32 = nI B := j32 hB (by omega)
  obtain ⟨g', hg'⟩ : ∃ g', g = g' + 1 := ⟨g - 1, by omega⟩
  have r125 : ∀ (x6 x7 x8 : Int32), x6 ≤ x8 → m_parses_125 g (sI S2 0 57 0) (nI 48) (nI a) (nI q) (valW S2 w2) x6 x7 x8 1 = some (sI (sI S2 0 57 0) 0 58 2) := by
    intro x6 x7 x8 h
    unfold m_parses_125
    rw [M_ref1 h0', Option.bind_some, show m_parses_132 g g = m_parses_132 g (g' + 1) from by rw [← hg']]
    show b_parses_132 g (m_parses_132 g g') _ _ _ _ _ _ _ _ _ = _
    unfold b_parses_132
    rw [if_pos h, prs_r h5]
  have c82 : ∀ (j : Nat) (x7 : Int32), l.length ≤ j → j ≤ 401 → m_WS_parse_82 g S (-2147483648 : Int64) (nI p) (valW S2 w2) (nI (stC cs p + j)) x7 = some (S, 2) := by
    intro j x7 h hj
    unfold m_WS_parse_82 m_Lt_minusTold
    rw [C_end hT.1 b.1, Option.bind_some, stC_succ l1, if_pos (nI_le (by omega) (by omega)), Option.bind_some, if_pos (by decide +kernel)]
  by_cases hz : l.length = 0
  · have hl0 : l = [] := List.length_eq_zero_iff.mp hz
    subst hl0
    refine REF ?_ ?_
    · rw [hC, show atR ([] : List Int32) 0 = -1 from rfl, if_neg (by decide), if_neg (by decide)]
      exact c82 0 (-1) (Nat.le_refl _) (by omega)
    · rw [hM, if_pos (by decide)]
      unfold m_parses_81 m_parses_82
      rw [if_pos rfl, if_pos (by decide)]
      unfold m_parses_109 m_parses_110
      rw [if_pos (by rfl)]
      exact r125 _ _ _ (by decide)
  have hu0 : m_unitAt g (sI S2 0 57 0) (nI q) 0 = some (l.getD 0 0) := T_unit (k := 0) T2 hm' l2 (by omega)
  rw [if_neg (nI_nle (by omega) (by omega)), hu0, Option.bind_some] at hM
  rw [show atR l 0 = l.getD 0 0 from (atR_nI (i := 0) (by omega)).trans (getD_d (by omega))] at hC
  -- the digits, from j on
  have main : ∀ (j : Nat) (u0 x7 : Int32), j ≤ 1 → (x7 = if u0 = 45 then 1 else 0) → doC g S 48 = m_WS_parse_82 g S (-2147483648 : Int64) (nI p) (valW S2 w2) (nI (stC cs p + j)) u0 → m_does g S2 (nI 48) (nI a) (nI 3) = m_parses_110 g (sI S2 0 57 0) (nI 48) (nI a) (nI q) (valW S2 w2) (nI l.length) x7 (nI j) → ∃ S' S2' kd, doC g S 48 = some (S', nI kd) ∧ m_does g S2 (nI 48) (nI a) (nI 3) = some S2' ∧ gI S2' 0 58 = nI kd ∧ kd ≤ 5 ∧ RSx U (k + 1) S' S2' ∧ FC S S' ∧ FS S2 S2' := by
    intro j u0 x7 hj h7 hC hM
    unfold m_parses_110 at hM
    by_cases hjl : j = l.length
    · rw [if_pos (by rw [hjl])] at hM
      refine REF (hC.trans (c82 j u0 (by omega) (by omega))) (hM.trans (r125 _ _ _ (nI_le (by omega) (by omega))))
    rw [if_neg (i_lit (by omega) (by omega) hjl)] at hM
    unfold m_parses_125 at hM
    rw [M_ref0, Option.bind_some] at hM
    unfold m_WS_parse_82 m_Lt_minusTold at hC
    rw [C_end hT.1 b.1, Option.bind_some, stC_succ l1, if_neg (nI_ge (by omega) (by omega)), hB32, if_neg (show ¬ nI B < (2 : Int32) from nI_nlt (b := 2) (by omega) (by omega)), if_pos (show nI B ≤ (36 : Int32) from nI_le (b := 36) (by omega) (by omega))] at hC
    rcases prs_l (g := g) (s := 48) (a := a) (x7 := x7) hT.1 T2 hm' l1 l2 l3 l4 hB (by omega) (by omega) h0' (l.length - j) g g j 0 (by omega) (by omega) (by omega) (by rw [z64]; omega) with ⟨v, v1, v2, v3⟩ | ⟨v1, v, v3⟩
    · rw [v1, Option.bind_some, if_neg (fun z => by
        rw [Int64.lt_iff_toInt_lt, z64] at z
        omega)] at hC
      rw [v3] at hM
      unfold m_WS_parse_137 m_WS_parse_156 at hC
      rw [bS2, bS2] at hC
      by_cases h45 : u0 = 45
      · rw [if_pos h45] at h7 hC
        rw [if_pos h45] at hC
        subst h7
        rw [prs_48n h0' v2] at hM
        by_cases hmin : v < (-2147483648 : Int64)
        · rw [if_pos hmin] at hM hC
          exact REF hC hM
        · rw [if_neg hmin] at hM hC
          exact GIV v hC hM
      · rw [if_neg h45] at h7 hC
        rw [if_neg h45] at hC
        subst h7
        rw [prs_48p h0' v2] at hM
        by_cases hmin : v < (-2147483648 : Int64)
        · rw [if_pos hmin] at hM hC
          exact REF hC hM
        rw [if_neg hmin] at hM hC
        by_cases hmn : v = (-2147483648 : Int64)
        · rw [if_pos hmn] at hM hC
          exact REF hC hM
        · rw [if_neg hmn] at hM hC
          exact GIV (-v) hC hM
    · rw [v1, Option.bind_some, if_pos (by decide +kernel)] at hC
      rw [v3, prs_r h5] at hM
      exact REF hC hM
  by_cases h45 : l.getD 0 0 = 45
  · rw [if_pos h45] at hM
    rw [if_neg (by rw [h45]; decide), if_pos h45] at hC
    unfold m_parses_82 m_parses_105 at hM
    rw [if_neg (by decide)] at hM
    unfold m_WS_parse_79 at hC
    rw [lt_d, nI_1] at hC
    exact main 1 (l.getD 0 0) 1 (by omega) (by rw [if_pos h45]) hC hM
  · rw [if_neg h45] at hM
    unfold m_parses_81 m_parses_82 at hM
    rw [if_pos rfl, if_neg (nI_nle (by omega) (by omega)), hu0, Option.bind_some] at hM
    unfold m_parses_105 m_parses_109 at hM
    by_cases h43 : l.getD 0 0 = 43
    · rw [if_pos h43] at hM
      rw [if_pos h43] at hC
      unfold m_WS_parse_79 at hC
      rw [lt_d, nI_1] at hC
      exact main 1 (l.getD 0 0) 0 (by omega) (by rw [if_neg h45]) hC hM
    · rw [if_neg h43] at hM
      rw [if_neg h43, if_neg h45] at hC
      exact main 0 (l.getD 0 0) 0 (by omega) (by rw [if_neg h45]) hC hM
