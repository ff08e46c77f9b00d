/-! the digits of a whole -/
theorem bm64 {x : Int} (h1 : -(2 ^ 63) ≤ x) (h2 : x < 2 ^ 63) : x.bmod (2 ^ 64) = x := Int.bmod_eq_of_le (by omega) (by omega)
theorem bm32 {x : Int} (h1 : -(2 ^ 31) ≤ x) (h2 : x < 2 ^ 31) : x.bmod (2 ^ 32) = x := Int.bmod_eq_of_le (by omega) (by omega)
theorem j32 {x : Int64} {n : Nat} (h : x.toInt = (n : Int)) (hn : n < 2 ^ 31) : x.toInt32 = nI n := by
  apply Int32.toInt_inj.mp
  rw [Int64.toInt_toInt32, h, nI_toInt hn, bm32 (by omega) (by omega)]
theorem dv_n {r q : Int64} {a b : Nat} (hr : r.toInt = -(a : Int)) (ha : a ≤ 2 ^ 63) (hq : q.toInt = (b : Int)) (hb : 2 ≤ b) (hb2 : b ≤ 36) : (r / q).toInt = -((a / b : Nat) : Int) ∧ (r - r / q * q).toInt = -((a % b : Nat) : Int) ∧ (-(r - r / q * q)).toInt = ((a % b : Nat) : Int) := by
  obtain ⟨n, hn⟩ : ∃ n, a / b = n := ⟨_, rfl⟩
  obtain ⟨m, hm'⟩ : ∃ m, a % b = m := ⟨_, rfl⟩
  have hd := Nat.div_add_mod a b
  have hm := Nat.mod_lt a (show 0 < b by omega)
  have hdl : a / b ≤ a / 2 := Nat.div_le_div_left hb (by decide)
  rw [hn, hm'] at hd
  rw [hm'] at hm
  rw [hn] at hdl
  rw [hn, hm']
  have t : Int.tdiv (-(a : Int)) (b : Int) = -(n : Int) := by
    rw [Int.neg_tdiv, ← hn]
    rfl
  have e1 : (r / q).toInt = -(n : Int) := by
    rw [Int64.toInt_div, hr, hq, t, bm64 (by omega) (by omega)]
  have e2 : (r / q * q).toInt = -((b * n : Nat) : Int) := by
    have : (-(n : Int)) * (b : Int) = -((b * n : Nat) : Int) := by
      rw [Int.neg_mul, Int.natCast_mul, Int.mul_comm]
    rw [Int64.toInt_mul, e1, hq, this, bm64 (by omega) (by omega)]
  have e3 : (r - r / q * q).toInt = -(m : Int) := by
    rw [Int64.toInt_sub, hr, e2, bm64 (by omega) (by omega)]
    omega
  refine ⟨e1, e3, ?_⟩
  rw [Int64.toInt_neg, e3, bm64 (by omega) (by omega)]
  omega
theorem dv_p {r q : Int64} {a b : Nat} (hr : r.toInt = (a : Int)) (ha : a < 2 ^ 63) (hq : q.toInt = (b : Int)) (hb : 2 ≤ b) (hb2 : b ≤ 36) : (r / q).toInt = ((a / b : Nat) : Int) ∧ (r - r / q * q).toInt = ((a % b : Nat) : Int) := by
  obtain ⟨n, hn⟩ : ∃ n, a / b = n := ⟨_, rfl⟩
  obtain ⟨m, hm'⟩ : ∃ m, a % b = m := ⟨_, rfl⟩
  have hd := Nat.div_add_mod a b
  have hm := Nat.mod_lt a (show 0 < b by omega)
  have hdl : a / b ≤ a / 2 := Nat.div_le_div_left hb (by decide)
  rw [hn, hm'] at hd
  rw [hm'] at hm
  rw [hn] at hdl
  rw [hn, hm']
  have t : Int.tdiv (a : Int) (b : Int) = (n : Int) := by rw [← hn]; rfl
  have e1 : (r / q).toInt = (n : Int) := by
    rw [Int64.toInt_div, hr, hq, t, bm64 (by omega) (by omega)]
  have e2 : (r / q * q).toInt = ((b * n : Nat) : Int) := by
    have : (n : Int) * (b : Int) = ((b * n : Nat) : Int) := by
      rw [Int.natCast_mul, Int.mul_comm]
    rw [Int64.toInt_mul, e1, hq, this, bm64 (by omega) (by omega)]
  refine ⟨e1, ?_⟩
  rw [Int64.toInt_sub, hr, e2, bm64 (by omega) (by omega)]
  omega
/-- the digits of a in base b, the least first -/
def dgL (b : Nat) : Nat → Nat → List Nat
  | 0, _ => []
  | f + 1, a => a % b :: (if a / b = 0 then [] else dgL b f (a / b))
def dch (d : Nat) : Int32 := if 10 ≤ d then ((97 : Int32) + nI d) - (10 : Int32) else (48 : Int32) + nI d
/-- a whole in base b -/
def numU (x : Int64) (b : Nat) : List Int32 := (if x < 0 then [45] else []) ++ ((dgL b 64 x.toInt.natAbs).map dch).reverse
theorem dgL_len {b : Nat} : ∀ (f a : Nat), (dgL b f a).length ≤ f := by
  intro f
  induction f with
  | zero => intro a; exact Nat.le_refl _
  | succ f ih =>
    intro a
    unfold dgL
    by_cases h : a / b = 0
    · rw [if_pos h]
      simp
    · rw [if_neg h, List.length_cons]
      have := ih (a / b)
      omega
theorem R_turn_l {g o st : Nat} : ∀ (k n i j : Nat) (S : St) (l : List Int32) (ov : Int32), j + 1 ≤ i + 2 * k + 1 → k < n → i ≤ j + 1 → j + 1 ≤ l.length → j < 2 ^ 30 → Rw S o l ov → ∃ S', m_Row_turnFrom_9 g n S o (nI i) (nI j) = some S' ∧ Fr o S S' ∧ Rw S' o (l.take i ++ (seg l i (j + 1 - i)).reverse ++ l.drop (j + 1)) ov := by
  intro k
  induction k with
  | zero =>
    intro n i j S l ov h1 hn h2 h3 h4 w
    obtain ⟨n, rfl⟩ : ∃ m, n = m + 1 := ⟨n - 1, by omega⟩
    refine ⟨S, ?_, Fr.rf, ?_⟩
    · show b_Row_turnFrom_9 g (m_Row_turnFrom_9 g n) S o (nI i) (nI j) = _
      unfold b_Row_turnFrom_9
      rw [if_pos (nI_le (by omega) (by omega))]
    · have : l.take i ++ (seg l i (j + 1 - i)).reverse ++ l.drop (j + 1) = l := by
        have hs : (seg l i (j + 1 - i)).reverse = seg l i (j + 1 - i) := by
          have hl : (seg l i (j + 1 - i)).length = j + 1 - i := seg_len (by omega)
          match hq : seg l i (j + 1 - i) with
          | [] => rfl
          | [a] => rfl
          | a :: b :: c => rw [hq, List.length_cons, List.length_cons] at hl; omega
        rw [hs]
        unfold seg
        have e : (l.drop i).take (j + 1 - i) ++ l.drop (j + 1) = l.drop i := by
          have : l.drop (j + 1) = (l.drop i).drop (j + 1 - i) := by rw [List.drop_drop]; congr 1; omega
          rw [this, List.take_append_drop]
        rw [List.append_assoc, e, List.take_append_drop]
      rw [this]
      exact w
  | succ k ih =>
    intro n i j S l ov h1 hn h2 h3 h4 w
    obtain ⟨n, rfl⟩ : ∃ m, n = m + 1 := ⟨n - 1, by omega⟩
    by_cases hij : j ≤ i
    · obtain ⟨S', a, b, c⟩ := ih (n + 1) i j S l ov (by omega) (by omega) h2 h3 h4 w
      exact ⟨S', a, b, c⟩
    · have hb := lim_b o w.1.2 w.1.1
      have w5 := w.2.2.2.2.2.1
      have w4 := w.2.2.2.2.1
      have w7 := w.2.2.2.2.2.2.2.1
      have w8 := w.2.2.2.2.2.2.2.2
      obtain ⟨f1, r1⟩ := R_put (v := l.getD j 0) w (show i < l.length by omega)
      obtain ⟨f2, r2⟩ := R_put (v := l.getD i 0) r1 (show j < (l.set i (l.getD j 0)).length by rw [List.length_set]; omega)
      have hL : ((l.set i (l.getD j 0)).set j (l.getD i 0)).length = l.length := by rw [List.length_set, List.length_set]
      obtain ⟨S', a, b, c⟩ := ih n (i + 1) (j - 1) _ _ ov (by omega) (by omega) (by omega) (by rw [hL]; omega) (by omega) r2
      refine ⟨S', ?_, (f1.tr f2).tr b, ?_⟩
      · show b_Row_turnFrom_9 g (m_Row_turnFrom_9 g n) S o (nI i) (nI j) = _
        unfold b_Row_turnFrom_9
        rw [if_neg (nI_ge (by omega) (by omega)), aI_at (by omega) (by omega), w8 i (by omega), Option.bind_some, aI_at (by omega) (by omega), w8 j (by omega), Option.bind_some, tI_at (by omega) (by omega), Option.bind_some]
        rw [tI_at (S := sF S (o + 24) i (l.getD j 0)) (show j < gN S (o + 24) by omega) (show gN S (o + 24) < 2 ^ 31 by omega), Option.bind_some, lt_d, lt_d, show nI i + 1 = nI (i + 1) from nI_1 i]
        have e : nI j + (-1 : Int32) = nI (j - 1) := by
          rw [← nI_sub (b := 1) (by omega)]
          exact (Int32.sub_eq_add_neg _ _).symm
        rw [e]
        exact a
      · have e : ((l.set i (l.getD j 0)).set j (l.getD i 0)).take (i + 1) ++ (seg ((l.set i (l.getD j 0)).set j (l.getD i 0)) (i + 1) (j - 1 + 1 - (i + 1))).reverse ++ ((l.set i (l.getD j 0)).set j (l.getD i 0)).drop (j - 1 + 1) = l.take i ++ (seg l i (j + 1 - i)).reverse ++ l.drop (j + 1) := by
          have hi : i < l.length := by omega
          have hj : j < l.length := by omega
          apply List.ext_getElem?
          intro q
          have hl1 : (((l.set i (l.getD j 0)).set j (l.getD i 0)).take (i + 1)).length = i + 1 := by rw [List.length_take, hL]; omega
          have hl2 : (seg ((l.set i (l.getD j 0)).set j (l.getD i 0)) (i + 1) (j - 1 + 1 - (i + 1))).length = j - i - 1 := by rw [seg_len (by rw [hL]; omega)]; omega
          have hl3 : (l.take i).length = i := by rw [List.length_take]; omega
          have hl4 : (seg l i (j + 1 - i)).length = j + 1 - i := seg_len (by omega)
          have gd : ∀ a, l.getD a 0 = (l[a]?).getD 0 := fun a => rfl
          have gi : l[i]? = some (l.getD i 0) := by simp [hi]
          have gj : l[j]? = some (l.getD j 0) := by simp [hj]
          simp only [List.getElem?_append, List.length_append, List.length_reverse, hl1, hl2, hl3, hl4]
          by_cases q1 : q < i
          · rw [if_pos (by omega), if_pos (by omega), if_pos (by omega), if_pos q1]
            simp [List.getElem?_take, List.getElem?_set, show q < i + 1 by omega, show ¬ j = q by omega, show ¬ i = q by omega, q1]
          · by_cases q2 : q = i
            · subst q2
              rw [if_pos (by omega), if_pos (by omega), if_pos (by omega), if_neg (by omega), List.getElem?_reverse (by rw [hl4]; omega), hl4]
              unfold seg
              rw [List.getElem?_take, if_pos (by omega), List.getElem?_take, if_pos (by omega), List.getElem?_drop, List.getElem?_set, if_neg (by omega), List.getElem?_set, if_pos rfl, if_pos hi, show q + (j + 1 - q - 1 - (q - q)) = j by omega, gj]
            · by_cases q3 : q < j
              · rw [if_pos (by omega), if_neg (by omega), if_pos (by omega), if_neg (by omega), List.getElem?_reverse (by rw [hl2]; omega), List.getElem?_reverse (by rw [hl4]; omega), hl2, hl4]
                unfold seg
                rw [List.getElem?_take, if_pos (by omega), List.getElem?_drop, List.getElem?_take, if_pos (by omega), List.getElem?_drop, List.getElem?_set, if_neg (by omega), List.getElem?_set, if_neg (by omega)]
                congr 1
                omega
              · by_cases q4 : q = j
                · subst q4
                  rw [if_neg (by omega), if_pos (by omega), if_neg (by omega), List.getElem?_reverse (by rw [hl4]; omega), hl4]
                  unfold seg
                  rw [List.getElem?_drop, List.getElem?_set, if_pos (by omega), if_pos (by rw [List.length_set]; exact hj), List.getElem?_take, if_pos (by omega), List.getElem?_drop, show i + (q + 1 - i - 1 - (q - i)) = i by omega, gi]
                · rw [if_neg (by omega), if_neg (by omega), List.getElem?_drop, List.getElem?_drop, List.getElem?_set, if_neg (by omega), List.getElem?_set, if_neg (by omega)]
                  congr 1
                  omega
        rw [e] at c
        exact c
