/-! the reference: emitNumber and its like -/
theorem emit_37 {g : Nat} {S S' : St} {u : Int32} (h : m_emit g S u = some S') : ∀ i, gF S' 37 i = gF S 37 i := by
  unfold m_emit at h
  by_cases q : (600 : Int32) ≤ gI S 0 57
  · rw [if_pos q] at h
    have := Option.some.inj h
    subst this
    intro i
    rfl
  · rw [if_neg q] at h
    obtain ⟨S1, h1, h⟩ := bnd h
    obtain ⟨-, rfl⟩ := tI_some h1
    have := Option.some.inj h
    subst this
    intro i
    simp [gF, sF, sI]
theorem E_down {g : Nat} {d : Nat → Nat} : ∀ (k n : Nat) (S : St) (v : List Int32), k < n → LM S → Out S v → (∀ j, j < k → gF S 37 j = nI (d j)) → (∀ j, j < k → d j < 36) → v.length + k < 2 ^ 31 → k ≤ 66 → ∃ S', m_emitNumber_79 g n S (nI k + (-1 : Int32)) = some S' ∧ FE S S' ∧ Out S' (v ++ ((List.range k).map (fun j => dch (d j))).reverse) := by
  intro k
  induction k with
  | zero =>
    intro n S v hn hm w hd hd2 hv hk
    obtain ⟨n, rfl⟩ : ∃ m, n = m + 1 := ⟨n - 1, by omega⟩
    refine ⟨S, ?_, FE.rf, by simpa using w⟩
    show b_emitNumber_79 g (m_emitNumber_79 g n) S (nI 0 + (-1 : Int32)) = _
    unfold b_emitNumber_79
    rw [if_pos (by decide +kernel)]
  | succ k ih =>
    intro n S v hn hm w hd hd2 hv hk
    obtain ⟨n, rfl⟩ : ∃ m, n = m + 1 := ⟨n - 1, by omega⟩
    have e0 : nI (k + 1) + (-1 : Int32) = nI k := by
      have := nI_sub (a := k + 1) (b := 1) (by omega)
      rw [← Int32.sub_eq_add_neg]
      exact this
    have h37 : gN S 37 = 66 := LMn hm 37
    obtain ⟨S1, a1, b1, c1⟩ := O_add (g := g) (u := dch (d k)) w hm (by omega)
    have hk7 := emit_37 a1
    obtain ⟨S2, a2, b2, c2⟩ := ih n S1 _ (by omega) (hm.fe b1) c1 (fun j hj => by rw [hk7]; exact hd j (by omega)) (fun j hj => hd2 j (by omega)) (by rw [List.length_append, List.length_singleton]; omega) (by omega)
    refine ⟨S2, ?_, b1.tr b2, ?_⟩
    · show b_emitNumber_79 g (m_emitNumber_79 g n) S (nI (k + 1) + (-1 : Int32)) = _
      unfold b_emitNumber_79
      have hdk := hd2 k (by omega)
      rw [e0, if_neg (nI_pos (by omega)), aI_at (by omega) (by omega), hd k (by omega), Option.bind_some, Option.bind_some, Option.bind_some]
      have st : ∀ y : Int32, y = dch (d k) → m_emitNumber_123 g (m_emitNumber_79 g n) S (nI k) y = some S2 := by
        intro y hy
        unfold m_emitNumber_123
        rw [hy, a1, Option.bind_some, lt_d]
        exact a2
      by_cases h10 : 10 ≤ d k
      · rw [if_pos (show (10 : Int32) ≤ nI (d k) from nI_le (a := 10) h10 (by omega))]
        exact st _ (by unfold dch; rw [if_pos h10])
      · rw [if_neg (show ¬ (10 : Int32) ≤ nI (d k) from nI_ge (b := 10) (by omega) (by omega))]
        exact st _ (by unfold dch; rw [if_neg h10])
    · rw [List.append_assoc] at c2
      rw [List.range_succ, List.map_append, List.reverse_append]
      exact c2
/-- what emitNumber does behind its first loop -/
def eFin (g : Nat) (S : St) (x1 : Int64) (k : Nat) : Option St := if x1 < (0 : Int64) then (m_emit g S (45 : Int32)).bind fun S_2 => m_emitNumber_79 g g S_2 (nI k - 1) else m_emitNumber_79 g g S (nI k - 1)
theorem E_up {g b : Nat} {x1 : Int64} {v : List Int32} (hb : 2 ≤ b) (hb2 : b ≤ 36) : ∀ (f n a : Nat) (acc : List Nat) (S : St) (x5 : Int64), acc.length + f = 64 → f < n → (x5.toInt = (a : Int) ∧ a < 2 ^ 63 ∨ x5.toInt = -(a : Int) ∧ a ≤ 2 ^ 63) → a < 2 ^ f → LM S → Out S v → (∀ j, j < acc.length → gF S 37 j = nI (acc.getD j 0)) → ∃ S', m_emitNumber_6 g n S x1 (nI b) (nI acc.length) x5 = eFin g S' x1 (acc ++ (if a = 0 ∧ acc.length ≠ 0 then [] else dgL b f a)).length ∧ FE S S' ∧ Out S' v ∧ ∀ j, j < (acc ++ (if a = 0 ∧ acc.length ≠ 0 then [] else dgL b f a)).length → gF S' 37 j = nI ((acc ++ (if a = 0 ∧ acc.length ≠ 0 then [] else dgL b f a)).getD j 0) := by
  have hbq : ((nI b).toInt64).toInt = (b : Int) := by rw [Int32.toInt_toInt64, nI_toInt (by omega)]
  have hq0 : ¬ (nI b).toInt64 = 0 := by
    intro q
    rw [q] at hbq
    have : (0 : Int64).toInt = 0 := by decide +kernel
    omega
  have z64 : (0 : Int64).toInt = 0 := by decide +kernel
  have fin : ∀ (n : Nat) (acc : List Nat) (S : St), acc.length ≠ 0 → acc.length ≤ 64 → m_emitNumber_6 g (n + 1) S x1 (nI b) (nI acc.length) 0 = eFin g S x1 acc.length := by
    intro n acc S h0 h64
    show b_emitNumber_6 g (m_emitNumber_6 g n) S x1 (nI b) (nI acc.length) 0 = _
    unfold b_emitNumber_6 eFin
    rw [if_neg (show ¬ nI acc.length = 0 from nI_ne0 (by omega) (by omega)), if_pos rfl]
    rfl
  intro f
  induction f with
  | zero =>
    intro n a acc S x5 hi hn hx ha hm w hacc
    obtain ⟨n, rfl⟩ : ∃ m, n = m + 1 := ⟨n - 1, by omega⟩
    have ha0 : a = 0 := by omega
    subst ha0
    have hx0 : x5 = 0 := by
      apply Int64.toInt_inj.mp
      rw [z64]
      omega
    subst hx0
    rw [if_pos ⟨rfl, by omega⟩, List.append_nil]
    exact ⟨S, fin n acc S (by omega) (by omega), FE.rf, w, hacc⟩
  | succ f ih =>
    intro n a acc S x5 hi hn hx ha hm w hacc
    obtain ⟨n, rfl⟩ : ∃ m, n = m + 1 := ⟨n - 1, by omega⟩
    by_cases hend : a = 0 ∧ acc.length ≠ 0
    · obtain ⟨rfl, h0⟩ := hend
      have hx0 : x5 = 0 := by
        apply Int64.toInt_inj.mp
        rw [z64]
        omega
      subst hx0
      rw [if_pos ⟨rfl, h0⟩, List.append_nil]
      exact ⟨S, fin n acc S h0 (by omega), FE.rf, w, hacc⟩
    · rw [if_neg hend]
      have h37 : gN S 37 = 66 := LMn hm 37
      have hm36 : a % b < b := Nat.mod_lt _ (by omega)
      have hdl : a / b ≤ a := Nat.div_le_self _ _
      have ha2 : a / b < 2 ^ f := by
        have : a / b ≤ a / 2 := Nat.div_le_div_left hb (by decide)
        rw [Nat.pow_succ] at ha
        omega
      -- one digit
      have key : ∃ y2 : Int64, y2.toInt = ((a % b : Nat) : Int) ∧ ((x5 / (nI b).toInt64).toInt = ((a / b : Nat) : Int) ∧ a / b < 2 ^ 63 ∨ (x5 / (nI b).toInt64).toInt = -((a / b : Nat) : Int) ∧ a / b ≤ 2 ^ 63) ∧ m_emitNumber_18 g (m_emitNumber_6 g n) S x1 (nI b) (nI acc.length) x5 = m_emitNumber_46 g (m_emitNumber_6 g n) S x1 (nI b) (nI acc.length) x5 (nI acc.length) y2 := by
        unfold m_emitNumber_18
        rw [if_neg hq0, lt_d]
        rcases hx with ⟨h1, h2⟩ | ⟨h1, h2⟩
        · obtain ⟨d1, d2⟩ := dv_p h1 h2 hbq hb hb2
          refine ⟨_, d2, Or.inl ⟨d1, by omega⟩, ?_⟩
          rw [if_neg (fun z => by rw [Int64.lt_iff_toInt_lt, z64, d2] at z; omega)]
        · obtain ⟨d1, d2, d3⟩ := dv_n h1 h2 hbq hb hb2
          by_cases hz : x5 - x5 / (nI b).toInt64 * (nI b).toInt64 < (0 : Int64)
          · rw [if_pos hz]
            exact ⟨_, d3, Or.inr ⟨d1, by omega⟩, rfl⟩
          · rw [if_neg hz]
            have : ¬ (x5 - x5 / (nI b).toInt64 * (nI b).toInt64).toInt < (0 : Int64).toInt := fun z => hz (Int64.lt_iff_toInt_lt.mpr z)
            rw [z64, d2] at this
            exact ⟨_, by rw [d2]; omega, Or.inr ⟨d1, by omega⟩, rfl⟩
      obtain ⟨y2, k1, k2, k3⟩ := key
      have e6 : m_emitNumber_6 g (n + 1) S x1 (nI b) (nI acc.length) x5 = m_emitNumber_18 g (m_emitNumber_6 g n) S x1 (nI b) (nI acc.length) x5 := by
        show b_emitNumber_6 g (m_emitNumber_6 g n) S x1 (nI b) (nI acc.length) x5 = _
        unfold b_emitNumber_6
        by_cases h0 : acc.length = 0
        · rw [h0, if_pos (show nI 0 = 0 from rfl)]
        · rw [if_neg (show ¬ nI acc.length = 0 from nI_ne0 (by omega) (by omega)), if_neg]
          intro q
          have q2 : a = 0 := by
            rw [q, z64] at hx
            omega
          exact hend ⟨q2, h0⟩
      obtain ⟨S', a1, b1, c1, d1⟩ := ih n (a / b) (acc ++ [a % b]) (sF S 37 acc.length (nI (a % b))) (x5 / (nI b).toInt64) (by rw [List.length_append, List.length_singleton]; omega) (by omega) k2 ha2 (hm.of rfl) ⟨w.1, fun i h1 h2 => by rw [← w.2 i h1 h2]; simp [gF, sF]⟩ (fun j hj => by
        rw [List.length_append, List.length_singleton] at hj
        by_cases hq : j = acc.length
        · subst hq
          simp [gF, sF]
        · have hlt : j < acc.length := by omega
          have := hacc j hlt
          simp only [gF, sF] at this ⊢
          rw [if_neg (by omega), this]
          simp [List.getElem?_append_left hlt])
      have hl1 : (acc ++ [a % b]).length = acc.length + 1 := by rw [List.length_append, List.length_singleton]
      have e7 : (acc ++ [a % b]) ++ (if a / b = 0 ∧ (acc ++ [a % b]).length ≠ 0 then [] else dgL b f (a / b)) = acc ++ dgL b (f + 1) a := by
        rw [List.append_assoc]
        congr 1
        unfold dgL
        by_cases h0 : a / b = 0
        · rw [if_pos ⟨h0, by omega⟩, if_pos h0]
          rfl
        · rw [if_neg (fun z => h0 z.1), if_neg h0]
          cases f with
          | zero => exact absurd (Nat.lt_one_iff.mp (show a / b < 1 from ha2)) h0
          | succ f => rfl
      rw [e7] at a1 d1
      refine ⟨S', ?_, FE.tr (S1 := sF S 37 acc.length (nI (a % b))) ⟨fun k hk => rfl, rfl, rfl, rfl, fun q h1 h2 i => by simp [gF, sF, h2], rfl⟩ b1, c1, d1⟩
      rw [e6, k3]
      unfold m_emitNumber_46
      rw [j32 k1 (by omega), tI_at (by omega) (by omega), Option.bind_some, if_neg hq0, lt_d, lt_d, show nI acc.length + 1 = nI (acc.length + 1) from nI_1 _]
      rw [hl1] at a1
      exact a1
theorem dgL_lt {b : Nat} (hb : 2 ≤ b) : ∀ (f a : Nat), ∀ d ∈ dgL b f a, d < b := by
  intro f
  induction f with
  | zero => intro a d h; cases h
  | succ f ih =>
    intro a d h
    unfold dgL at h
    rcases List.mem_cons.mp h with rfl | h
    · exact Nat.mod_lt _ (by omega)
    · by_cases h0 : a / b = 0
      · rw [if_pos h0] at h
        cases h
      · rw [if_neg h0] at h
        exact ih _ d h
theorem O_number {g b : Nat} {S : St} {v : List Int32} {x : Int64} (hg : 100000 ≤ g) (hb : 2 ≤ b) (hb2 : b ≤ 36) (hm : LM S) (w : Out S v) (hv : v.length + 100 < 2 ^ 31) : ∃ S', m_emitNumber g S x (nI b) = some S' ∧ FE S S' ∧ Out S' (v ++ numU x b) := by
  have hx1 := x.toInt_lt
  have hx2 := x.le_toInt
  have hsg : x.toInt = ((x.toInt.natAbs : Nat) : Int) ∧ x.toInt.natAbs < 2 ^ 63 ∨ x.toInt = -((x.toInt.natAbs : Nat) : Int) ∧ x.toInt.natAbs ≤ 2 ^ 63 := by
    by_cases h : 0 ≤ x.toInt
    · left; omega
    · right; omega
  obtain ⟨S1, a1, b1, c1, d1⟩ := E_up (g := g) (x1 := x) (v := v) hb hb2 64 g x.toInt.natAbs [] S x rfl (by omega) hsg (by omega) hm w (fun j hj => absurd hj (Nat.not_lt_zero _))
  rw [if_neg (fun z => z.2 rfl), List.nil_append] at a1 d1
  have hlen := dgL_len (b := b) 64 x.toInt.natAbs
  have hl := dgL_lt hb 64 x.toInt.natAbs
  have mp : ((List.range (dgL b 64 x.toInt.natAbs).length).map (fun j => dch ((dgL b 64 x.toInt.natAbs).getD j 0))) = (dgL b 64 x.toInt.natAbs).map dch := by
    generalize dgL b 64 x.toInt.natAbs = ds
    apply List.ext_getElem?
    intro i
    by_cases hi : i < ds.length
    · simp [hi]
    · simp [hi]
  have hd2 : ∀ j, j < (dgL b 64 x.toInt.natAbs).length → (dgL b 64 x.toInt.natAbs).getD j 0 < 36 := by
    intro j hj
    have : (dgL b 64 x.toInt.natAbs).getD j 0 ∈ dgL b 64 x.toInt.natAbs := by
      rw [List.getD_eq_getElem?_getD, List.getElem?_eq_getElem hj]
      exact List.getElem_mem hj
    have := hl _ this
    omega
  have e0 : m_emitNumber g S x (nI b) = eFin g S1 x (dgL b 64 x.toInt.natAbs).length := a1
  rw [e0]
  unfold eFin numU
  by_cases hn : x < 0
  · rw [if_pos (show x < (0 : Int64) from hn), if_pos hn]
    obtain ⟨S2, a2, b2, c2⟩ := O_add (g := g) (u := 45) c1 (hm.fe b1) (by omega)
    obtain ⟨S3, a3, b3, c3⟩ := E_down (g := g) (d := fun j => (dgL b 64 x.toInt.natAbs).getD j 0) (dgL b 64 x.toInt.natAbs).length g S2 _ (by omega) ((hm.fe b1).fe b2) c2 (fun j hj => by rw [emit_37 a2]; exact d1 j hj) hd2 (by rw [List.length_append, List.length_singleton]; omega) (by omega)
    rw [mp, List.append_assoc] at c3
    refine ⟨S3, ?_, (b1.tr b2).tr b3, c3⟩
    rw [a2, Option.bind_some, Int32.sub_eq_add_neg]
    exact a3
  · rw [if_neg (show ¬ x < (0 : Int64) from hn), if_neg hn]
    obtain ⟨S3, a3, b3, c3⟩ := E_down (g := g) (d := fun j => (dgL b 64 x.toInt.natAbs).getD j 0) (dgL b 64 x.toInt.natAbs).length g S1 _ (by omega) (hm.fe b1) c1 d1 hd2 (by omega) (by omega)
    rw [mp] at c3
    refine ⟨S3, ?_, b1.tr b3, c3⟩
    rw [Int32.sub_eq_add_neg]
    exact a3
