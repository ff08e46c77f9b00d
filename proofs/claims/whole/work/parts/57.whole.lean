/-! a whole's digits, on both sides -/
theorem R_turn {g o st : Nat} {S : St} {l : List Int32} {ov : Int32} (hg : 100000 ≤ g) (w : Rw S o l ov) (hst : st < 2 ^ 30) : ∃ S' l', m_Row_turnFrom g S o (nI st) = some S' ∧ Fr o S S' ∧ Rw S' o l' ov ∧ (st ≤ l.length → l' = l.take st ++ (l.drop st).reverse) := by
  have hb := lim_b o w.1.2 w.1.1
  have w4 := w.2.2.2.2.1
  unfold m_Row_turnFrom
  rw [w.2.2.1, lt_d]
  by_cases h : l.length ≤ st
  · refine ⟨S, l, ?_, Fr.rf, w, fun hs => ?_⟩
    · obtain ⟨n, rfl⟩ : ∃ m, g = m + 1 := ⟨g - 1, by omega⟩
      show b_Row_turnFrom_9 (n + 1) (m_Row_turnFrom_9 (n + 1) n) S o (nI st) (nI l.length - 1) = _
      unfold b_Row_turnFrom_9
      rw [if_pos]
      by_cases h0 : l.length = 0
      · rw [h0, Int32.le_iff_toInt_le, nI_toInt (by omega), show (nI 0 - 1).toInt = -1 from by decide +kernel]
        omega
      · rw [show nI l.length - 1 = nI (l.length - 1) from nI_sub (b := 1) (by omega)]
        exact nI_le (by omega) (by omega)
    · rw [List.take_of_length_le h, List.drop_of_length_le h]
      simp
  · rw [show nI l.length - 1 = nI (l.length - 1) from nI_sub (b := 1) (by omega)]
    obtain ⟨S', a, b, c⟩ := R_turn_l (g := g) (o := o) (st := st) l.length g st (l.length - 1) S l ov (by omega) (by omega) (by omega) (by omega) (by omega) w
    refine ⟨S', _, a, b, c, fun _ => ?_⟩
    rw [show l.length - 1 + 1 = l.length by omega, List.drop_of_length_le (Nat.le_refl _), List.append_nil]
    congr 2
    unfold seg
    rw [List.take_of_length_le (by rw [List.length_drop]; omega)]
theorem W_loop {g o b : Nat} {x1 x5 : Int64} {x7 : Int32} (hb : 2 ≤ b) (hb2 : b ≤ 36) (hq : x5.toInt = (b : Int)) : ∀ (f n i a : Nat) (S : St) (v : List Int32) (x8 : Int64), i + f = 64 → f < n → x8.toInt = -(a : Int) → a ≤ 2 ^ 63 → Scr S o v → gOK S → ∃ S', m_Row_addWhole_48 g n S o x1 x5 x7 x8 (nI i) = m_Row_addWhole_114 g S' o x1 x7 ∧ Fr o S S' ∧ Scr S' o (v ++ (dgL b f a).map dch) := by
  have hq0 : ¬ x5 = 0 := by
    intro q
    rw [q] at hq
    have : (0 : Int64).toInt = 0 := by decide +kernel
    omega
  intro f
  induction f with
  | zero =>
    intro n i a S v x8 hi hn hx ha w hk
    obtain ⟨n, rfl⟩ : ∃ m, n = m + 1 := ⟨n - 1, by omega⟩
    refine ⟨S, ?_, Fr.rf, by simpa [dgL] using w⟩
    show b_Row_addWhole_48 g (m_Row_addWhole_48 g n) S o x1 x5 x7 x8 (nI i) = _
    unfold b_Row_addWhole_48
    rw [if_pos (show (64 : Int32) ≤ nI i from nI_le (a := 64) (by omega) (by omega))]
  | succ f ih =>
    intro n i a S v x8 hi hn hx ha w hk
    obtain ⟨n, rfl⟩ : ∃ m, n = m + 1 := ⟨n - 1, by omega⟩
    obtain ⟨d1, d2, d3⟩ := dv_n hx ha hq hb hb2
    have hm : a % b < b := Nat.mod_lt _ (by omega)
    have e1 : (-(x8 - x8 / x5 * x5)).toInt32 = nI (a % b) := j32 d3 (by omega)
    obtain ⟨S1, a1, b1, c1⟩ := Scr_add (g := g) (u := dch (a % b)) w hk
    have st : b_Row_addWhole_48 g (m_Row_addWhole_48 g n) S o x1 x5 x7 x8 (nI i) = m_Row_addWhole_88 g (m_Row_addWhole_48 g n) S o x1 x5 x7 x8 (nI i) o (dch (a % b)) := by
      unfold b_Row_addWhole_48
      rw [if_neg (show ¬ (64 : Int32) ≤ nI i from nI_ge (b := 64) (by omega) (by omega)), if_neg hq0, e1, lt_d]
      unfold dch
      by_cases hd : 10 ≤ a % b
      · rw [if_pos (show (10 : Int32) ≤ nI (a % b) from nI_le (a := 10) hd (by omega)), if_pos hd]
      · rw [if_neg (show ¬ (10 : Int32) ≤ nI (a % b) from nI_ge (b := 10) (by omega) (by omega)), if_neg hd]
    have hz : x8 / x5 = 0 ↔ a / b = 0 := by
      rw [← Int64.toInt_inj, d1, show (0 : Int64).toInt = 0 from by decide +kernel]
      omega
    have hdl : a / b ≤ a := Nat.div_le_self _ _
    have go : m_Row_addWhole_48 g (n + 1) S o x1 x5 x7 x8 (nI i) = m_Row_addWhole_91 g (m_Row_addWhole_48 g n) S1 o x1 x5 x7 x8 (nI i) := by
      show b_Row_addWhole_48 g (m_Row_addWhole_48 g n) S o x1 x5 x7 x8 (nI i) = _
      rw [st]
      unfold m_Row_addWhole_88
      rw [a1, Option.bind_some]
    rw [go]
    unfold m_Row_addWhole_91
    rw [if_neg hq0, lt_d]
    by_cases h0 : a / b = 0
    · rw [if_pos (hz.mpr h0)]
      refine ⟨S1, rfl, b1, ?_⟩
      unfold dgL
      rw [if_pos h0]
      exact c1
    · rw [if_neg (fun z => h0 (hz.mp z)), lt_d, show nI i + 1 = nI (i + 1) from nI_1 i]
      obtain ⟨S2, a2, b2, c2⟩ := ih n (i + 1) (a / b) S1 _ (x8 / x5) (by omega) (by omega) d1 (by omega) c1 (hk.fr b1)
      refine ⟨S2, a2, b1.tr b2, ?_⟩
      unfold dgL
      rw [if_neg h0, List.map_cons]
      rw [List.append_assoc] at c2
      exact c2
theorem Scr_whole23 {g o b : Nat} {S : St} {v : List Int32} {x x5 : Int64} (hg : 100000 ≤ g) (hb : 2 ≤ b) (hb2 : b ≤ 36) (hq : x5.toInt = (b : Int)) (w : Scr S o v) (hk : gOK S) (ho : o < 34) (ho2 : 10 ≤ o) : ∃ S', m_Row_addWhole_23 g S o x x5 = some S' ∧ Fr o S S' ∧ Scr S' o (v ++ numU x b) := by
  have hlim := lim_b o ho ho2
  have hx1 := x.toInt_lt
  have hx2 := x.le_toInt
  -- the start
  obtain ⟨st, hst, hst2, hst3⟩ : ∃ st, gI S o 2 = nI st ∧ st < 2 ^ 30 ∧ (v.length ≤ limC o → st = v.length) := by
    rcases w with ⟨h1, h2⟩ | ⟨h1, l, h2⟩
    · exact ⟨v.length, h2.2.2.1, by omega, fun _ => rfl⟩
    · have := h2.2.2.2.2.1
      exact ⟨l.length, h2.2.2.1, by omega, fun h => by omega⟩
  have run : ∀ (x8 : Int64), x8.toInt = -((x.toInt.natAbs : Nat) : Int) → ∃ S', m_Row_addWhole_48 g g S o x x5 (nI st) x8 (0 : Int32) = some S' ∧ Fr o S S' ∧ Scr S' o (v ++ numU x b) := by
    intro x8 hx8
    obtain ⟨S1, a1, b1, c1⟩ := W_loop (g := g) (o := o) (x1 := x) (x7 := nI st) hb hb2 hq 64 g 0 x.toInt.natAbs S v x8 (by omega) (by omega) hx8 (by omega) w hk
    have a1' : m_Row_addWhole_48 g g S o x x5 (nI st) x8 (0 : Int32) = m_Row_addWhole_114 g S1 o x (nI st) := a1
    rw [a1']
    have fin : ∀ (S2 : St) (t : List Int32), Fr o S1 S2 → Scr S2 o (v ++ t) → t.reverse = numU x b → ∃ S', m_Row_addWhole_126 g S2 o (nI st) = some S' ∧ Fr o S S' ∧ Scr S' o (v ++ numU x b) := by
      intro S2 t f2 s2 ht
      have hlen : (numU x b).length = t.length := by rw [← ht, List.length_reverse]
      rcases s2 with ⟨h1, h2⟩ | ⟨h1, l, h2⟩
      · obtain ⟨S3, l3, p1, p2, p3, p4⟩ := R_turn hg h2 hst2
        have hv : v.length ≤ limC o := by rw [List.length_append] at h1; omega
        have e := p4 (by rw [hst3 hv, List.length_append]; omega)
        rw [hst3 hv, List.take_left, List.drop_left, ht] at e
        subst e
        refine ⟨S3, ?_, (b1.tr f2).tr p2, Or.inl ⟨?_, p3⟩⟩
        · unfold m_Row_addWhole_126
          rw [p1]
          rfl
        · rw [List.length_append] at h1 ⊢
          omega
      · obtain ⟨S3, l3, p1, p2, p3, p4⟩ := R_turn hg h2 hst2
        refine ⟨S3, ?_, (b1.tr f2).tr p2, Or.inr ⟨?_, l3, p3⟩⟩
        · unfold m_Row_addWhole_126
          rw [p1]
          rfl
        · rw [List.length_append] at h1 ⊢
          omega
    unfold m_Row_addWhole_114
    by_cases hn : x < 0
    · obtain ⟨S2, a2, b2, c2⟩ := Scr_add (g := g) (u := 45) c1 (hk.fr b1)
      rw [if_pos (show x < (0 : Int64) from hn), a2, Option.bind_some]
      refine fin S2 ((dgL b 64 x.toInt.natAbs).map dch ++ [45]) b2 (by rw [List.append_assoc] at c2; exact c2) ?_
      unfold numU
      rw [if_pos hn, List.reverse_append]
      rfl
    · rw [if_neg (show ¬ x < (0 : Int64) from hn)]
      refine fin S1 ((dgL b 64 x.toInt.natAbs).map dch) Fr.rf c1 ?_
      unfold numU
      rw [if_neg hn]
      rfl
  unfold m_Row_addWhole_23
  rw [lt_d, hst]
  by_cases hp : (0 : Int64) < x
  · rw [if_pos hp, lt_d]
    have hp' := Int64.lt_iff_toInt_lt.mp hp
    rw [show (0 : Int64).toInt = 0 from by decide +kernel] at hp'
    refine run (-x) ?_
    rw [Int64.toInt_neg, bm64 (by omega) (by omega)]
    omega
  · rw [if_neg hp]
    have hp' : ¬ (0 : Int64).toInt < x.toInt := fun z => hp (Int64.lt_iff_toInt_lt.mpr z)
    rw [show (0 : Int64).toInt = 0 from by decide +kernel] at hp'
    exact run x (by omega)
/-- the base that is told: 10 if it is none -/
def bsN (x : Int64) : Nat := if x < 2 then 10 else if 36 < x then 10 else x.toInt.toNat
theorem bsN_b (x : Int64) : 2 ≤ bsN x ∧ bsN x ≤ 36 := by
  unfold bsN
  by_cases h1 : x < 2
  · rw [if_pos h1]
    omega
  · rw [if_neg h1]
    by_cases h2 : 36 < x
    · rw [if_pos h2]
      omega
    · rw [if_neg h2]
      have h1' : ¬ x.toInt < (2 : Int64).toInt := fun z => h1 (Int64.lt_iff_toInt_lt.mpr z)
      have h2' : ¬ (36 : Int64).toInt < x.toInt := fun z => h2 (Int64.lt_iff_toInt_lt.mpr z)
      rw [show (2 : Int64).toInt = 2 from by decide +kernel] at h1'
      rw [show (36 : Int64).toInt = 36 from by decide +kernel] at h2'
      omega
theorem Scr_whole {g o : Nat} {S : St} {v : List Int32} {x x3 : Int64} (hg : 100000 ≤ g) (w : Scr S o v) (hk : gOK S) (ho : o < 34) (ho2 : 10 ≤ o) : ∃ S', m_Row_addWhole g S o x x3 = some S' ∧ Fr o S S' ∧ Scr S' o (v ++ numU x (bsN x3)) := by
  unfold m_Row_addWhole bsN
  have h10 : (10 : Int64).toInt = ((10 : Nat) : Int) := by decide +kernel
  by_cases h1 : x3 < 2
  · rw [if_pos (show x3 < (2 : Int64) from h1), if_pos h1]
    exact Scr_whole23 hg (by omega) (by omega) h10 w hk ho ho2
  · rw [if_neg (show ¬ x3 < (2 : Int64) from h1), if_neg h1]
    by_cases h2 : 36 < x3
    · rw [if_pos (show (36 : Int64) < x3 from h2), if_pos h2]
      exact Scr_whole23 hg (by omega) (by omega) h10 w hk ho ho2
    · rw [if_neg (show ¬ (36 : Int64) < x3 from h2), if_neg h2]
      have h1' : ¬ x3.toInt < (2 : Int64).toInt := fun z => h1 (Int64.lt_iff_toInt_lt.mpr z)
      have h2' : ¬ (36 : Int64).toInt < x3.toInt := fun z => h2 (Int64.lt_iff_toInt_lt.mpr z)
      rw [show (2 : Int64).toInt = 2 from by decide +kernel] at h1'
      rw [show (36 : Int64).toInt = 36 from by decide +kernel] at h2'
      exact Scr_whole23 hg (by omega) (by omega) (by omega) w hk ho ho2
