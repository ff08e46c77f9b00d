/-! PURE: numbers, stores, Rows as lists -/
theorem lt_d {α β : Type} {a : α} {f : α → Option β} : lt a f = f a := rfl
theorem nI_sub {a b : Nat} (h : b ≤ a) : nI a - nI b = nI (a - b) := by
  have e := nI_add (a - b) b
  rw [Nat.sub_add_cancel h] at e
  rw [← e]
  exact Int32.add_sub_cancel _ _
theorem aI_at {S : St} {a i : Nat} (h : i < gN S a) (hN : gN S a < 2 ^ 31) : aI S a (nI i) = some (gF S a i) := by
  unfold aI
  rw [if_neg (nI_in h hN), nI_clamp (by omega)]
theorem aJ_at {S : St} {a i : Nat} (h : i < gN S a) (hN : gN S a < 2 ^ 31) : aJ S a (nI i) = some (gG S a i) := by
  unfold aJ
  rw [if_neg (nI_in h hN), nI_clamp (by omega)]
theorem tI_at {S : St} {a i : Nat} {v : Int32} (h : i < gN S a) (hN : gN S a < 2 ^ 31) : tI S a (nI i) v = some (sF S a i v) := by
  unfold tI
  rw [if_neg (nI_in h hN), nI_clamp (by omega)]
theorem tJ_at {S : St} {a i : Nat} {v : Int64} (h : i < gN S a) (hN : gN S a < 2 ^ 31) : tJ S a (nI i) v = some (sG S a i v) := by
  unfold tJ
  rw [if_neg (nI_in h hN), nI_clamp (by omega)]
theorem nI_m1 {a : Nat} (h : a < 2 ^ 31) : ¬ nI a = -1 := by
  intro q
  have := nI_pos h
  rw [q] at this
  exact this (by decide +kernel)
/-- the limits of the Rows, by code -/
def limC (o : Nat) : Nat := [3000, 3000, 24, 20, 3000, 24, 20, 400, 27000, 1465, 85, 24, 24, 400, 400, 400, 400, 400, 400, 400, 401, 401, 60, 60].getD (o - 10) 0
theorem lim_b : ∀ o, o < 34 → 10 ≤ o → 20 ≤ limC o ∧ limC o ≤ 27000 := by decide +kernel
/-- Row o holds the list l, and over is ov -/
def Rw (S : St) (o : Nat) (l : List Int32) (ov : Int32) : Prop := (10 ≤ o ∧ o < 34) ∧ gI S o 0 = nI (limC o) ∧ gI S o 2 = nI l.length ∧ gI S o 3 = ov ∧ l.length ≤ limC o ∧ l.length ≤ gN S (o + 24) ∧ 16 ≤ gN S (o + 24) ∧ gN S (o + 24) ≤ 2 * limC o + 16 ∧ ∀ i, i < l.length → gF S (o + 24) i = l.getD i 0
/-- nothing but Row o has changed -/
def Fr (o : Nat) (S S' : St) : Prop := (∀ x k, x ≠ o → gI S' x k = gI S x k) ∧ S'.2.1 = S.2.1 ∧ S'.2.2.1 = S.2.2.1 ∧ (∀ a, a ≠ o + 24 → gN S' a = gN S a ∧ ∀ i, gF S' a i = gF S a i) ∧ S'.2.2.2.2.2 = S.2.2.2.2.2
theorem Fr.rf {o : Nat} {S : St} : Fr o S S := ⟨fun _ _ _ => rfl, rfl, rfl, fun _ _ => ⟨rfl, fun _ => rfl⟩, rfl⟩
theorem Fr.tr {o : Nat} {S S1 S2 : St} (h1 : Fr o S S1) (h2 : Fr o S1 S2) : Fr o S S2 := ⟨fun x k hx => (h2.1 x k hx).trans (h1.1 x k hx), h2.2.1.trans h1.2.1, h2.2.2.1.trans h1.2.2.1, fun a ha => ⟨(h2.2.2.2.1 a ha).1.trans (h1.2.2.2.1 a ha).1, fun i => ((h2.2.2.2.1 a ha).2 i).trans ((h1.2.2.2.1 a ha).2 i)⟩, h2.2.2.2.2.trans h1.2.2.2.2⟩
theorem Rw.fr {o x : Nat} {S S' : St} {l : List Int32} {ov : Int32} (h : Fr o S S') (hx : x ≠ o) (w : Rw S x l ov) : Rw S' x l ov := by
  obtain ⟨h1, -, -, h4, -⟩ := h
  obtain ⟨w0, w1, w2, w3, w4, w5, w6, w7, w8⟩ := w
  have hc := h4 (x + 24) (by omega)
  unfold Rw
  rw [h1 x 0 hx, h1 x 2 hx, h1 x 3 hx, hc.1]
  exact ⟨w0, w1, w2, w3, w4, w5, w6, w7, fun i hi => (hc.2 i).trans (w8 i hi)⟩
theorem gOK.fr {o : Nat} {S S' : St} (h : Fr o S S') (w : gOK S) : gOK S' := by
  unfold gOK gR at *
  rw [h.2.2.1]
  exact w
def atR (l : List Int32) (x : Int32) : Int32 := if x < 0 then -1 else l.getD x.toNatClampNeg (-1)
theorem atR_nI {l : List Int32} {i : Nat} (h : i < 2 ^ 31) : atR l (nI i) = l.getD i (-1) := by
  unfold atR
  rw [if_neg (nI_pos h), nI_clamp h]
theorem getD_lt {l : List Int32} {i : Nat} {d d' : Int32} (h : i < l.length) : l.getD i d = l.getD i d' := by
  simp [h]
theorem R_at {g o : Nat} {S : St} {l : List Int32} {ov x : Int32} (w : Rw S o l ov) : m_Row_at g S o x = some (atR l x) := by
  obtain ⟨w0, w1, w2, w3, w4, w5, w6, w7, w8⟩ := w
  have hb := lim_b o w0.2 w0.1
  unfold m_Row_at atR
  by_cases h : x < 0
  · rw [if_pos h, if_pos h]
  · rw [if_neg h, if_neg h]
    obtain ⟨i, hi, rfl⟩ := nI_of h
    rw [w2, nI_clamp hi]
    by_cases hl : i < l.length
    · rw [if_pos (nI_lt hl (by omega)), aI_at (by omega) (by omega), w8 i hl]
      show some _ = _
      rw [getD_lt hl]
    · rw [if_neg (nI_nlt (by omega) hi)]
      simp [List.getElem?_eq_none (show l.length ≤ i by omega)]
theorem R_clear {g o : Nat} {S : St} {l : List Int32} {ov : Int32} (w : Rw S o l ov) : ∃ S', m_Row_clear g S o = some S' ∧ Fr o S S' ∧ Rw S' o [] 0 := by
  obtain ⟨w0, w1, w2, w3, w4, w5, w6, w7, w8⟩ := w
  refine ⟨_, rfl, ⟨fun x k hx => by simp [gI, sI, hx], rfl, rfl, fun a ha => ⟨rfl, fun i => rfl⟩, rfl⟩, w0, ?_, ?_, ?_, Nat.zero_le _, Nat.zero_le _, w6, w7, fun i hi => absurd hi (Nat.not_lt_zero _)⟩
  · rw [← w1]
    simp [gI, sI]
  · simp [gI, sI, nI]
  · simp [gI, sI]
theorem R_shorten {g o n : Nat} {S : St} {l : List Int32} {ov : Int32} (w : Rw S o l ov) (hn : n < 2 ^ 31) : ∃ S', m_Row_shorten g S o (nI n) = some S' ∧ Fr o S S' ∧ Rw S' o (l.take n) ov := by
  have w' := w
  obtain ⟨w0, w1, w2, w3, w4, w5, w6, w7, w8⟩ := w
  have hb := lim_b o w0.2 w0.1
  unfold m_Row_shorten
  rw [if_neg (nI_pos hn), w2]
  by_cases h : l.length ≤ n
  · rw [if_pos (nI_le h hn), List.take_of_length_le h]
    exact ⟨S, rfl, Fr.rf, w'⟩
  · rw [if_neg (nI_ge (by omega) (by omega))]
    have hl : (l.take n).length = n := by rw [List.length_take]; omega
    refine ⟨_, rfl, ⟨fun x k hx => by simp [gI, sI, hx], rfl, rfl, fun a ha => ⟨rfl, fun i => rfl⟩, rfl⟩, w0, ?_, ?_, ?_, by omega, ?_, w6, w7, fun i hi => ?_⟩
    · rw [← w1]
      simp [gI, sI]
    · rw [hl]
      simp [gI, sI]
    · rw [← w3]
      simp [gI, sI]
    · rw [hl]
      exact Nat.le_trans (by omega) w5
    · rw [hl] at hi
      have := w8 i (by omega)
      show gF S (o + 24) i = _
      rw [this]
      simp [List.getElem?_take, hi]
theorem R_shorten0 {g o : Nat} {S : St} {x : Int32} (h : x < 0) : m_Row_shorten g S o x = some S := by
  unfold m_Row_shorten
  rw [if_pos h]
theorem R_put {o i : Nat} {S : St} {l : List Int32} {ov v : Int32} (w : Rw S o l ov) (hi : i < l.length) : Fr o S (sF S (o + 24) i v) ∧ Rw (sF S (o + 24) i v) o (l.set i v) ov := by
  obtain ⟨w0, w1, w2, w3, w4, w5, w6, w7, w8⟩ := w
  refine ⟨⟨fun x k hx => rfl, rfl, rfl, fun a ha => ⟨rfl, fun j => by simp [gF, sF, ha]⟩, rfl⟩, w0, w1, ?_, w3, ?_, ?_, w6, w7, fun j hj => ?_⟩
  · rw [List.length_set]
    exact w2
  · rw [List.length_set]
    exact w4
  · rw [List.length_set]
    exact w5
  · rw [List.length_set] at hj
    have := w8 j hj
    by_cases e : j = i
    · subst e
      simp [gF, sF, hj]
    · have e2 : ¬ i = j := fun q => e q.symm
      simp only [gF, sF] at this ⊢
      rw [if_neg (by omega), this]
      simp [List.getElem?_set, e2]
theorem R_change {g o i : Nat} {S : St} {l : List Int32} {ov v : Int32} (w : Rw S o l ov) (hi : i < l.length) : ∃ S', m_Row_change g S o (nI i) v = some S' ∧ Fr o S S' ∧ Rw S' o (l.set i v) ov := by
  have hp := R_put (v := v) w hi
  obtain ⟨w0, w1, w2, w3, w4, w5, w6, w7, w8⟩ := w
  have hb := lim_b o w0.2 w0.1
  unfold m_Row_change
  rw [if_neg (nI_pos (by omega)), w2, if_neg (nI_ge hi (by omega)), tI_at (by omega) (by omega)]
  exact ⟨_, rfl, hp⟩
theorem nq_clamp2 {n : Nat} (h : 2 * n < 2 ^ 31) : (2 : Int32) * nI n = nI (2 * n) := (Int32.ofNat_mul 2 n).symm
theorem R_gro {o n : Nat} {S : St} {l : List Int32} {ov : Int32} (w : Rw S o l ov) (hk : gOK S) (h1 : 2 * gN S (o + 24) ≤ n) (h2 : n ≤ 2 * limC o) : ∃ S', gro S o (nI n) = some S' ∧ Fr o S S' ∧ Rw S' o l ov ∧ gN S' (o + 24) = n := by
  obtain ⟨w0, w1, w2, w3, w4, w5, w6, w7, w8⟩ := w
  have hb := lim_b o w0.2 w0.1
  have hc : (nI n).toNatClampNeg = n := nI_clamp (by omega)
  unfold gro
  rw [hc, if_pos ⟨nI_pos (by omega), by omega, h1, by omega, hk⟩]
  have hN : gN (sM S (o + 24) n (cpf S (o + 24))) (o + 24) = n := by simp [gN, sM]
  refine ⟨_, rfl, ⟨fun x k hx => rfl, rfl, rfl, fun a ha => ⟨by simp [gN, sM, ha], fun i => by simp [gF, sM, ha]⟩, rfl⟩, ⟨w0, w1, w2, w3, w4, by rw [hN]; omega, by rw [hN]; omega, by rw [hN]; omega, fun i hi => ?_⟩, hN⟩
  rw [← w8 i hi]
  have : i < gN S (o + 24) := by omega
  simp [gF, sM, cpf, va_cpy, this]
theorem R_add {g o : Nat} {S : St} {l : List Int32} {ov v : Int32} (w : Rw S o l ov) (hk : gOK S) : ∃ S', m_Row_add g S o v = some S' ∧ Fr o S S' ∧ Rw S' o (if l.length < limC o then l ++ [v] else l) (if l.length < limC o then ov else 1) := by
  have w' := w
  obtain ⟨w0, w1, w2, w3, w4, w5, w6, w7, w8⟩ := w
  have hb := lim_b o w0.2 w0.1
  have key : ∀ (S1 : St), Rw S1 o l ov → l.length < limC o → l.length < gN S1 (o + 24) → ∃ S', m_Row_add_46 g S1 o v = some S' ∧ Fr o S1 S' ∧ Rw S' o (l ++ [v]) ov := by
    intro S1 u hl hn
    obtain ⟨u0, u1, u2, u3, u4, u5, u6, u7, u8⟩ := u
    unfold m_Row_add_46
    rw [u2, tI_at hn (by omega)]
    refine ⟨_, rfl, ⟨fun x k hx => by simp [gI, sI, sF, hx], rfl, rfl, fun a ha => ⟨rfl, fun j => by simp [gF, sF, sI, ha]⟩, rfl⟩, u0, ?_, ?_, ?_, ?_, ?_, u6, u7, fun i hi => ?_⟩
    · rw [← u1]
      simp [gI, sI, sF]
    · have e : gI (sF S1 (o + 24) l.length v) o 2 = nI l.length := u2
      rw [e, List.length_append, List.length_singleton, ← nI_1]
      simp [gI, sI]
    · rw [← u3]
      simp [gI, sI, sF]
    · rw [List.length_append, List.length_singleton]
      omega
    · rw [List.length_append, List.length_singleton]
      exact hn
    · rw [List.length_append, List.length_singleton] at hi
      by_cases q : i = l.length
      · subst q
        simp [gF, sF, sI]
      · have hlt : i < l.length := by omega
        have := u8 i hlt
        simp only [gF, sF, sI] at this ⊢
        rw [if_neg (by omega), this]
        simp [List.getElem?_append_left hlt]
  unfold m_Row_add
  rw [w1, w2]
  by_cases h1 : l.length < limC o
  · rw [if_pos (nI_lt h1 (by omega)), if_pos h1, if_pos h1]
    by_cases h2 : l.length < gN S (o + 24)
    · rw [if_pos (show nI l.length < Int32.ofNat (gN S (o + 24)) from nI_lt h2 (by omega))]
      exact key S w' h1 h2
    · rw [if_neg (show ¬ nI l.length < Int32.ofNat (gN S (o + 24)) from nI_nlt (by omega) (by omega)), nq_clamp2 (by omega)]
      obtain ⟨S1, e1, f1, r1, n1⟩ := R_gro (n := 2 * l.length) w' hk (by omega) (by omega)
      obtain ⟨S2, e2, f2, r2⟩ := key S1 r1 h1 (by omega)
      rw [e1]
      exact ⟨S2, e2, f1.tr f2, r2⟩
  · rw [if_neg (nI_nlt (by omega) (by omega)), if_neg h1, if_neg h1]
    refine ⟨_, rfl, ⟨fun x k hx => by simp [gI, sI, hx], rfl, rfl, fun a ha => ⟨rfl, fun i => rfl⟩, rfl⟩, w0, ?_, ?_, ?_, w4, w5, w6, w7, w8⟩
    · rw [← w1]
      simp [gI, sI]
    · rw [← w2]
      simp [gI, sI]
    · simp [gI, sI]
