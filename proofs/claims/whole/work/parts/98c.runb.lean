/-! the run, STEP by STEP -/
theorem perf_s {g : Nat} {k9 : St → Nat → Int32 → Int32 → Option (St × Int32)} {S S' : St} {x1 s : Nat} {x2 x3 kd : Int32} (h : doC g S s = some (S', kd)) : ∃ S6 v7, m_Bn_lacksText g S s = some (S6, v7) ∧ m_Rn_perform_55 g k9 S6 x1 x2 x3 s 0 v7 = m_Rn_perform_172 g k9 S' x1 x2 x3 s kd := by
  unfold doC at h
  cases hL : m_Bn_lacksText g S s with
  | none =>
    rw [hL] at h
    exact absurd h (by simp)
  | some z =>
    obtain ⟨S6, v7⟩ := z
    refine ⟨S6, v7, rfl, ?_⟩
    rw [hL, Option.bind_some] at h
    dsimp only at h
    unfold m_Rn_perform_55
    by_cases h0 : v7 = 0
    · rw [if_pos h0] at h ⊢
      by_cases h1 : grT.getD s 0 = 0
      · rw [if_pos h1] at h ⊢
        rw [h, Option.bind_some]
        unfold m_Rn_perform_81
        rfl
      rw [if_neg h1] at h ⊢
      by_cases h2 : grT.getD s 0 = 3
      · rw [if_pos h2] at h ⊢
        rw [h, Option.bind_some]
        unfold m_Rn_perform_104
        rfl
      rw [if_neg h2] at h ⊢
      by_cases h3 : grT.getD s 0 = 1
      · rw [if_pos h3] at h ⊢
        rw [h, Option.bind_some]
        unfold m_Rn_perform_127
        rfl
      rw [if_neg h3] at h ⊢
      by_cases h4 : grT.getD s 0 = 2
      · rw [if_pos h4] at h ⊢
        rw [h, Option.bind_some]
        unfold m_Rn_perform_150
        rfl
      rw [if_neg h4] at h ⊢
      by_cases h5 : s = 55
      · rw [if_pos h5] at h ⊢
        rw [h, Option.bind_some]
      · rw [if_neg h5] at h ⊢
        have e1 : S6 = S' := congrArg Prod.fst (Option.some.inj h)
        have e2 : (0 : Int32) = kd := congrArg Prod.snd (Option.some.inj h)
        rw [e1, e2]
    · rw [if_neg h0] at h ⊢
      have e1 : S6 = S' := congrArg Prod.fst (Option.some.inj h)
      have e2 : (4 : Int32) = kd := congrArg Prod.snd (Option.some.inj h)
      rw [e1, e2]
section RNL
variable {U : Nat → Prop} {g p q i s : Nat} {P : Prg} {S S' S2 S2' : St} {ws : List Wd} {st : Stk}
theorem Rw.s4 {x k : Nat} {l : List Int32} {ov v : Int32} (w : Rw S x l ov) : Rw (sI S 4 k v) x l ov := by
  obtain ⟨w0, w1, w2, w3, w4⟩ := w
  unfold Rw
  rw [gI_ne (by omega), gI_ne (by omega), gI_ne (by omega)]
  exact ⟨w0, w1, w2, w3, w4⟩
theorem eS_nI (h : s < 56) : eS (nI s) = some s := by
  unfold eS
  rw [nI_clamp (by omega), if_neg (fun z => z.elim (fun y => nI_pos (by omega) y) (fun y => by omega))]
theorem C_goTo (pc : PrC S p P) (hp : gR S 4 9 = p) (hl : LC S) (hi : P[i]? = some (s, ws)) (hs : s < 56) (wk : CkC S st) : ∃ S3, m_Bn_goTo g S (nI i) = some S3 ∧ FKc S S3 ∧ CurC S3 ws ∧ m_Pg_sortOf g S3 p (nI i) = some s ∧ CkC S3 st ∧ (∀ j, gF S3 79 j = gF S 79 j) ∧ ∀ j, gF S3 80 j = gF S 80 j := by
  obtain ⟨c1, c2, c3, c4, c5, c6⟩ := pc
  have hil := (List.getElem?_eq_some_iff.mp hi).1
  obtain ⟨n0, n1, -⟩ := LCp hl c1
  have e1 := c5 i (by omega)
  have e2 := c5 (i + 1) (by omega)
  have hf := fsP_s hi
  have hle := fsP_le (P := P) (i := i + 1)
  refine ⟨sI (sI S 4 10 (nI (fsP P i))) 4 11 (nI ws.length), ?_, (FKc.sI (Or.inl rfl)).tr (FKc.sI (Or.inr rfl)), ⟨p, fsP P i, c1, hp, ?_, sI_g, by omega, fun j w hw => ?_⟩, ?_, ⟨wk.1.s4.s4, wk.2.s4.s4⟩, fun _ => rfl, fun _ => rfl⟩
  · unfold m_Bn_goTo
    rw [if_pos (by rw [hp]; exact c1), lt_d, hp, aI_at (by omega) (by omega), e1, Option.bind_some, lt_d, if_pos (by show gR S 4 9 = 1 ∨ gR S 4 9 = 2; rw [hp]; exact c1), lt_d, show gR (sI S 4 10 (nI (fsP P i))) 4 9 = p from hp, nI_1, aI_at (by show i + 1 < gN S (50 + 8 * p + 1); omega) (by show gN S (50 + 8 * p + 1) < 2 ^ 31; omega), show gF (sI S 4 10 (nI (fsP P i))) (50 + 8 * p + 1) (i + 1) = nI (fsP P (i + 1)) from e2, Option.bind_some, lt_d, sI_g, hf, nI_sub (by omega), Nat.add_sub_cancel_left]
  · rw [gI_ne (by decide)]; exact sI_g
  · obtain ⟨q1, q2, q3, -⟩ := (c6 i s ws hi).2 j w hw
    exact ⟨q1, q2, q3⟩
  · unfold m_Pg_sortOf
    rw [aI_at (by show i < gN S (50 + 8 * p + 0); omega) (by show gN S (50 + 8 * p + 0) < 2 ^ 31; omega), show gF (sI (sI S 4 10 (nI (fsP P i))) 4 11 (nI ws.length)) (50 + 8 * p + 0) i = nI s from (c6 i s ws hi).1, Option.bind_some, eS_nI hs]
theorem M_cur (pm : PrM S2 q P) (hi : P[i]? = some (s, ws)) : CurM S2 (10 * (60 * q + i)) ws := by
  obtain ⟨a, b, c, d⟩ := pm
  have hil := (List.getElem?_eq_some_iff.mp hi).1
  obtain ⟨d1, d2, d3, d4⟩ := d i s ws hi
  exact ⟨by omega, fun j w hw => ⟨(d4 j w hw).1, (d4 j w hw).2.1⟩⟩
theorem CkC.fc (w : CkC S st) (h : FC S S') : CkC S' st := ⟨w.1.fc h (by unfold stpRow; omega), w.2.fc h (by unfold stpRow; omega)⟩
theorem CkC.sf {a j : Nat} {v : Int32} (w : CkC S st) (h : 58 ≤ a) : CkC (sF S a j v) st := ⟨w.1.sFx h, w.2.sFx h⟩
theorem CkM.fs (w : CkM S2 st) (h : FS S2 S2') : CkM S2' st := ⟨(h.1 61 (by unfold stpSl; omega)).trans w.1, fun j t ht => ⟨((h.2.2.2.2 35 (by unfold stpAr; omega)).1 j).trans (w.2 j t ht).1, ((h.2.2.2.2 36 (by unfold stpAr; omega)).1 j).trans (w.2 j t ht).2⟩⟩
theorem CkM.si {k : Nat} {v : Int32} (w : CkM S2 st) (h : k ≠ 61) : CkM (sI S2 0 k v) st := ⟨(gI_ne (by omega)).trans w.1, w.2⟩
theorem CkM.s31 {j : Nat} {v : Int32} (w : CkM S2 st) : CkM (sF S2 31 j v) st := ⟨w.1, fun j t ht => ⟨(gF_ne (by decide)).trans (w.2 j t ht).1, (gF_ne (by decide)).trans (w.2 j t ht).2⟩⟩
theorem CkC.push {e w ci : Nat} (wk : CkC S st) (hk : gOK S) (h : st.length < 60) : ∃ S1 S3, m_Row_add g S 32 (nI e) = some S1 ∧ m_Row_add g S1 33 (nI w) = some S3 ∧ FKc S S1 ∧ FKc S1 S3 ∧ CkC S3 (st ++ [(e, w, ci)]) ∧ (∀ j, gF S3 79 j = gF S 79 j) ∧ ∀ j, gF S3 80 j = gF S 80 j := by
  obtain ⟨S1, a1, a2, a3⟩ := R_add (g := g) (v := nI e) wk.1 hk
  rw [lim32.1, if_pos (by rw [List.length_map]; exact h), if_pos (by rw [List.length_map]; exact h)] at a3
  obtain ⟨S3, b1, b2, b3⟩ := R_add (g := g) (v := nI w) (wk.2.fr a2 (by decide)) (hk.fr a2)
  rw [lim32.2, if_pos (by rw [List.length_map]; exact h), if_pos (by rw [List.length_map]; exact h)] at b3
  refine ⟨S1, S3, a1, b1, FKc.fr a2 (Or.inl rfl), FKc.fr b2 (Or.inr rfl), ⟨?_, ?_⟩, fun j => ((b2.2.2.2.1 79 (by decide)).2 j).trans ((a2.2.2.2.1 79 (by decide)).2 j), fun j => ((b2.2.2.2.1 80 (by decide)).2 j).trans ((a2.2.2.2.1 80 (by decide)).2 j)⟩
  · rw [List.map_append]; exact a3.fr b2 (by decide)
  · rw [List.map_append]; exact b3
theorem CkM.push {e w ci : Nat} (wk : CkM S2 st) (hm : LM S2) (h : st.length < 60) : ∃ T, (∀ {f : St → Option (St × Int32)}, ((tI S2 35 (gI S2 0 61) (nI ci)).bind fun S_6 => (tI S_6 36 (gI S_6 0 61) (nI e)).bind fun S_8 => f (sI S_8 0 61 ((gI S_8 0 61) + (1 : Int32)))) = f T) ∧ FKm S2 T ∧ CkM T (st ++ [(e, w, ci)]) ∧ gI T 0 58 = gI S2 0 58 ∧ (∀ k, 52 ≤ k → k ≤ 55 → gI T 0 k = gI S2 0 k) ∧ ∀ j, gF T 31 j = gF S2 31 j := by
  have h35 : 60 ≤ gN S2 35 ∧ gN S2 35 < 2 ^ 31 := by rw [LMn hm 35]; decide +kernel
  have h36 : 60 ≤ gN S2 36 ∧ gN S2 36 < 2 ^ 31 := by rw [LMn hm 36]; decide +kernel
  refine ⟨sI (sF (sF S2 35 st.length (nI ci)) 36 st.length (nI e)) 0 61 (nI (st.length + 1)), fun {f} => ?_, ((FKm.sF (by omega)).tr (FKm.sF (by omega))).tr (FKm.sI (by omega)), ⟨?_, fun j t ht => ?_⟩, gI_ne (by decide), fun k a b => gI_ne (by omega), fun j => ?_⟩
  · rw [wk.1, tI_at (by omega) h35.2, Option.bind_some, show gI (sF S2 35 st.length (nI ci)) 0 61 = nI st.length from wk.1, tI_at (by show st.length < gN S2 36; omega) (by show gN S2 36 < 2 ^ 31; omega), Option.bind_some, show gI (sF (sF S2 35 st.length (nI ci)) 36 st.length (nI e)) 0 61 = nI st.length from wk.1, nI_1]
  · rw [sI_g, List.length_append, List.length_singleton]
  · show gF (sF (sF S2 35 st.length (nI ci)) 36 st.length (nI e)) 35 j = _ ∧ gF (sF (sF S2 35 st.length (nI ci)) 36 st.length (nI e)) 36 j = _
    by_cases hj : j < st.length
    · rw [List.getElem?_append_left hj] at ht
      rw [gF_ne (by decide), gF_sFi (by omega), gF_sFi (by omega), gF_ne (by decide)]
      exact wk.2 j t ht
    · have hlt := (List.getElem?_eq_some_iff.mp ht).1
      rw [List.length_append, List.length_singleton] at hlt
      have hj : j = st.length := by omega
      subst hj
      simp at ht
      subst ht
      rw [gF_ne (by decide), gF_sF, gF_sF]
      exact ⟨rfl, rfl⟩
  · show gF (sF (sF S2 35 st.length (nI ci)) 36 st.length (nI e)) 31 j = _
    rw [gF_ne (by decide), gF_ne (by decide)]
theorem rgP_e (hi : P[i]? = some (s, ws)) : rgP P i = i + 1 + nOf ws := by
  unfold rgP
  rw [hi]
theorem C_rgE {S : St} (pc : PrC S p P) (hl : LC S) (hi : P[i]? = some (s, ws)) {w : Wd} {n : Nat} (hw : ws[1]? = some w) (hn : n ≤ 1000) (hv : w.2.1.toInt = (n : Int)) : m_Pg_rangeEnd g S p (nI i) = some (nI (rgP P i)) := by
  have hrg := rgP_e hi
  obtain ⟨c1, c2, c3, c4, c5, c6⟩ := pc
  have hil := (List.getElem?_eq_some_iff.mp hi).1
  have hj := (List.getElem?_eq_some_iff.mp hw).1
  obtain ⟨n0, n1, n2, n3, n4, -⟩ := LCp hl c1
  have e1 := c5 i (by omega)
  have hf := fsP_s hi
  have hle := fsP_le (P := P) (i := i + 1)
  have hno : nOf ws = n := by
    unfold nOf
    rw [hw]
    show w.2.1.toInt.toNat = n
    omega
  unfold m_Pg_rangeEnd
  rw [aI_at (by omega) (by omega), e1, Option.bind_some, nI_1, aJ_at (by omega) (by omega), ((c6 i s ws hi).2 1 w hw).2.2.1, Option.bind_some, nI_1, j32 hv (by omega), nI_add, hrg, hno]
theorem M_rgE (pm : PrM S2 q P) (hm : LM S2) (hi : P[i]? = some (s, ws)) {w : Wd} {n : Nat} (hw : ws[1]? = some w) (hn : n ≤ 1000) (hv : w.2.1.toInt = (n : Int)) : ∃ v, aJ S2 10 (((10 : Int32) * nI (60 * q + i)) + (1 : Int32)) = some v ∧ (nI i + (1 : Int32)) + v.toInt32 = nI (rgP P i) := by
  have hrg := rgP_e hi
  obtain ⟨a, b, c, d⟩ := pm
  have hil := (List.getElem?_eq_some_iff.mp hi).1
  have h10 : 1800 ≤ gN S2 10 ∧ gN S2 10 < 2 ^ 31 := by rw [LMn hm 10]; decide +kernel
  have e := ((d _ _ _ hi).2.2.2 1 w hw).2.1
  have hno : nOf ws = n := by
    unfold nOf
    rw [hw]
    show w.2.1.toInt.toNat = n
    omega
  refine ⟨w.2.1, ?_, ?_⟩
  · rw [show (10 : Int32) = nI 10 from rfl, nI_mulE, nI_1, aJ_at (by omega) (by omega)]
    exact congrArg some e
  · rw [nI_1, j32 hv (by omega), nI_add, hrg, hno]
end RNL
