/-! the run: what it has; catches are left -/
def nOf (ws : List Wd) : Nat := match ws[1]? with
  | some w => w.2.1.toInt.toNat
  | none => 0
/-- the first STEP behind the RANGE -/
def rgP (P : Prg) (i : Nat) : Nat := match P[i]? with
  | some s => i + 1 + nOf s.2
  | none => 0
def opP (P : Prg) (i : Nat) : Prop := ∃ s ws, P[i]? = some (s, ws) ∧ (s = 53 ∨ s = 54)
def gvB (P : Prg) (k b : Nat) : Prop := ∃ s ws w, P[k]? = some (s, ws) ∧ (s = 34 ∨ s = 35) ∧ ws[0]? = some w ∧ w.2.1.toInt = (b : Int)
/-- builder b is GIVEN at STEP i -/
def GB (P : Prg) (i b : Nat) : Prop := ∃ k, k < i ∧ gvB P k b ∧ ∀ j, j < k → opP P j → k < rgP P j → i < rgP P j
def PrgOK (U : Nat → Prop) (P : Prg) : Prop := ∀ (i s : Nat) (ws : List Wd), P[i]? = some (s, ws) → s < 56 ∧ WOK U s ws ∧ ((s = 53 ∨ s = 54) → ∃ w n, ws[1]? = some w ∧ n ≤ 1000 ∧ w.2.1.toInt = ((n : Nat) : Int))
def JdgOK (P : Prg) : Prop := (∀ i, opP P i → rgP P i ≤ P.length ∧ ∀ j, i < j → j < rgP P i → opP P j → rgP P j ≤ rgP P i) ∧ ∀ (i s : Nat) (ws : List Wd) (j : Nat) (w : Wd) (b : Nat), P[i]? = some (s, ws) → ws[j]? = some w → w.1 = 2 → ¬ lett s (nI j) = 66 → w.2.1.toInt = ((b : Nat) : Int) → GB P i b
def Tal (S S2 : St) : Prop := (∀ s, s < 56 → gF S 80 s = gF S2 31 s) ∧ gF S 79 2 = gI S2 0 54 ∧ gF S 79 3 = gI S2 0 55
/-- the catches that are open: where each ends, its w, its STEP -/
abbrev Stk : Type := List (Nat × Nat × Nat)
def StI (P : Prg) (st : Stk) (i : Nat) : Prop := st.length ≤ i ∧ (∀ t ∈ st, i ≤ t.1 ∧ t.2.2 < i ∧ t.2.1 < 12 ∧ t.1 = rgP P t.2.2 ∧ ∃ ws w, P[t.2.2]? = some (54, ws) ∧ ws[0]? = some w ∧ w.2.1.toInt = (t.2.1 : Int)) ∧ st.Pairwise (fun a b => b.1 ≤ a.1)
def CkC (S : St) (st : Stk) : Prop := Rw S 32 (st.map fun t => nI t.1) 0 ∧ Rw S 33 (st.map fun t => nI t.2.1) 0
def CkM (S : St) (st : Stk) : Prop := gI S 0 61 = nI st.length ∧ ∀ j t, st[j]? = some t → gF S 35 j = nI t.2.2 ∧ gF S 36 j = nI t.1
/-- what counts and tells the end stays -/
def TF (S S' S2 S2' : St) : Prop := (∀ i, gF S' 79 i = gF S 79 i) ∧ (∀ i, gF S' 80 i = gF S 80 i) ∧ (∀ k, 52 ≤ k → k ≤ 55 → gI S2' 0 k = gI S2 0 k) ∧ ∀ i, gF S2' 31 i = gF S2 31 i
theorem TF.rf {S S2 : St} : TF S S S2 S2 := ⟨fun _ => rfl, fun _ => rfl, fun _ _ _ => rfl, fun _ => rfl⟩
theorem TF.tr {S S1 S3 S2 T1 T3 : St} (h1 : TF S S1 S2 T1) (h2 : TF S1 S3 T1 T3) : TF S S3 S2 T3 := ⟨fun i => (h2.1 i).trans (h1.1 i), fun i => (h2.2.1 i).trans (h1.2.1 i), fun k a b => (h2.2.2.1 k a b).trans (h1.2.2.1 k a b), fun i => (h2.2.2.2 i).trans (h1.2.2.2 i)⟩
theorem TF.st {S S' S2 S2' : St} (h1 : FC S S') (h2 : FS S2 S2') : TF S S' S2 S2' := ⟨fun i => (h1.2.2.2.2.2.1 79 (by omega)).1 i, fun i => (h1.2.2.2.2.2.1 80 (by omega)).1 i, fun k a b => h2.1 k (by unfold stpSl; omega), fun i => (h2.2.2.2.2 31 (by unfold stpAr; omega)).1 i⟩
theorem Tal.tf {S S' S2 S2' : St} (w : Tal S S2) (h : TF S S' S2 S2') : Tal S' S2' := ⟨fun s hs => by rw [h.2.1, h.2.2.2]; exact w.1 s hs, by rw [h.1, h.2.2.1 54 (by decide) (by decide)]; exact w.2.1, by rw [h.1, h.2.2.1 55 (by decide) (by decide)]; exact w.2.2⟩
section LEV
variable {U : Nat → Prop} {g k q i : Nat} {P : Prg} {S S2 : St}
theorem lim32 : limC 32 = 60 ∧ limC 33 = 60 := by decide +kernel
theorem C_leave {st : Stk} {t : Nat × Nat × Nat} {x : Int32} (w : CkC S (st ++ [t])) (hl : LC S) (hw : t.2.1 < 12) (hst : st.length < 60) : ∃ S', m_Rn_leaveCatch g S x = some S' ∧ FKc (sG S 75 t.2.1 x.toInt64) S' ∧ CkC S' st ∧ (∀ i, gF S' 79 i = gF S 79 i) ∧ ∀ i, gF S' 80 i = gF S 80 i := by
  have h75 : gN S 75 = 12 := hl 75 (by decide)
  have hlen : ((st ++ [t]).map fun t => nI t.1).length = st.length + 1 := by simp
  have w1 : Rw (sG S 75 t.2.1 x.toInt64) 32 ((st ++ [t]).map fun t => nI t.1) 0 := w.1
  have w2 : Rw (sG S 75 t.2.1 x.toInt64) 33 ((st ++ [t]).map fun t => nI t.2.1) 0 := w.2
  obtain ⟨S1, a1, a2, a3⟩ := R_shorten (g := g) (n := st.length) w1 (by omega)
  obtain ⟨S3, b1, b2, b3⟩ := R_shorten (g := g) (n := st.length) (w2.fr a2 (by decide)) (by omega)
  refine ⟨S3, ?_, (FKc.fr a2 (Or.inl rfl)).tr (FKc.fr b2 (Or.inr rfl)), ⟨?_, ?_⟩, fun i => ?_, fun i => ?_⟩
  · unfold m_Rn_leaveCatch
    have e1 : m_Row_at g S 33 (nI st.length) = some (nI t.2.1) := by
      rw [R_at w.2, atR_nI (by omega), List.getD_eq_getElem?_getD, List.getElem?_map, List.getElem?_append_right (Nat.le_refl _)]
      simp
    rw [lt_d, w.1.2.2.1, hlen, nI_pred, e1, Option.bind_some]
    unfold m_Bn_setWhole
    rw [if_neg (nI_pos (by omega)), if_neg (show ¬ (12 : Int32) ≤ nI t.2.1 from nI_ge (b := 12) hw (by omega)), tJ_at (by omega) (by omega)]
    show ((m_Row_shorten g (sG S 75 t.2.1 x.toInt64) 32 (nI st.length)).bind fun S_4 => (m_Row_shorten g S_4 33 (nI st.length)).bind fun S_5 => some S_5) = _
    rw [a1, Option.bind_some, b1]
    rfl
  · have := a3.fr b2 (by decide)
    rw [List.map_append, List.take_left' (by simp)] at this
    exact this
  · rw [List.map_append, List.take_left' (by simp)] at b3
    exact b3
  · exact ((b2.2.2.2.1 79 (by decide)).2 i).trans ((a2.2.2.2.1 79 (by decide)).2 i)
  · exact ((b2.2.2.2.1 80 (by decide)).2 i).trans ((a2.2.2.2.1 80 (by decide)).2 i)
theorem sCkM {st : Stk} {t : Nat × Nat × Nat} {w : Nat} {x : Int64} (h : CkM S2 (st ++ [t])) : CkM (sG (sI S2 0 61 (nI st.length)) 32 w x) st := by
  refine ⟨(sI_g : gI (sI S2 0 61 (nI st.length)) 0 61 = nI st.length), fun j u hu => ?_⟩
  exact h.2 j u (by rw [List.getElem?_append_left (List.getElem?_eq_some_iff.mp hu).1]; exact hu)
theorem ck_top {st : Stk} {t : Nat × Nat × Nat} (h : CkM S2 (st ++ [t])) (hm : LM S2) (hst : st.length < 60) : gI S2 0 61 = nI (st.length + 1) ∧ aI S2 35 (nI st.length) = some (nI t.2.2) ∧ aI S2 36 (nI st.length) = some (nI t.1) := by
  have h35 : 60 ≤ gN S2 35 ∧ gN S2 35 < 2 ^ 31 := by rw [LMn hm 35]; decide +kernel
  have h36 : 60 ≤ gN S2 36 ∧ gN S2 36 < 2 ^ 31 := by rw [LMn hm 36]; decide +kernel
  have e := h.2 st.length t (by rw [List.getElem?_append_right (Nat.le_refl _)]; simp)
  refine ⟨by rw [h.1]; simp, ?_, ?_⟩
  · rw [aI_at (by omega) (by omega), e.1]
  · rw [aI_at (by omega) (by omega), e.2]
/-- the w of a catch in the reference -/
theorem ck_arg {t : Nat × Nat × Nat} {ws : List Wd} {w : Wd} (pm : PrM S2 q P) (hm : LM S2) (h1 : P[t.2.2]? = some (54, ws)) (h2 : ws[0]? = some w) (h3 : w.2.1.toInt = (t.2.1 : Int)) (hw : t.2.1 < 12) : ∃ v, aJ S2 10 ((10 : Int32) * ((nI q * (60 : Int32)) + nI t.2.2)) = some v ∧ v.toInt32 = nI t.2.1 := by
  obtain ⟨a, b, c, d⟩ := pm
  have hi := (List.getElem?_eq_some_iff.mp h1).1
  have h10 : 1800 ≤ gN S2 10 ∧ gN S2 10 < 2 ^ 31 := by rw [LMn hm 10]; decide +kernel
  have e := ((d _ _ _ h1).2.2.2 0 w h2).2.1
  refine ⟨w.2.1, ?_, j32 h3 (by omega)⟩
  rw [show (60 : Int32) = nI 60 from rfl, show (10 : Int32) = nI 10 from rfl, nI_mulE, nI_add, nI_mulE, show q * 60 = 60 * q from Nat.mul_comm _ _, aJ_at (by omega) (by omega)]
  exact congrArg some e
theorem StI.pre {st r : Stk} (h : StI P (st ++ r) i) : StI P st i := ⟨by have := h.1; rw [List.length_append] at this; omega, fun t ht => h.2.1 t (List.mem_append.mpr (Or.inl ht)), (List.pairwise_append.mp h.2.2).1⟩
theorem lv_l : ∀ (m n1 n2 : Nat) (st : Stk) (S S2 : St), st.length = m → m < n1 → m < n2 → m ≤ 60 → i ≤ 60 → CkC S st → CkM S2 st → StI P st i → (∀ t ∈ st, t.1 < 2 ^ 31) → PrM S2 q P → RSx U k S S2 → ∃ S' S2' st' r, m_Rn_leaveCatches_8 g n1 S (nI i) (nI m) = some S' ∧ m_leaves_0 g n2 S2 (nI q) (nI i) = some S2' ∧ CkC S' st' ∧ CkM S2' st' ∧ st = st' ++ r ∧ (∀ t ∈ st', i < t.1) ∧ RSx U k S' S2' ∧ FRc S S' ∧ FRm S2 S2' ∧ TF S S' S2 S2' := by
  intro m
  induction m with
  | zero =>
    intro n1 n2 st S S2 hm h1 h2 h60 hi wc wm si hE pm r
    obtain ⟨n1, rfl⟩ : ∃ m, n1 = m + 1 := ⟨n1 - 1, by omega⟩
    obtain ⟨n2, rfl⟩ : ∃ m, n2 = m + 1 := ⟨n2 - 1, by omega⟩
    have hz : st = [] := List.length_eq_zero_iff.mp hm
    subst hz
    refine ⟨S, S2, [], [], ?_, ?_, wc, wm, rfl, fun t ht => absurd ht (by simp), r, FRc.rf, FRm.rf, TF.rf⟩
    · show b_Rn_leaveCatches_8 g (m_Rn_leaveCatches_8 g n1) S _ _ = _
      unfold b_Rn_leaveCatches_8
      rw [if_pos (by decide)]
    · show b_leaves_0 g (m_leaves_0 g n2) S2 _ _ = _
      unfold b_leaves_0
      rw [wm.1, if_pos (by decide)]
  | succ m ih =>
    intro n1 n2 st S S2 hm h1 h2 h60 hi wc wm si hE pm r
    obtain ⟨n1, rfl⟩ : ∃ m, n1 = m + 1 := ⟨n1 - 1, by omega⟩
    obtain ⟨n2, rfl⟩ : ∃ m, n2 = m + 1 := ⟨n2 - 1, by omega⟩
    obtain ⟨st0, t, rfl⟩ : ∃ st0 t, st = st0 ++ [t] := by
      have hne : st ≠ [] := by rintro rfl; simp at hm
      exact ⟨st.dropLast, st.getLast hne, (List.dropLast_concat_getLast hne).symm⟩
    have hm0 : st0.length = m := by simp at hm; exact hm
    obtain ⟨φ, cs, ts, u, pl, pm', ps, qs, rr, bb⟩ := r
    have hl := rr.2.1
    have hlm := rr.2.2.1
    have r : RSx U k S S2 := ⟨φ, cs, ts, u, pl, pm', ps, qs, rr, bb⟩
    obtain ⟨t1, t2, t3, t4, ws, w, t5, t6, t7⟩ := si.2.1 t (by simp)
    obtain ⟨e61, e35, e36⟩ := ck_top wm hlm (by omega)
    have eC : m_Row_at g S 32 (nI m) = some (nI t.1) := by
      rw [R_at wc.1, atR_nI (by omega), List.getD_eq_getElem?_getD, List.getElem?_map, ← hm0, List.getElem?_append_right (Nat.le_refl _)]
      simp
    have hb : t.1 < 2 ^ 31 := hE t (by simp)
    by_cases hlt : i < t.1
    · refine ⟨S, S2, st0 ++ [t], [], ?_, ?_, wc, wm, by simp, fun u hu => ?_, r, FRc.rf, FRm.rf, TF.rf⟩
      · show b_Rn_leaveCatches_8 g (m_Rn_leaveCatches_8 g n1) S _ _ = _
        unfold b_Rn_leaveCatches_8
        rw [if_neg (nI_nle (by omega) (by omega)), nI_pred, eC, Option.bind_some, if_pos (nI_lt hlt hb)]
      · show b_leaves_0 g (m_leaves_0 g n2) S2 _ _ = _
        unfold b_leaves_0
        rw [e61, if_neg (nI_nle (by omega) (by omega)), nI_pred, e36, Option.bind_some, if_neg (i_lit hb (by omega) (by omega))]
      · rcases List.mem_append.mp hu with hu | hu
        · have := (List.pairwise_append.mp si.2.2).2.2 u hu t (by simp)
          omega
        · rw [List.mem_singleton] at hu
          subst hu
          exact hlt
    · have hti : t.1 = i := by omega
      obtain ⟨S3, c1, c2, c3, c4, c5⟩ := C_leave (g := g) (x := 0) wc hl t3 (by omega)
      obtain ⟨v, v1, v2⟩ := ck_arg (S2 := sI S2 0 61 (nI m)) (pm.fr (FRm.fk (FKm.sI (by omega)))) hlm t5 t6 t7 t3
      have h32 : gN S2 32 = 12 := LMn hlm 32
      have fm : FRm S2 (sG (sI S2 0 61 (nI m)) 32 t.2.1 0) := (FRm.fk (FKm.sI (by omega))).tr FRm.gw
      have fcc : FRc S S3 := FRc.gw.tr (FRc.fk c2)
      have r3 : RSx U k S3 (sG (sI S2 0 61 (nI m)) 32 t.2.1 0) := (RSx.gw (r.k FKc.rf (FKm.sI (v := nI m) (by omega))) t3).k c2 FKm.rf
      rw [← hm0] at r3
      have tf : TF S S3 S2 (sG (sI S2 0 61 (nI m)) 32 t.2.1 0) := ⟨c4, c5, fun k a b => (gI_ne (by omega) : gI (sI S2 0 61 (nI m)) 0 k = gI S2 0 k), fun i => rfl⟩
      obtain ⟨S', S2', st', r', a1, a2, a3, a4, a5, a6, a7, a8, a9, a10⟩ := ih n1 n2 st0 S3 (sG (sI S2 0 61 (nI st0.length)) 32 t.2.1 0) hm0 (by omega) (by omega) (by omega) hi c3 (sCkM wm) si.pre (fun u hu => hE u (by simp [hu])) (by rw [hm0]; exact pm.fr fm) r3
      rw [hm0] at a2 a9 a10
      refine ⟨S', S2', st', r' ++ [t], ?_, ?_, a3, a4, by rw [a5, List.append_assoc], a6, a7, fcc.tr a8, fm.tr a9, tf.tr a10⟩
      · show b_Rn_leaveCatches_8 g (m_Rn_leaveCatches_8 g n1) S _ _ = _
        unfold b_Rn_leaveCatches_8
        rw [if_neg (nI_nle (by omega) (by omega)), nI_pred, eC, Option.bind_some, if_neg (nI_nlt (by omega) (by omega)), c1, Option.bind_some, lt_d, nI_dn, a1]
      · show b_leaves_0 g (m_leaves_0 g n2) S2 _ _ = _
        unfold b_leaves_0
        rw [e61, if_neg (nI_nle (by omega) (by omega)), nI_pred, hm0, show aI S2 36 (nI m) = some (nI t.1) from by rw [← hm0]; exact e36, Option.bind_some, if_pos (by rw [hti]), lt_d, sI_g, show aI (sI S2 0 61 (nI m)) 35 (nI m) = some (nI t.2.2) from by rw [← hm0]; exact e35, Option.bind_some, v1, Option.bind_some, v2, tJ_at (by show t.2.1 < gN S2 32; omega) (by show gN S2 32 < 2 ^ 31; omega), Option.bind_some, a2]
end LEV
