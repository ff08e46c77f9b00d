/-! programs are copied and made shorter: the reference -/
/-- the reference has a STEP at a -/
def StM (S : St) (a s : Nat) (ws : List Wd) : Prop := ws.length ≤ 9 ∧ gF S 6 a = nI s ∧ gF S 7 a = nI ws.length ∧ ∀ j w, ws[j]? = some w → gF S 8 (10 * a + j) = nI w.1 ∧ gG S 10 (10 * a + j) = w.2.1 ∧ gF S 9 (10 * a + j) = w.2.2
theorem PrM.st {S : St} {q : Nat} {P : Prg} (pm : PrM S q P) {i s : Nat} {ws : List Wd} (h : P[i]? = some (s, ws)) : StM S (60 * q + i) s ws := pm.2.2.2 i s ws h
/-- nothing but STEPS have changed, and of them those at places in b -/
def FSt (b : Nat → Prop) (S S' : St) : Prop := S'.1 = S.1 ∧ S'.2.1 = S.2.1 ∧ S'.2.2.1 = S.2.2.1 ∧ S'.2.2.2.1 = S.2.2.2.1 ∧ (∀ a, a ≠ 6 → a ≠ 7 → a ≠ 8 → a ≠ 9 → ∀ i, gF S' a i = gF S a i) ∧ (∀ a, a ≠ 10 → ∀ i, gG S' a i = gG S a i) ∧ ∀ i, ¬ b i → gF S' 6 i = gF S 6 i ∧ gF S' 7 i = gF S 7 i ∧ ∀ j, j < 10 → gF S' 8 (10 * i + j) = gF S 8 (10 * i + j) ∧ gG S' 10 (10 * i + j) = gG S 10 (10 * i + j) ∧ gF S' 9 (10 * i + j) = gF S 9 (10 * i + j)
theorem FSt.rf {b : Nat → Prop} {S : St} : FSt b S S := ⟨rfl, rfl, rfl, rfl, fun _ _ _ _ _ _ => rfl, fun _ _ _ => rfl, fun _ _ => ⟨rfl, rfl, fun _ _ => ⟨rfl, rfl, rfl⟩⟩⟩
theorem FSt.tr {b : Nat → Prop} {S S1 S2 : St} (h1 : FSt b S S1) (h2 : FSt b S1 S2) : FSt b S S2 := ⟨h2.1.trans h1.1, h2.2.1.trans h1.2.1, h2.2.2.1.trans h1.2.2.1, h2.2.2.2.1.trans h1.2.2.2.1, fun a x y z u i => (h2.2.2.2.2.1 a x y z u i).trans (h1.2.2.2.2.1 a x y z u i), fun a x i => (h2.2.2.2.2.2.1 a x i).trans (h1.2.2.2.2.2.1 a x i), fun i hi => ⟨(h2.2.2.2.2.2.2 i hi).1.trans (h1.2.2.2.2.2.2 i hi).1, (h2.2.2.2.2.2.2 i hi).2.1.trans (h1.2.2.2.2.2.2 i hi).2.1, fun j hj => ⟨((h2.2.2.2.2.2.2 i hi).2.2 j hj).1.trans ((h1.2.2.2.2.2.2 i hi).2.2 j hj).1, ((h2.2.2.2.2.2.2 i hi).2.2 j hj).2.1.trans ((h1.2.2.2.2.2.2 i hi).2.2 j hj).2.1, ((h2.2.2.2.2.2.2 i hi).2.2 j hj).2.2.trans ((h1.2.2.2.2.2.2 i hi).2.2 j hj).2.2⟩⟩⟩
theorem FSt.up {b b' : Nat → Prop} {S S' : St} (h : FSt b S S') (hb : ∀ i, b i → b' i) : FSt b' S S' := ⟨h.1, h.2.1, h.2.2.1, h.2.2.2.1, h.2.2.2.2.1, h.2.2.2.2.2.1, fun i hi => h.2.2.2.2.2.2 i (fun x => hi (hb i x))⟩
theorem StM.fs {b : Nat → Prop} {S S' : St} {a s : Nat} {ws : List Wd} (w : StM S a s ws) (h : FSt b S S') (ha : ¬ b a) : StM S' a s ws := by
  obtain ⟨w1, w2, w3, w4⟩ := w
  obtain ⟨a1, a2, a3⟩ := h.2.2.2.2.2.2 a ha
  refine ⟨w1, a1.trans w2, a2.trans w3, fun j w hw => ?_⟩
  have hj := (List.getElem?_eq_some_iff.mp hw).1
  obtain ⟨b1, b2, b3⟩ := a3 j (by omega)
  obtain ⟨z1, z2, z3⟩ := w4 j w hw
  exact ⟨b1.trans z1, b2.trans z2, b3.trans z3⟩
theorem LM.fst {b : Nat → Prop} {S S' : St} (w : LM S) (h : FSt b S S') : LM S' := w.of h.2.2.2.1
section CPM
variable {g a b s : Nat} {ws : List Wd}
theorem cps_l (ha : a < 180) (hb : b < 180) (hab : a ≠ b) : ∀ (k n j : Nat) (S : St), j + k = ws.length → k < n → LM S → StM S a s ws → gF S 6 b = nI s → gF S 7 b = nI ws.length → (∀ j' w, j' < j → ws[j']? = some w → gF S 8 (10 * b + j') = nI w.1 ∧ gG S 10 (10 * b + j') = w.2.1 ∧ gF S 9 (10 * b + j') = w.2.2) → ∃ S', m_copyStep_26 g n S (nI a) (nI b) (nI j) = some S' ∧ FSt (fun i => i = b) S S' ∧ StM S' b s ws := by
  intro k
  induction k with
  | zero =>
    intro n j S hj hn hm st h6 h7 hd
    obtain ⟨n, rfl⟩ : ∃ m, n = m + 1 := ⟨n - 1, by omega⟩
    have g7 : gN S 7 = 180 := LMn hm 7
    refine ⟨S, ?_, FSt.rf, st.1, h6, h7, fun j' w hw => hd j' w (by have := (List.getElem?_eq_some_iff.mp hw).1; omega) hw⟩
    show b_copyStep_26 g (m_copyStep_26 g n) S (nI a) (nI b) (nI j) = _
    unfold b_copyStep_26
    rw [aI_at (by omega) (by omega), st.2.2.1, Option.bind_some, if_pos (nI_le (by omega) (by have := st.1; omega))]
  | succ k ih =>
    intro n j S hj hn hm st h6 h7 hd
    obtain ⟨n, rfl⟩ : ∃ m, n = m + 1 := ⟨n - 1, by omega⟩
    have g7 : gN S 7 = 180 := LMn hm 7
    have g8 : gN S 8 = 1800 := LMn hm 8
    have g9 : gN S 9 = 1800 := LMn hm 9
    have g10 : gN S 10 = 1800 := LMn hm 10
    have h9 := st.1
    have hw : ws[j]? = some ws[j] := List.getElem?_eq_getElem (by omega)
    generalize ws[j] = w at hw
    obtain ⟨z1, z2, z3⟩ := st.2.2.2 j w hw
    have i1 : ((10 : Int32) * nI a) + nI j = nI (10 * a + j) := by rw [show (10 : Int32) = nI 10 from rfl, nI_mulE, nI_add]
    have i2 : ((10 : Int32) * nI b) + nI j = nI (10 * b + j) := by rw [show (10 : Int32) = nI 10 from rfl, nI_mulE, nI_add]
    have fs : FSt (fun i => i = b) S (sF (sG (sF S 8 (10 * b + j) (nI w.1)) 10 (10 * b + j) w.2.1) 9 (10 * b + j) w.2.2) := by
      refine ⟨rfl, rfl, rfl, rfl, fun x _ _ h8 h9 i => (gF_ne h9).trans (gF_ne h8), fun x h i => gG_ne h, fun i hi => ⟨rfl, rfl, fun j' hj' => ⟨?_, ?_, ?_⟩⟩⟩
      · rw [gF_ne (by decide)]
        exact gF_sFi (by omega)
      · exact gG_sGi (by omega)
      · rw [gF_sFi (by omega)]
        show gF (sF S 8 (10 * b + j) (nI w.1)) 9 _ = _
        exact gF_ne (by decide)
    obtain ⟨S', b1, b2, b3⟩ := ih n (j + 1) _ (by omega) (by omega) (hm.fst fs) (st.fs fs hab) h6 h7 (fun j' w' hj' hw' => by
      by_cases e : j' = j
      · subst e
        rw [hw] at hw'
        have := Option.some.inj hw'
        subst this
        exact ⟨(gF_ne (by decide)).trans gF_sF, gG_sG, gF_sF⟩
      · obtain ⟨y1, y2, y3⟩ := hd j' w' (by omega) hw'
        exact ⟨((gF_ne (by decide)).trans (gF_sFi (by omega))).trans y1, (gG_sGi (by omega)).trans y2, (by rw [gF_sFi (by omega)]; show gF (sF S 8 (10 * b + j) (nI w.1)) 9 _ = _; rw [gF_ne (by decide)]; exact y3)⟩)
    refine ⟨S', ?_, fs.tr b2, b3⟩
    show b_copyStep_26 g (m_copyStep_26 g n) S (nI a) (nI b) (nI j) = _
    unfold b_copyStep_26
    rw [aI_at (by omega) (by omega), st.2.2.1, Option.bind_some, if_neg (nI_ge (by omega) (by omega)), i1, i2, aI_at (by omega) (by omega), z1, Option.bind_some, tI_at (by omega) (by omega), Option.bind_some, aJ_at (S := sF S 8 (10 * b + j) (nI w.1)) (show 10 * a + j < gN S 10 by omega) (show gN S 10 < 2 ^ 31 by omega), show gG (sF S 8 (10 * b + j) (nI w.1)) 10 (10 * a + j) = w.2.1 from z2, Option.bind_some, tJ_at (S := sF S 8 (10 * b + j) (nI w.1)) (show 10 * b + j < gN S 10 by omega) (show gN S 10 < 2 ^ 31 by omega), Option.bind_some, aI_at (S := sG (sF S 8 (10 * b + j) (nI w.1)) 10 (10 * b + j) w.2.1) (show 10 * a + j < gN S 9 by omega) (show gN S 9 < 2 ^ 31 by omega), show gF (sG (sF S 8 (10 * b + j) (nI w.1)) 10 (10 * b + j) w.2.1) 9 (10 * a + j) = w.2.2 from (gF_ne (S := S) (b := 8) (i := 10 * b + j) (v := nI w.1) (show (9 : Nat) ≠ 8 by decide)).trans z3, Option.bind_some, tI_at (S := sG (sF S 8 (10 * b + j) (nI w.1)) 10 (10 * b + j) w.2.1) (show 10 * b + j < gN S 9 by omega) (show gN S 9 < 2 ^ 31 by omega), Option.bind_some, lt_d, nI_1, b1]
theorem M_copyStep {S : St} (hg : 100000 ≤ g) (ha : a < 180) (hb : b < 180) (hab : a ≠ b) (hm : LM S) (st : StM S a s ws) : ∃ S', m_copyStep g S (nI a) (nI b) = some S' ∧ FSt (fun i => i = b) S S' ∧ StM S' b s ws := by
  have g6 : gN S 6 = 180 := LMn hm 6
  have g7 : gN S 7 = 180 := LMn hm 7
  have h9 := st.1
  have fs : FSt (fun i => i = b) S (sF (sF S 6 b (nI s)) 7 b (nI ws.length)) := by
    refine ⟨rfl, rfl, rfl, rfl, fun x h6 h7 _ _ i => (gF_ne h7).trans (gF_ne h6), fun x h i => rfl, fun i hi => ⟨(gF_ne (by decide)).trans (gF_sFi hi), (gF_sFi hi).trans (gF_ne (by decide)), fun j' hj' => ⟨(gF_ne (by decide)).trans (gF_ne (by decide)), rfl, (gF_ne (by decide)).trans (gF_ne (by decide))⟩⟩⟩
  obtain ⟨S', b1, b2, b3⟩ := cps_l (g := g) (ws := ws) ha hb hab ws.length g 0 (sF (sF S 6 b (nI s)) 7 b (nI ws.length)) (by omega) (by omega) (hm.fst fs) (st.fs fs hab) ((gF_ne (by decide)).trans gF_sF) gF_sF (fun j' w h => by omega)
  refine ⟨S', ?_, fs.tr b2, b3⟩
  unfold m_copyStep
  rw [aI_at (by omega) (by omega), st.2.1, Option.bind_some, tI_at (by omega) (by omega), Option.bind_some, aI_at (S := sF S 6 b (nI s)) (show a < gN S 7 by omega) (show gN S 7 < 2 ^ 31 by omega), show gF (sF S 6 b (nI s)) 7 a = nI ws.length from (gF_ne (by decide)).trans st.2.2.1, Option.bind_some, tI_at (S := sF S 6 b (nI s)) (show b < gN S 7 by omega) (show gN S 7 < 2 ^ 31 by omega), Option.bind_some]
  exact b1
/-- nothing but the STEPS of group q have changed -/
def FPm (q : Nat) (S S' : St) : Prop := S'.1 = S.1 ∧ S'.2.1 = S.2.1 ∧ S'.2.2.1 = S.2.2.1 ∧ S'.2.2.2.1 = S.2.2.2.1 ∧ (∀ a, a ≠ 6 → a ≠ 7 → a ≠ 8 → a ≠ 9 → a ≠ 11 → ∀ i, gF S' a i = gF S a i) ∧ (∀ a, a ≠ 10 → ∀ i, gG S' a i = gG S a i) ∧ (∀ i, i ≠ q → gF S' 11 i = gF S 11 i) ∧ ∀ i, ¬ (60 * q ≤ i ∧ i < 60 * q + 60) → gF S' 6 i = gF S 6 i ∧ gF S' 7 i = gF S 7 i ∧ ∀ j, j < 10 → gF S' 8 (10 * i + j) = gF S 8 (10 * i + j) ∧ gG S' 10 (10 * i + j) = gG S 10 (10 * i + j) ∧ gF S' 9 (10 * i + j) = gF S 9 (10 * i + j)
theorem FPm.tr {q : Nat} {S S1 S2 : St} (h1 : FPm q S S1) (h2 : FPm q S1 S2) : FPm q S S2 := ⟨h2.1.trans h1.1, h2.2.1.trans h1.2.1, h2.2.2.1.trans h1.2.2.1, h2.2.2.2.1.trans h1.2.2.2.1, fun a x y z u v i => (h2.2.2.2.2.1 a x y z u v i).trans (h1.2.2.2.2.1 a x y z u v i), fun a x i => (h2.2.2.2.2.2.1 a x i).trans (h1.2.2.2.2.2.1 a x i), fun i hi => (h2.2.2.2.2.2.2.1 i hi).trans (h1.2.2.2.2.2.2.1 i hi), fun i hi => ⟨(h2.2.2.2.2.2.2.2 i hi).1.trans (h1.2.2.2.2.2.2.2 i hi).1, (h2.2.2.2.2.2.2.2 i hi).2.1.trans (h1.2.2.2.2.2.2.2 i hi).2.1, fun j hj => ⟨((h2.2.2.2.2.2.2.2 i hi).2.2 j hj).1.trans ((h1.2.2.2.2.2.2.2 i hi).2.2 j hj).1, ((h2.2.2.2.2.2.2.2 i hi).2.2 j hj).2.1.trans ((h1.2.2.2.2.2.2.2 i hi).2.2 j hj).2.1, ((h2.2.2.2.2.2.2.2 i hi).2.2 j hj).2.2.trans ((h1.2.2.2.2.2.2.2 i hi).2.2 j hj).2.2⟩⟩⟩
theorem FPm.rf {q : Nat} {S : St} : FPm q S S := ⟨rfl, rfl, rfl, rfl, fun _ _ _ _ _ _ _ => rfl, fun _ _ _ => rfl, fun _ _ => rfl, fun _ _ => ⟨rfl, rfl, fun _ _ => ⟨rfl, rfl, rfl⟩⟩⟩
theorem FPm.st {q : Nat} {S S' : St} {b : Nat → Prop} (h : FSt b S S') (hb : ∀ i, b i → 60 * q ≤ i ∧ i < 60 * q + 60) : FPm q S S' := ⟨h.1, h.2.1, h.2.2.1, h.2.2.2.1, fun a x y z u _ i => h.2.2.2.2.1 a x y z u i, h.2.2.2.2.2.1, fun i _ => h.2.2.2.2.1 11 (by decide) (by decide) (by decide) (by decide) i, fun i hi => h.2.2.2.2.2.2 i (fun x => hi (hb i x))⟩
theorem FPm.s11 {q : Nat} {S : St} {v : Int32} : FPm q S (sF S 11 q v) := ⟨rfl, rfl, rfl, rfl, fun a _ _ _ _ h i => gF_ne h, fun _ _ _ => rfl, fun i hi => gF_sFi hi, fun i hi => ⟨gF_ne (by decide), gF_ne (by decide), fun j hj => ⟨gF_ne (by decide), rfl, gF_ne (by decide)⟩⟩⟩
theorem LM.fp {q : Nat} {S S' : St} (w : LM S) (h : FPm q S S') : LM S' := w.of h.2.2.2.1
theorem StM.fp {q : Nat} {S S' : St} {a s : Nat} {ws : List Wd} (w : StM S a s ws) (h : FPm q S S') (ha : ¬ (60 * q ≤ a ∧ a < 60 * q + 60)) : StM S' a s ws := by
  obtain ⟨w1, w2, w3, w4⟩ := w
  obtain ⟨a1, a2, a3⟩ := h.2.2.2.2.2.2.2 a ha
  refine ⟨w1, a1.trans w2, a2.trans w3, fun j w hw => ?_⟩
  have hj := (List.getElem?_eq_some_iff.mp hw).1
  obtain ⟨b1, b2, b3⟩ := a3 j (by omega)
  obtain ⟨z1, z2, z3⟩ := w4 j w hw
  exact ⟨b1.trans z1, b2.trans z2, b3.trans z3⟩
theorem PrM.fp {q q' : Nat} {S S' : St} {P : Prg} (w : PrM S q' P) (h : FPm q S S') (hq : q' ≠ q) : PrM S' q' P := by
  refine ⟨w.1, w.2.1, (h.2.2.2.2.2.2.1 q' hq).trans w.2.2.1, fun i s ws hi => ?_⟩
  have hil := (List.getElem?_eq_some_iff.mp hi).1
  have := w.2.1
  exact (w.st hi).fp h (by omega)
theorem TabM.fp {q : Nat} {S S' : St} (w : TabM S) (h : FPm q S S') : TabM S' := ⟨fun i => (h.2.2.2.2.1 3 (by decide) (by decide) (by decide) (by decide) (by decide) i).trans (w.1 i), fun i => (h.2.2.2.2.1 4 (by decide) (by decide) (by decide) (by decide) (by decide) i).trans (w.2.1 i), fun i => (h.2.2.2.2.2.1 1 (by decide) i).trans (w.2.2.1 i), fun i => (h.2.2.2.2.2.1 2 (by decide) i).trans (w.2.2.2 i)⟩
theorem LitM.fp {q : Nat} {S S' : St} {lits : List (List Int32)} (w : LitM S lits) (h : FPm q S S') : LitM S' lits := by
  obtain ⟨x1, x2, x3, x4⟩ := w
  have hf : ∀ a i, 12 ≤ a → a ≤ 15 → gF S' a i = gF S a i := fun a i h1 h2 => h.2.2.2.2.1 a (by omega) (by omega) (by omega) (by omega) (by omega) i
  refine ⟨(hf 15 0 (by omega) (by omega)).trans x1, x2, x3, fun n l hn => ?_⟩
  obtain ⟨y1, f, y2, y3, y4, y5⟩ := x4 n l hn
  exact ⟨y1, f, y2, (hf 13 n (by omega) (by omega)).trans y3, (hf 14 n (by omega) (by omega)).trans y4, fun i hi => (hf 12 _ (by omega) (by omega)).trans (y5 i hi)⟩
theorem cpp_l {P : Prg} {q q' : Nat} (hg : 100000 ≤ g) (hq : q < 3) (hq' : q' < 3) (hne : q ≠ q') : ∀ (k n i : Nat) (S : St), i + k = P.length → k < n → LM S → PrM S q P → (∀ i' s ws, i' < i → P[i']? = some (s, ws) → StM S (60 * q' + i') s ws) → ∃ S', m_copyProgram_14 g n S (nI q) (nI q') (nI i) = some S' ∧ FPm q' S S' ∧ gF S' 11 q' = gF S 11 q' ∧ ∀ i' s ws, P[i']? = some (s, ws) → StM S' (60 * q' + i') s ws := by
  intro k
  induction k with
  | zero =>
    intro n i S hi hn hm pm hd
    obtain ⟨n, rfl⟩ : ∃ m, n = m + 1 := ⟨n - 1, by omega⟩
    have g11 : gN S 11 = 3 := LMn hm 11
    have h60 := pm.2.1
    refine ⟨S, ?_, FPm.rf, rfl, fun i' s ws h => hd i' s ws (by have := (List.getElem?_eq_some_iff.mp h).1; omega) h⟩
    show b_copyProgram_14 g (m_copyProgram_14 g n) S (nI q) (nI q') (nI i) = _
    unfold b_copyProgram_14
    rw [aI_at (by omega) (by omega), pm.2.2.1, Option.bind_some, if_pos (nI_le (by omega) (by omega))]
  | succ k ih =>
    intro n i S hi hn hm pm hd
    obtain ⟨n, rfl⟩ : ∃ m, n = m + 1 := ⟨n - 1, by omega⟩
    have g11 : gN S 11 = 3 := LMn hm 11
    have h60 := pm.2.1
    have hiP : P[i]? = some (P[i].1, P[i].2) := List.getElem?_eq_getElem (by omega)
    generalize P[i].1 = s at hiP
    generalize P[i].2 = ws at hiP
    obtain ⟨S1, a1, a2, a3⟩ := M_copyStep (g := g) (a := 60 * q + i) (b := 60 * q' + i) hg (by omega) (by omega) (by omega) hm (pm.st hiP)
    have f1 : FPm q' S S1 := FPm.st a2 (fun z hz => by omega)
    obtain ⟨S', b1, b2, b2', b3⟩ := ih n (i + 1) S1 (by omega) (by omega) (hm.fp f1) (pm.fp f1 hne) (fun i' s' ws' h1 h2 => by
      by_cases e : i' = i
      · subst e
        rw [hiP] at h2
        have e2 := Option.some.inj h2
        have es : s = s' := congrArg Prod.fst e2
        have ews : ws = ws' := congrArg Prod.snd e2
        subst es
        subst ews
        exact a3
      · exact (hd i' s' ws' (by omega) h2).fs a2 (by omega))
    refine ⟨S', ?_, f1.tr b2, b2'.trans (a2.2.2.2.2.1 11 (by decide) (by decide) (by decide) (by decide) q'), b3⟩
    show b_copyProgram_14 g (m_copyProgram_14 g n) S (nI q) (nI q') (nI i) = _
    unfold b_copyProgram_14
    rw [aI_at (by omega) (by omega), pm.2.2.1, Option.bind_some, if_neg (nI_ge (by omega) (by omega)), show ∀ z : Nat, (nI z * (60 : Int32)) + nI i = nI (60 * z + i) from fun z => by rw [show (60 : Int32) = nI 60 from rfl, nI_mulE, nI_add, Nat.mul_comm z 60], show ∀ z : Nat, (nI z * (60 : Int32)) + nI i = nI (60 * z + i) from fun z => by rw [show (60 : Int32) = nI 60 from rfl, nI_mulE, nI_add, Nat.mul_comm z 60], a1, Option.bind_some, lt_d, nI_1, b1]
theorem M_copyP {S : St} {P : Prg} {q q' : Nat} (hg : 100000 ≤ g) (hm : LM S) (pm : PrM S q P) (hq' : q' < 3) (hne : q ≠ q') : ∃ S', m_copyProgram g S (nI q) (nI q') = some S' ∧ FPm q' S S' ∧ PrM S' q' P := by
  have g11 : gN S 11 = 3 := LMn hm 11
  have hq := pm.1
  have h60 := pm.2.1
  have f0 : FPm q' S (sF S 11 q' (nI P.length)) := FPm.s11
  obtain ⟨S', b1, b2, b2', b3⟩ := cpp_l (g := g) hg hq hq' hne P.length g 0 _ (by omega) (by omega) (hm.fp f0) (pm.fp f0 hne) (fun i' s ws h => by omega)
  refine ⟨S', ?_, f0.tr b2, hq', pm.2.1, b2'.trans gF_sF, b3⟩
  unfold m_copyProgram
  rw [aI_at (by omega) (by omega), pm.2.2.1, Option.bind_some, tI_at (by omega) (by omega), Option.bind_some]
  exact b1
end CPM
