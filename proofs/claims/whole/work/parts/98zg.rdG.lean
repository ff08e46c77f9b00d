/-! READING: STEPS and words are added on both sides -/
/-- what reading into Program d may change in the class -/
def FRd (d : Nat) (S S' : St) : Prop := (∀ o k, ¬ (o = 3 ∧ (k = 3 ∨ k = 4)) → ¬ (o = d ∧ k = 8) → o ≠ 17 → o ≠ 8 + 3 * d → o ≠ 9 + 3 * d → gI S' o k = gI S o k) ∧ S'.2.1 = S.2.1 ∧ S'.2.2.1 = S.2.2.1 ∧ (∀ a, a ≠ 41 → a ≠ 32 + 3 * d → a ≠ 33 + 3 * d → gN S' a = gN S a) ∧ (∀ a, a ≠ 41 → a ≠ 32 + 3 * d → a ≠ 33 + 3 * d → ¬ (50 + 8 * d ≤ a ∧ a < 50 + 8 * d + 6) → ∀ i, gF S' a i = gF S a i) ∧ ∀ a, ¬ (50 + 8 * d ≤ a ∧ a < 50 + 8 * d + 6) → ∀ i, gG S' a i = gG S a i
theorem FRd.rf {d : Nat} {S : St} : FRd d S S := ⟨fun _ _ _ _ _ _ _ => rfl, rfl, rfl, fun _ _ _ _ => rfl, fun _ _ _ _ _ _ => rfl, fun _ _ _ => rfl⟩
theorem FRd.tr {d : Nat} {S S1 S2 : St} (h1 : FRd d S S1) (h2 : FRd d S1 S2) : FRd d S S2 := ⟨fun o k a b c x y => (h2.1 o k a b c x y).trans (h1.1 o k a b c x y), h2.2.1.trans h1.2.1, h2.2.2.1.trans h1.2.2.1, fun a x y z => (h2.2.2.2.1 a x y z).trans (h1.2.2.2.1 a x y z), fun a x y z u i => (h2.2.2.2.2.1 a x y z u i).trans (h1.2.2.2.2.1 a x y z u i), fun a x i => (h2.2.2.2.2.2 a x i).trans (h1.2.2.2.2.2 a x i)⟩
theorem FRd.fi {d : Nat} {K : Nat → Prop} {S S' : St} (h : Fi 3 K S S') (hK : ∀ k, K k → k = 3 ∨ k = 4) : FRd d S S' := ⟨fun o k a _ _ _ _ => h.1 o k fun ⟨x, y⟩ => a ⟨x, hK k y⟩, by rw [h.2], by rw [h.2], fun a _ _ _ => h.N a, fun a _ _ _ _ i => h.F a i, fun a _ i => h.G a i⟩
theorem FRd.f17 {d : Nat} {S S' : St} (h : F17 S S') : FRd d S S' := ⟨fun o k a _ b _ _ => h.1 o k (by omega) b, h.2.1, h.2.2.1, fun a x _ _ => (h.2.2.2.1 a x).1, fun a x _ _ _ i => (h.2.2.2.1 a x).2 i, fun a _ i => by unfold gG; rw [h.2.2.2.2]⟩
theorem FRd.fr {d o : Nat} {S S' : St} (h : Fr o S S') (ho : o = 17 ∨ o = 8 + 3 * d ∨ o = 9 + 3 * d) : FRd d S S' := ⟨fun x k _ _ a b c => h.1 x k (by omega), h.2.1, h.2.2.1, fun a x y z => (h.2.2.2.1 a (by omega)).1, fun a x y z _ i => (h.2.2.2.1 a (by omega)).2 i, fun a _ i => by unfold gG; rw [h.2.2.2.2]⟩
theorem FRd.fp {d : Nat} {S S' : St} (h : FPc d S S') : FRd d S S' := ⟨fun o k _ b _ _ _ => h.1 o k b, h.2.1, h.2.2.1, fun a _ _ _ => by unfold gN; rw [h.2.2.2.1], fun a _ _ _ x i => (h.2.2.2.2 a x).1 i, fun a x i => (h.2.2.2.2 a x).2 i⟩
theorem Rw.rd {d x : Nat} {S S' : St} {l : List Int32} {ov : Int32} (w : Rw S x l ov) (h : FRd d S S') (hd : d = 1 ∨ d = 2) (h1 : x ≠ 17) (h2 : x ≠ 8 + 3 * d) (h3 : x ≠ 9 + 3 * d) : Rw S' x l ov := by
  obtain ⟨w0, w1, w2, w3, w4, w5, w6, w7, w8⟩ := w
  unfold Rw
  rw [h.1 x 0 (by omega) (by omega) h1 h2 h3, h.1 x 2 (by omega) (by omega) h1 h2 h3, h.1 x 3 (by omega) (by omega) h1 h2 h3, h.2.2.2.1 (x + 24) (by omega) (by omega) (by omega)]
  exact ⟨w0, w1, w2, w3, w4, w5, w6, w7, fun i hi => by rw [h.2.2.2.2.1 (x + 24) (by omega) (by omega) (by omega) (by omega)]; exact w8 i hi⟩
theorem gOK.rd {d : Nat} {S S' : St} (w : gOK S) (h : FRd d S S') : gOK S' := by
  unfold gOK gR at *
  rw [h.2.2.1]
  exact w
theorem LC.rd {d : Nat} {S S' : St} (w : LC S) (h : FRd d S S') (hd : d = 1 ∨ d = 2) : LC S' := fun a ha => (h.2.2.2.1 a (by omega) (by omega) (by omega)).trans (w a ha)
/-- arrays of the reference that reading leaves -/
def rdA (a i : Nat) : Prop := ¬ ((a = 6 ∨ a = 7) ∧ 60 ≤ i) ∧ ¬ ((a = 8 ∨ a = 9) ∧ 600 ≤ i) ∧ ¬ ((a = 11 ∨ a = 15) ∧ i = 1) ∧ ¬ (a = 12 ∧ 3000 ≤ i) ∧ ¬ ((a = 13 ∨ a = 14) ∧ 24 ≤ i) ∧ a ≠ 17
/-- what reading may change in the reference -/
def FRq (S S' : St) : Prop := (∀ k, ¬ (18 ≤ k ∧ k ≤ 24) → gI S' 0 k = gI S 0 k) ∧ S'.2.2.1 = S.2.2.1 ∧ S'.2.2.2.1 = S.2.2.2.1 ∧ (∀ a i, rdA a i → gF S' a i = gF S a i) ∧ ∀ a i, ¬ (a = 10 ∧ 600 ≤ i) → gG S' a i = gG S a i
theorem FRq.rf {S : St} : FRq S S := ⟨fun _ _ => rfl, rfl, rfl, fun _ _ _ => rfl, fun _ _ _ => rfl⟩
theorem FRq.tr {S S1 S2 : St} (h1 : FRq S S1) (h2 : FRq S1 S2) : FRq S S2 := ⟨fun k a => (h2.1 k a).trans (h1.1 k a), h2.2.1.trans h1.2.1, h2.2.2.1.trans h1.2.2.1, fun a i x => (h2.2.2.2.1 a i x).trans (h1.2.2.2.1 a i x), fun a i x => (h2.2.2.2.2 a i x).trans (h1.2.2.2.2 a i x)⟩
theorem FRq.fw {S S' : St} (h : FW S S') : FRq S S' := ⟨fun k a => h.1 0 k (by omega), h.2.2.1, h.2.2.2.1, fun a i x => h.2.2.2.2.1 a x.2.2.2.2.2 i, fun a i _ => by unfold gG; rw [h.2.2.2.2.2]⟩
theorem FRq.sI {S : St} {k : Nat} {v : Int32} (h : 18 ≤ k ∧ k ≤ 24) : FRq S (sI S 0 k v) := ⟨fun j a => gI_ne (by omega), rfl, rfl, fun _ _ _ => rfl, fun _ _ _ => rfl⟩
theorem FRq.sL {S : St} {v : Int64} : FRq S (sL S 0 26 v) := ⟨fun _ _ => rfl, rfl, rfl, fun _ _ _ => rfl, fun _ _ _ => rfl⟩
theorem FRq.sF {S : St} {b j : Nat} {v : Int32} (h : ¬ rdA b j) : FRq S (sF S b j v) := ⟨fun _ _ => rfl, rfl, rfl, fun a i x => by
  by_cases q : a = b
  · subst q
    exact gF_sFi (by rintro rfl; exact h x)
  · exact gF_ne q, fun _ _ _ => rfl⟩
theorem FRq.sG {S : St} {j : Nat} {v : Int64} (h : 600 ≤ j) : FRq S (sG S 10 j v) := ⟨fun _ _ => rfl, rfl, rfl, fun _ _ _ => rfl, fun a i x => by
  by_cases q : a = 10
  · subst q
    exact gG_sGi (by rintro rfl; exact x ⟨rfl, h⟩)
  · exact gG_ne q⟩
theorem LM.rq {S S' : St} (w : LM S) (h : FRq S S') : LM S' := w.of h.2.2.1
theorem TpM.rq {S S' : St} {tp : List Int32} (w : TpM S tp) (h : FRq S S') : TpM S' tp := ⟨by rw [h.1 5 (by omega)]; exact w.1, w.2.1, fun i hi => by rw [h.2.2.2.1 5 i (by unfold rdA; omega)]; exact w.2.2.1 i hi, w.2.2.2⟩
theorem TabM.rq {S S' : St} (w : TabM S) (h : FRq S S') : TabM S' := ⟨fun i => (h.2.2.2.1 3 i (by unfold rdA; omega)).trans (w.1 i), fun i => (h.2.2.2.1 4 i (by unfold rdA; omega)).trans (w.2.1 i), fun i => (h.2.2.2.2 1 i (by omega)).trans (w.2.2.1 i), fun i => (h.2.2.2.2 2 i (by omega)).trans (w.2.2.2 i)⟩
theorem fsP_app : ∀ {P R : Prg} {i : Nat}, i ≤ P.length → fsP (P ++ R) i = fsP P i
  | [], R, i, h => by
    have : i = 0 := by simpa using h
    subst this
    rw [fsP_0, fsP_0]
  | s :: P, R, 0, _ => rfl
  | s :: P, R, i + 1, h => by
    show s.2.length + fsP (P ++ R) i = s.2.length + fsP P i
    rw [fsP_app (by simpa using h)]
theorem fsP_end {P : Prg} {s : Nat} {ws : List Wd} : fsP (P ++ [(s, ws)]) (P.length + 1) = fsP P P.length + ws.length := by
  rw [fsP_s (P := P ++ [(s, ws)]) (i := P.length) (s := s) (ws := ws) (by simp), fsP_app (Nat.le_refl _)]
theorem app_get {P : Prg} {i s s' : Nat} {ws ws' : List Wd} (h : (P ++ [(s, ws)])[i]? = some (s', ws')) : (i < P.length ∧ P[i]? = some (s', ws')) ∨ (i = P.length ∧ s' = s ∧ ws' = ws) := by
  by_cases q : i < P.length
  · rw [List.getElem?_append_left q] at h
    exact Or.inl ⟨q, h⟩
  · rw [List.getElem?_append_right (by omega)] at h
    by_cases q2 : i - P.length = 0
    · rw [q2] at h
      cases h
      exact Or.inr ⟨by omega, rfl, rfl⟩
    · rw [List.getElem?_eq_none (by simp; omega)] at h
      cases h
theorem ws_get {ws : List Wd} {w w' : Wd} {j : Nat} (h : (ws ++ [w])[j]? = some w') : (j < ws.length ∧ ws[j]? = some w') ∨ (j = ws.length ∧ w' = w) := by
  by_cases q : j < ws.length
  · rw [List.getElem?_append_left q] at h
    exact Or.inl ⟨q, h⟩
  · rw [List.getElem?_append_right (by omega)] at h
    by_cases q2 : j - ws.length = 0
    · rw [q2] at h
      cases h
      exact Or.inr ⟨by omega, rfl⟩
    · rw [List.getElem?_eq_none (by simp; omega)] at h
      cases h
section RDGG
variable {g d : Nat} {S S2 : St} {P : Prg} {s : Nat} {ws : List Wd}
theorem C_addS (pc : PrC S d P) (hl : LC S) (hP : P.length < 60) : ∃ S', m_Pg_addStep g S d (nI s) = some S' ∧ FPc d S S' ∧ PrC S' d (P ++ [(s, [])]) := by
  obtain ⟨p1, p2, p3, p4, p5, p6⟩ := pc
  obtain ⟨l0, l1, l2, l3, l4, l5, -, -⟩ := LCp hl p1
  have f1 : FPc d S (sF S (50 + 8 * d + 0) P.length (nI s)) := FPc.fa ⟨rfl, rfl, rfl, rfl, fun b hb j => gF_ne hb, fun _ _ _ => rfl⟩ (by omega)
  have e0 : gI (sF S (50 + 8 * d + 0) P.length (nI s)) d 8 = nI P.length := p4
  have f2 : FPc d S (sF (sF S (50 + 8 * d + 0) P.length (nI s)) (50 + 8 * d + 1) (P.length + 1) (nI (fsP P P.length))) := f1.tr (FPc.fa ⟨rfl, rfl, rfl, rfl, fun b hb j => gF_ne hb, fun _ _ _ => rfl⟩ (by omega))
  refine ⟨sI (sF (sF S (50 + 8 * d + 0) P.length (nI s)) (50 + 8 * d + 1) (P.length + 1) (nI (fsP P P.length))) d 8 (nI (P.length + 1)), ?_, f2.tr FPc.sI, p1, ?_, ?_, ?_, fun i hi => ?_, fun i s' ws' h => ?_⟩
  · unfold m_Pg_addStep
    rw [p4, if_neg (show ¬ (60 : Int32) ≤ nI P.length from nI_ge (b := 60) hP (by omega)), tI_at (by omega) (by omega), Option.bind_some, e0, aI_at (show P.length < gN (sF S (50 + 8 * d + 0) P.length (nI s)) (50 + 8 * d + 1) from by show P.length < gN S (50 + 8 * d + 1); omega) (show gN (sF S (50 + 8 * d + 0) P.length (nI s)) (50 + 8 * d + 1) < 2 ^ 31 from by show gN S (50 + 8 * d + 1) < 2 ^ 31; omega), Option.bind_some, gF_ne (by omega), p5 _ (Nat.le_refl _), nI_1, tI_at (show P.length + 1 < gN (sF S (50 + 8 * d + 0) P.length (nI s)) (50 + 8 * d + 1) from by show P.length + 1 < gN S (50 + 8 * d + 1); omega) (show gN (sF S (50 + 8 * d + 0) P.length (nI s)) (50 + 8 * d + 1) < 2 ^ 31 from by show gN S (50 + 8 * d + 1) < 2 ^ 31; omega), Option.bind_some, lt_d]
    rw [show gI (sF (sF S (50 + 8 * d + 0) P.length (nI s)) (50 + 8 * d + 1) (P.length + 1) (nI (fsP P P.length))) d 8 = nI P.length from p4, nI_1]
  · simp; omega
  · rw [List.length_append, List.length_singleton, fsP_end]
    simpa using p3
  · rw [sI_g, List.length_append, List.length_singleton]
  · show gF (sF (sF S (50 + 8 * d + 0) P.length (nI s)) (50 + 8 * d + 1) (P.length + 1) (nI (fsP P P.length))) (50 + 8 * d + 1) i = _
    rw [List.length_append, List.length_singleton] at hi
    by_cases q : i = P.length + 1
    · rw [q, gF_sF, fsP_end]
      rfl
    · rw [gF_sFi q, gF_ne (by omega), p5 i (by omega), fsP_app (by omega)]
  · have aF : ∀ a i, a ≠ 50 + 8 * d + 0 → a ≠ 50 + 8 * d + 1 → gF (sI (sF (sF S (50 + 8 * d + 0) P.length (nI s)) (50 + 8 * d + 1) (P.length + 1) (nI (fsP P P.length))) d 8 (nI (P.length + 1))) a i = gF S a i := fun a i h1 h2 => by
      show gF (sF (sF S (50 + 8 * d + 0) P.length (nI s)) (50 + 8 * d + 1) (P.length + 1) (nI (fsP P P.length))) a i = _
      rw [gF_ne h2, gF_ne h1]
    have a0 : gF (sI (sF (sF S (50 + 8 * d + 0) P.length (nI s)) (50 + 8 * d + 1) (P.length + 1) (nI (fsP P P.length))) d 8 (nI (P.length + 1))) (50 + 8 * d + 0) i = (if i = P.length then nI s else gF S (50 + 8 * d + 0) i) := by
      show gF (sF (sF S (50 + 8 * d + 0) P.length (nI s)) (50 + 8 * d + 1) (P.length + 1) (nI (fsP P P.length))) (50 + 8 * d + 0) i = _
      rw [gF_ne (by omega)]
      by_cases q : i = P.length
      · rw [q, gF_sF, if_pos rfl]
      · rw [gF_sFi q, if_neg q]
    rcases app_get h with ⟨q, z⟩ | ⟨rfl, rfl, rfl⟩
    · rw [a0, if_neg (by omega), fsP_app (by omega)]
      obtain ⟨z1, z2⟩ := p6 i s' ws' z
      refine ⟨z1, fun j w hw => ?_⟩
      rw [aF _ _ (by omega) (by omega), aF _ _ (by omega) (by omega), aF _ _ (by omega) (by omega)]
      exact z2 j w hw
    · rw [a0, if_pos rfl]
      exact ⟨rfl, fun j w hw => by cases hw⟩
theorem C_addW {k : Nat} {v : Int64} {pl : Int32} (pc : PrC S d (P ++ [(s, ws)])) (hl : LC S) (hF : fsP P P.length + ws.length < 540) : ∃ S', m_Pg_addWord g S d (nI (ckW k)) (nI (sgW k)) v pl = some S' ∧ FPc d S S' ∧ PrC S' d (P ++ [(s, ws ++ [(k, v, pl)])]) := by
  obtain ⟨p1, p2, p3, p4, p5, p6⟩ := pc
  obtain ⟨l0, l1, l2, l3, l4, l5, -, -⟩ := LCp hl p1
  rw [List.length_append, List.length_singleton] at p2 p4 p5
  have p5l := p5 (P.length + 1) (Nat.le_refl _)
  rw [fsP_end] at p5l
  generalize hFF : fsP P P.length + ws.length = F at hF p5l
  have fa : ∀ (T : St) (a i : Nat) (x : Int32), 50 + 8 * d ≤ a ∧ a < 50 + 8 * d + 6 → FPc d T (sF T a i x) := fun T a i x h => FPc.fa ⟨rfl, rfl, rfl, rfl, fun b hb j => gF_ne hb, fun _ _ _ => rfl⟩ h
  have fg : ∀ (T : St) (a i : Nat) (x : Int64), 50 + 8 * d ≤ a ∧ a < 50 + 8 * d + 6 → FPc d T (sG T a i x) := fun T a i x h => FPc.fa ⟨rfl, rfl, rfl, rfl, fun _ _ _ => rfl, fun b hb j => gG_ne hb⟩ h
  refine ⟨sF (sF (sG (sF (sF S (50 + 8 * d + 2) F (nI (ckW k))) (50 + 8 * d + 3) F (nI (sgW k))) (50 + 8 * d + 4) F v) (50 + 8 * d + 5) F pl) (50 + 8 * d + 1) (P.length + 1) (nI (F + 1)), ?_, ((((fa _ _ _ _ (by omega)).tr (fa _ _ _ _ (by omega))).tr (fg _ _ _ _ (by omega))).tr (fa _ _ _ _ (by omega))).tr (fa _ _ _ _ (by omega)), p1, ?_, ?_, ?_, fun i hi => ?_, fun i s' ws' h => ?_⟩
  · unfold m_Pg_addWord
    rw [p4, aI_at (by omega) (by omega), Option.bind_some, p5l, if_neg (show ¬ nI (P.length + 1) ≤ 0 from nI_ge (a := 0) (by omega) (by omega)), if_neg (show ¬ (540 : Int32) ≤ nI F from nI_ge (b := 540) hF (by omega)), tI_at (by omega) (by omega), Option.bind_some, tI_at (by show F < gN S (50 + 8 * d + 3); omega) (by show gN S (50 + 8 * d + 3) < _; omega), Option.bind_some, tJ_at (by show F < gN S (50 + 8 * d + 4); omega) (by show gN S (50 + 8 * d + 4) < _; omega), Option.bind_some, tI_at (by show F < gN S (50 + 8 * d + 5); omega) (by show gN S (50 + 8 * d + 5) < _; omega), Option.bind_some]
    rw [show gI (sF (sG (sF (sF S (50 + 8 * d + 2) F (nI (ckW k))) (50 + 8 * d + 3) F (nI (sgW k))) (50 + 8 * d + 4) F v) (50 + 8 * d + 5) F pl) d 8 = nI (P.length + 1) from p4, nI_1, tI_at (by show P.length + 1 < gN S (50 + 8 * d + 1); omega) (by show gN S (50 + 8 * d + 1) < _; omega), Option.bind_some]
  · simp; omega
  · rw [List.length_append, List.length_singleton, fsP_end, List.length_append, List.length_singleton]
    omega
  · rw [List.length_append, List.length_singleton]
    exact p4
  · rw [List.length_append, List.length_singleton] at hi
    by_cases q : i = P.length + 1
    · rw [q, gF_sF, fsP_end, List.length_append, List.length_singleton]
      congr 1
      omega
    · rw [gF_sFi q, gF_ne (by omega)]
      show gF (sF (sF S (50 + 8 * d + 2) F (nI (ckW k))) (50 + 8 * d + 3) F (nI (sgW k))) (50 + 8 * d + 1) i = _
      rw [gF_ne (by omega), gF_ne (by omega), p5 i (by omega), fsP_app (by omega), fsP_app (by omega)]
  · have a0 : ∀ i, gF (sF (sF (sG (sF (sF S (50 + 8 * d + 2) F (nI (ckW k))) (50 + 8 * d + 3) F (nI (sgW k))) (50 + 8 * d + 4) F v) (50 + 8 * d + 5) F pl) (50 + 8 * d + 1) (P.length + 1) (nI (F + 1))) (50 + 8 * d + 0) i = gF S (50 + 8 * d + 0) i := fun i => by
      rw [gF_ne (by omega), gF_ne (by omega)]
      show gF (sF (sF S (50 + 8 * d + 2) F (nI (ckW k))) (50 + 8 * d + 3) F (nI (sgW k))) (50 + 8 * d + 0) i = _
      rw [gF_ne (by omega), gF_ne (by omega)]
    have a2 : ∀ i, gF (sF (sF (sG (sF (sF S (50 + 8 * d + 2) F (nI (ckW k))) (50 + 8 * d + 3) F (nI (sgW k))) (50 + 8 * d + 4) F v) (50 + 8 * d + 5) F pl) (50 + 8 * d + 1) (P.length + 1) (nI (F + 1))) (50 + 8 * d + 2) i = (if i = F then nI (ckW k) else gF S (50 + 8 * d + 2) i) := fun i => by
      rw [gF_ne (by omega), gF_ne (by omega)]
      show gF (sF (sF S (50 + 8 * d + 2) F (nI (ckW k))) (50 + 8 * d + 3) F (nI (sgW k))) (50 + 8 * d + 2) i = _
      rw [gF_ne (by omega)]
      by_cases q : i = F
      · rw [q, gF_sF, if_pos rfl]
      · rw [gF_sFi q, if_neg q]
    have a3 : ∀ i, gF (sF (sF (sG (sF (sF S (50 + 8 * d + 2) F (nI (ckW k))) (50 + 8 * d + 3) F (nI (sgW k))) (50 + 8 * d + 4) F v) (50 + 8 * d + 5) F pl) (50 + 8 * d + 1) (P.length + 1) (nI (F + 1))) (50 + 8 * d + 3) i = (if i = F then nI (sgW k) else gF S (50 + 8 * d + 3) i) := fun i => by
      rw [gF_ne (by omega), gF_ne (by omega)]
      show gF (sF (sF S (50 + 8 * d + 2) F (nI (ckW k))) (50 + 8 * d + 3) F (nI (sgW k))) (50 + 8 * d + 3) i = _
      by_cases q : i = F
      · rw [q, gF_sF, if_pos rfl]
      · rw [gF_sFi q, if_neg q, gF_ne (by omega)]
    have a5 : ∀ i, gF (sF (sF (sG (sF (sF S (50 + 8 * d + 2) F (nI (ckW k))) (50 + 8 * d + 3) F (nI (sgW k))) (50 + 8 * d + 4) F v) (50 + 8 * d + 5) F pl) (50 + 8 * d + 1) (P.length + 1) (nI (F + 1))) (50 + 8 * d + 5) i = (if i = F then pl else gF S (50 + 8 * d + 5) i) := fun i => by
      rw [gF_ne (by omega)]
      by_cases q : i = F
      · rw [q, gF_sF, if_pos rfl]
      · rw [gF_sFi q, if_neg q]
        show gF (sF (sF S (50 + 8 * d + 2) F (nI (ckW k))) (50 + 8 * d + 3) F (nI (sgW k))) (50 + 8 * d + 5) i = _
        rw [gF_ne (by omega), gF_ne (by omega)]
    have a4 : ∀ i, gG (sF (sF (sG (sF (sF S (50 + 8 * d + 2) F (nI (ckW k))) (50 + 8 * d + 3) F (nI (sgW k))) (50 + 8 * d + 4) F v) (50 + 8 * d + 5) F pl) (50 + 8 * d + 1) (P.length + 1) (nI (F + 1))) (50 + 8 * d + 4) i = (if i = F then v else gG S (50 + 8 * d + 4) i) := fun i => by
      show gG (sG (sF (sF S (50 + 8 * d + 2) F (nI (ckW k))) (50 + 8 * d + 3) F (nI (sgW k))) (50 + 8 * d + 4) F v) (50 + 8 * d + 4) i = _
      by_cases q : i = F
      · rw [q, gG_sG, if_pos rfl]
      · rw [gG_sGi q, if_neg q]
        rfl
    have old : ∀ (i s' : Nat) (ws' : List Wd) (j : Nat) (w : Wd), (P ++ [(s, ws)])[i]? = some (s', ws') → ws'[j]? = some w → fsP (P ++ [(s, ws)]) i + j < F := by
      intro i s' ws' j w h hw
      have hj := (List.getElem?_eq_some_iff.mp hw).1
      have e := fsP_s h
      have e2 : fsP (P ++ [(s, ws)]) (i + 1) ≤ fsP (P ++ [(s, ws)]) (P ++ [(s, ws)]).length := fsP_le
      rw [List.length_append, List.length_singleton, fsP_end] at e2
      omega
    rcases app_get h with ⟨q, z⟩ | ⟨rfl, rfl, rfl⟩
    · have z' : (P ++ [(s, ws)])[i]? = some (s', ws') := by rw [List.getElem?_append_left q]; exact z
      obtain ⟨y1, y2⟩ := p6 i s' ws' z'
      rw [fsP_app (R := [(s, ws)]) (show i ≤ P.length by omega)] at y2
      rw [fsP_app (show i ≤ P.length by omega)]
      refine ⟨by rw [a0]; exact y1, fun j w hw => ?_⟩
      have o := old i s' ws' j w z' hw
      rw [fsP_app (by omega)] at o
      rw [a2, a3, a4, a5, if_neg (by omega), if_neg (by omega), if_neg (by omega), if_neg (by omega)]
      exact y2 j w hw
    · have z' : (P ++ [(s', ws)])[P.length]? = some (s', ws) := by simp
      obtain ⟨y1, y2⟩ := p6 P.length s' ws z'
      rw [fsP_app (R := [(s', ws)]) (Nat.le_refl _)] at y2
      rw [fsP_app (Nat.le_refl _)]
      refine ⟨by rw [a0]; exact y1, fun j w hw => ?_⟩
      rcases ws_get hw with ⟨q, hw⟩ | ⟨q, rfl⟩
      · rw [a2, a3, a4, a5, if_neg (by omega), if_neg (by omega), if_neg (by omega), if_neg (by omega)]
        exact y2 j w hw
      · rw [a2, a3, a4, a5, q, if_pos hFF, if_pos hFF, if_pos hFF, if_pos hFF]
        exact ⟨rfl, rfl, rfl, rfl⟩
/-- the STEP that the reference reads -/
def CurQ (S : St) (n s : Nat) (ws : List Wd) : Prop := gF S 6 (60 + n) = nI s ∧ ∀ j w, ws[j]? = some w → gF S 8 (10 * (60 + n) + j) = nI w.1 ∧ gG S 10 (10 * (60 + n) + j) = w.2.1 ∧ gF S 9 (10 * (60 + n) + j) = w.2.2
def kpS (S : St) (x : Nat) (k : Int32) (v : Int64) : St := sF (sG (sF S 8 x k) 10 x v) 9 x (gI S 0 20)
theorem M_keeps {x : Nat} {k : Int32} {v : Int64} (hm : LM S2) (hx : x < 1800) : m_keeps g S2 (nI x) k v = some (kpS S2 x k v, 1) := by
  have h8 : gN S2 8 = 1800 := LMn hm 8
  have h9 : gN S2 9 = 1800 := LMn hm 9
  have h10 : gN S2 10 = 1800 := LMn hm 10
  unfold m_keeps kpS
  rw [tI_at (by omega) (by omega), Option.bind_some, tJ_at (by show x < gN S2 10; omega) (by show gN S2 10 < _; omega), Option.bind_some, tI_at (by show x < gN S2 9; omega) (by show gN S2 9 < _; omega), Option.bind_some]
  rfl
theorem kp_8 {x i : Nat} {k : Int32} {v : Int64} : gF (kpS S2 x k v) 8 i = (if i = x then k else gF S2 8 i) := by
  unfold kpS
  rw [gF_ne (by decide)]
  show gF (sF S2 8 x k) 8 i = _
  by_cases q : i = x
  · rw [q, gF_sF, if_pos rfl]
  · rw [gF_sFi q, if_neg q]
theorem kp_9 {x i : Nat} {k : Int32} {v : Int64} : gF (kpS S2 x k v) 9 i = (if i = x then gI S2 0 20 else gF S2 9 i) := by
  unfold kpS
  by_cases q : i = x
  · rw [q, gF_sF, if_pos rfl]
  · rw [gF_sFi q, if_neg q]
    show gF (sF S2 8 x k) 9 i = _
    rw [gF_ne (by decide)]
theorem kp_10 {x i : Nat} {k : Int32} {v : Int64} : gG (kpS S2 x k v) 10 i = (if i = x then v else gG S2 10 i) := by
  unfold kpS
  show gG (sG (sF S2 8 x k) 10 x v) 10 i = _
  by_cases q : i = x
  · rw [q, gG_sG, if_pos rfl]
  · rw [gG_sGi q, if_neg q]
    rfl
theorem kp_F {x a i : Nat} {k : Int32} {v : Int64} (h8 : a ≠ 8) (h9 : a ≠ 9) : gF (kpS S2 x k v) a i = gF S2 a i := by
  unfold kpS
  rw [gF_ne h9]
  show gF (sF S2 8 x k) a i = _
  rw [gF_ne h8]
theorem kp_fr {x : Nat} {k : Int32} {v : Int64} (hx : 600 ≤ x) : FRq S2 (kpS S2 x k v) := ((FRq.sF (by unfold rdA; omega)).tr (FRq.sG hx)).tr (FRq.sF (by unfold rdA; omega))
theorem CurQ.kp {n k : Nat} {v : Int64} {pl : Int32} (c : CurQ S2 n s ws) (h20 : gI S2 0 20 = pl) : CurQ (kpS S2 (10 * (60 + n) + ws.length) (nI k) v) n s (ws ++ [(k, v, pl)]) := by
  refine ⟨by rw [kp_F (by decide) (by decide)]; exact c.1, fun j w hw => ?_⟩
  rw [kp_8, kp_9, kp_10]
  rcases ws_get hw with ⟨q, hw⟩ | ⟨q, rfl⟩
  · rw [if_neg (by omega), if_neg (by omega), if_neg (by omega)]
    exact c.2 j w hw
  · rw [q, if_pos rfl, if_pos rfl, if_pos rfl]
    exact ⟨rfl, rfl, h20⟩
theorem PrM.kp {n m : Nat} {k : Int32} {v : Int64} (w : PrM S2 1 P) (hn : n = P.length) : PrM (kpS S2 (10 * (60 + n) + m) k v) 1 P := by
  obtain ⟨p1, p2, p3, p4⟩ := w
  refine ⟨p1, p2, by rw [kp_F (by decide) (by decide)]; exact p3, fun i s ws h => ?_⟩
  obtain ⟨z1, z2, z3, z4⟩ := p4 i s ws h
  have hi := (List.getElem?_eq_some_iff.mp h).1
  refine ⟨z1, by rw [kp_F (by decide) (by decide)]; exact z2, by rw [kp_F (by decide) (by decide)]; exact z3, fun j w hw => ?_⟩
  have hj := (List.getElem?_eq_some_iff.mp hw).1
  rw [kp_8, kp_9, kp_10, if_neg (by omega), if_neg (by omega), if_neg (by omega)]
  exact z4 j w hw
end RDGG
