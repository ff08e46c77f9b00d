/-! a run, from begin to end -/
/-- what a run leaves as it was, in the reference, begin with it -/
def FX (S S' : St) : Prop := (∀ k, ¬ stpSl k → k ≠ 52 → k ≠ 53 → k ≠ 54 → k ≠ 55 → k ≠ 61 → gI S' 0 k = gI S 0 k) ∧ S'.2.1 = S.2.1 ∧ S'.2.2.1 = S.2.2.1 ∧ S'.2.2.2.1 = S.2.2.2.1 ∧ ∀ a, ¬ stpAr a → a ≠ 16 → a ≠ 31 → a ≠ 35 → a ≠ 36 → (∀ i, gF S' a i = gF S a i) ∧ ∀ i, gG S' a i = gG S a i
theorem FX.rf {S : St} : FX S S := ⟨fun _ _ _ _ _ _ _ => rfl, rfl, rfl, rfl, fun _ _ _ _ _ _ => ⟨fun _ => rfl, fun _ => rfl⟩⟩
theorem FX.tr {S S1 S2 : St} (h1 : FX S S1) (h2 : FX S1 S2) : FX S S2 := ⟨fun k a b c d e f => (h2.1 k a b c d e f).trans (h1.1 k a b c d e f), h2.2.1.trans h1.2.1, h2.2.2.1.trans h1.2.2.1, h2.2.2.2.1.trans h1.2.2.2.1, fun a b c d e f => ⟨fun i => ((h2.2.2.2.2 a b c d e f).1 i).trans ((h1.2.2.2.2 a b c d e f).1 i), fun i => ((h2.2.2.2.2 a b c d e f).2 i).trans ((h1.2.2.2.2 a b c d e f).2 i)⟩⟩
theorem FX.b {S S' : St} (h : FBM S S') : FX S S' := ⟨fun k a b c d e _ => h.1 k a b c d e, h.2.1, h.2.2.1, h.2.2.2.1, fun a b c d _ _ => h.2.2.2.2 a b c d⟩
theorem FX.r {S S' : St} (h : FRm S S') : FX S S' := ⟨fun k a b c d e f => h.1 k a b c d e f, h.2.1, h.2.2.1, h.2.2.2.1, fun a b _ c d e => h.2.2.2.2 a b c d e⟩
theorem FX.s61 {S : St} {v : Int32} : FX S (sI S 0 61 v) := ⟨fun k _ _ _ _ _ h => gI_ne (by omega), rfl, rfl, rfl, fun _ _ _ _ _ _ => ⟨fun _ => rfl, fun _ => rfl⟩⟩
theorem LM.fx {S S' : St} (w : LM S) (h : FX S S') : LM S' := w.of h.2.2.2.1
theorem PrM.fx {S S' : St} {q : Nat} {P : Prg} (w : PrM S q P) (h : FX S S') : PrM S' q P := by
  obtain ⟨x1, x2, x3, x4⟩ := w
  have hf : ∀ a i, 6 ≤ a → a ≤ 11 → gF S' a i = gF S a i := fun a i h1 h2 => (h.2.2.2.2 a (by unfold stpAr; omega) (by omega) (by omega) (by omega) (by omega)).1 i
  have hgg : ∀ a i, 6 ≤ a → a ≤ 11 → gG S' a i = gG S a i := fun a i h1 h2 => (h.2.2.2.2 a (by unfold stpAr; omega) (by omega) (by omega) (by omega) (by omega)).2 i
  refine ⟨x1, x2, (hf 11 q (by omega) (by omega)).trans x3, fun i s ws hi => ?_⟩
  obtain ⟨y1, y2, y3, y4⟩ := x4 i s ws hi
  refine ⟨y1, (hf 6 _ (by omega) (by omega)).trans y2, (hf 7 _ (by omega) (by omega)).trans y3, fun j w hw => ?_⟩
  obtain ⟨z1, z2, z3⟩ := y4 j w hw
  exact ⟨(hf 8 _ (by omega) (by omega)).trans z1, (hgg 10 _ (by omega) (by omega)).trans z2, (hf 9 _ (by omega) (by omega)).trans z3⟩
theorem LitM.fx {S S' : St} {lits : List (List Int32)} (w : LitM S lits) (h : FX S S') : LitM S' lits := by
  obtain ⟨x1, x2, x3, x4⟩ := w
  have hf : ∀ a i, 12 ≤ a → a ≤ 15 → gF S' a i = gF S a i := fun a i h1 h2 => (h.2.2.2.2 a (by unfold stpAr; omega) (by omega) (by omega) (by omega) (by omega)).1 i
  refine ⟨(hf 15 0 (by omega) (by omega)).trans x1, x2, x3, fun n l hn => ?_⟩
  obtain ⟨y1, f, y2, y3, y4, y5⟩ := x4 n l hn
  exact ⟨y1, f, y2, (hf 13 n (by omega) (by omega)).trans y3, (hf 14 n (by omega) (by omega)).trans y4, fun i hi => (hf 12 _ (by omega) (by omega)).trans (y5 i hi)⟩
theorem PrC.fg {S S' : St} {p : Nat} {P : Prg} (w : PrC S p P) (h : FBg S S') : PrC S' p P := by
  obtain ⟨x1, x2, x3, x4, x5, x6⟩ := w
  have hf : ∀ k i, k < 8 → gF S' (50 + 8 * p + k) i = gF S (50 + 8 * p + k) i := fun k i hk => (h.2.2.2.2.2 _ (by omega) (by omega)).1 i
  have hgg : ∀ k i, k < 8 → gG S' (50 + 8 * p + k) i = gG S (50 + 8 * p + k) i := fun k i hk => (h.2.2.2.2.2 _ (by omega) (by omega)).2 i
  refine ⟨x1, x2, x3, (h.1 p 8 (by omega) (by omega)).trans x4, fun i hi => (hf 1 i (by omega)).trans (x5 i hi), fun i s ws hi => ⟨(hf 0 i (by omega)).trans (x6 i s ws hi).1, fun j w hw => ?_⟩⟩
  obtain ⟨q1, q2, q3, q4⟩ := (x6 i s ws hi).2 j w hw
  exact ⟨(hf 2 _ (by omega)).trans q1, (hf 3 _ (by omega)).trans q2, (hgg 4 _ (by omega)).trans q3, (hf 5 _ (by omega)).trans q4⟩
theorem LC.fg {S S' : St} (w : LC S) (h : FBg S S') : LC S' := fun a ha => (h.2.2.2.2.1 a ha).trans (w a ha)
theorem gOK.fg {S S' : St} (w : gOK S) (h : FBg S S') (h9 : gR S' 4 9 < 3) : gOK S' := by
  obtain ⟨a, b, c, d⟩ := w
  exact ⟨by rw [h.2.2.2.1 _ _ (by omega)]; exact a, by rw [h.2.2.2.1 _ _ (by omega)]; exact b, by rw [h.2.2.2.1 _ _ (by omega)]; exact c, h9⟩
/-- a program is loaded on both sides -/
def HasP (S S2 : St) (p q : Nat) (P : Prg) (lits : List (List Int32)) : Prop := PrC S p P ∧ PrM S2 q P ∧ LoadC S lits ∧ LitM S2 lits ∧ (∀ l ∈ lits, usL l) ∧ PrgOK (fun n => n < lits.length) P ∧ JdgOK P
section RAL
variable {g p q : Nat} {P : Prg} {lits : List (List Int32)} {S S2 : St}
theorem LoadC.gro {S' : St} (b : BegC S p lits P) (ld : gI S 5 4 = nI (1 + (lxT lits).length)) (h : FRc S S') : LoadC S' lits := by
  obtain ⟨c1, -, -, -, -, -, -, -, -, -, -, -, -, c14, -⟩ := b
  refine ⟨?_, (h.1 5 4 (by decide) (by omega)).trans ld, ?_, ?_⟩
  · obtain ⟨w0, w1, w2, w3, w4, w5, w6, w7, w8⟩ := c14
    obtain ⟨h1, h2, h3⟩ := h.2.1 21 (by decide) (by decide) (by unfold stpRow; omega) (by decide) (by decide)
    unfold Rw
    rw [h1, h1, h1, h2]
    exact ⟨w0, w1, w2, w3, w4, w5, w6, w7, fun i hi => (h3 i).trans (w8 i hi)⟩
  · obtain ⟨r, hr⟩ := h.2.2.2.2.2.2.2 18 (Or.inl rfl) _ c1.1
    rw [List.flatten_cons, List.nil_append] at hr
    exact ⟨r, hr⟩
  · exact h.2.2.2.2.2.2.2 19 (Or.inr rfl) _ c1.2
theorem RSx.rx {U : Nat → Prop} {k : Nat} (h : RSx U k S S2) {st : Stk} (ck : CkC S st) : RwX S := by
  obtain ⟨φ, cs, ts, u, pl, pm, ps, qs, ⟨-, -, -, -, r5, -, -, -, -, r10, r11, -, -, r14⟩, -⟩ := h
  exact ⟨⟨_, _, r5⟩, ⟨_, _, r11.1⟩, r14, fun b hb => by obtain ⟨l, ov, w, -⟩ := r10 b hb; exact ⟨l, ov, w⟩, ⟨_, _, ck.1⟩, ⟨_, _, ck.2⟩⟩
theorem BegC.load (b : BegC S p lits P) (ld : gI S 5 4 = nI (1 + (lxT lits).length)) : LoadC S lits := LoadC.gro b ld FRc.rf
/-- begin on both sides -/
theorem beg_all (hg : 100000 ≤ g) (h : HasP S S2 p q P lits) (hl : LC S) (hk : gOK S) (rx : RwX S) (hm : LM S2) : ∃ S' S2', m_Rn_begin g S p = some S' ∧ m_begin g S2 (nI q) = some S2' ∧ BegC S' p lits P ∧ BegM S2' lits P ∧ RSx (UP P) 0 S' S2' ∧ Tal S' S2' ∧ FBg S S' ∧ FBM S2 S2' ∧ HasP S' S2' p q P lits := by
  obtain ⟨h1, h2, h3, h4, h5, h6, h7⟩ := h
  have hok := h6.lit
  obtain ⟨S', a1, a2, a3⟩ := C_begin (g := g) hg h3 h1 hl hk rx h4.2.1 (fun m w hw => by
    obtain ⟨i, s, ws, j, b1, b2, -⟩ := wdP_get hw
    exact hok i s ws b1 w (List.mem_of_getElem? b2))
  obtain ⟨S2', b1, b2, b3⟩ := M_begin (g := g) hg h2 h4 hm hok
  obtain ⟨r1, r2⟩ := beg_R hok h5 (h4.fb b2) a3 b3
  refine ⟨S', S2', a1, b1, a3, b3, r1, r2, a2, b2, h1.fg a2, h2.fb b2, a3.load ((a2.1 5 4 (by decide) (by omega)).trans h3.2.1), h4.fb b2, h5, h6, h7⟩
/-- a run on both sides -/
theorem run_all (hg : 100000 ≤ g) (h : HasP S S2 p q P lits) (hl : LC S) (hk : gOK S) (rx : RwX S) (hm : LM S2) : ∃ S' S2', m_Rn_perform g S p = some (S', gF S' 79 1) ∧ m_runs g S2 (nI q) = some (S2', gI S2' 0 52) ∧ RunE (UP P) S' S2' ∧ FBg S S' ∧ FX S2 S2' ∧ HasP S' S2' p q P lits ∧ RwX S' := by
  obtain ⟨S1, T1, a1, a2, a3, a4, a5, a6, a7, a8, a9⟩ := beg_all (g := g) hg h hl hk rx hm
  have hpl := h.1.2.1
  have hs : RSx (UP P) 0 S1 (sI T1 0 61 0) := a5.k FKc.rf (FKm.sI (by omega))
  have i0 : RunI (UP P) P p q 0 S1 (sI T1 0 61 0) [] := by
    refine ⟨hs, a9.1, a3.2.2.2.2.2.2.2.2.2.2.2.2.1, a9.2.1.fx FX.s61, ⟨a3.2.2.2.1, a3.2.2.2.2.1⟩, ⟨by rw [sI_g]; rfl, fun j t ht => by simp at ht⟩, ⟨by simp, fun t ht => by simp at ht, List.Pairwise.nil⟩, ⟨a6.1, a6.2.1.trans (gI_ne (by decide)).symm, a6.2.2.trans (gI_ne (by decide)).symm⟩, ⟨(gI_ne (by decide)).trans a4.2.2.2.2.2.2.2.2.1, (gI_ne (by decide)).trans a4.2.2.2.2.2.2.2.2.2.1, a3.2.2.2.2.2.2.2.2.2.2.1, a3.2.2.2.2.2.2.2.2.2.2.2.1 1 (by omega)⟩, fun b hb => ?_⟩
    obtain ⟨k, hk, -⟩ := hb
    omega
  obtain ⟨S', S2', kd, b1, b1', b2, b3, b4, b5⟩ := run_l (g := g) hg h.2.2.2.2.2.1.up h.2.2.2.2.2.2 P.length g g 0 0 S1 (sI T1 0 61 0) [] (by omega) (by omega) (by omega) (by omega) i0
  have fx : FX S2 S2' := ((FX.b a8).tr FX.s61).tr (FX.r b5)
  obtain ⟨st, hst⟩ := b3.2.2.2.2.2
  subst b1'
  refine ⟨S', S2', ?_, ?_, b3, a7.tr (FBg.fr b4), fx, ⟨a9.1.fr b4, h.2.1.fx fx, LoadC.gro a3 a9.2.2.1.2.1 b4, h.2.2.2.1.fx fx, h.2.2.2.2⟩, b3.1.rx hst⟩
  · unfold m_Rn_perform m_Rn_perform_5
    rw [a1, Option.bind_some]
    exact b1
  · unfold m_runs
    rw [a2, Option.bind_some, lt_d]
    exact b2
end RAL
