/-! what STEPS do to what a run has -/
/-- only the Rows 23, 30, 31 have changed -/
def F0C (S S' : St) : Prop := (∀ x k, x ≠ 23 → x ≠ 30 → x ≠ 31 → gI S' x k = gI S x k) ∧ S'.2.1 = S.2.1 ∧ S'.2.2.1 = S.2.2.1 ∧ (∀ a, a ≠ 47 → a ≠ 54 → a ≠ 55 → gN S' a = gN S a ∧ ∀ i, gF S' a i = gF S a i) ∧ S'.2.2.2.2.2 = S.2.2.2.2.2
theorem F0C.rf {S : St} : F0C S S := ⟨fun _ _ _ _ _ => rfl, rfl, rfl, fun _ _ _ _ => ⟨rfl, fun _ => rfl⟩, rfl⟩
theorem F0C.tr {S S1 S2 : St} (h1 : F0C S S1) (h2 : F0C S1 S2) : F0C S S2 := ⟨fun x k a b c => (h2.1 x k a b c).trans (h1.1 x k a b c), h2.2.1.trans h1.2.1, h2.2.2.1.trans h1.2.2.1, fun q a b c => ⟨(h2.2.2.2.1 q a b c).1.trans (h1.2.2.2.1 q a b c).1, fun i => ((h2.2.2.2.1 q a b c).2 i).trans ((h1.2.2.2.1 q a b c).2 i)⟩, h2.2.2.2.2.trans h1.2.2.2.2⟩
theorem F0C.fr {o : Nat} {S S' : St} (h : Fr o S S') (ho : o = 23 ∨ o = 30 ∨ o = 31) : F0C S S' := ⟨fun x k a b c => h.1 x k (by omega), h.2.1, h.2.2.1, fun q a b c => h.2.2.2.1 q (by omega), h.2.2.2.2⟩
theorem Rw.f0 {x : Nat} {S S' : St} {l : List Int32} {ov : Int32} (w : Rw S x l ov) (h : F0C S S') (h1 : x ≠ 23) (h2 : x ≠ 30) (h3 : x ≠ 31) : Rw S' x l ov := by
  obtain ⟨w0, w1, w2, w3, w4, w5, w6, w7, w8⟩ := w
  have hc := h.2.2.2.1 (x + 24) (by omega) (by omega) (by omega)
  unfold Rw
  rw [h.1 x 0 h1 h2 h3, h.1 x 2 h1 h2 h3, h.1 x 3 h1 h2 h3, hc.1]
  exact ⟨w0, w1, w2, w3, w4, w5, w6, w7, fun i hi => (hc.2 i).trans (w8 i hi)⟩
theorem FC.f0 {S S' : St} (h : F0C S S') : FC S S' := by
  refine ⟨fun o k a _ => h.1 o k (by omega) (by omega) (by omega), fun o a b c => ?_, h.2.1, h.2.2.1, fun a b => (h.2.2.2.1 a (by omega) (by omega) (by omega)).1, fun a b => ⟨fun i => (h.2.2.2.1 a (by omega) (by omega) (by omega)).2 i, fun i => by unfold gG; rw [h.2.2.2.2]⟩, fun b hb => by rw [(h.2.2.2.1 77 (by decide) (by decide) (by decide)).2 b]; exact hb, Gro.same fun o l ho w => w.f0 h (by omega) (by omega) (by omega)⟩
  unfold stpRow at c
  exact ⟨fun k => h.1 o k (by omega) (by omega) (by omega), (h.2.2.2.1 (o + 24) (by omega) (by omega) (by omega)).1, (h.2.2.2.1 (o + 24) (by omega) (by omega) (by omega)).2⟩
/-- only what is emitted, cut or refused has changed -/
def F0M (S S' : St) : Prop := (∀ k, k ≠ 57 → k ≠ 58 → k ≠ 65 → gI S' 0 k = gI S 0 k) ∧ S'.2.1 = S.2.1 ∧ S'.2.2.1 = S.2.2.1 ∧ S'.2.2.2.1 = S.2.2.2.1 ∧ (∀ a, a ≠ 34 → a ≠ 37 → a ≠ 38 → a ≠ 39 → ∀ i, gF S' a i = gF S a i) ∧ S'.2.2.2.2.2 = S.2.2.2.2.2
theorem F0M.rf {S : St} : F0M S S := ⟨fun _ _ _ _ => rfl, rfl, rfl, rfl, fun _ _ _ _ _ _ => rfl, rfl⟩
theorem F0M.tr {S S1 S2 : St} (h1 : F0M S S1) (h2 : F0M S1 S2) : F0M S S2 := ⟨fun k a b c => (h2.1 k a b c).trans (h1.1 k a b c), h2.2.1.trans h1.2.1, h2.2.2.1.trans h1.2.2.1, h2.2.2.2.1.trans h1.2.2.2.1, fun q a b c d i => (h2.2.2.2.2.1 q a b c d i).trans (h1.2.2.2.2.1 q a b c d i), h2.2.2.2.2.2.trans h1.2.2.2.2.2⟩
theorem F0M.fe {S S' : St} (h : FE S S') : F0M S S' := ⟨fun k a _ _ => h.1 k a, h.2.1, h.2.2.1, h.2.2.2.1, fun a h1 h2 _ _ i => h.2.2.2.2.1 a h1 h2 i, h.2.2.2.2.2⟩
theorem F0M_sI {S : St} {k : Nat} {v : Int32} (h : k = 57 ∨ k = 58 ∨ k = 65) : F0M S (sI S 0 k v) := ⟨fun j a b c => gI_ne (by omega), rfl, rfl, rfl, fun _ _ _ _ _ _ => rfl, rfl⟩
theorem F0M_sF {S : St} {a i : Nat} {v : Int32} (h : a = 34 ∨ a = 37 ∨ a = 38 ∨ a = 39) : F0M S (sF S a i v) := ⟨fun _ _ _ _ => rfl, rfl, rfl, rfl, fun b h1 h2 h3 h4 j => gF_ne (by omega), rfl⟩
theorem FS.f0 {S S' : St} (h : F0M S S') : FS S S' := ⟨fun k hk => h.1 k (fun q => hk (by unfold stpSl; omega)) (fun q => hk (by unfold stpSl; omega)) (fun q => hk (by unfold stpSl; omega)), h.2.1, h.2.2.1, h.2.2.2.1, fun a ha => ⟨fun i => h.2.2.2.2.1 a (fun q => ha (by unfold stpAr; omega)) (fun q => ha (by unfold stpAr; omega)) (fun q => ha (by unfold stpAr; omega)) (fun q => ha (by unfold stpAr; omega)) i, fun i => by unfold gG; rw [h.2.2.2.2.2]⟩⟩
theorem TXs.f0 {S S' : St} {ts : List (List Int32)} {u : Nat} (w : TXs S ts u) (e : F0M S S') : TXs S' ts u := by
  obtain ⟨h1, -, -, -, h5, -⟩ := e
  obtain ⟨a, b, c, d, f⟩ := w
  refine ⟨by rw [h1 38 (by decide) (by decide) (by decide)]; exact a, b, c, by rw [h1 39 (by decide) (by decide) (by decide)]; exact d, fun t l ht => ?_⟩
  obtain ⟨q, q1, q2, q3, q4⟩ := f t l ht
  exact ⟨q, by rw [h5 23 (by decide) (by decide) (by decide) (by decide)]; exact q1, by rw [h5 24 (by decide) (by decide) (by decide) (by decide)]; exact q2, q3, fun i hi => by rw [h5 22 (by decide) (by decide) (by decide) (by decide)]; exact q4 i hi⟩
section EFF
variable {U : Nat → Prop} {S S' S2 S2' : St} {φ : Nat → Option Nat} {cs ts : List (List Int32)} {u : Nat} {pl pm ps qs : List Nat}
theorem RS_0 (r : RS U S S2 φ cs ts u pl pm ps qs) (hc : F0C S S') (hx : XR S') (hm : F0M S2 S2') : RS U S' S2' φ cs ts u pl pm ps qs := by
  obtain ⟨a1, a2, a3, ⟨t1, t2, t3, t4, t5, t6⟩, a5, a6, a7, a8, a9, a10, ⟨p1, p2, p3, p4, p5⟩, ⟨m, m1, m2, m3, m4⟩, ⟨ls, l1, l2⟩, a14⟩ := r
  have gc : ∀ a, a ≠ 47 → a ≠ 54 → a ≠ 55 → ∀ i, gF S' a i = gF S a i := fun a h1 h2 h3 i => (hc.2.2.2.1 a h1 h2 h3).2 i
  have gg : ∀ a i, gG S' a i = gG S a i := fun a i => by unfold gG; rw [hc.2.2.2.2]
  have mf : ∀ a, a ≠ 34 → a ≠ 37 → a ≠ 38 → a ≠ 39 → ∀ i, gF S2' a i = gF S2 a i := hm.2.2.2.2.1
  have mg : ∀ a i, gG S2' a i = gG S2 a i := fun a i => by unfold gG; rw [hm.2.2.2.2.2]
  have fc := FC.f0 hc
  refine ⟨a1.fc fc, a2.fc fc, a3.fs (FS.f0 hm), ⟨⟨t1.1.f0 hc (by decide) (by decide) (by decide), t1.2.f0 hc (by decide) (by decide) (by decide)⟩, t2.f0 hm, t3, t4, t5, t6⟩, a5.f0 hc (by decide) (by decide) (by decide), ⟨?_, a6.2.1, fun i hi => ?_⟩, a7, fun v hv => ?_, fun i hi => ?_, fun b hb => ?_, ⟨p1.f0 hc (by decide) (by decide) (by decide), ?_, p3, fun i hi => ?_, p5⟩, ⟨m, m1, ?_, ?_, fun i hi => ?_⟩, ⟨ls, l1.f0 hc (by decide) (by decide) (by decide), fun n hn => ?_⟩, hx⟩
  · rw [hm.1 41 (by decide) (by decide) (by decide)]; exact a6.1
  · rw [mf 25 (by decide) (by decide) (by decide) (by decide)]; exact a6.2.2 i hi
  · rw [gc 74 (by decide) (by decide) (by decide), mf 26 (by decide) (by decide) (by decide) (by decide)]; exact a8 v hv
  · rw [gg, mg]; exact a9 i hi
  · obtain ⟨lb, ov, b1, b2⟩ := a10 b hb
    refine ⟨lb, ov, b1.f0 hc (by omega) (by omega) (by omega), ?_⟩
    rw [gc 77 (by decide) (by decide) (by decide), mf 28 (by decide) (by decide) (by decide) (by decide), mf 29 (by decide) (by decide) (by decide) (by decide)]
    rcases b2 with b2 | ⟨r, r1, r2, r3, r4, r5, r6, r7⟩
    · exact Or.inl b2
    · exact Or.inr ⟨r, r1, r2, r3, r4, r5, r6, fun i hi => by rw [mf 30 (by decide) (by decide) (by decide) (by decide)]; exact r7 i hi⟩
  · rw [hm.1 50 (by decide) (by decide) (by decide)]; exact p2
  · rw [mf 27 (by decide) (by decide) (by decide) (by decide)]; exact p4 i hi
  · rw [hc.1 4 7 (by decide) (by decide) (by decide)]; exact m2
  · rw [hm.1 51 (by decide) (by decide) (by decide)]; exact m3
  · rw [gg, mg]; exact m4 i hi
  · rw [mf 16 (by decide) (by decide) (by decide) (by decide)]; exact l2 n hn
theorem Rw.sFx {x a i : Nat} {v : Int32} {l : List Int32} {ov : Int32} (w : Rw S x l ov) (h : 58 ≤ a) : Rw (sF S a i v) x l ov := by
  obtain ⟨w0, w1, w2, w3, w4, w5, w6, w7, w8⟩ := w
  exact ⟨w0, w1, w2, w3, w4, w5, w6, w7, fun j hj => by rw [gF_ne (by omega)]; exact w8 j hj⟩
theorem XR.sFx {a i : Nat} {v : Int32} (w : XR S) (h : 58 ≤ a) : XR (sF S a i v) := by
  obtain ⟨⟨l1, o1, r1⟩, ⟨l2, o2, r2⟩, l3, o3, r3⟩ := w
  exact ⟨⟨l1, o1, r1.sFx h⟩, ⟨l2, o2, r2.sFx h⟩, l3, o3, r3.sFx h⟩
theorem TXs.sFx {a i : Nat} {v : Int32} (w : TXs S ts u) (h1 : a ≠ 22) (h2 : a ≠ 23) (h3 : a ≠ 24) : TXs (sF S a i v) ts u := by
  obtain ⟨b1, b2, b3, b4, b5⟩ := w
  refine ⟨b1, b2, b3, b4, fun t l ht => ?_⟩
  obtain ⟨q, q1, q2, q3, q4⟩ := b5 t l ht
  exact ⟨q, by rw [gF_ne (by omega)]; exact q1, by rw [gF_ne (by omega)]; exact q2, q3, fun i hi => by rw [gF_ne (by omega)]; exact q4 i hi⟩
/-- a text is given -/
theorem RS_gt (r : RS U S S2 φ cs ts u pl pm ps qs) {v : Nat} {x y : Int32} (hv : v < 20) (h : tRel φ x y) : RS U (sF S 74 v x) (sF S2 26 v y) φ cs ts u pl pm ps qs := by
  obtain ⟨a1, a2, a3, ⟨t1, t2, t3, t4, t5, t6⟩, a5, a6, a7, a8, a9, a10, ⟨p1, p2, p3, p4, p5⟩, ⟨m, m1, m2, m3, m4⟩, ⟨ls, l1, l2⟩, a14⟩ := r
  refine ⟨a1, a2, a3, ⟨⟨t1.1.sFx (by decide), t1.2.sFx (by decide)⟩, t2.sFx (by decide) (by decide) (by decide), t3, t4, t5, t6⟩, Rw.sFx a5 (by decide), ⟨a6.1, a6.2.1, fun i hi => by rw [gF_ne (by decide)]; exact a6.2.2 i hi⟩, a7, fun z hz => ?_, a9, fun b hb => ?_, ⟨p1.sFx (by decide), p2, p3, fun i hi => by rw [gF_ne (by decide)]; exact p4 i hi, p5⟩, ⟨m, m1, m2, m3, m4⟩, ⟨ls, l1.sFx (by decide), fun n hn => by rw [gF_ne (by decide)]; exact l2 n hn⟩, a14.sFx (by decide)⟩
  · by_cases q : z = v
    · subst q
      simp only [gF, sF, and_self, if_true]
      exact h
    · have := a8 z hz
      simp only [gF, sF, q, and_false, if_false] at this ⊢
      exact this
  · obtain ⟨lb, ov, b1, b2⟩ := a10 b hb
    refine ⟨lb, ov, b1.sFx (by decide), ?_⟩
    rw [gF_ne (by decide), gF_ne (by decide), gF_ne (by decide)]
    rcases b2 with b2 | ⟨r, r1, r2, r3, r4, r5, r6, r7⟩
    · exact Or.inl b2
    · exact Or.inr ⟨r, r1, r2, r3, r4, r5, r6, fun i hi => by rw [gF_ne (by decide)]; exact r7 i hi⟩
/-- a whole is given -/
theorem RS_gw (r : RS U S S2 φ cs ts u pl pm ps qs) {v : Nat} {x : Int64} (hv : v < 12) : RS U (sG S 75 v x) (sG S2 32 v x) φ cs ts u pl pm ps qs := by
  obtain ⟨a1, a2, a3, a4, a5, a6, a7, a8, a9, a10, a11, ⟨m, m1, m2, m3, m4⟩, a13, a14⟩ := r
  refine ⟨a1, a2, a3, a4, a5, a6, a7, a8, fun z hz => ?_, a10, a11, ⟨m, m1, m2, m3, fun i hi => ?_⟩, a13, a14⟩
  · by_cases q : z = v
    · subst q
      simp only [gG, sG, and_self, if_true]
    · have := a9 z hz
      simp only [gG, sG, q, and_false, if_false] at this ⊢
      exact this
  · rw [gG_ne (by decide), gG_ne (by decide)]
    exact m4 i hi
end EFF
