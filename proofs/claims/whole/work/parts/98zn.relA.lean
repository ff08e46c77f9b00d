/-! what both sides hold between calls -/
/-- the class: what a call that leaves program p and its run may change -/
def FZc (p : Nat) (S S' : St) : Prop := (∀ o k, (o = 4 ∨ o = 5 ∨ 18 ≤ o) → gI S' o k = gI S o k) ∧ gI S' p 8 = gI S p 8 ∧ gI S' 0 6 = gI S 0 6 ∧ (∀ k, gI S' (8 + 3 * p + 0) k = gI S (8 + 3 * p + 0) k ∧ gI S' (8 + 3 * p + 1) k = gI S (8 + 3 * p + 1) k) ∧ (∀ o k, ¬ (o = 3 ∧ k = 2) → gR S' o k = gR S o k) ∧ (∀ a, (42 ≤ a ∨ a = 32 + 3 * p ∨ a = 33 + 3 * p) → gN S' a = gN S a) ∧ (∀ a, ((42 ≤ a ∧ a < 58) ∨ 74 ≤ a ∨ a = 32 + 3 * p ∨ a = 33 + 3 * p ∨ (50 + 8 * p ≤ a ∧ a < 50 + 8 * p + 6)) → ∀ i, gF S' a i = gF S a i) ∧ ∀ a, (74 ≤ a ∨ (50 + 8 * p ≤ a ∧ a < 50 + 8 * p + 6)) → ∀ i, gG S' a i = gG S a i
theorem FZc.rf {p : Nat} {S : St} : FZc p S S := ⟨fun _ _ _ => rfl, rfl, rfl, fun _ => ⟨rfl, rfl⟩, fun _ _ _ => rfl, fun _ _ => rfl, fun _ _ _ => rfl, fun _ _ _ => rfl⟩
theorem FZc.tr {p : Nat} {S S1 S2 : St} (h1 : FZc p S S1) (h2 : FZc p S1 S2) : FZc p S S2 := ⟨fun o k a => (h2.1 o k a).trans (h1.1 o k a), h2.2.1.trans h1.2.1, h2.2.2.1.trans h1.2.2.1, fun k => ⟨(h2.2.2.2.1 k).1.trans (h1.2.2.2.1 k).1, (h2.2.2.2.1 k).2.trans (h1.2.2.2.1 k).2⟩, fun o k a => (h2.2.2.2.2.1 o k a).trans (h1.2.2.2.2.1 o k a), fun a b => (h2.2.2.2.2.2.1 a b).trans (h1.2.2.2.2.2.1 a b), fun a b i => (h2.2.2.2.2.2.2.1 a b i).trans (h1.2.2.2.2.2.2.1 a b i), fun a b i => (h2.2.2.2.2.2.2.2 a b i).trans (h1.2.2.2.2.2.2.2 a b i)⟩
theorem FZc.fr {p : Nat} {S S' : St} (h : Fr 10 S S') (hp : p = 1 ∨ p = 2) : FZc p S S' := ⟨fun o k a => h.1 o k (by omega), h.1 p 8 (by omega), h.1 0 6 (by decide), fun k => ⟨h.1 _ k (by omega), h.1 _ k (by omega)⟩, fun o k _ => by unfold gR; rw [h.2.2.1], fun a b => (h.2.2.2.1 a (by omega)).1, fun a b i => (h.2.2.2.1 a (by omega)).2 i, fun a b i => by unfold gG; rw [h.2.2.2.2]⟩
theorem FZc.rd {p d : Nat} {S S' : St} (h : FRd d S S') (hp : p = 1 ∨ p = 2) (hd : d = 1 ∨ d = 2) (hne : d ≠ p) : FZc p S S' := ⟨fun o k a => h.1 o k (by omega) (by omega) (by omega) (by omega) (by omega), h.1 p 8 (by omega) (by omega) (by omega) (by omega) (by omega), h.1 0 6 (by omega) (by omega) (by omega) (by omega) (by omega), fun k => ⟨h.1 _ k (by omega) (by omega) (by omega) (by omega) (by omega), h.1 _ k (by omega) (by omega) (by omega) (by omega) (by omega)⟩, fun o k _ => by unfold gR; rw [h.2.2.1], fun a b => h.2.2.2.1 a (by omega) (by omega) (by omega), fun a b i => h.2.2.2.2.1 a (by omega) (by omega) (by omega) (by omega) i, fun a b i => h.2.2.2.2.2 a (by omega) i⟩
theorem FZc.j {p d : Nat} {S S' : St} (h : FJc d S S') (hp : p = 1 ∨ p = 2) (hd : d = 1 ∨ d = 2) (hne : d ≠ p) : FZc p S S' := ⟨fun o k a => h.1 o k (by omega), h.1 p 8 (by omega), h.1 0 6 (by omega), fun k => ⟨h.1 _ k (by omega), h.1 _ k (by omega)⟩, fun o k _ => by unfold gR; rw [h.2.2.1], fun a b => by unfold gN; rw [h.2.2.2.1], fun a b i => h.2.2.2.2.1 a (by omega) i, fun a b i => h.2.2.2.2.2 a (by omega) i⟩
theorem FZc.r32 {p v : Nat} {S : St} : FZc p S (sR S 3 2 v) := ⟨fun _ _ _ => rfl, rfl, rfl, fun _ => ⟨rfl, rfl⟩, fun o k h => by simp [gR, sR, h], fun _ _ => rfl, fun _ _ _ => rfl, fun _ _ _ => rfl⟩
def kpA (a i : Nat) : Prop := a = 3 ∨ a = 4 ∨ a = 16 ∨ (22 ≤ a ∧ a ≤ 31) ∨ ((a = 6 ∨ a = 7) ∧ i < 60) ∨ ((a = 8 ∨ a = 9) ∧ i < 600) ∨ ((a = 11 ∨ a = 15) ∧ i = 0) ∨ (a = 12 ∧ i < 3000) ∨ ((a = 13 ∨ a = 14) ∧ i < 24)
/-- the reference: the same -/
def FZm (S S' : St) : Prop := (∀ k, (k = 12 ∨ k = 38 ∨ k = 39 ∨ k = 41 ∨ (50 ≤ k ∧ k ≤ 55)) → gI S' 0 k = gI S 0 k) ∧ S'.2.2.2.1 = S.2.2.2.1 ∧ (∀ a i, kpA a i → gF S' a i = gF S a i) ∧ ∀ a i, (a = 1 ∨ a = 2 ∨ a = 32 ∨ a = 33 ∨ (a = 10 ∧ i < 600)) → gG S' a i = gG S a i
theorem FZm.rf {S : St} : FZm S S := ⟨fun _ _ => rfl, rfl, fun _ _ _ => rfl, fun _ _ _ => rfl⟩
theorem FZm.tr {S S1 S2 : St} (h1 : FZm S S1) (h2 : FZm S1 S2) : FZm S S2 := ⟨fun k a => (h2.1 k a).trans (h1.1 k a), h2.2.1.trans h1.2.1, fun a i b => (h2.2.2.1 a i b).trans (h1.2.2.1 a i b), fun a i b => (h2.2.2.2 a i b).trans (h1.2.2.2 a i b)⟩
theorem FZm.rq {S S' : St} (h : FRq S S') : FZm S S' := ⟨fun k a => h.1 k (by omega), h.2.2.1, fun a i b => h.2.2.2.1 a i (by unfold kpA at b; unfold rdA; omega), fun a i b => h.2.2.2.2 a i (by omega)⟩
theorem FZm.j {S S' : St} (h : FJm S S') : FZm S S' := ⟨fun k a => h.1 k (by omega) (by omega) (by omega) (by omega), h.2.2.2.1, fun a i b => h.2.2.2.2.1 a (by unfold kpA at b; omega) (by unfold kpA at b; omega) (by unfold kpA at b; omega) (by unfold kpA at b; omega) i, fun a i _ => by unfold gG; rw [h.2.2.2.2.2]⟩
theorem FZm.tp {S S' : St} (h : FTp S S') : FZm S S' := ⟨fun k a => h.2.2.2.2.1 k (by omega), h.2.2.1, fun a i b => h.2.2.2.2.2 a (by unfold kpA at b; omega) i, fun a i _ => by unfold gG; rw [h.2.2.2.1]⟩
theorem FZm.sI {S : St} {k : Nat} {v : Int32} (h : ¬ (k = 12 ∨ k = 38 ∨ k = 39 ∨ k = 41 ∨ (50 ≤ k ∧ k ≤ 55))) : FZm S (sI S 0 k v) := ⟨fun j a => gI_ne (fun z => h (by rw [← z.2]; exact a)), rfl, fun _ _ _ => rfl, fun _ _ _ => rfl⟩
theorem Rw.z {p x : Nat} {S S' : St} {l : List Int32} {ov : Int32} (w : Rw S x l ov) (h : FZc p S S') (hx : 18 ≤ x ∨ x = 8 + 3 * p + 0 ∨ x = 8 + 3 * p + 1) : Rw S' x l ov := by
  have hI : ∀ k, gI S' x k = gI S x k := by
    intro k
    rcases hx with hx | rfl | rfl
    · exact h.1 x k (by omega)
    · exact (h.2.2.2.1 k).1
    · exact (h.2.2.2.1 k).2
  obtain ⟨w0, w1, w2, w3, w4, w5, w6, w7, w8⟩ := w
  unfold Rw
  rw [hI, hI, hI, h.2.2.2.2.2.1 (x + 24) (by omega)]
  exact ⟨w0, w1, w2, w3, w4, w5, w6, w7, fun i hi => by rw [h.2.2.2.2.2.2.1 (x + 24) (by omega)]; exact w8 i hi⟩
theorem LM.z {S S' : St} (w : LM S) (h : FZm S S') : LM S' := w.of h.2.1
theorem LC.z {p : Nat} {S S' : St} (w : LC S) (h : FZc p S S') : LC S' := fun a ha => (h.2.2.2.2.2.1 a (by omega)).trans (w a ha)
theorem TabM.z {S S' : St} (w : TabM S) (h : FZm S S') : TabM S' := ⟨fun i => (h.2.2.1 3 i (by unfold kpA; omega)).trans (w.1 i), fun i => (h.2.2.1 4 i (by unfold kpA; omega)).trans (w.2.1 i), fun i => (h.2.2.2 1 i (by omega)).trans (w.2.2.1 i), fun i => (h.2.2.2 2 i (by omega)).trans (w.2.2.2 i)⟩
theorem RwX.z {p : Nat} {S S' : St} (w : RwX S) (h : FZc p S S') : RwX S' := by
  obtain ⟨⟨a1, b1, c1⟩, ⟨a2, b2, c2⟩, ⟨⟨a3, b3, c3⟩, ⟨a4, b4, c4⟩, a5, b5, c5⟩, w4, ⟨a6, b6, c6⟩, a7, b7, c7⟩ := w
  exact ⟨⟨a1, b1, c1.z h (by omega)⟩, ⟨a2, b2, c2.z h (by omega)⟩, ⟨⟨a3, b3, c3.z h (by omega)⟩, ⟨a4, b4, c4.z h (by omega)⟩, a5, b5, c5.z h (by omega)⟩, fun b hb => by
    obtain ⟨l, ov, w⟩ := w4 b hb
    exact ⟨l, ov, w.z h (by omega)⟩, ⟨a6, b6, c6.z h (by omega)⟩, a7, b7, c7.z h (by omega)⟩
theorem PrC.z {p : Nat} {S S' : St} {P : Prg} (w : PrC S p P) (h : FZc p S S') : PrC S' p P := by
  obtain ⟨p1, p2, p3, p4, p5, p6⟩ := w
  have F := h.2.2.2.2.2.2.1
  refine ⟨p1, p2, p3, h.2.1.trans p4, fun i hi => (F _ (by omega) i).trans (p5 i hi), fun i s ws hi => ?_⟩
  obtain ⟨z1, z2⟩ := p6 i s ws hi
  refine ⟨(F _ (by omega) _).trans z1, fun j w hw => ?_⟩
  rw [F _ (by omega), F _ (by omega), F _ (by omega), h.2.2.2.2.2.2.2 _ (by omega)]
  exact z2 j w hw
theorem PrM.z {S S' : St} {P : Prg} (w : PrM S 0 P) (h : FZm S S') : PrM S' 0 P := by
  obtain ⟨p1, p2, p3, p4⟩ := w
  have F := h.2.2.1
  refine ⟨p1, p2, by rw [F 11 0 (by unfold kpA; omega)]; exact p3, fun i s ws hi => ?_⟩
  have hil := (List.getElem?_eq_some_iff.mp hi).1
  obtain ⟨z1, z2, z3, z4⟩ := p4 i s ws hi
  refine ⟨z1, by rw [F 6 _ (by unfold kpA; omega)]; exact z2, by rw [F 7 _ (by unfold kpA; omega)]; exact z3, fun j w hw => ?_⟩
  have hj := (List.getElem?_eq_some_iff.mp hw).1
  rw [F 8 _ (by unfold kpA; omega), F 9 _ (by unfold kpA; omega), h.2.2.2 10 _ (by omega)]
  exact z4 j w hw
theorem LitM.z {S S' : St} {lits : List (List Int32)} (w : LitM S lits) (h : FZm S S') : LitM S' lits := by
  obtain ⟨w1, w2, w3, w4⟩ := w
  have F := h.2.2.1
  refine ⟨by rw [F 15 0 (by unfold kpA; omega)]; exact w1, w2, w3, fun n l hn => ?_⟩
  have hnl := (List.getElem?_eq_some_iff.mp hn).1
  obtain ⟨z1, f, z2, z3, z4, z5⟩ := w4 n l hn
  exact ⟨z1, f, z2, by rw [F 13 n (by unfold kpA; omega)]; exact z3, by rw [F 14 n (by unfold kpA; omega)]; exact z4, fun i hi => by rw [F 12 _ (by unfold kpA; omega)]; exact z5 i hi⟩
theorem LoadC.z {p : Nat} {S S' : St} {lits : List (List Int32)} (w : LoadC S lits) (h : FZc p S S') : LoadC S' lits := by
  obtain ⟨w1, w2, ⟨r3, w3⟩, r4, w4⟩ := w
  exact ⟨w1.z h (by omega), by rw [h.1 5 4 (by omega)]; exact w2, ⟨r3, w3.z h (by omega)⟩, r4, w4.z h (by omega)⟩
theorem TXs.z {S S' : St} {ts : List (List Int32)} {u : Nat} (w : TXs S ts u) (h : FZm S S') : TXs S' ts u := by
  obtain ⟨w1, w2, w3, w4, w5⟩ := w
  have F := h.2.2.1
  refine ⟨by rw [h.1 38 (by omega)]; exact w1, w2, w3, by rw [h.1 39 (by omega)]; exact w4, fun t l ht => ?_⟩
  obtain ⟨f, f1, f2, f3, f4⟩ := w5 t l ht
  exact ⟨f, by rw [F 23 _ (by unfold kpA; omega)]; exact f1, by rw [F 24 _ (by unfold kpA; omega)]; exact f2, f3, fun i hi => by rw [F 22 _ (by unfold kpA; omega)]; exact f4 i hi⟩
theorem RS_z {p : Nat} {U : Nat → Prop} {S S' S2 S2' : St} {φ : Nat → Option Nat} {cs ts : List (List Int32)} {u : Nat} {pl pm ps qs : List Nat} (r : RS U S S2 φ cs ts u pl pm ps qs) (hc : FZc p S S') (hm : FZm S2 S2') (hk : gOK S') : RS U S' S2' φ cs ts u pl pm ps qs := by
  obtain ⟨a1, a2, a3, ⟨t1, t2, t3⟩, a5, a6, a7, a8, a9, a10, ⟨p1, p2, p3, p4, p5⟩, ⟨m, m1, m2, m3, m4⟩, ⟨ls, l1, l2⟩, ⟨x1, o1, y1⟩, ⟨x2, o2, y2⟩, x3, o3, y3⟩ := r
  have gg : ∀ a i, 74 ≤ a → gG S' a i = gG S a i := fun a i h => hc.2.2.2.2.2.2.2 a (by omega) i
  have mg : ∀ a i, a = 32 ∨ a = 33 → gG S2' a i = gG S2 a i := fun a i h => hm.2.2.2 a i (by omega)
  have cf : ∀ a i, 74 ≤ a → gF S' a i = gF S a i := fun a i h => hc.2.2.2.2.2.2.1 a (by omega) i
  have mf : ∀ a i, a = 16 ∨ (22 ≤ a ∧ a ≤ 31) → gF S2' a i = gF S2 a i := fun a i h => hm.2.2.1 a i (by unfold kpA; omega)
  have mi := hm.1
  refine ⟨hk, a2.z hc, a3.z hm, ⟨⟨t1.1.z hc (by omega), t1.2.z hc (by omega)⟩, t2.z hm, t3⟩, Rw.z a5 hc (by omega), ⟨?_, a6.2.1, fun i hi => ?_⟩, a7, fun v hv => ?_, fun i hi => ?_, fun b hb => ?_, ⟨p1.z hc (by omega), ?_, p3, fun i hi => ?_, p5⟩, ⟨m, m1, ?_, ?_, fun i hi => ?_⟩, ⟨ls, l1.z hc (by omega), fun n hn => ?_⟩, ⟨x1, o1, y1.z hc (by omega)⟩, ⟨x2, o2, y2.z hc (by omega)⟩, x3, o3, y3.z hc (by omega)⟩
  · rw [mi 41 (by omega)]; exact a6.1
  · rw [mf 25 _ (by omega)]; exact a6.2.2 i hi
  · rw [cf 74 _ (by omega), mf 26 _ (by omega)]; exact a8 v hv
  · rw [gg _ _ (by omega), mg _ _ (by omega)]; exact a9 i hi
  · obtain ⟨lb, ov, b1, b2⟩ := a10 b hb
    refine ⟨lb, ov, b1.z hc (by omega), ?_⟩
    rw [cf 77 _ (by omega), mf 28 _ (by omega), mf 29 _ (by omega)]
    rcases b2 with b2 | ⟨r, r1, r2, r3, r4, r5, r6, r7⟩
    · exact Or.inl b2
    · exact Or.inr ⟨r, r1, r2, r3, r4, r5, r6, fun i hi => by rw [mf 30 _ (by omega)]; exact r7 i hi⟩
  · rw [mi 50 (by omega)]; exact p2
  · rw [mf 27 _ (by omega)]; exact p4 i hi
  · rw [hc.1 4 7 (by omega)]; exact m2
  · rw [mi 51 (by omega)]; exact m3
  · rw [gg _ _ (by omega), mg _ _ (by omega)]; exact m4 i hi
  · rw [mf 16 _ (by omega)]; exact l2 n hn
theorem RunE.z {p : Nat} {U : Nat → Prop} {S S' S2 S2' : St} (r : RunE U S S2) (hc : FZc p S S') (hm : FZm S2 S2') (hk : gOK S') : RunE U S' S2' := by
  obtain ⟨⟨φ, cs, ts, u, pl, pm, ps, qs, r1, r2⟩, ⟨t1, t2, t3⟩, e1, e2, e3, st, c1, c2⟩ := r
  have cf : ∀ a i, 74 ≤ a → gF S' a i = gF S a i := fun a i h => hc.2.2.2.2.2.2.1 a (by omega) i
  have mi := hm.1
  refine ⟨⟨φ, cs, ts, u, pl, pm, ps, qs, RS_z r1 hc hm hk, r2⟩, ⟨fun s hs => ?_, ?_, ?_⟩, ?_, ?_, ?_, st, c1.z hc (by omega), c2.z hc (by omega)⟩
  · rw [cf 80 _ (by omega), hm.2.2.1 31 _ (by unfold kpA; omega)]; exact t1 s hs
  · rw [cf 79 _ (by omega), mi 54 (by omega)]; exact t2
  · rw [cf 79 _ (by omega), mi 55 (by omega)]; exact t3
  · rw [cf 79 _ (by omega), mi 52 (by omega)]; exact e1
  · rw [cf 79 _ (by omega), mi 53 (by omega)]; exact e2
  · unfold EndK at *
    rw [mi 52 (by omega), mi 53 (by omega)]
    exact e3
/-- the Rows of the programs and of the Reader are there -/
def RwP (S : St) : Prop := ∀ o, 11 ≤ o → o ≤ 17 → ∃ l ov, Rw S o l ov
/-- what both sides hold between calls -/
def RelD (S S2 : St) (tp : List Int32) (p d : Nat) (P : Prg) (lits : List (List Int32)) : Prop := ShI S S2 p d P lits ∧ TpR S S2 tp ∧ RunE (UP P) S S2 ∧ LitsC S p lits ∧ RwP S ∧ ((gI S 0 6 = 0 ∧ gI S2 0 12 = 0 ∧ P = []) ∨ (gI S 0 6 = 1 ∧ gI S2 0 12 = 1))
theorem RelD.z {S S' S2 S2' : St} {tp tp' : List Int32} {p d : Nat} {P : Prg} {lits : List (List Int32)} (r : RelD S S2 tp p d P lits) (hc : FZc p S S') (hm : FZm S2 S2') (h3 : gR S' 3 2 < 3) (ht : TpR S' S2' tp') (hr : RwP S') : RelD S' S2' tp' p d P lits := by
  obtain ⟨⟨⟨h1, h2, h4, h5, h6, h7, h8⟩, pl, hl, hk, rx, hm0, tb, r4, r5, hd, hne⟩, -, re, lc, -, fl⟩ := r
  have R := hc.2.2.2.2.1
  have hk' : gOK S' := ⟨by rw [R 0 4 (by omega)]; exact hk.1, by rw [R 0 5 (by omega)]; exact hk.2.1, h3, by rw [R 4 9 (by omega)]; exact hk.2.2.2⟩
  refine ⟨⟨⟨h1.z hc, h2.z hm, h4.z hc, h5.z hm, h6, h7, h8⟩, pl, hl.z hc, hk', rx.z hc, hm0.z hm, tb.z hm, by rw [R 0 4 (by omega)]; exact r4, by rw [R 0 5 (by omega)]; exact r5, hd, hne⟩, ht, re.z hc hm hk', ⟨lc.1.z hc (by omega), lc.2.z hc (by omega)⟩, hr, ?_⟩
  rw [hc.2.2.1, hm.1 12 (by omega)]
  exact fl
