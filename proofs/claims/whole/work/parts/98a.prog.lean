/-! programs on both sides; what a run changes beside its STEPS -/
abbrev Prg : Type := List (Nat × List Wd)
def fsP : Prg → Nat → Nat
  | [], _ => 0
  | _ :: _, 0 => 0
  | s :: P, i + 1 => s.2.length + fsP P i
/-- the class's Program p holds P -/
def PrC (S : St) (p : Nat) (P : Prg) : Prop := (p = 1 ∨ p = 2) ∧ P.length ≤ 60 ∧ fsP P P.length ≤ 540 ∧ gI S p 8 = nI P.length ∧ (∀ i, i ≤ P.length → gF S (50 + 8 * p + 1) i = nI (fsP P i)) ∧ ∀ i s ws, P[i]? = some (s, ws) → gF S (50 + 8 * p + 0) i = nI s ∧ ∀ j w, ws[j]? = some w → gF S (50 + 8 * p + 2) (fsP P i + j) = nI (ckW w.1) ∧ gF S (50 + 8 * p + 3) (fsP P i + j) = nI (sgW w.1) ∧ gG S (50 + 8 * p + 4) (fsP P i + j) = w.2.1 ∧ gF S (50 + 8 * p + 5) (fsP P i + j) = w.2.2
/-- the reference's group q holds P -/
def PrM (S : St) (q : Nat) (P : Prg) : Prop := q < 3 ∧ P.length ≤ 60 ∧ gF S 11 q = nI P.length ∧ ∀ i s ws, P[i]? = some (s, ws) → ws.length ≤ 9 ∧ gF S 6 (60 * q + i) = nI s ∧ gF S 7 (60 * q + i) = nI ws.length ∧ ∀ j w, ws[j]? = some w → gF S 8 (10 * (60 * q + i) + j) = nI w.1 ∧ gG S 10 (10 * (60 * q + i) + j) = w.2.1 ∧ gF S 9 (10 * (60 * q + i) + j) = w.2.2
theorem fsP_0 {P : Prg} : fsP P 0 = 0 := by cases P <;> rfl
theorem fsP_s : ∀ {P : Prg} {i s : Nat} {ws : List Wd}, P[i]? = some (s, ws) → fsP P (i + 1) = fsP P i + ws.length := by
  intro P
  induction P with
  | nil => intro i s ws h; simp at h
  | cons c P ih =>
    intro i s ws h
    cases i with
    | zero =>
      simp at h
      subst h
      show ws.length + fsP P 0 = 0 + ws.length
      rw [fsP_0]
      omega
    | succ i =>
      simp at h
      show c.2.length + fsP P (i + 1) = c.2.length + fsP P i + ws.length
      rw [ih h]
      omega
theorem fsP_le : ∀ {P : Prg} {i : Nat}, fsP P i ≤ fsP P P.length := by
  intro P
  induction P with
  | nil => intro i; exact Nat.le_refl _
  | cons c P ih =>
    intro i
    cases i with
    | zero => exact Nat.zero_le _
    | succ i =>
      show c.2.length + fsP P i ≤ c.2.length + fsP P P.length
      have := ih (i := i)
      omega
/-- what a run changes in the class beside its STEPS: Rows 32, 33, ended, tallies, the STEP that it stands at -/
def FKc (S S' : St) : Prop := (∀ x k, x ≠ 32 → x ≠ 33 → ¬ (x = 4 ∧ (k = 10 ∨ k = 11)) → gI S' x k = gI S x k) ∧ S'.2.1 = S.2.1 ∧ S'.2.2.1 = S.2.2.1 ∧ (∀ a, a ≠ 56 → a ≠ 57 → gN S' a = gN S a) ∧ (∀ a, a ≠ 56 → a ≠ 57 → a ≠ 79 → a ≠ 80 → ∀ i, gF S' a i = gF S a i) ∧ S'.2.2.2.2.2 = S.2.2.2.2.2
theorem FKc.rf {S : St} : FKc S S := ⟨fun _ _ _ _ _ => rfl, rfl, rfl, fun _ _ _ => rfl, fun _ _ _ _ _ _ => rfl, rfl⟩
theorem FKc.tr {S S1 S2 : St} (h1 : FKc S S1) (h2 : FKc S1 S2) : FKc S S2 := ⟨fun x k a b c => (h2.1 x k a b c).trans (h1.1 x k a b c), h2.2.1.trans h1.2.1, h2.2.2.1.trans h1.2.2.1, fun a b c => (h2.2.2.2.1 a b c).trans (h1.2.2.2.1 a b c), fun a b c d e i => (h2.2.2.2.2.1 a b c d e i).trans (h1.2.2.2.2.1 a b c d e i), h2.2.2.2.2.2.trans h1.2.2.2.2.2⟩
theorem FKc.fr {o : Nat} {S S' : St} (h : Fr o S S') (ho : o = 32 ∨ o = 33) : FKc S S' := ⟨fun x k a b _ => h.1 x k (by omega), h.2.1, h.2.2.1, fun a b c => (h.2.2.2.1 a (by omega)).1, fun a b c _ _ i => (h.2.2.2.1 a (by omega)).2 i, h.2.2.2.2⟩
theorem FKc.sF {S : St} {a i : Nat} {v : Int32} (h : a = 79 ∨ a = 80) : FKc S (sF S a i v) := ⟨fun _ _ _ _ _ => rfl, rfl, rfl, fun _ _ _ => rfl, fun b _ _ c d j => gF_ne (by omega), rfl⟩
theorem FKc.sI {S : St} {k : Nat} {v : Int32} (h : k = 10 ∨ k = 11) : FKc S (sI S 4 k v) := ⟨fun x j _ _ c => gI_ne (by omega), rfl, rfl, fun _ _ _ => rfl, fun _ _ _ _ _ _ => rfl, rfl⟩
def FKm (S S' : St) : Prop := (∀ k, k ≠ 52 → k ≠ 53 → k ≠ 54 → k ≠ 55 → k ≠ 58 → k ≠ 61 → gI S' 0 k = gI S 0 k) ∧ S'.2.1 = S.2.1 ∧ S'.2.2.1 = S.2.2.1 ∧ S'.2.2.2.1 = S.2.2.2.1 ∧ (∀ a, a ≠ 31 → a ≠ 35 → a ≠ 36 → ∀ i, gF S' a i = gF S a i) ∧ S'.2.2.2.2.2 = S.2.2.2.2.2
theorem FKm.rf {S : St} : FKm S S := ⟨fun _ _ _ _ _ _ _ => rfl, rfl, rfl, rfl, fun _ _ _ _ _ => rfl, rfl⟩
theorem FKm.tr {S S1 S2 : St} (h1 : FKm S S1) (h2 : FKm S1 S2) : FKm S S2 := ⟨fun k a b c d e f => (h2.1 k a b c d e f).trans (h1.1 k a b c d e f), h2.2.1.trans h1.2.1, h2.2.2.1.trans h1.2.2.1, h2.2.2.2.1.trans h1.2.2.2.1, fun a b c d i => (h2.2.2.2.2.1 a b c d i).trans (h1.2.2.2.2.1 a b c d i), h2.2.2.2.2.2.trans h1.2.2.2.2.2⟩
theorem FKm.sI {S : St} {k : Nat} {v : Int32} (h : k = 52 ∨ k = 53 ∨ k = 54 ∨ k = 55 ∨ k = 58 ∨ k = 61) : FKm S (sI S 0 k v) := ⟨fun j _ _ _ _ _ _ => gI_ne (by omega), rfl, rfl, rfl, fun _ _ _ _ _ => rfl, rfl⟩
theorem FKm.sF {S : St} {a i : Nat} {v : Int32} (h : a = 31 ∨ a = 35 ∨ a = 36) : FKm S (sF S a i v) := ⟨fun _ _ _ _ _ _ _ => rfl, rfl, rfl, rfl, fun b _ _ _ j => gF_ne (by omega), rfl⟩
theorem Rw.fk {x : Nat} {S S' : St} {l : List Int32} {ov : Int32} (w : Rw S x l ov) (h : FKc S S') (h1 : x ≠ 32) (h2 : x ≠ 33) : Rw S' x l ov := by
  obtain ⟨w0, w1, w2, w3, w4, w5, w6, w7, w8⟩ := w
  unfold Rw
  rw [h.1 x 0 h1 h2 (by omega), h.1 x 2 h1 h2 (by omega), h.1 x 3 h1 h2 (by omega), h.2.2.2.1 (x + 24) (by omega) (by omega)]
  exact ⟨w0, w1, w2, w3, w4, w5, w6, w7, fun i hi => (h.2.2.2.2.1 (x + 24) (by omega) (by omega) (by omega) (by omega) i).trans (w8 i hi)⟩
theorem TXs.fk {S S' : St} {ts : List (List Int32)} {u : Nat} (w : TXs S ts u) (e : FKm S S') : TXs S' ts u := by
  obtain ⟨h1, -, -, -, h5, -⟩ := e
  obtain ⟨a, b, c, d, f⟩ := w
  refine ⟨by rw [h1 38 (by decide) (by decide) (by decide) (by decide) (by decide) (by decide)]; exact a, b, c, by rw [h1 39 (by decide) (by decide) (by decide) (by decide) (by decide) (by decide)]; exact d, fun t l ht => ?_⟩
  obtain ⟨q, q1, q2, q3, q4⟩ := f t l ht
  exact ⟨q, by rw [h5 23 (by decide) (by decide) (by decide)]; exact q1, by rw [h5 24 (by decide) (by decide) (by decide)]; exact q2, q3, fun i hi => by rw [h5 22 (by decide) (by decide) (by decide)]; exact q4 i hi⟩
theorem RS_k {U : Nat → Prop} {S S' S2 S2' : St} {φ : Nat → Option Nat} {cs ts : List (List Int32)} {u : Nat} {pl pm ps qs : List Nat} (r : RS U S S2 φ cs ts u pl pm ps qs) (hc : FKc S S') (hm : FKm S2 S2') : RS U S' S2' φ cs ts u pl pm ps qs := by
  obtain ⟨a1, a2, a3, ⟨t1, t2, t3⟩, a5, a6, a7, a8, a9, a10, ⟨p1, p2, p3, p4, p5⟩, ⟨m, m1, m2, m3, m4⟩, ⟨ls, l1, l2⟩, ⟨x1, o1, y1⟩, ⟨x2, o2, y2⟩, x3, o3, y3⟩ := r
  have gg : ∀ a i, gG S' a i = gG S a i := fun a i => by unfold gG; rw [hc.2.2.2.2.2]
  have mg : ∀ a i, gG S2' a i = gG S2 a i := fun a i => by unfold gG; rw [hm.2.2.2.2.2]
  have cf := hc.2.2.2.2.1
  have mf := hm.2.2.2.2.1
  have mi := hm.1
  refine ⟨?_, fun a ha => (hc.2.2.2.1 a (by omega) (by omega)).trans (a2 a ha), a3.of hm.2.2.2.1, ⟨⟨t1.1.fk hc (by decide) (by decide), t1.2.fk hc (by decide) (by decide)⟩, t2.fk hm, t3⟩, Rw.fk a5 hc (by decide) (by decide), ⟨?_, a6.2.1, fun i hi => ?_⟩, a7, fun v hv => ?_, fun i hi => ?_, fun b hb => ?_, ⟨p1.fk hc (by decide) (by decide), ?_, p3, fun i hi => ?_, p5⟩, ⟨m, m1, ?_, ?_, fun i hi => ?_⟩, ⟨ls, l1.fk hc (by decide) (by decide), fun n hn => ?_⟩, ⟨x1, o1, y1.fk hc (by decide) (by decide)⟩, ⟨x2, o2, y2.fk hc (by decide) (by decide)⟩, x3, o3, y3.fk hc (by decide) (by decide)⟩
  · unfold gOK gR at *
    rw [hc.2.2.1]
    exact a1
  · rw [mi 41 (by decide) (by decide) (by decide) (by decide) (by decide) (by decide)]; exact a6.1
  · rw [mf 25 (by decide) (by decide) (by decide)]; exact a6.2.2 i hi
  · rw [cf 74 (by decide) (by decide) (by decide) (by decide), mf 26 (by decide) (by decide) (by decide)]; exact a8 v hv
  · rw [gg, mg]; exact a9 i hi
  · obtain ⟨lb, ov, b1, b2⟩ := a10 b hb
    refine ⟨lb, ov, b1.fk hc (by omega) (by omega), ?_⟩
    rw [cf 77 (by decide) (by decide) (by decide) (by decide), mf 28 (by decide) (by decide) (by decide), mf 29 (by decide) (by decide) (by decide)]
    rcases b2 with b2 | ⟨r, r1, r2, r3, r4, r5, r6, r7⟩
    · exact Or.inl b2
    · exact Or.inr ⟨r, r1, r2, r3, r4, r5, r6, fun i hi => by rw [mf 30 (by decide) (by decide) (by decide)]; exact r7 i hi⟩
  · rw [mi 50 (by decide) (by decide) (by decide) (by decide) (by decide) (by decide)]; exact p2
  · rw [mf 27 (by decide) (by decide) (by decide)]; exact p4 i hi
  · rw [hc.1 4 7 (by decide) (by decide) (by decide)]; exact m2
  · rw [mi 51 (by decide) (by decide) (by decide) (by decide) (by decide) (by decide)]; exact m3
  · rw [gg, mg]; exact m4 i hi
  · rw [mf 16 (by decide) (by decide) (by decide)]; exact l2 n hn
theorem RSx.k {U : Nat → Prop} {k : Nat} {S S' S2 S2' : St} (h : RSx U k S S2) (hc : FKc S S') (hm : FKm S2 S2') : RSx U k S' S2' := by
  obtain ⟨φ, cs, ts, u, pl, pm, ps, qs, h1, h2⟩ := h
  exact ⟨φ, cs, ts, u, pl, pm, ps, qs, RS_k h1 hc hm, h2⟩
theorem RSx.le {U : Nat → Prop} {k k' : Nat} {S S2 : St} (h : RSx U k S S2) (hk : k ≤ k') : RSx U k' S S2 := by
  induction hk with
  | refl => exact h
  | step _ ih => exact ih.up
theorem RSx.gw {U : Nat → Prop} {k w : Nat} {x : Int64} {S S2 : St} (h : RSx U k S S2) (hw : w < 12) : RSx U k (sG S 75 w x) (sG S2 32 w x) := by
  obtain ⟨φ, cs, ts, u, pl, pm, ps, qs, h1, h2⟩ := h
  exact ⟨φ, cs, ts, u, pl, pm, ps, qs, RS_gw h1 hw, h2⟩
/-- what a run leaves as it was -/
def FRc (S S' : St) : Prop := (∀ o k, o < 10 → (o ≠ 4 ∨ (k ≠ 7 ∧ k ≠ 10 ∧ k ≠ 11)) → gI S' o k = gI S o k) ∧ (∀ o, 10 ≤ o → o < 34 → ¬ stpRow o → o ≠ 32 → o ≠ 33 → (∀ k, gI S' o k = gI S o k) ∧ gN S' (o + 24) = gN S (o + 24) ∧ ∀ i, gF S' (o + 24) i = gF S (o + 24) i) ∧ S'.2.1 = S.2.1 ∧ S'.2.2.1 = S.2.2.1 ∧ (∀ a, 58 ≤ a → gN S' a = gN S a) ∧ (∀ a, 58 ≤ a → a ≤ 73 → (∀ i, gF S' a i = gF S a i) ∧ ∀ i, gG S' a i = gG S a i) ∧ (∀ b, ¬ gF S 77 b = -1 → ¬ gF S' 77 b = -1) ∧ Gro S S'
theorem FRc.rf {S : St} : FRc S S := ⟨fun _ _ _ _ => rfl, fun _ _ _ _ _ _ => ⟨fun _ => rfl, rfl, fun _ => rfl⟩, rfl, rfl, fun _ _ => rfl, fun _ _ _ => ⟨fun _ => rfl, fun _ => rfl⟩, fun _ h => h, Gro.same fun _ _ _ w => w⟩
theorem FRc.tr {S S1 S2 : St} (h1 : FRc S S1) (h2 : FRc S1 S2) : FRc S S2 :=
  ⟨fun o k a b => (h2.1 o k a b).trans (h1.1 o k a b), fun o a b c d e => ⟨fun k => ((h2.2.1 o a b c d e).1 k).trans ((h1.2.1 o a b c d e).1 k), (h2.2.1 o a b c d e).2.1.trans (h1.2.1 o a b c d e).2.1, fun i => ((h2.2.1 o a b c d e).2.2 i).trans ((h1.2.1 o a b c d e).2.2 i)⟩, h2.2.2.1.trans h1.2.2.1, h2.2.2.2.1.trans h1.2.2.2.1, fun a b => (h2.2.2.2.2.1 a b).trans (h1.2.2.2.2.1 a b), fun a b c => ⟨fun i => ((h2.2.2.2.2.2.1 a b c).1 i).trans ((h1.2.2.2.2.2.1 a b c).1 i), fun i => ((h2.2.2.2.2.2.1 a b c).2 i).trans ((h1.2.2.2.2.2.1 a b c).2 i)⟩, fun b h => h2.2.2.2.2.2.2.1 b (h1.2.2.2.2.2.2.1 b h), h1.2.2.2.2.2.2.2.tr h2.2.2.2.2.2.2.2⟩
theorem FRc.fc {S S' : St} (h : FC S S') : FRc S S' := ⟨fun o k a b => h.1 o k a (by omega), fun o a b c _ _ => h.2.1 o a b c, h.2.2.1, h.2.2.2.1, h.2.2.2.2.1, fun a b c => h.2.2.2.2.2.1 a (Or.inl ⟨b, c⟩), h.2.2.2.2.2.2⟩
theorem FRc.fk {S S' : St} (h : FKc S S') : FRc S S' := ⟨fun o k a b => h.1 o k (by omega) (by omega) (by omega), fun o a b _ d e => ⟨fun k => h.1 o k d e (by omega), h.2.2.2.1 (o + 24) (by omega) (by omega), fun i => h.2.2.2.2.1 (o + 24) (by omega) (by omega) (by omega) (by omega) i⟩, h.2.1, h.2.2.1, fun a b => h.2.2.2.1 a (by omega) (by omega), fun a b c => ⟨fun i => h.2.2.2.2.1 a (by omega) (by omega) (by omega) (by omega) i, fun i => by unfold gG; rw [h.2.2.2.2.2]⟩, fun b hb => by rw [h.2.2.2.2.1 77 (by decide) (by decide) (by decide) (by decide) b]; exact hb, Gro.same fun o l ho w => w.fk h (by omega) (by omega)⟩
theorem FRc.gw {S : St} {w : Nat} {x : Int64} : FRc S (sG S 75 w x) := FRc.fc (FC_sG (Or.inl rfl))
def FRm (S S' : St) : Prop := (∀ k, ¬ stpSl k → k ≠ 52 → k ≠ 53 → k ≠ 54 → k ≠ 55 → k ≠ 61 → gI S' 0 k = gI S 0 k) ∧ S'.2.1 = S.2.1 ∧ S'.2.2.1 = S.2.2.1 ∧ S'.2.2.2.1 = S.2.2.2.1 ∧ ∀ a, ¬ stpAr a → a ≠ 31 → a ≠ 35 → a ≠ 36 → (∀ i, gF S' a i = gF S a i) ∧ ∀ i, gG S' a i = gG S a i
theorem FRm.rf {S : St} : FRm S S := ⟨fun _ _ _ _ _ _ _ => rfl, rfl, rfl, rfl, fun _ _ _ _ _ => ⟨fun _ => rfl, fun _ => rfl⟩⟩
theorem FRm.tr {S S1 S2 : St} (h1 : FRm S S1) (h2 : FRm S1 S2) : FRm S S2 := ⟨fun k a b c d e f => (h2.1 k a b c d e f).trans (h1.1 k a b c d e f), h2.2.1.trans h1.2.1, h2.2.2.1.trans h1.2.2.1, h2.2.2.2.1.trans h1.2.2.2.1, fun a b c d e => ⟨fun i => ((h2.2.2.2.2 a b c d e).1 i).trans ((h1.2.2.2.2 a b c d e).1 i), fun i => ((h2.2.2.2.2 a b c d e).2 i).trans ((h1.2.2.2.2 a b c d e).2 i)⟩⟩
theorem FRm.fs {S S' : St} (h : FS S S') : FRm S S' := ⟨fun k a _ _ _ _ _ => h.1 k a, h.2.1, h.2.2.1, h.2.2.2.1, fun a b _ _ _ => h.2.2.2.2 a b⟩
theorem FRm.fk {S S' : St} (h : FKm S S') : FRm S S' := ⟨fun k a b c d e f => h.1 k b c d e (fun q => a (by unfold stpSl; omega)) f, h.2.1, h.2.2.1, h.2.2.2.1, fun a _ b c d => ⟨fun i => h.2.2.2.2.1 a b c d i, fun i => by unfold gG; rw [h.2.2.2.2.2]⟩⟩
theorem FRm.gw {S : St} {w : Nat} {x : Int64} : FRm S (sG S 32 w x) := FRm.fs (FS_sG (by unfold stpAr; omega))
theorem PrC.fr {S S' : St} {p : Nat} {P : Prg} (w : PrC S p P) (h : FRc S S') : PrC S' p P := by
  obtain ⟨a, b, c, d, e, f⟩ := w
  have hf : ∀ k i, k < 8 → gF S' (50 + 8 * p + k) i = gF S (50 + 8 * p + k) i := fun k i hk => (h.2.2.2.2.2.1 _ (by omega) (by omega)).1 i
  have hg : ∀ k i, k < 8 → gG S' (50 + 8 * p + k) i = gG S (50 + 8 * p + k) i := fun k i hk => (h.2.2.2.2.2.1 _ (by omega) (by omega)).2 i
  refine ⟨a, b, c, (h.1 p 8 (by omega) (by omega)).trans d, fun i hi => (hf 1 i (by omega)).trans (e i hi), fun i s ws hi => ⟨(hf 0 i (by omega)).trans (f i s ws hi).1, fun j w hw => ?_⟩⟩
  obtain ⟨q1, q2, q3, q4⟩ := (f i s ws hi).2 j w hw
  exact ⟨(hf 2 _ (by omega)).trans q1, (hf 3 _ (by omega)).trans q2, (hg 4 _ (by omega)).trans q3, (hf 5 _ (by omega)).trans q4⟩
theorem PrM.fr {S S' : St} {q : Nat} {P : Prg} (w : PrM S q P) (h : FRm S S') : PrM S' q P := by
  obtain ⟨a, b, c, f⟩ := w
  have hf : ∀ k i, 6 ≤ k → k ≤ 11 → gF S' k i = gF S k i := fun k i h1 h2 => (h.2.2.2.2 k (by unfold stpAr; omega) (by omega) (by omega) (by omega)).1 i
  have hg : ∀ i, gG S' 10 i = gG S 10 i := fun i => (h.2.2.2.2 10 (by unfold stpAr; omega) (by omega) (by omega) (by omega)).2 i
  refine ⟨a, b, (hf 11 q (by omega) (by omega)).trans c, fun i s ws hi => ?_⟩
  obtain ⟨q0, q1, q2, q3⟩ := f i s ws hi
  refine ⟨q0, (hf 6 _ (by omega) (by omega)).trans q1, (hf 7 _ (by omega) (by omega)).trans q2, fun j w hw => ?_⟩
  obtain ⟨r1, r2, r3⟩ := q3 j w hw
  exact ⟨(hf 8 _ (by omega) (by omega)).trans r1, (hg _).trans r2, (hf 9 _ (by omega) (by omega)).trans r3⟩
