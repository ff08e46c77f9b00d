/-! programs are copied and made shorter: the class -/
theorem cpJ_at {S : St} {a b sp dp n : Nat} (h1 : sp + n ≤ gN S a) (h2 : dp + n ≤ gN S b) (ha : gN S a < 2 ^ 31) (hb : gN S b < 2 ^ 31) : cpJ S a (nI sp) b (nI dp) (nI n) = some (sGG S b (va_cpy (gG S a) (gG S b) sp dp n)) := by
  unfold cpJ
  rw [nI_clamp (by omega), nI_clamp (by omega), nI_clamp (by omega), if_pos ⟨nI_pos (by omega), nI_pos (by omega), nI_pos (by omega), h1, h2⟩]
section CPY
variable {S : St} {a b sp dp n : Nat}
theorem cpIx (h1 : sp + n ≤ gN S a) (h2 : dp + n ≤ gN S b) (ha : gN S a < 2 ^ 31) (hb : gN S b < 2 ^ 31) : ∃ S', cpI S a (nI sp) b (nI dp) (nI n) = some S' ∧ FA b S S' ∧ (∀ i, gF S' b i = if dp ≤ i ∧ i < dp + n then gF S a (sp + (i - dp)) else gF S b i) ∧ ∀ i, gG S' b i = gG S b i := by
  refine ⟨_, cpI_at h1 h2 ha hb, ⟨rfl, rfl, rfl, rfl, fun x hx i => by simp [gF, sFF, hx], fun _ _ _ => rfl⟩, fun i => ?_, fun _ => rfl⟩
  show (if b = b then va_cpy (gF S a) (gF S b) sp dp n i else S.2.2.2.2.1 b i) = _
  rw [if_pos rfl]
  rfl
theorem cpJx (h1 : sp + n ≤ gN S a) (h2 : dp + n ≤ gN S b) (ha : gN S a < 2 ^ 31) (hb : gN S b < 2 ^ 31) : ∃ S', cpJ S a (nI sp) b (nI dp) (nI n) = some S' ∧ FA b S S' ∧ (∀ i, gG S' b i = if dp ≤ i ∧ i < dp + n then gG S a (sp + (i - dp)) else gG S b i) ∧ ∀ i, gF S' b i = gF S b i := by
  refine ⟨_, cpJ_at h1 h2 ha hb, ⟨rfl, rfl, rfl, rfl, fun _ _ _ => rfl, fun x hx i => by simp [gG, sGG, hx]⟩, fun i => ?_, fun _ => rfl⟩
  show (if b = b then va_cpy (gG S a) (gG S b) sp dp n i else S.2.2.2.2.2 b i) = _
  rw [if_pos rfl]
  rfl
end CPY
theorem fsP_mono : ∀ {P : Prg} {i j : Nat}, i ≤ j → fsP P i ≤ fsP P j := by
  intro P
  induction P with
  | nil => intro i j _; exact Nat.le_refl _
  | cons c P ih =>
    intro i j h
    cases i with
    | zero => rw [fsP_0]; exact Nat.zero_le _
    | succ i =>
      cases j with
      | zero => omega
      | succ j =>
        show c.2.length + fsP P i ≤ c.2.length + fsP P j
        have := ih (show i ≤ j by omega)
        omega
theorem fsP_er1 : ∀ {P : Prg} {i k : Nat}, i ≤ k → fsP (P.eraseIdx k) i = fsP P i := by
  intro P
  induction P with
  | nil => intro i k _; rfl
  | cons c P ih =>
    intro i k h
    cases i with
    | zero => rw [fsP_0, fsP_0]
    | succ i =>
      cases k with
      | zero => omega
      | succ k =>
        show c.2.length + fsP (P.eraseIdx k) i = c.2.length + fsP P i
        rw [ih (by omega)]
theorem fsP_er2 : ∀ {P : Prg} {i k : Nat}, k ≤ i → k < P.length → fsP (P.eraseIdx k) i + (fsP P (k + 1) - fsP P k) = fsP P (i + 1) := by
  intro P
  induction P with
  | nil => intro i k _ h; simp at h
  | cons c P ih =>
    intro i k h hk
    cases k with
    | zero =>
      show fsP P i + ((c.2.length + fsP P 0) - fsP (c :: P) 0) = c.2.length + fsP P i
      rw [fsP_0, fsP_0]
      omega
    | succ k =>
      cases i with
      | zero => omega
      | succ i =>
        show c.2.length + fsP (P.eraseIdx k) i + ((c.2.length + fsP P (k + 1)) - (c.2.length + fsP P k)) = c.2.length + fsP P (i + 1)
        have := ih (i := i) (k := k) (by omega) (by rw [List.length_cons] at hk; omega)
        omega
theorem fsP_set : ∀ {P : Prg} {i j : Nat} {x y : Nat × List Wd}, P[j]? = some y → y.2.length = x.2.length → fsP (P.set j x) i = fsP P i := by
  intro P
  induction P with
  | nil => intro i j x y h; simp at h
  | cons c P ih =>
    intro i j x y h e
    cases i with
    | zero => rw [fsP_0, fsP_0]
    | succ i =>
      cases j with
      | zero =>
        have : c = y := by simpa using h
        subst this
        show x.2.length + fsP P i = c.2.length + fsP P i
        omega
      | succ j =>
        show c.2.length + fsP (P.set j x) i = c.2.length + fsP P i
        rw [ih (by simpa using h) e]
/-- nothing but the STEPS of Program d have changed -/
def FPc (d : Nat) (S S' : St) : Prop := (∀ o k, ¬ (o = d ∧ k = 8) → gI S' o k = gI S o k) ∧ S'.2.1 = S.2.1 ∧ S'.2.2.1 = S.2.2.1 ∧ S'.2.2.2.1 = S.2.2.2.1 ∧ ∀ a, ¬ (50 + 8 * d ≤ a ∧ a < 50 + 8 * d + 6) → (∀ i, gF S' a i = gF S a i) ∧ ∀ i, gG S' a i = gG S a i
theorem FPc.rf {d : Nat} {S : St} : FPc d S S := ⟨fun _ _ _ => rfl, rfl, rfl, rfl, fun _ _ => ⟨fun _ => rfl, fun _ => rfl⟩⟩
theorem FPc.tr {d : Nat} {S S1 S2 : St} (h1 : FPc d S S1) (h2 : FPc d S1 S2) : FPc d S S2 := ⟨fun o k a => (h2.1 o k a).trans (h1.1 o k a), h2.2.1.trans h1.2.1, h2.2.2.1.trans h1.2.2.1, h2.2.2.2.1.trans h1.2.2.2.1, fun a b => ⟨fun i => ((h2.2.2.2.2 a b).1 i).trans ((h1.2.2.2.2 a b).1 i), fun i => ((h2.2.2.2.2 a b).2 i).trans ((h1.2.2.2.2 a b).2 i)⟩⟩
theorem FPc.fa {d a : Nat} {S S' : St} (h : FA a S S') (ha : 50 + 8 * d ≤ a ∧ a < 50 + 8 * d + 6) : FPc d S S' := ⟨fun o k _ => h.i o k, h.2.1, h.2.2.1, h.2.2.2.1, fun b hb => ⟨fun i => h.2.2.2.2.1 b (by rintro rfl; exact hb ha) i, fun i => h.2.2.2.2.2 b (by rintro rfl; exact hb ha) i⟩⟩
theorem FPc.sI {d : Nat} {S : St} {v : Int32} : FPc d S (sI S d 8 v) := ⟨fun o k h => gI_ne h, rfl, rfl, rfl, fun _ _ => ⟨fun _ => rfl, fun _ => rfl⟩⟩
theorem LC.fp {d : Nat} {S S' : St} (w : LC S) (h : FPc d S S') : LC S' := fun a ha => by
  have := w a ha
  unfold gN at *
  rw [h.2.2.2.1]
  exact this
theorem gOK.fp {d : Nat} {S S' : St} (w : gOK S) (h : FPc d S S') : gOK S' := by
  unfold gOK gR at *
  rw [h.2.2.1]
  exact w
theorem PrC.fp {d p : Nat} {S S' : St} {P : Prg} (w : PrC S p P) (h : FPc d S S') (hd : p ≠ d) : PrC S' p P := by
  obtain ⟨x1, x2, x3, x4, x5, x6⟩ := w
  have hf : ∀ k i, k < 6 → gF S' (50 + 8 * p + k) i = gF S (50 + 8 * p + k) i := fun k i hk => (h.2.2.2.2 _ (by omega)).1 i
  have hgg : ∀ k i, k < 6 → gG S' (50 + 8 * p + k) i = gG S (50 + 8 * p + k) i := fun k i hk => (h.2.2.2.2 _ (by omega)).2 i
  refine ⟨x1, x2, x3, (h.1 p 8 (by omega)).trans x4, fun i hi => (hf 1 i (by omega)).trans (x5 i hi), fun i s ws hi => ⟨(hf 0 i (by omega)).trans (x6 i s ws hi).1, fun j w hw => ?_⟩⟩
  obtain ⟨q1, q2, q3, q4⟩ := (x6 i s ws hi).2 j w hw
  exact ⟨(hf 2 _ (by omega)).trans q1, (hf 3 _ (by omega)).trans q2, (hgg 4 _ (by omega)).trans q3, (hf 5 _ (by omega)).trans q4⟩
theorem Rw.fp {d x : Nat} {S S' : St} {l : List Int32} {ov : Int32} (w : Rw S x l ov) (h : FPc d S S') (hd : d = 1 ∨ d = 2) : Rw S' x l ov := by
  obtain ⟨w0, w1, w2, w3, w4, w5, w6, w7, w8⟩ := w
  have hn : ∀ a, gN S' a = gN S a := fun a => by unfold gN; rw [h.2.2.2.1]
  unfold Rw
  rw [h.1 x 0 (by omega), h.1 x 2 (by omega), h.1 x 3 (by omega), hn]
  exact ⟨w0, w1, w2, w3, w4, w5, w6, w7, fun i hi => ((h.2.2.2.2 (x + 24) (by omega)).1 i).trans (w8 i hi)⟩
section CPS
variable {g p d : Nat} {P : Prg} {S : St}
theorem C_copy (pc : PrC S p P) (hl : LC S) (hd : d = 1 ∨ d = 2) (hne : d ≠ p) : ∃ S', m_Pg_copySteps g S d p = some S' ∧ FPc d S S' ∧ PrC S' d P := by
  obtain ⟨c1, c2, c3, c4, c5, c6⟩ := pc
  have hN : ∀ {Z : St}, FPc d S Z → ∀ p, (p = 1 ∨ p = 2) → gN Z (50 + 8 * p + 0) = 60 ∧ gN Z (50 + 8 * p + 1) = 61 ∧ gN Z (50 + 8 * p + 2) = 540 ∧ gN Z (50 + 8 * p + 3) = 540 ∧ gN Z (50 + 8 * p + 4) = 540 ∧ gN Z (50 + 8 * p + 5) = 540 ∧ gN Z (50 + 8 * p + 6) = 60 ∧ gN Z (50 + 8 * p + 7) = 60 := fun h p hp => LCp (hl.fp h) hp
  have f0 : FPc d S (sI S d 8 (nI P.length)) := FPc.sI
  obtain ⟨m0, m1, m2, m3, m4, m5, -⟩ := hN f0 p c1
  obtain ⟨n0, n1, n2, n3, n4, n5, -⟩ := hN f0 d hd
  obtain ⟨S1, a1, a2, a3, a4⟩ := cpIx (S := sI S d 8 (nI P.length)) (a := 50 + 8 * p + 0) (b := 50 + 8 * d + 0) (sp := 0) (dp := 0) (n := P.length) (by omega) (by omega) (by omega) (by omega)
  have f1 := f0.tr (FPc.fa (d := d) a2 (by omega))
  obtain ⟨m0, m1, m2, m3, m4, m5, -⟩ := hN f1 p c1
  obtain ⟨n0, n1, n2, n3, n4, n5, -⟩ := hN f1 d hd
  obtain ⟨S3, b1, b2, b3, b4⟩ := cpIx (S := S1) (a := 50 + 8 * p + 1) (b := 50 + 8 * d + 1) (sp := 0) (dp := 0) (n := P.length + 1) (by omega) (by omega) (by omega) (by omega)
  have f3 := f1.tr (FPc.fa (d := d) b2 (by omega))
  obtain ⟨m0, m1, m2, m3, m4, m5, -⟩ := hN f3 p c1
  obtain ⟨n0, n1, n2, n3, n4, n5, -⟩ := hN f3 d hd
  obtain ⟨S4, i1, i2, i3, i4⟩ := cpIx (S := S3) (a := 50 + 8 * p + 2) (b := 50 + 8 * d + 2) (sp := 0) (dp := 0) (n := fsP P P.length) (by omega) (by omega) (by omega) (by omega)
  have f4 := f3.tr (FPc.fa (d := d) i2 (by omega))
  obtain ⟨m0, m1, m2, m3, m4, m5, -⟩ := hN f4 p c1
  obtain ⟨n0, n1, n2, n3, n4, n5, -⟩ := hN f4 d hd
  obtain ⟨S5, j1, j2, j3, j4⟩ := cpIx (S := S4) (a := 50 + 8 * p + 3) (b := 50 + 8 * d + 3) (sp := 0) (dp := 0) (n := fsP P P.length) (by omega) (by omega) (by omega) (by omega)
  have f5 := f4.tr (FPc.fa (d := d) j2 (by omega))
  obtain ⟨m0, m1, m2, m3, m4, m5, -⟩ := hN f5 p c1
  obtain ⟨n0, n1, n2, n3, n4, n5, -⟩ := hN f5 d hd
  obtain ⟨S6, k1, k2, k3, k4⟩ := cpJx (S := S5) (a := 50 + 8 * p + 4) (b := 50 + 8 * d + 4) (sp := 0) (dp := 0) (n := fsP P P.length) (by omega) (by omega) (by omega) (by omega)
  have f6 := f5.tr (FPc.fa (d := d) k2 (by omega))
  obtain ⟨m0, m1, m2, m3, m4, m5, -⟩ := hN f6 p c1
  obtain ⟨n0, n1, n2, n3, n4, n5, -⟩ := hN f6 d hd
  obtain ⟨S7, l1, l2, l3, l4⟩ := cpIx (S := S6) (a := 50 + 8 * p + 5) (b := 50 + 8 * d + 5) (sp := 0) (dp := 0) (n := fsP P P.length) (by omega) (by omega) (by omega) (by omega)
  have f7 := f6.tr (FPc.fa (d := d) l2 (by omega))
  obtain ⟨q0, q1, -⟩ := LCp hl c1
  refine ⟨S7, ?_, f7, hd, c2, c3, ?_, fun i hi => ?_, fun i s ws hi => ?_⟩
  · unfold m_Pg_copySteps
    rw [c4, aI_at (by omega) (by omega), c5 _ (Nat.le_refl _), Option.bind_some, lt_d, sI_g, show (0 : Int32) = nI 0 from rfl, a1, Option.bind_some, show gI S1 d 8 = nI P.length from by rw [a2.i, sI_g], nI_1, b1, Option.bind_some, i1, Option.bind_some, j1, Option.bind_some, k1, Option.bind_some, l1, Option.bind_some]
  · rw [l2.i, k2.i, j2.i, i2.i, b2.i, a2.i, sI_g]
  · rw [l2.2.2.2.2.1 _ (by omega), k2.2.2.2.2.1 _ (by omega), j2.2.2.2.2.1 _ (by omega), i2.2.2.2.2.1 _ (by omega), b3, if_pos (by omega), a2.2.2.2.2.1 _ (by omega), show 0 + (i - 0) = i by omega]
    exact c5 i hi
  · have hil := (List.getElem?_eq_some_iff.mp hi).1
    refine ⟨?_, fun j w hw => ?_⟩
    · rw [l2.2.2.2.2.1 _ (by omega), k2.2.2.2.2.1 _ (by omega), j2.2.2.2.2.1 _ (by omega), i2.2.2.2.2.1 _ (by omega), b2.2.2.2.2.1 _ (by omega), a3, if_pos (by omega), show 0 + (i - 0) = i by omega]
      exact (c6 i s ws hi).1
    · have hjl := (List.getElem?_eq_some_iff.mp hw).1
      have hf := fsP_s hi
      have hle := fsP_le (P := P) (i := i + 1)
      obtain ⟨z1, z2, z3, z4⟩ := (c6 i s ws hi).2 j w hw
      have ei : ∀ x, 0 + (x - 0) = x := fun x => by omega
      refine ⟨?_, ?_, ?_, ?_⟩
      · rw [l2.2.2.2.2.1 _ (by omega), k2.2.2.2.2.1 _ (by omega), j2.2.2.2.2.1 _ (by omega), i3, if_pos (by omega), ei, b2.2.2.2.2.1 _ (by omega), a2.2.2.2.2.1 _ (by omega)]
        exact z1
      · rw [l2.2.2.2.2.1 _ (by omega), k2.2.2.2.2.1 _ (by omega), j3, if_pos (by omega), ei, i2.2.2.2.2.1 _ (by omega), b2.2.2.2.2.1 _ (by omega), a2.2.2.2.2.1 _ (by omega)]
        exact z2
      · rw [l2.2.2.2.2.2 _ (by omega), k3, if_pos (by omega), ei, j2.2.2.2.2.2 _ (by omega), i2.2.2.2.2.2 _ (by omega), b2.2.2.2.2.2 _ (by omega), a2.2.2.2.2.2 _ (by omega)]
        exact z3
      · rw [l3, if_pos (by omega), ei, k2.2.2.2.2.1 _ (by omega), j2.2.2.2.2.1 _ (by omega), i2.2.2.2.2.1 _ (by omega), b2.2.2.2.2.1 _ (by omega), a2.2.2.2.2.1 _ (by omega)]
        exact z4
end CPS
