/-! what a run has, on both sides; what a STEP may change -/
def stpRow (o : Nat) : Prop := 18 ≤ o ∧ o ≤ 31 ∧ o ≠ 21
/-- the texts of the class only grow -/
def Gro (S S' : St) : Prop := ∀ o, o = 18 ∨ o = 19 → ∀ l, Rw S o l 0 → ∃ r, Rw S' o (l ++ r) 0
theorem Gro.same {S S' : St} (h : ∀ o l, o = 18 ∨ o = 19 → Rw S o l 0 → Rw S' o l 0) : Gro S S' := fun o ho l w => ⟨[], by rw [List.append_nil]; exact h o l ho w⟩
theorem Gro.tr {S S1 S2 : St} (h1 : Gro S S1) (h2 : Gro S1 S2) : Gro S S2 := fun o ho l w => by
  obtain ⟨r, w1⟩ := h1 o ho l w
  obtain ⟨r', w2⟩ := h2 o ho _ w1
  exact ⟨r ++ r', by rw [← List.append_assoc]; exact w2⟩
/-- what a STEP of the class may change: Rows 18 to 31 but 21, arrays 74, 75, 77, 78, markCount -/
def FC (S S' : St) : Prop := (∀ o k, o < 10 → (o ≠ 4 ∨ k ≠ 7) → gI S' o k = gI S o k) ∧ (∀ o, 10 ≤ o → o < 34 → ¬ stpRow o → (∀ k, gI S' o k = gI S o k) ∧ gN S' (o + 24) = gN S (o + 24) ∧ ∀ i, gF S' (o + 24) i = gF S (o + 24) i) ∧ S'.2.1 = S.2.1 ∧ S'.2.2.1 = S.2.2.1 ∧ (∀ a, 58 ≤ a → gN S' a = gN S a) ∧ (∀ a, (58 ≤ a ∧ a ≤ 73) ∨ a = 79 ∨ a = 80 → (∀ i, gF S' a i = gF S a i) ∧ ∀ i, gG S' a i = gG S a i) ∧ (∀ b, ¬ gF S 77 b = -1 → ¬ gF S' 77 b = -1) ∧ Gro S S'
theorem FC.rf {S : St} : FC S S := ⟨fun _ _ _ _ => rfl, fun _ _ _ _ => ⟨fun _ => rfl, rfl, fun _ => rfl⟩, rfl, rfl, fun _ _ => rfl, fun _ _ => ⟨fun _ => rfl, fun _ => rfl⟩, fun _ h => h, Gro.same fun _ _ _ w => w⟩
theorem FC.tr {S S1 S2 : St} (h1 : FC S S1) (h2 : FC S1 S2) : FC S S2 :=
  ⟨fun o k a b => (h2.1 o k a b).trans (h1.1 o k a b), fun o a b c => ⟨fun k => ((h2.2.1 o a b c).1 k).trans ((h1.2.1 o a b c).1 k), (h2.2.1 o a b c).2.1.trans (h1.2.1 o a b c).2.1, fun i => ((h2.2.1 o a b c).2.2 i).trans ((h1.2.1 o a b c).2.2 i)⟩, h2.2.2.1.trans h1.2.2.1, h2.2.2.2.1.trans h1.2.2.2.1, fun a b => (h2.2.2.2.2.1 a b).trans (h1.2.2.2.2.1 a b), fun a b => ⟨fun i => ((h2.2.2.2.2.2.1 a b).1 i).trans ((h1.2.2.2.2.2.1 a b).1 i), fun i => ((h2.2.2.2.2.2.1 a b).2 i).trans ((h1.2.2.2.2.2.1 a b).2 i)⟩, fun b h => h2.2.2.2.2.2.2.1 b (h1.2.2.2.2.2.2.1 b h), h1.2.2.2.2.2.2.2.tr h2.2.2.2.2.2.2.2⟩
theorem FC.row {o : Nat} {S S' : St} (h : Fr o S S') (ho : stpRow o) (h9 : o ≠ 18 ∧ o ≠ 19 := by omega) : FC S S' := by
  have hGr : Gro S S' := Gro.same fun o' l ho' w => w.fr h (by omega)
  obtain ⟨h1, h2, h3, h4, h5⟩ := h
  unfold stpRow at ho
  refine ⟨fun x k a b => h1 x k (by omega), fun x a b c => ?_, h2, h3, fun a b => (h4 a (by omega)).1, fun a b => ⟨fun i => (h4 a (by omega)).2 i, fun i => by unfold gG; rw [h5]⟩, fun b h => by rw [(h4 77 (by omega)).2 b]; exact h, hGr⟩
  have hx : x ≠ o := fun q => c (by unfold stpRow; omega)
  exact ⟨fun k => h1 x k hx, (h4 (x + 24) (by omega)).1, fun i => (h4 (x + 24) (by omega)).2 i⟩
theorem gF_ne {S : St} {a b i j : Nat} {v : Int32} (h : a ≠ b) : gF (sF S b i v) a j = gF S a j := by simp [gF, sF, h]
theorem gG_ne {S : St} {a b i j : Nat} {v : Int64} (h : a ≠ b) : gG (sG S b i v) a j = gG S a j := by simp [gG, sG, h]
theorem gI_ne {S : St} {o k x y : Nat} {v : Int32} (h : ¬ (x = o ∧ y = k)) : gI (sI S o k v) x y = gI S x y := by simp [gI, sI, h]
theorem RwsF {S : St} {a i o : Nat} {v ov : Int32} {l : List Int32} (w : Rw S o l ov) (h : a ≠ o + 24) : Rw (sF S a i v) o l ov := by
  obtain ⟨w0, w1, w2, w3, w4, w5, w6, w7, w8⟩ := w
  exact ⟨w0, w1, w2, w3, w4, w5, w6, w7, fun j hj => (gF_ne (fun q => h q.symm)).trans (w8 j hj)⟩
theorem RwsI {S : St} {k o : Nat} {v ov : Int32} {l : List Int32} (w : Rw S o l ov) : Rw (sI S 4 k v) o l ov := by
  obtain ⟨w0, w1, w2, w3, w4⟩ := w
  unfold Rw
  rw [gI_ne (by omega), gI_ne (by omega), gI_ne (by omega)]
  exact ⟨w0, w1, w2, w3, w4⟩
theorem FC_sF {S : St} {a i : Nat} {v : Int32} (h : a = 74 ∨ a = 74) : FC S (sF S a i v) :=
  ⟨fun _ _ _ _ => rfl, fun o _ h2 _ => ⟨fun _ => rfl, rfl, fun j => gF_ne (by omega)⟩, rfl, rfl, fun _ _ => rfl, fun b hb => ⟨fun j => gF_ne (by omega), fun _ => rfl⟩, fun b hb => by rw [gF_ne (by omega)]; exact hb, Gro.same fun o l ho w => RwsF w (by omega)⟩
theorem FC_sG {S : St} {a i : Nat} {v : Int64} (h : a = 75 ∨ a = 78) : FC S (sG S a i v) :=
  ⟨fun _ _ _ _ => rfl, fun o _ _ _ => ⟨fun _ => rfl, rfl, fun _ => rfl⟩, rfl, rfl, fun _ _ => rfl, fun b hb => ⟨fun _ => rfl, fun j => gG_ne (by omega)⟩, fun _ h => h, Gro.same fun _ _ _ w => w⟩
theorem FC_mk {S : St} {v : Int32} : FC S (sI S 4 7 v) :=
  ⟨fun o k _ h => gI_ne (by omega), fun o h _ _ => ⟨fun k => gI_ne (by omega), rfl, fun _ => rfl⟩, rfl, rfl, fun _ _ => rfl, fun _ _ => ⟨fun _ => rfl, fun _ => rfl⟩, fun _ h => h, Gro.same fun _ _ _ w => RwsI w⟩
theorem Rw.fc {o : Nat} {S S' : St} {l : List Int32} {ov : Int32} (w : Rw S o l ov) (h : FC S S') (ho : ¬ stpRow o) : Rw S' o l ov := by
  obtain ⟨w0, w1, w2, w3, w4, w5, w6, w7, w8⟩ := w
  obtain ⟨a, b, c⟩ := h.2.1 o w0.1 w0.2 ho
  unfold Rw
  rw [a, a, a, b]
  exact ⟨w0, w1, w2, w3, w4, w5, w6, w7, fun i hi => (c i).trans (w8 i hi)⟩
theorem gOK.fc {S S' : St} (w : gOK S) (h : FC S S') : gOK S' := by
  unfold gOK gR at *
  rw [h.2.2.2.1]
  exact w
theorem LC.fc {S S' : St} (w : LC S) (h : FC S S') : LC S' := fun a ha => (h.2.2.2.2.1 a ha).trans (w a ha)
theorem CurC.fc {S S' : St} {ws : List Wd} (w : CurC S ws) (h : FC S S') : CurC S' ws := by
  obtain ⟨p, f, h1, h2, h3, h4, h5, h6⟩ := w
  have hg : ∀ o k, gR S' o k = gR S o k := fun o k => by unfold gR; rw [h.2.2.2.1]
  refine ⟨p, f, h1, by rw [hg]; exact h2, by rw [h.1 4 10 (by decide) (by decide)]; exact h3, by rw [h.1 4 11 (by decide) (by decide)]; exact h4, h5, fun j w hw => ?_⟩
  obtain ⟨a, b, c⟩ := h6 j w hw
  rcases h1 with rfl | rfl
  · exact ⟨((h.2.2.2.2.2.1 60 (by decide)).1 _).trans a, ((h.2.2.2.2.2.1 61 (by decide)).1 _).trans b, ((h.2.2.2.2.2.1 62 (by decide)).2 _).trans c⟩
  · exact ⟨((h.2.2.2.2.2.1 68 (by decide)).1 _).trans a, ((h.2.2.2.2.2.1 69 (by decide)).1 _).trans b, ((h.2.2.2.2.2.1 70 (by decide)).2 _).trans c⟩
def stpSl (k : Nat) : Prop := k = 38 ∨ k = 39 ∨ k = 41 ∨ k = 50 ∨ k = 51 ∨ k = 57 ∨ k = 58 ∨ k = 65
def stpAr (a : Nat) : Prop := (22 ≤ a ∧ a ≤ 30) ∨ (32 ≤ a ∧ a ≤ 34) ∨ (37 ≤ a ∧ a ≤ 39)
/-- what a STEP of the reference may change -/
def FS (S S' : St) : Prop := (∀ k, ¬ stpSl k → gI S' 0 k = gI S 0 k) ∧ S'.2.1 = S.2.1 ∧ S'.2.2.1 = S.2.2.1 ∧ S'.2.2.2.1 = S.2.2.2.1 ∧ ∀ a, ¬ stpAr a → (∀ i, gF S' a i = gF S a i) ∧ ∀ i, gG S' a i = gG S a i
theorem FS.rf {S : St} : FS S S := ⟨fun _ _ => rfl, rfl, rfl, rfl, fun _ _ => ⟨fun _ => rfl, fun _ => rfl⟩⟩
theorem FS.tr {S S1 S2 : St} (h1 : FS S S1) (h2 : FS S1 S2) : FS S S2 := ⟨fun k a => (h2.1 k a).trans (h1.1 k a), h2.2.1.trans h1.2.1, h2.2.2.1.trans h1.2.2.1, h2.2.2.2.1.trans h1.2.2.2.1, fun a b => ⟨fun i => ((h2.2.2.2.2 a b).1 i).trans ((h1.2.2.2.2 a b).1 i), fun i => ((h2.2.2.2.2 a b).2 i).trans ((h1.2.2.2.2 a b).2 i)⟩⟩
theorem FS_sI {S : St} {k : Nat} {v : Int32} (h : stpSl k) : FS S (sI S 0 k v) := ⟨fun j hj => gI_ne (fun q => hj (q.2 ▸ h)), rfl, rfl, rfl, fun _ _ => ⟨fun _ => rfl, fun _ => rfl⟩⟩
theorem FS_sF {S : St} {a i : Nat} {v : Int32} (h : stpAr a) : FS S (sF S a i v) := ⟨fun _ _ => rfl, rfl, rfl, rfl, fun b hb => ⟨fun j => gF_ne (fun q => hb (q ▸ h)), fun _ => rfl⟩⟩
theorem FS_sG {S : St} {a i : Nat} {v : Int64} (h : stpAr a) : FS S (sG S a i v) := ⟨fun _ _ => rfl, rfl, rfl, rfl, fun b hb => ⟨fun _ => rfl, fun j => gG_ne (fun q => hb (q ▸ h))⟩⟩
theorem FS.fe {S S' : St} (h : FE S S') : FS S S' := ⟨fun k hk => h.1 k (fun q => hk (by unfold stpSl; omega)), h.2.1, h.2.2.1, h.2.2.2.1, fun a ha => ⟨fun i => h.2.2.2.2.1 a (fun q => ha (by unfold stpAr; omega)) (fun q => ha (by unfold stpAr; omega)) i, fun i => by unfold gG; rw [h.2.2.2.2.2]⟩⟩
theorem FS.md {S S' : St} (h : FMd S S') : FS S S' := ⟨fun k hk => h.1 k (fun q => hk (by unfold stpSl; omega)) (fun q => hk (by unfold stpSl; omega)), h.2.1, h.2.2.1, h.2.2.2.1, fun a ha => ⟨fun i => h.2.2.2.2.1 a (fun q => ha (by unfold stpAr; omega)) (fun q => ha (by unfold stpAr; omega)) (fun q => ha (by unfold stpAr; omega)) i, fun i => by unfold gG; rw [h.2.2.2.2.2]⟩⟩
theorem LM.fs {S S' : St} (w : LM S) (h : FS S S') : LM S' := w.of h.2.2.2.1
theorem CurM.fs {S S' : St} {a : Nat} {ws : List Wd} (w : CurM S a ws) (h : FS S S') : CurM S' a ws :=
  ⟨w.1, fun j x hx => ⟨((h.2.2.2.2 8 (by unfold stpAr; omega)).1 _).trans (w.2 j x hx).1, ((h.2.2.2.2 10 (by unfold stpAr; omega)).2 _).trans (w.2 j x hx).2⟩⟩
/-- a builder on both sides -/
def BRb (S S2 : St) (b : Nat) : Prop := ∃ lb ov, Rw S (24 + b) lb ov ∧ ((gF S 77 b = -1 ∧ gF S2 28 b = -1) ∨ ∃ r, r ≤ 1000 ∧ gF S 77 b = nI r ∧ gF S2 29 b = nI r ∧ gF S2 28 b = nI lb.length ∧ lb.length ≤ 400 ∧ usL lb ∧ ∀ i, i < lb.length → gF S2 30 (400 * b + i) = lb.getD i 0)
def BR (S S2 : St) : Prop := ∀ b, b < 6 → BRb S S2 b
def MR (S S2 : St) : Prop := ∃ m, m ≤ 30 ∧ gI S 4 7 = nI m ∧ gI S2 0 51 = nI m ∧ ∀ i, i < m → gG S 78 i = gG S2 33 i
/-- the texts of both sides -/
def TR (S S2 : St) (φ : Nat → Option Nat) (cs ts : List (List Int32)) (u : Nat) : Prop := TXc S cs ∧ TXs S2 ts u ∧ (∀ p q, φ p = some q → ∃ l, cs[p]? = some l ∧ ts[q]? = some l ∧ l.length ≤ 400 ∧ usL l) ∧ (∀ p p' q, φ p = some q → φ p' = some q → p = p') ∧ φ 0 = some 0 ∧ cs[0]? = some []
def PR (S S2 : St) (φ : Nat → Option Nat) (ps qs : List Nat) : Prop := Rw S 22 (ps.map nI) 0 ∧ gI S2 0 50 = nI qs.length ∧ qs.length ≤ 24 ∧ (∀ i, i < qs.length → gF S2 27 i = nI (qs.getD i 0)) ∧ ps.map φ = qs.map some
def LR (S S2 : St) (φ : Nat → Option Nat) (U : Nat → Prop) : Prop := ∃ ls, Rw S 21 ls 0 ∧ ∀ n, U n → n < 24 ∧ tRel φ (atR ls (nI n)) (gF S2 16 n) ∧ atR ls (nI n) ≠ -1
/-- what has been made so far, k STEPS being done -/
def Bd (k : Nat) (cs ts : List (List Int32)) (u : Nat) (pl : List Nat) : Prop := cs.length ≤ 25 + 24 * k ∧ cs.flatten.length ≤ 3000 + 400 * k ∧ ts.length ≤ 25 + 24 * k ∧ u ≤ 3000 + 400 * k ∧ pl.length ≤ 25 + k
/-- the Rows that STEPS use -/
def XR (S : St) : Prop := (∃ l ov, Rw S 23 l ov) ∧ (∃ l ov, Rw S 30 l ov) ∧ ∃ l ov, Rw S 31 l ov
def RS (U : Nat → Prop) (S S2 : St) (φ : Nat → Option Nat) (cs ts : List (List Int32)) (u : Nat) (pl pm ps qs : List Nat) : Prop :=
  gOK S ∧ LC S ∧ LM S2 ∧ TR S S2 φ cs ts u ∧ PoC S pl ∧ PoM S2 pm ∧ pl.map φ = pm.map some ∧ VR φ S S2 ∧ WR S S2 ∧ BR S S2 ∧ PR S S2 φ ps qs ∧ MR S S2 ∧ LR S S2 φ U ∧ XR S
def RSx (U : Nat → Prop) (k : Nat) (S S2 : St) : Prop := ∃ φ cs ts u pl pm ps qs, RS U S S2 φ cs ts u pl pm ps qs ∧ Bd k cs ts u pl
