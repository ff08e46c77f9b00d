/-! A ROW GROWS: Arrays.copyOf, and the new array put into cells. The array's code stays (24 behind the Row's), its address moves. -/
def gOK (S : St) : Prop := gR S 0 4 < 3 ∧ gR S 0 5 < 3 ∧ gR S 3 2 < 3 ∧ gR S 4 9 < 3
def sM (S : St) (a n : Nat) (f : Nat → Int32) : St := (S.1, S.2.1, S.2.2.1, fun x => if x = a then n else S.2.2.2.1 x, fun x y => if x = a then f y else S.2.2.2.2.1 x y, S.2.2.2.2.2)
def mv (ρ : Nat → Nat) (a q : Nat) : Nat → Nat := fun c => if c = a then q else ρ c
theorem row_rng : ∀ o, o < 81 → ctC.getD o 0 = 4 → 10 ≤ o ∧ o < 34 := by decide
theorem cr_own : ∀ k, k < 81 → ∀ e ∈ crC.getD k [], 34 ≤ e → e < 58 → e = k + 24 := by decide
theorem lay_3 : ∀ k, k < 81 → ∀ j, j < 16 → ((layC.getD (ctC.getD k 0) []).getD j 0 = 0 ∨ (layC.getD (ctC.getD k 0) []).getD j 0 = 1 ∨ (layC.getD (ctC.getD k 0) []).getD j 0 = 2 ∨ ((layC.getD (ctC.getD k 0) []).getD j 0 = 3 ∧ ((k = 0 ∧ j = 4) ∨ (k = 0 ∧ j = 5) ∨ (k = 3 ∧ j = 2) ∨ (k = 4 ∧ j = 9)))) := by decide +kernel
theorem lay_len : ∀ t, t < 103 → (layC.getD t []).length ≤ 16 := by decide
theorem ct_lt : ∀ k, k < 81 → ctC.getD k 0 < 103 := by decide
theorem cr_ne {k j a : Nat} (hk : k < 81) (ha : 34 ≤ a ∧ a < 58) (hne : k + 24 ≠ a) : Yc.2.2.2 k j ≠ a := by
  intro h
  have h' : (crC.getD k []).getD j 0 = a := h
  cases hj : (crC.getD k [])[j]? with
  | none =>
    rw [List.getD_eq_getElem?_getD, hj] at h'
    simp at h'
    omega
  | some e =>
    rw [List.getD_eq_getElem?_getD, hj] at h'
    simp at h'
    subst h'
    exact hne (cr_own k hk e (List.mem_of_getElem? hj) ha.1 ha.2).symm
theorem fl_ext {Y : Ly} {ρ ρ' : Nat → Nat} {S S' : St} {o : Nat} {l : List Nat} (h : ∀ j q, l[j]? = some q → fv Y ρ' S' o j q = fv Y ρ S o j q) : fl Y ρ' S' o l = fl Y ρ S o l := by
  apply List.ext_getElem?
  intro i
  cases hq : l[i]? with
  | none => simp [fl, hq]
  | some q => rw [fl_at hq, fl_at hq, h i q hq]
theorem fv_mv {ρ : Nat → Nat} {S : St} {a n q k j d : Nat} {f : Nat → Int32} (hk : k < 81) (ha : 34 ≤ a ∧ a < 58) (hne : k + 24 ≠ a) (hg : gOK S) (hd : (Yc.2.2.1 (Yc.2.1 k))[j]? = some d) : fv Yc (mv ρ a q) (sM S a n f) k j d = fv Yc ρ S k j d := by
  have hd' : (layC.getD (ctC.getD k 0) [])[j]? = some d := hd
  have hj : j < 16 := by
    have h1 := (List.getElem?_eq_some_iff.mp hd').1
    have h2 := lay_len _ (ct_lt k hk)
    omega
  have h3 := lay_3 k hk j hj
  have hdd : (layC.getD (ctC.getD k 0) []).getD j 0 = d := by rw [List.getD_eq_getElem?_getD, hd']; rfl
  rw [hdd] at h3
  have m1 : ∀ c, c ≠ a → mv ρ a q c = ρ c := fun c hc => by simp [mv, hc]
  rcases h3 with rfl | rfl | rfl | ⟨rfl, h4⟩
  · rfl
  · rfl
  · show Value.ref (mv ρ a q (Yc.2.2.2 k j)) = Value.ref (ρ (Yc.2.2.2 k j))
    rw [m1 _ (cr_ne hk ha hne)]
  · show Value.ref (mv ρ a q (gR S k j)) = Value.ref (ρ (gR S k j))
    rw [m1]
    obtain ⟨g1, g2, g3, g4⟩ := hg
    rcases h4 with ⟨rfl, rfl⟩ | ⟨rfl, rfl⟩ | ⟨rfl, rfl⟩ | ⟨rfl, rfl⟩ <;> omega
theorem cel_mv {T : Cy} {ρ : Nat → Nat} {S : St} {a n q k : Nat} {f : Nat → Int32} (hk : k < 81) (ha : 34 ≤ a ∧ a < 58) (hka : k ≠ a) (hne : k + 24 ≠ a) (hg : gOK S) : cel Yc T (mv ρ a q) (sM S a n f) k = cel Yc T ρ S k := by
  have h1 : gN (sM S a n f) k = gN S k := by simp [gN, sM, hka]
  have h2 : gF (sM S a n f) k = gF S k := by funext j; simp [gF, sM, hka]
  have h3 : gG (sM S a n f) k = gG S k := rfl
  have h4 : fl Yc (mv ρ a q) (sM S a n f) k (Yc.2.2.1 (Yc.2.1 k)) = fl Yc ρ S k (Yc.2.2.1 (Yc.2.1 k)) := fl_ext (fun j d hd => fv_mv hk ha hne hg hd)
  have h5 : (fun i => some (mv ρ a q (Yc.2.2.2 k i))) = (fun i => some (ρ (Yc.2.2.2 k i))) := by
    funext i
    have := cr_ne (j := i) hk ha hne
    simp [mv, this]
  unfold cel
  rw [h1, h2, h3, h4, h5]
theorem fl_row {ρ : Nat → Nat} {S : St} {o n q : Nat} {f : Nat → Int32} (ho : Ob Yc o 4) : (fl Yc ρ S o (Yc.2.2.1 4)).set 1 (.ref q) = fl Yc (mv ρ (o + 24) q) (sM S (o + 24) n f) o (Yc.2.2.1 4) := by
  have h1 : Yc.2.2.2 o 1 = o + 24 := crCells ho
  have h2 : fv Yc (mv ρ (o + 24) q) (sM S (o + 24) n f) o 1 2 = .ref q := by
    show Value.ref (mv ρ (o + 24) q (Yc.2.2.2 o 1)) = .ref q
    rw [h1]
    simp [mv]
  show ([fv Yc ρ S o 0 0, fv Yc ρ S o 1 2, fv Yc ρ S o 2 0, fv Yc ρ S o 3 0] : List Value).set 1 (.ref q) = [fv Yc (mv ρ (o + 24) q) (sM S (o + 24) n f) o 0 0, fv Yc (mv ρ (o + 24) q) (sM S (o + 24) n f) o 1 2, fv Yc (mv ρ (o + 24) q) (sM S (o + 24) n f) o 2 0, fv Yc (mv ρ (o + 24) q) (sM S (o + 24) n f) o 3 0]
  rw [h2]
  rfl
def gw (T : Cy) (ρ : Nat → Nat) (S : St) (o n q : Nat) (f : Nat → Int32) : va_W := (wl Yc T ρ S ++ ([(q, .inl (T.1, n, .inl f))] : va_W)).set o (ρ o, .inr (4, (fl Yc ρ S o (Yc.2.2.1 4)).set 1 (.ref q)))
theorem grow_at {T : Cy} {ρ : Nat → Nat} {S : St} {o n q : Nat} {f : Nat → Int32} (ho : Ob Yc o 4) (hg : gOK S) {k : Nat} {x : Nat × va_E} (hx : (wl Yc T (mv ρ (o + 24) q) (sM S (o + 24) n f))[k]? = some x) : k < 81 ∧ ∃ i, i ≤ 81 ∧ (k = o + 24 → i = 81) ∧ (k ≠ o + 24 → i = k) ∧ (gw T ρ S o n q f)[i]? = some x := by
  have hk : k < 81 := by
    have := (List.getElem?_eq_some_iff.mp hx).1
    simpa [wl, Yc] using this
  have hr := row_rng o ho.1 ho.2
  have ho81 : o < 81 := ho.1
  have hlen : (wl Yc T ρ S).length = 81 := by simp [wl, Yc]
  rw [wl_at (show k < Yc.1 from hk)] at hx
  have hx := Option.some.inj hx
  refine ⟨hk, ?_⟩
  unfold gw
  by_cases h1 : k = o + 24
  · refine ⟨81, Nat.le_refl _, fun _ => rfl, fun h => absurd h1 h, ?_⟩
    rw [List.getElem?_set_ne (by omega), List.getElem?_append_right (by omega), hlen]
    rw [← hx, h1, cel_i (obCells ho).2]
    have e1 : gN (sM S (o + 24) n f) (o + 24) = n := by simp [gN, sM]
    have e2 : gF (sM S (o + 24) n f) (o + 24) = f := by funext j; simp [gF, sM]
    rw [e1, e2]
    simp [mv]
  · refine ⟨k, by omega, fun h => absurd h h1, fun _ => rfl, ?_⟩
    by_cases h2 : k = o
    · subst h2
      rw [List.getElem?_set_self (by simp [hlen]; omega)]
      rw [← hx, cel_o ho.2 (by decide), fl_row (n := n) (f := f) ho]
      have : mv ρ (k + 24) q k = ρ k := by simp [mv]
      rw [this]
    · rw [List.getElem?_set_ne (fun h => h2 h.symm), List.getElem?_append_left (by omega), wl_at (show k < Yc.1 from hk), ← hx, cel_mv hk (by omega) h1 (by omega) hg]
      have : mv ρ (o + 24) q k = ρ k := by simp [mv, h1]
      rw [this]
theorem grow_P {T : Cy} {D : va_G} {ρ : Nat → Nat} {S : St} {o n q : Nat} {f : Nat → Int32} {H : Heap} (ho : Ob Yc o 4) (hg : gOK S) (hP : va_P D vwCl (gw T ρ S o n q f) H) : va_P D vwCl (wl Yc T (mv ρ (o + 24) q) (sM S (o + 24) n f)) H := by
  intro k x hx
  obtain ⟨-, i, -, -, -, hi⟩ := grow_at ho hg hx
  exact hP i x hi
theorem grow_D {T : Cy} {ρ : Nat → Nat} {S : St} {o n q : Nat} {f : Nat → Int32} {A : Nat → Prop} (ho : Ob Yc o 4) (hg : gOK S) (hD : va_D A (gw T ρ S o n q f)) : va_D A (wl Yc T (mv ρ (o + 24) q) (sM S (o + 24) n f)) := by
  refine ⟨fun k k2 x x2 hx hx2 he => ?_, fun k x hx => ?_⟩
  · obtain ⟨a1, i, a2, a3, a4, hi⟩ := grow_at ho hg hx
    obtain ⟨b1, i2, b2, b3, b4, hi2⟩ := grow_at ho hg hx2
    have := hD.1 i i2 x x2 hi hi2 he
    by_cases c1 : k = o + 24
    · by_cases c2 : k2 = o + 24
      · omega
      · have := a3 c1; have := b4 c2; omega
    · by_cases c2 : k2 = o + 24
      · have := a4 c1; have := b3 c2; omega
      · have := a4 c1; have := b4 c2; omega
  · obtain ⟨-, i, -, -, -, hi⟩ := grow_at ho hg hx
    exact hD.2 i x hi
