/-! the reference: what it emits, its texts -/
def LM (S : St) : Prop := S.2.2.2.1 = SM0.2.2.2.1
theorem LMn {S : St} (h : LM S) (a : Nat) : gN S a = gN SM0 a := by unfold gN; rw [h]
theorem LM.of {S S' : St} (h : LM S) (e : S'.2.2.2.1 = S.2.2.2.1) : LM S' := e.trans h
/-- nothing has changed but what is emitted (out, outSize, digits) -/
def FE (S S' : St) : Prop := (∀ k, k ≠ 57 → gI S' 0 k = gI S 0 k) ∧ S'.2.1 = S.2.1 ∧ S'.2.2.1 = S.2.2.1 ∧ S'.2.2.2.1 = S.2.2.2.1 ∧ (∀ a, a ≠ 34 → a ≠ 37 → ∀ i, gF S' a i = gF S a i) ∧ S'.2.2.2.2.2 = S.2.2.2.2.2
theorem FE.rf {S : St} : FE S S := ⟨fun _ _ => rfl, rfl, rfl, rfl, fun _ _ _ _ => rfl, rfl⟩
theorem FE.tr {S S1 S2 : St} (h1 : FE S S1) (h2 : FE S1 S2) : FE S S2 := ⟨fun k hk => (h2.1 k hk).trans (h1.1 k hk), h2.2.1.trans h1.2.1, h2.2.2.1.trans h1.2.2.1, h2.2.2.2.1.trans h1.2.2.2.1, fun a h3 h4 i => (h2.2.2.2.2.1 a h3 h4 i).trans (h1.2.2.2.2.1 a h3 h4 i), h2.2.2.2.2.2.trans h1.2.2.2.2.2⟩
theorem LM.fe {S S' : St} (h : LM S) (e : FE S S') : LM S' := h.of e.2.2.2.1
def Out (S : St) (v : List Int32) : Prop := gI S 0 57 = nI v.length ∧ ∀ i, i < v.length → i < 600 → gF S 34 i = v.getD i 0
theorem O_add {g : Nat} {S : St} {v : List Int32} {u : Int32} (w : Out S v) (hm : LM S) (hv : v.length + 1 < 2 ^ 31) : ∃ S', m_emit g S u = some S' ∧ FE S S' ∧ Out S' (v ++ [u]) := by
  have h34 : gN S 34 = 600 := LMn hm 34
  unfold m_emit
  rw [w.1]
  have hl : (v ++ [u]).length = v.length + 1 := by rw [List.length_append, List.length_singleton]
  by_cases h : 600 ≤ v.length
  · rw [if_pos (show (600 : Int32) ≤ nI v.length from nI_le (a := 600) h (by omega))]
    refine ⟨_, rfl, ⟨fun k hk => by simp [gI, sI, hk], rfl, rfl, rfl, fun a _ _ i => rfl, rfl⟩, ?_, fun i hi h6 => ?_⟩
    · rw [hl, ← nI_1]
      simp [gI, sI]
    · have := w.2 i (by omega) h6
      show gF S 34 i = _
      rw [this]
      simp [List.getElem?_append_left (show i < v.length by omega)]
  · rw [if_neg (show ¬ (600 : Int32) ≤ nI v.length from nI_ge (b := 600) (by omega) (by omega)), tI_at (by omega) (by omega)]
    refine ⟨_, rfl, ⟨fun k hk => by simp [gI, sI, sF, hk], rfl, rfl, rfl, fun a h1 _ i => by simp [gF, sI, sF, h1], rfl⟩, ?_, fun i hi h6 => ?_⟩
    · rw [hl, ← nI_1, ← w.1]
      simp [gI, sI, sF]
    · by_cases e : i = v.length
      · subst e
        simp [gF, sI, sF]
      · have hlt : i < v.length := by omega
        have := w.2 i hlt h6
        simp only [gF, sF, sI] at this ⊢
        rw [if_neg (by omega), this]
        simp [List.getElem?_append_left hlt]
/-- the texts of the reference: ts by number, u units in all -/
def TXs (S : St) (ts : List (List Int32)) (u : Nat) : Prop := gI S 0 38 = nI ts.length ∧ ts.length ≤ 1700 ∧ u ≤ 34000 ∧ gI S 0 39 = nI u ∧ ∀ t l, ts[t]? = some l → ∃ f, gF S 23 t = nI f ∧ gF S 24 t = nI l.length ∧ f + l.length ≤ u ∧ ∀ i, i < l.length → gF S 22 (f + i) = l.getD i 0
theorem TXs.fe {S S' : St} {ts : List (List Int32)} {u : Nat} (w : TXs S ts u) (e : FE S S') : TXs S' ts u := by
  obtain ⟨h1, -, -, -, h5, -⟩ := e
  obtain ⟨a, b, c, d, f⟩ := w
  refine ⟨by rw [h1 38 (by decide)]; exact a, b, c, by rw [h1 39 (by decide)]; exact d, fun t l ht => ?_⟩
  obtain ⟨q, q1, q2, q3, q4⟩ := f t l ht
  exact ⟨q, by rw [h5 23 (by decide) (by decide)]; exact q1, by rw [h5 24 (by decide) (by decide)]; exact q2, q3, fun i hi => by rw [h5 22 (by decide) (by decide)]; exact q4 i hi⟩
theorem T_unit {g t k : Nat} {S : St} {ts : List (List Int32)} {u : Nat} {l : List Int32} (w : TXs S ts u) (hm : LM S) (ht : ts[t]? = some l) (hk : k < l.length) : m_unitAt g S (nI t) (nI k) = some (l.getD k 0) := by
  obtain ⟨a, b, c, d, f⟩ := w
  obtain ⟨q, q1, q2, q3, q4⟩ := f t l ht
  have hl := (List.getElem?_eq_some_iff.mp ht).1
  have h22 : gN S 22 = 34000 := LMn hm 22
  have h23 : gN S 23 = 1700 := LMn hm 23
  unfold m_unitAt
  rw [aI_at (by omega) (by omega), q1, Option.bind_some, nI_add, aI_at (by omega) (by omega), q4 k hk]
  rfl
theorem T_size {t : Nat} {S : St} {ts : List (List Int32)} {u : Nat} {l : List Int32} (w : TXs S ts u) (hm : LM S) (ht : ts[t]? = some l) : aI S 24 (nI t) = some (nI l.length) ∧ l.length ≤ 34000 := by
  obtain ⟨a, b, c, d, f⟩ := w
  obtain ⟨q, q1, q2, q3, q4⟩ := f t l ht
  have hl := (List.getElem?_eq_some_iff.mp ht).1
  have h24 : gN S 24 = 1700 := LMn hm 24
  rw [aI_at (by omega) (by omega), q2]
  exact ⟨rfl, by omega⟩
theorem O_text_l {g t b : Nat} {ts : List (List Int32)} {u : Nat} {l : List Int32} (ht : ts[t]? = some l) (hb : b ≤ l.length) (hl : l.length ≤ 34000) : ∀ (k n i : Nat) (S : St) (v : List Int32), i + k = b → k < n → TXs S ts u → LM S → Out S v → v.length + k < 2 ^ 31 → ∃ S', m_emitText_3 g n S (nI t) (nI b) (nI i) = some S' ∧ FE S S' ∧ Out S' (v ++ seg l i k) := by
  intro k
  induction k with
  | zero =>
    intro n i S v hi hn hT hm w hv
    obtain ⟨n, rfl⟩ : ∃ m, n = m + 1 := ⟨n - 1, by omega⟩
    refine ⟨S, ?_, FE.rf, by simpa [seg] using w⟩
    show b_emitText_3 g (m_emitText_3 g n) S (nI t) (nI b) (nI i) = _
    unfold b_emitText_3
    rw [if_pos (nI_le (by omega) (by omega))]
  | succ k ih =>
    intro n i S v hi hn hT hm w hv
    obtain ⟨n, rfl⟩ : ∃ m, n = m + 1 := ⟨n - 1, by omega⟩
    obtain ⟨S1, a1, b1, c1⟩ := O_add (g := g) (u := l.getD i 0) w hm (by omega)
    obtain ⟨S2, a2, b2, c2⟩ := ih n (i + 1) S1 _ (by omega) (by omega) (hT.fe b1) (hm.fe b1) c1 (by rw [List.length_append, List.length_singleton]; omega)
    refine ⟨S2, ?_, b1.tr b2, ?_⟩
    · show b_emitText_3 g (m_emitText_3 g n) S (nI t) (nI b) (nI i) = _
      unfold b_emitText_3
      rw [if_neg (nI_ge (by omega) (by omega)), T_unit hT hm ht (by omega), Option.bind_some, a1, Option.bind_some, lt_d, show nI i + 1 = nI (i + 1) from nI_1 i]
      exact a2
    · rw [List.append_assoc] at c2
      have e : seg l i (k + 1) = [l.getD i 0] ++ seg l (i + 1) k := by
        unfold seg
        rw [List.drop_eq_getElem_cons (show i < l.length by omega), List.take_succ_cons]
        simp [show i < l.length by omega]
      rw [e]
      exact c2
theorem O_text {g t a b : Nat} {S : St} {ts : List (List Int32)} {u : Nat} {l v : List Int32} (hg : 100000 ≤ g) (hT : TXs S ts u) (hm : LM S) (ht : ts[t]? = some l) (hab : a ≤ b) (hb : b ≤ l.length) (w : Out S v) (hv : v.length + (b - a) < 2 ^ 31) : ∃ S', m_emitText g S (nI t) (nI a) (nI b) = some S' ∧ FE S S' ∧ Out S' (v ++ seg l a (b - a)) := by
  have hl := (T_size hT hm ht).2
  exact O_text_l (g := g) ht hb hl (b - a) g a S v (by omega) (by omega) hT hm w hv
theorem O_made_l {g t : Nat} {v : List Int32} {u : Nat} (hv : v.length ≤ 600) (hu : u + v.length ≤ 34000) : ∀ (k n i : Nat) (S : St), i + k = v.length → k < n → LM S → Out S v → gI S 0 39 = nI u → ∃ S', m_made_37 g n S (nI t) (nI i) = some (sI S' 0 39 (nI (u + v.length)), nI t) ∧ (∀ o k, gI S' o k = gI S o k) ∧ S'.2.1 = S.2.1 ∧ S'.2.2.1 = S.2.2.1 ∧ S'.2.2.2.1 = S.2.2.2.1 ∧ (∀ a i, a ≠ 22 → gF S' a i = gF S a i) ∧ S'.2.2.2.2.2 = S.2.2.2.2.2 ∧ ∀ j, gF S' 22 j = if u + i ≤ j ∧ j < u + v.length then v.getD (j - u) 0 else gF S 22 j := by
  intro k
  induction k with
  | zero =>
    intro n i S hi hn hm w h39
    obtain ⟨n, rfl⟩ : ∃ m, n = m + 1 := ⟨n - 1, by omega⟩
    refine ⟨S, ?_, fun _ _ => rfl, rfl, rfl, rfl, fun _ _ _ => rfl, rfl, fun j => ?_⟩
    · show b_made_37 g (m_made_37 g n) S (nI t) (nI i) = _
      unfold b_made_37
      rw [w.1, if_pos (nI_le (by omega) (by omega)), h39, nI_add]
      rfl
    · rw [if_neg (by omega)]
  | succ k ih =>
    intro n i S hi hn hm w h39
    obtain ⟨n, rfl⟩ : ∃ m, n = m + 1 := ⟨n - 1, by omega⟩
    have h22 : gN S 22 = 34000 := LMn hm 22
    have h34 : gN S 34 = 600 := LMn hm 34
    have hx : gF S 34 i = v.getD i 0 := w.2 i (by omega) (by omega)
    obtain ⟨S', a, b, c, d, e, f, f2, f3⟩ := ih n (i + 1) (sF S 22 (u + i) (v.getD i 0)) (by omega) (by omega) (hm.of rfl) ⟨w.1, fun j h1 h2 => w.2 j h1 h2⟩ h39
    refine ⟨S', ?_, fun o k => b o k, c, d, e, fun q j hq => (f q j hq).trans (by simp [gF, sF, hq]), f2, fun j => ?_⟩
    · show b_made_37 g (m_made_37 g n) S (nI t) (nI i) = _
      unfold b_made_37
      rw [w.1, if_neg (nI_ge (by omega) (by omega)), aI_at (by omega) (by omega), hx, Option.bind_some, h39, nI_add, tI_at (by omega) (by omega), Option.bind_some, lt_d, show nI i + 1 = nI (i + 1) from nI_1 i]
      exact a
    · rw [f3 j]
      by_cases h1 : u + (i + 1) ≤ j ∧ j < u + v.length
      · rw [if_pos h1, if_pos (by omega)]
      · rw [if_neg h1]
        by_cases h2 : j = u + i
        · rw [if_pos (by omega), h2]
          simp [gF, sF]
        · rw [if_neg (by omega)]
          simp [gF, sF, h2]
/-- the fields and arrays that made() changes: texts, used, units, textFrom, textSize -/
def FMd (S S' : St) : Prop := (∀ k, k ≠ 38 → k ≠ 39 → gI S' 0 k = gI S 0 k) ∧ S'.2.1 = S.2.1 ∧ S'.2.2.1 = S.2.2.1 ∧ S'.2.2.2.1 = S.2.2.2.1 ∧ (∀ a, a ≠ 22 → a ≠ 23 → a ≠ 24 → ∀ i, gF S' a i = gF S a i) ∧ S'.2.2.2.2.2 = S.2.2.2.2.2
theorem O_made {g : Nat} {S : St} {ts : List (List Int32)} {u : Nat} {v : List Int32} (hg : 100000 ≤ g) (hT : TXs S ts u) (hm : LM S) (w : Out S v) (hv : v.length ≤ 600) (hu : u + v.length ≤ 34000) (ht : ts.length < 1700) : ∃ S', m_made g S = some (S', nI ts.length) ∧ FMd S S' ∧ TXs S' (ts ++ [v]) (u + v.length) := by
  obtain ⟨a, b, c, d, f⟩ := hT
  have h23 : gN S 23 = 1700 := LMn hm 23
  have h24 : gN S 24 = 1700 := LMn hm 24
  unfold m_made
  rw [lt_d, lt_d, a]
  have e1 : gI (sI S 0 38 (nI ts.length + 1)) 0 39 = nI u := by rw [← d]; simp [gI, sI]
  rw [e1, tI_at (S := sI S 0 38 (nI ts.length + 1)) (show ts.length < gN S 23 by omega) (show gN S 23 < 2 ^ 31 by omega), Option.bind_some]
  have e2 : gI (sF (sI S 0 38 (nI ts.length + 1)) 23 ts.length (nI u)) 0 57 = nI v.length := by rw [← w.1]; simp [gI, sI, sF]
  rw [e2, tI_at (S := sF (sI S 0 38 (nI ts.length + 1)) 23 ts.length (nI u)) (show ts.length < gN S 24 by omega) (show gN S 24 < 2 ^ 31 by omega), Option.bind_some]
  obtain ⟨S', p0, p1, p2, p3, p4, p5, p6, p7⟩ := O_made_l (g := g) (t := ts.length) hv hu v.length g 0 (sF (sF (sI S 0 38 (nI ts.length + 1)) 23 ts.length (nI u)) 24 ts.length (nI v.length)) (by omega) (by omega) (hm.of rfl) ⟨e2, fun i h1 h2 => by rw [← w.2 i h1 h2]; simp [gF, sF, sI]⟩ e1
  refine ⟨_, p0, ⟨fun k h1 h2 => ?_, p2, p3, p4, fun q h1 h2 h3 i => ?_, p6⟩, ?_, by rw [List.length_append, List.length_singleton]; omega, hu, by simp [gI, sI], fun t l hl => ?_⟩
  · have : gI (sI S' 0 39 (nI (u + v.length))) 0 k = gI S' 0 k := by simp [gI, sI, h2]
    rw [this, p1]
    simp [gI, sF, sI, h1]
  · have : gF (sI S' 0 39 (nI (u + v.length))) q i = gF S' q i := rfl
    rw [this, p5 q i h1]
    simp [gF, sF, sI, h2, h3]
  · have : gI (sI S' 0 39 (nI (u + v.length))) 0 38 = gI S' 0 38 := by simp [gI, sI]
    rw [this, p1, List.length_append, List.length_singleton, ← nI_1]
    simp [gI, sF, sI]
  · by_cases htl : t < ts.length
    · rw [List.getElem?_append_left htl] at hl
      obtain ⟨q, q1, q2, q3, q4⟩ := f t l hl
      have n1 : ¬ t = ts.length := by omega
      refine ⟨q, ?_, ?_, by omega, fun i hi => ?_⟩
      · show gF S' 23 t = _
        rw [p5 23 t (by decide), ← q1]
        simp [gF, sF, sI, n1]
      · show gF S' 24 t = _
        rw [p5 24 t (by decide), ← q2]
        simp [gF, sF, sI, n1]
      · show gF S' 22 (q + i) = _
        rw [p7, if_neg (by omega), ← q4 i hi]
        simp [gF, sF, sI]
    · have hl2 := (List.getElem?_eq_some_iff.mp hl).1
      rw [List.length_append, List.length_singleton] at hl2
      have : t = ts.length := by omega
      subst this
      rw [List.getElem?_append_right (Nat.le_refl _), Nat.sub_self] at hl
      have : v = l := Option.some.inj hl
      subst this
      refine ⟨u, ?_, ?_, Nat.le_refl _, fun i hi => ?_⟩
      · show gF S' 23 ts.length = _
        rw [p5 23 ts.length (by decide)]
        simp [gF, sF, sI]
      · show gF S' 24 ts.length = _
        rw [p5 24 ts.length (by decide)]
        simp [gF, sF, sI]
      · show gF S' 22 (u + i) = _
        rw [p7, if_pos (by omega), show u + i - u = i by omega]
