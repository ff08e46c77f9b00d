/-! Rows as lists: search, compare, pairs -/
theorem R_placeOf_l {g o : Nat} {S : St} {l : List Int32} {ov v : Int32} (w : Rw S o l ov) : ∀ (k n i : Nat), i + k = l.length → k < n → m_Row_placeOf_2 g S n o v (nI i) = some (if v ∈ l.drop i then nI (i + (l.drop i).idxOf v) else -1) := by
  obtain ⟨w0, w1, w2, w3, w4, w5, w6, w7, w8⟩ := w
  have hb := lim_b o w0.2 w0.1
  intro k
  induction k with
  | zero =>
    intro n i hi hn
    obtain ⟨n, rfl⟩ : ∃ m, n = m + 1 := ⟨n - 1, by omega⟩
    show b_Row_placeOf_2 g S (m_Row_placeOf_2 g S n) o v (nI i) = _
    unfold b_Row_placeOf_2
    rw [w2, if_pos (nI_le (by omega) (by omega)), List.drop_of_length_le (by omega)]
    simp
  | succ k ih =>
    intro n i hi hn
    obtain ⟨n, rfl⟩ : ∃ m, n = m + 1 := ⟨n - 1, by omega⟩
    show b_Row_placeOf_2 g S (m_Row_placeOf_2 g S n) o v (nI i) = _
    unfold b_Row_placeOf_2
    have hlt : i < l.length := by omega
    have hd : l.drop i = l.getD i 0 :: l.drop (i + 1) := by
      rw [List.drop_eq_getElem_cons hlt]
      simp [hlt]
    rw [w2, if_neg (nI_ge hlt (by omega)), aI_at (by omega) (by omega), w8 i hlt, hd]
    show (if l.getD i 0 = v then _ else _) = _
    by_cases he : l.getD i 0 = v
    · rw [if_pos he, if_pos (by rw [he]; exact List.mem_cons_self), he]
      simp
    · rw [if_neg he, lt_d, nI_1, ih n (i + 1) (by omega) (by omega)]
      have he2 : ¬ v = l.getD i 0 := fun q => he q.symm
      by_cases hm : v ∈ l.drop (i + 1)
      · rw [if_pos hm, if_pos (List.mem_cons_of_mem _ hm), List.idxOf_cons]
        have : (l.getD i 0 == v) = false := by simpa using he
        rw [this]
        simp only [cond_false]
        congr 2
        omega
      · rw [if_neg hm, if_neg (fun q => (List.mem_cons.mp q).elim he2 hm)]
theorem R_placeOf {g o : Nat} {S : St} {l : List Int32} {ov v : Int32} (w : Rw S o l ov) (hg : 100000 ≤ g) : m_Row_placeOf g S o v = some (if v ∈ l then nI (l.idxOf v) else -1) := by
  have hb := lim_b o w.1.2 w.1.1
  have hl := w.2.2.2.2.1
  have := R_placeOf_l (g := g) (v := v) w l.length g 0 (by omega) (by omega)
  rw [List.drop_zero, Nat.zero_add] at this
  exact this
theorem R_holds_l {g o x p s n : Nat} {S : St} {l l2 : List Int32} {ov ov2 : Int32} (w : Rw S o l ov) (w2 : Rw S x l2 ov2) (hp : p + n ≤ l.length) (hs : s + n ≤ l2.length) : ∀ (k f i : Nat), i + k = n → k < f → m_Row_holds_39 g S f o (nI p) x (nI s) (nI n) (nI i) = some (if seg l (p + i) k = seg l2 (s + i) k then 1 else 0) := by
  obtain ⟨u0, u1, u2, u3, u4, u5, u6, u7, u8⟩ := w
  obtain ⟨v0, v1, v2, v3, v4, v5, v6, v7, v8⟩ := w2
  have hb := lim_b o u0.2 u0.1
  have hb2 := lim_b x v0.2 v0.1
  intro k
  induction k with
  | zero =>
    intro f i hi hf
    obtain ⟨f, rfl⟩ : ∃ m, f = m + 1 := ⟨f - 1, by omega⟩
    show b_Row_holds_39 g S (m_Row_holds_39 g S f) o (nI p) x (nI s) (nI n) (nI i) = _
    unfold b_Row_holds_39
    rw [if_pos (nI_le (by omega) (by omega))]
    simp [seg]
  | succ k ih =>
    intro f i hi hf
    obtain ⟨f, rfl⟩ : ∃ m, f = m + 1 := ⟨f - 1, by omega⟩
    show b_Row_holds_39 g S (m_Row_holds_39 g S f) o (nI p) x (nI s) (nI n) (nI i) = _
    unfold b_Row_holds_39
    have sc : ∀ (q : List Int32) (a : Nat), a < q.length → seg q a (k + 1) = q.getD a 0 :: seg q (a + 1) k := by
      intro q a ha
      unfold seg
      rw [List.drop_eq_getElem_cons ha, List.take_succ_cons]
      simp [ha]
    rw [if_neg (nI_ge (by omega) (by omega)), nI_add, nI_add, aI_at (by omega) (by omega), u8 _ (by omega)]
    show ((aI S (x + 24) (nI (s + i))).bind _) = _
    rw [aI_at (by omega) (by omega), v8 _ (by omega), sc l (p + i) (by omega), sc l2 (s + i) (by omega)]
    show (if l.getD (p + i) 0 = l2.getD (s + i) 0 then _ else _) = _
    by_cases he : l.getD (p + i) 0 = l2.getD (s + i) 0
    · rw [if_pos he, lt_d, nI_1, ih f (i + 1) (by omega) (by omega), he]
      have : (l2.getD (s + i) 0 :: seg l (p + i + 1) k = l2.getD (s + i) 0 :: seg l2 (s + i + 1) k) ↔ (seg l (p + (i + 1)) k = seg l2 (s + (i + 1)) k) := by
        rw [List.cons.injEq, Nat.add_assoc, Nat.add_assoc]
        simp
      by_cases hq : seg l (p + (i + 1)) k = seg l2 (s + (i + 1)) k
      · rw [if_pos hq, if_pos (this.mpr hq)]
      · rw [if_neg hq, if_neg (fun z => hq (this.mp z))]
    · rw [if_neg he, if_neg (fun z => he (List.cons.inj z).1)]
theorem R_holds {g o x p s n : Nat} {S : St} {l l2 : List Int32} {ov ov2 : Int32} (w : Rw S o l ov) (w2 : Rw S x l2 ov2) (hg : 100000 ≤ g) (hp : p ≤ l.length) (hs : s + n ≤ l2.length) : m_Row_holds g S o (nI p) x (nI s) (nI (s + n)) = some (if p + n ≤ l.length ∧ seg l p n = seg l2 s n then 1 else 0) := by
  have wo := w
  have wx := w2
  obtain ⟨u0, u1, u2, u3, u4, u5, u6, u7, u8⟩ := w
  obtain ⟨v0, v1, v2, v3, v4, v5, v6, v7, v8⟩ := w2
  have hb := lim_b o u0.2 u0.1
  have hb2 := lim_b x v0.2 v0.1
  unfold m_Row_holds
  rw [nI_sub (by omega), show s + n - s = n by omega, lt_d, if_neg (nI_pos (by omega)), u2, nI_sub hp]
  by_cases h : p + n ≤ l.length
  · rw [if_neg (nI_nlt (by omega) (by omega)), if_neg (nI_pos (by omega)), v2, if_pos (nI_le (by omega) (by omega))]
    have := R_holds_l (g := g) wo wx h hs n g 0 (by omega) (by omega)
    rw [Nat.add_zero, Nat.add_zero] at this
    refine this.trans ?_
    by_cases hq : seg l p n = seg l2 s n
    · rw [if_pos hq, if_pos ⟨h, hq⟩]
    · rw [if_neg hq, if_neg (fun z => hq z.2)]
  · rw [if_pos (nI_lt (by omega) (by omega)), if_neg (fun z => h z.1)]
/-- the ORDER of two rows of units -/
def ordL : List Int32 → List Int32 → Int32
  | a :: l, b :: m => if a - b = 0 then ordL l m else a - b
  | l, m => nI l.length - nI m.length
theorem R_order_l {g o x s t n m : Nat} {S : St} {l l2 : List Int32} {ov ov2 : Int32} (w : Rw S o l ov) (w2 : Rw S x l2 ov2) (hs : s + n ≤ l.length) (ht : t + m ≤ l2.length) : ∀ (k f i : Nat), i + k = min n m → k < f → m_Row_orderTo_16 g S f o (nI s) (nI (s + n)) x (nI t) (nI (t + m)) (nI (min n m)) (nI i) = some (ordL (seg l (s + i) (n - i)) (seg l2 (t + i) (m - i))) := by
  have wo := w
  have wx := w2
  obtain ⟨u0, u1, u2, u3, u4, u5, u6, u7, u8⟩ := w
  obtain ⟨v0, v1, v2, v3, v4, v5, v6, v7, v8⟩ := w2
  have hb := lim_b o u0.2 u0.1
  have hb2 := lim_b x v0.2 v0.1
  intro k
  induction k with
  | zero =>
    intro f i hi hf
    obtain ⟨f, rfl⟩ : ∃ z, f = z + 1 := ⟨f - 1, by omega⟩
    show b_Row_orderTo_16 g S (m_Row_orderTo_16 g S f) o (nI s) (nI (s + n)) x (nI t) (nI (t + m)) (nI (min n m)) (nI i) = _
    unfold b_Row_orderTo_16
    rw [if_pos (nI_le (by omega) (by omega)), nI_sub (by omega), nI_sub (by omega), show s + n - s = n by omega, show t + m - t = m by omega]
    have e1 : (seg l (s + i) (n - i)).length = n - i := seg_len (by omega)
    have e2 : (seg l2 (t + i) (m - i)).length = m - i := seg_len (by omega)
    have key : ∀ (a b : List Int32), (a = [] ∨ b = []) → ordL a b = nI a.length - nI b.length := by
      intro a b h
      rcases h with rfl | rfl
      · rfl
      · cases a <;> rfl
    rw [key]
    · rw [e1, e2]
      congr 1
      have e3 : nI n = nI (n - i) + nI i := by rw [nI_add]; congr 1; omega
      have e4 : nI m = nI (m - i) + nI i := by rw [nI_add]; congr 1; omega
      rw [e3, e4]
      generalize nI (n - i) = a
      generalize nI (m - i) = b
      generalize nI i = c
      grind
    · rcases Nat.le_total n m with h | h
      · left
        apply List.eq_nil_of_length_eq_zero
        omega
      · right
        apply List.eq_nil_of_length_eq_zero
        omega
  | succ k ih =>
    intro f i hi hf
    obtain ⟨f, rfl⟩ : ∃ z, f = z + 1 := ⟨f - 1, by omega⟩
    show b_Row_orderTo_16 g S (m_Row_orderTo_16 g S f) o (nI s) (nI (s + n)) x (nI t) (nI (t + m)) (nI (min n m)) (nI i) = _
    unfold b_Row_orderTo_16
    have sc : ∀ (q : List Int32) (a j : Nat), a < q.length → seg q a (j + 1) = q.getD a 0 :: seg q (a + 1) j := by
      intro q a j ha
      unfold seg
      rw [List.drop_eq_getElem_cons ha, List.take_succ_cons]
      simp [ha]
    rw [if_neg (nI_ge (by omega) (by omega)), nI_add, nI_add, R_at wo, R_at wx, atR_nI (by omega), atR_nI (by omega)]
    rw [show n - i = (n - (i + 1)) + 1 by omega, show m - i = (m - (i + 1)) + 1 by omega, sc l _ _ (by omega), sc l2 _ _ (by omega)]
    rw [getD_lt (d' := 0) (show s + i < l.length by omega), getD_lt (d' := 0) (show t + i < l2.length by omega)]
    show (if l.getD (s + i) 0 - l2.getD (t + i) 0 = 0 then _ else _) = _
    unfold ordL
    by_cases he : l.getD (s + i) 0 - l2.getD (t + i) 0 = 0
    · rw [if_pos he, if_pos he, lt_d, nI_1, ih f (i + 1) (by omega) (by omega)]
      rw [Nat.add_assoc, Nat.add_assoc]
    · rw [if_neg he, if_neg he]
theorem R_order {g o x s t n m : Nat} {S : St} {l l2 : List Int32} {ov ov2 : Int32} (w : Rw S o l ov) (w2 : Rw S x l2 ov2) (hg : 100000 ≤ g) (hs : s + n ≤ l.length) (ht : t + m ≤ l2.length) : m_Row_orderTo g S o (nI s) (nI (s + n)) x (nI t) (nI (t + m)) = some (ordL (seg l s n) (seg l2 t m)) := by
  have hb := lim_b o w.1.2 w.1.1
  have hb2 := lim_b x w2.1.2 w2.1.1
  have hl := w.2.2.2.2.1
  have hl2 := w2.2.2.2.2.1
  unfold m_Row_orderTo
  rw [nI_sub (by omega), nI_sub (by omega), show s + n - s = n by omega, show t + m - t = m by omega, minI_nI (by omega) (by omega), lt_d]
  have := R_order_l (g := g) w w2 hs ht (min n m) g 0 (by omega) (by omega)
  exact this
