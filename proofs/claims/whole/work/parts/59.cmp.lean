/-! the reference: texts compared -/
theorem seg_cons {l : List Int32} {i k : Nat} (h : i < l.length) : seg l i (k + 1) = l.getD i 0 :: seg l (i + 1) k := by
  unfold seg
  rw [List.drop_eq_getElem_cons h, List.take_succ_cons]
  simp [h]
theorem seg_0 {l : List Int32} {i : Nat} : seg l i 0 = [] := by simp [seg]
/-- a number of a text, and its units -/
def Tx (S : St) (ts : List (List Int32)) (t : Nat) (l : List Int32) : Prop := ts[t]? = some l ∧ l.length ≤ 34000 ∧ aI S 24 (nI t) = some (nI l.length)
theorem TXs.tx {S : St} {ts : List (List Int32)} {u t : Nat} {l : List Int32} (w : TXs S ts u) (hm : LM S) (ht : ts[t]? = some l) : Tx S ts t l := ⟨ht, (T_size w hm ht).2, (T_size w hm ht).1⟩
theorem i_sub0 {a b : Int32} (h : a - b = 0) : a = b := by
  have := Int32.sub_add_cancel a b
  rw [h, Int32.zero_add] at this
  exact this.symm
section CMP
variable {g u : Nat} {S : St} {ts : List (List Int32)}
theorem M_equal_l {t1 t2 : Nat} {l1 l2 : List Int32} (w : TXs S ts u) (hm : LM S) (h1 : ts[t1]? = some l1) (h2 : ts[t2]? = some l2) (hl : l1.length = l2.length) : ∀ (k n i : Nat), i + k = l1.length → k + 1 < n → m_equal_24 g S n (nI t1) (nI t2) 1 (nI i) = some (c01 (seg l1 i k = seg l2 i k)) := by
  have q1 := w.tx hm h1
  intro k
  induction k with
  | zero =>
    intro n i hi hn
    obtain ⟨n, rfl⟩ : ∃ m, n = m + 1 := ⟨n - 1, by omega⟩
    have hb := q1.2.1
    show b_equal_24 g S (m_equal_24 g S n) (nI t1) (nI t2) 1 (nI i) = _
    unfold b_equal_24
    rw [if_neg (by decide), q1.2.2, Option.bind_some, if_pos (nI_le (by omega) (by omega)), if_pos (Or.inr rfl), seg_0, seg_0, c01_t rfl]
  | succ k ih =>
    intro n i hi hn
    obtain ⟨n, rfl⟩ : ∃ m, n = m + 1 := ⟨n - 1, by omega⟩
    have hb := q1.2.1
    show b_equal_24 g S (m_equal_24 g S n) (nI t1) (nI t2) 1 (nI i) = _
    unfold b_equal_24
    rw [if_neg (by decide), q1.2.2, Option.bind_some, if_neg (nI_ge (by omega) (by omega)), T_unit w hm h1 (by omega), Option.bind_some, T_unit w hm h2 (by omega), Option.bind_some, seg_cons (by omega), seg_cons (by omega)]
    by_cases he : l1.getD i 0 = l2.getD i 0
    · rw [if_pos he, lt_d, show nI i + 1 = nI (i + 1) from nI_1 i, ih n (i + 1) (by omega) (by omega)]
      rw [c01_iff]
      rw [he, List.cons.injEq]
      simp
    · rw [if_neg he, lt_d, c01_f (fun z => he (List.cons.inj z).1)]
      obtain ⟨n, rfl⟩ : ∃ m, n = m + 1 := ⟨n - 1, by omega⟩
      show b_equal_24 g S (m_equal_24 g S n) (nI t1) (nI t2) 0 (nI i + 1) = _
      unfold b_equal_24
      rw [if_pos rfl, if_pos (Or.inl rfl)]
theorem M_equal {t1 t2 : Nat} {l1 l2 : List Int32} (hg : 100000 ≤ g) (w : TXs S ts u) (hm : LM S) (h1 : ts[t1]? = some l1) (h2 : ts[t2]? = some l2) : m_equal g S (nI t1) (nI t2) = some (c01 (l1 = l2)) := by
  have q1 := w.tx hm h1
  have q2 := w.tx hm h2
  have hb1 := q1.2.1
  have hb2 := q2.2.1
  unfold m_equal
  rw [q1.2.2, q2.2.2, Option.bind_some, Option.bind_some]
  by_cases hl : l1.length = l2.length
  · rw [hl, if_pos rfl]
    have := M_equal_l (g := g) w hm h1 h2 hl l1.length g 0 (by omega) (by omega)
    rw [seg_all, show seg l2 0 l1.length = l2 by rw [hl]; exact seg_all] at this
    exact this
  · rw [if_neg (fun z => hl ((nI_eq (by omega) (by omega)).mp z)), c01_f (fun z => hl (by rw [z]))]
    obtain ⟨n, rfl⟩ : ∃ m, g = m + 1 := ⟨g - 1, by omega⟩
    show b_equal_24 (n + 1) S (m_equal_24 (n + 1) S n) (nI t1) (nI t2) 0 0 = _
    unfold b_equal_24
    rw [if_pos rfl, if_pos (Or.inl rfl)]
/-- all units ALIKE -/
def alkL : List Int32 → List Int32 → Prop
  | a :: l, b :: m => alkU a b = 1 ∧ alkL l m
  | [], [] => True
  | _, _ => False
def usL (l : List Int32) : Prop := ∀ i, i < l.length → isU (l.getD i 0)
theorem M_alike_l {t1 t2 : Nat} {l1 l2 : List Int32} (w : TXs S ts u) (hm : LM S) (h1 : ts[t1]? = some l1) (h2 : ts[t2]? = some l2) (hl : l1.length = l2.length) (u1 : usL l1) (u2 : usL l2) : ∀ (k n i : Nat), i + k = l1.length → k + 1 < n → m_alike_24 g S n (nI t1) (nI t2) 1 (nI i) = some (c01 (alkL (seg l1 i k) (seg l2 i k))) := by
  have q1 := w.tx hm h1
  intro k
  induction k with
  | zero =>
    intro n i hi hn
    obtain ⟨n, rfl⟩ : ∃ m, n = m + 1 := ⟨n - 1, by omega⟩
    have hb := q1.2.1
    show b_alike_24 g S (m_alike_24 g S n) (nI t1) (nI t2) 1 (nI i) = _
    unfold b_alike_24
    rw [if_neg (by decide), q1.2.2, Option.bind_some, if_pos (nI_le (by omega) (by omega)), if_pos (Or.inr rfl), seg_0, seg_0, c01_t (show alkL [] [] from trivial)]
  | succ k ih =>
    intro n i hi hn
    obtain ⟨n, rfl⟩ : ∃ m, n = m + 1 := ⟨n - 1, by omega⟩
    have hb := q1.2.1
    obtain ⟨p1, p2, p3⟩ := U_alk (g := g) (u1 i (by omega)) (u2 i (by omega))
    show b_alike_24 g S (m_alike_24 g S n) (nI t1) (nI t2) 1 (nI i) = _
    unfold b_alike_24
    rw [if_neg (by decide), q1.2.2, Option.bind_some, if_neg (nI_ge (by omega) (by omega)), T_unit w hm h1 (by omega), Option.bind_some, T_unit w hm h2 (by omega), Option.bind_some, p1, Option.bind_some, lt_d, show nI i + 1 = nI (i + 1) from nI_1 i, seg_cons (by omega), seg_cons (by omega)]
    rcases p3 with p3 | p3
    · rw [p3, c01_f (fun z => absurd (p3.symm.trans z.1) (by decide))]
      obtain ⟨n, rfl⟩ : ∃ m, n = m + 1 := ⟨n - 1, by omega⟩
      show b_alike_24 g S (m_alike_24 g S n) (nI t1) (nI t2) 0 (nI (i + 1)) = _
      unfold b_alike_24
      rw [if_pos rfl, if_pos (Or.inl rfl)]
    · rw [p3, ih n (i + 1) (by omega) (by omega)]
      exact congrArg some (c01_iff ⟨fun z => ⟨p3, z⟩, fun z => z.2⟩)
theorem M_alike {t1 t2 : Nat} {l1 l2 : List Int32} (hg : 100000 ≤ g) (w : TXs S ts u) (hm : LM S) (h1 : ts[t1]? = some l1) (h2 : ts[t2]? = some l2) (u1 : usL l1) (u2 : usL l2) : m_alike g S (nI t1) (nI t2) = some (c01 (alkL l1 l2)) := by
  have q1 := w.tx hm h1
  have q2 := w.tx hm h2
  have hb1 := q1.2.1
  have hb2 := q2.2.1
  have len : ∀ (a b : List Int32), alkL a b → a.length = b.length := by
    intro a
    induction a with
    | nil => intro b h; cases b with
      | nil => rfl
      | cons x b => exact absurd h (fun z => z)
    | cons x a ih => intro b h; cases b with
      | nil => exact absurd h (fun z => z)
      | cons y b => rw [List.length_cons, List.length_cons, ih b h.2]
  unfold m_alike
  rw [q1.2.2, q2.2.2, Option.bind_some, Option.bind_some]
  by_cases hl : l1.length = l2.length
  · rw [hl, if_pos rfl]
    have := M_alike_l (g := g) w hm h1 h2 hl u1 u2 l1.length g 0 (by omega) (by omega)
    rw [seg_all, show seg l2 0 l1.length = l2 by rw [hl]; exact seg_all] at this
    exact this
  · rw [if_neg (fun z => hl ((nI_eq (by omega) (by omega)).mp z)), c01_f (fun z => hl (len _ _ z))]
    obtain ⟨n, rfl⟩ : ∃ m, g = m + 1 := ⟨g - 1, by omega⟩
    show b_alike_24 (n + 1) S (m_alike_24 (n + 1) S n) (nI t1) (nI t2) 0 0 = _
    unfold b_alike_24
    rw [if_pos rfl, if_pos (Or.inl rfl)]
def hashF (h : Int32) : List Int32 → Int32
  | [] => h
  | a :: l => hashF (((31 : Int32) * h) + a) l
theorem M_hash_l {t : Nat} {l : List Int32} (w : TXs S ts u) (hm : LM S) (h1 : ts[t]? = some l) : ∀ (k n i : Nat) (h : Int32), i + k = l.length → k < n → m_hashOf_4 g S n (nI t) h (nI i) = some (hashF h (seg l i k)) := by
  have q1 := w.tx hm h1
  intro k
  induction k with
  | zero =>
    intro n i h hi hn
    obtain ⟨n, rfl⟩ : ∃ m, n = m + 1 := ⟨n - 1, by omega⟩
    show b_hashOf_4 g S (m_hashOf_4 g S n) (nI t) h (nI i) = _
    unfold b_hashOf_4
    rw [q1.2.2, Option.bind_some, if_pos (nI_le (by omega) (by have := q1.2.1; omega)), seg_0]
    rfl
  | succ k ih =>
    intro n i h hi hn
    obtain ⟨n, rfl⟩ : ∃ m, n = m + 1 := ⟨n - 1, by omega⟩
    have hb := q1.2.1
    show b_hashOf_4 g S (m_hashOf_4 g S n) (nI t) h (nI i) = _
    unfold b_hashOf_4
    rw [q1.2.2, Option.bind_some, if_neg (nI_ge (by omega) (by omega)), T_unit w hm h1 (by omega), Option.bind_some, lt_d, lt_d, show nI i + 1 = nI (i + 1) from nI_1 i, ih n (i + 1) _ (by omega) (by omega), seg_cons (by omega)]
    rfl
theorem M_hash {t : Nat} {l : List Int32} (hg : 100000 ≤ g) (w : TXs S ts u) (hm : LM S) (h1 : ts[t]? = some l) : m_hashOf g S (nI t) = some (hashF 0 l) := by
  have hb := (w.tx hm h1).2.1
  have := M_hash_l (g := g) w hm h1 l.length g 0 0 (by omega) (by omega)
  rw [seg_all] at this
  exact this
theorem M_order_l {t1 t2 : Nat} {l1 l2 : List Int32} (w : TXs S ts u) (hm : LM S) (h1 : ts[t1]? = some l1) (h2 : ts[t2]? = some l2) : ∀ (k n i : Nat), i + k = min l1.length l2.length → k < n → m_order_2 g S n (nI t1) (nI t2) (nI i) = some (ordL (seg l1 i (l1.length - i)) (seg l2 i (l2.length - i))).toInt64 := by
  have q1 := w.tx hm h1
  have q2 := w.tx hm h2
  have hb1 := q1.2.1
  have hb2 := q2.2.1
  have nilE : ∀ (a b : List Int32), (a = [] ∨ b = []) → ordL a b = nI a.length - nI b.length := by
    intro a b h
    rcases h with rfl | rfl
    · rfl
    · cases a <;> rfl
  have lenE : ∀ (l : List Int32) (i : Nat), i ≤ l.length → (seg l i (l.length - i)).length = l.length - i := fun l i hi => seg_len (by omega)
  intro k
  induction k with
  | zero =>
    intro n i hi hn
    obtain ⟨n, rfl⟩ : ∃ m, n = m + 1 := ⟨n - 1, by omega⟩
    have fin : ordL (seg l1 i (l1.length - i)) (seg l2 i (l2.length - i)) = nI l1.length - nI l2.length := by
      rw [nilE, lenE l1 i (by omega), lenE l2 i (by omega)]
      · have e3 : nI l1.length = nI (l1.length - i) + nI i := by rw [nI_add]; congr 1; omega
        have e4 : nI l2.length = nI (l2.length - i) + nI i := by rw [nI_add]; congr 1; omega
        rw [e3, e4]
        generalize nI (l1.length - i) = a
        generalize nI (l2.length - i) = b
        generalize nI i = c
        grind
      · rcases Nat.le_total l1.length l2.length with h | h
        · left
          apply List.eq_nil_of_length_eq_zero
          rw [lenE l1 i (by omega)]
          omega
        · right
          apply List.eq_nil_of_length_eq_zero
          rw [lenE l2 i (by omega)]
          omega
    have e58 : m_order_58 g S (nI t1) (nI t2) = some (nI l1.length - nI l2.length).toInt64 := by
      unfold m_order_58
      rw [q1.2.2, q2.2.2]
      rfl
    show b_order_2 g S (m_order_2 g S n) (nI t1) (nI t2) (nI i) = _
    unfold b_order_2
    rw [q1.2.2, q2.2.2, Option.bind_some, Option.bind_some, e58, fin]
    by_cases hq : l1.length ≤ i
    · rw [if_pos (nI_le hq (by omega))]
    · rw [if_neg (nI_ge (by omega) (by omega)), if_pos (nI_le (by omega) (by omega))]
  | succ k ih =>
    intro n i hi hn
    obtain ⟨n, rfl⟩ : ∃ m, n = m + 1 := ⟨n - 1, by omega⟩
    show b_order_2 g S (m_order_2 g S n) (nI t1) (nI t2) (nI i) = _
    unfold b_order_2
    rw [q1.2.2, q2.2.2, Option.bind_some, Option.bind_some, if_neg (nI_ge (by omega) (by omega)), if_neg (nI_ge (by omega) (by omega)), T_unit w hm h1 (by omega), T_unit w hm h2 (by omega), Option.bind_some, Option.bind_some, Option.bind_some, Option.bind_some]
    rw [show l1.length - i = (l1.length - (i + 1)) + 1 by omega, show l2.length - i = (l2.length - (i + 1)) + 1 by omega, seg_cons (by omega), seg_cons (by omega)]
    unfold ordL
    by_cases he : l1.getD i 0 = l2.getD i 0
    · rw [if_pos he, lt_d, show nI i + 1 = nI (i + 1) from nI_1 i, ih n (i + 1) (by omega) (by omega), if_pos (by rw [he, Int32.sub_self])]
    · rw [if_neg he, if_neg (fun z => he (i_sub0 z))]
theorem M_order {t1 t2 : Nat} {l1 l2 : List Int32} (hg : 100000 ≤ g) (w : TXs S ts u) (hm : LM S) (h1 : ts[t1]? = some l1) (h2 : ts[t2]? = some l2) : m_order g S (nI t1) (nI t2) = some (ordL l1 l2).toInt64 := by
  have hb := (w.tx hm h1).2.1
  have := M_order_l (g := g) w hm h1 h2 (min l1.length l2.length) g 0 (by omega) (by omega)
  rw [Nat.sub_zero, Nat.sub_zero, seg_all, seg_all] at this
  exact this
end CMP
