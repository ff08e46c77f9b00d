/-! READING: the names of the sorts on both sides -/
def nmL (s : Nat) : List Int32 := (byT.getD (spT.getD s 0) []).map (· &&& 255)
def wdL (tp : List Int32) (a b : Nat) : List Int32 := (List.range (b - a)).map fun k => rdB tp (a + k)
def lttr (c : Int32) : Prop := ∃ n : Nat, 97 ≤ n ∧ n ≤ 122 ∧ c = nI n
def codW (l : List Int32) : Nat := l.foldl (fun x c => 32 * x + (c.toNatClampNeg - 96)) 0
theorem nm_inj : ∀ s, s < 56 → ∀ t, t < 56 → nmL s = nmL t → s = t := by decide +kernel
theorem nm_len : ∀ s, s < 56 → 1 ≤ (nmL s).length ∧ (nmL s).length ≤ 7 := by decide +kernel
theorem nm_let0 : ∀ s, s < 56 → (nmL s).all (fun c => decide (97 ≤ c.toNatClampNeg) && decide (c.toNatClampNeg ≤ 122) && decide (c = nI c.toNatClampNeg)) = true := by decide +kernel
theorem nm_let {s : Nat} (hs : s < 56) : ∀ c ∈ nmL s, lttr c := by
  intro c hc
  have := List.all_eq_true.mp (nm_let0 s hs) c hc
  simp only [Bool.and_eq_true, decide_eq_true_eq] at this
  exact ⟨_, this.1.1, this.1.2, this.2⟩
theorem nm_cod : ∀ s, s < 28 → knamesA.getD s 0 = Int64.ofNat (codW (nmL s)) ∧ knamesB.getD s 0 = Int64.ofNat (codW (nmL (28 + s))) := by decide +kernel
theorem codW_c {l : List Int32} {c : Int32} : codW (l ++ [c]) = 32 * codW l + (c.toNatClampNeg - 96) := by
  unfold codW
  rw [List.foldl_append]
  rfl
theorem lttr_n {c : Int32} (h : lttr c) : 97 ≤ c.toNatClampNeg ∧ c.toNatClampNeg ≤ 122 ∧ c = nI c.toNatClampNeg := by
  obtain ⟨n, h1, h2, rfl⟩ := h
  rw [nI_nat (by omega)]
  exact ⟨h1, h2, rfl⟩
theorem codW_b : ∀ (n : Nat) (l : List Int32), l.length = n → (∀ c ∈ l, lttr c) → codW l < 32 ^ n := by
  intro n
  induction n with
  | zero =>
    intro l h _
    rw [List.length_eq_zero_iff.mp h]
    decide
  | succ n ih =>
    intro l h hl
    rcases List.eq_nil_or_concat l with rfl | ⟨r, c, rfl⟩
    · simp at h
    · rw [List.concat_eq_append] at *
      rw [List.length_append, List.length_singleton] at h
      have h1 := ih r (by omega) (fun x hx => hl x (List.mem_append.mpr (Or.inl hx)))
      have h2 := lttr_n (hl c (List.mem_append.mpr (Or.inr (List.mem_singleton.mpr rfl))))
      rw [codW_c, Nat.pow_succ]
      omega
theorem codW_i : ∀ (n : Nat) (l m : List Int32), l.length = n → (∀ c ∈ l, lttr c) → (∀ c ∈ m, lttr c) → codW l = codW m → l = m := by
  intro n
  induction n with
  | zero =>
    intro l m h _ hm e
    rw [List.length_eq_zero_iff.mp h] at *
    rcases List.eq_nil_or_concat m with rfl | ⟨r, c, rfl⟩
    · rfl
    · rw [List.concat_eq_append] at *
      have h2 := lttr_n (hm c (List.mem_append.mpr (Or.inr (List.mem_singleton.mpr rfl))))
      rw [codW_c, show codW [] = 0 from rfl] at e
      omega
  | succ n ih =>
    intro l m h hl hm e
    rcases List.eq_nil_or_concat l with rfl | ⟨r, c, rfl⟩
    · simp at h
    · rw [List.concat_eq_append] at *
      rw [List.length_append, List.length_singleton] at h
      have h2 := lttr_n (hl c (List.mem_append.mpr (Or.inr (List.mem_singleton.mpr rfl))))
      rcases List.eq_nil_or_concat m with rfl | ⟨r2, c2, rfl⟩
      · rw [codW_c, show codW [] = 0 from rfl] at e
        omega
      · rw [List.concat_eq_append] at *
        have h3 := lttr_n (hm c2 (List.mem_append.mpr (Or.inr (List.mem_singleton.mpr rfl))))
        rw [codW_c, codW_c] at e
        have e1 : codW r = codW r2 := by omega
        have e2 : c.toNatClampNeg = c2.toNatClampNeg := by omega
        rw [ih r r2 (by omega) (fun x hx => hl x (List.mem_append.mpr (Or.inl hx))) (fun x hx => hm x (List.mem_append.mpr (Or.inl hx))) e1, h2.2.2, h3.2.2, e2]
theorem j_inj {x y : Nat} (hx : x < 2 ^ 62) (hy : y < 2 ^ 62) (h : Int64.ofNat x = Int64.ofNat y) : x = y := by
  have e : ∀ z : Nat, z < 2 ^ 62 → (Int64.ofNat z).toInt = (z : Int) := fun z hz => by
    exact Int64.toInt_ofNat_of_lt (by omega)
  have := congrArg Int64.toInt h
  rw [e x hx, e y hy] at this
  omega
theorem wdL_len {tp : List Int32} {a b : Nat} : (wdL tp a b).length = b - a := by simp [wdL]
theorem wdL_get {tp : List Int32} {a b z : Nat} {d : Int32} (h : z < b - a) : (wdL tp a b).getD z d = rdB tp (a + z) := by
  unfold wdL
  rw [List.getD_eq_getElem?_getD, List.getElem?_map, List.getElem?_range h]
  rfl
theorem ext_D {l m : List Int32} (h1 : l.length = m.length) (h2 : ∀ z, z < l.length → l.getD z 0 = m.getD z 0) : l = m := by
  apply List.ext_getElem h1
  intro i p q
  have := h2 i p
  rw [List.getD_eq_getElem?_getD, List.getD_eq_getElem?_getD, List.getElem?_eq_getElem p, List.getElem?_eq_getElem q] at this
  exact this
section RDF
variable {g : Nat} {S S2 : St} {tp : List Int32} {a b i j le : Nat}
theorem nm_get {s z : Nat} (h : z < (byT.getD (spT.getD s 0) []).length) : cC (spT.getD s 0) (nI z) = some ((nmL s).getD z 0) ∨ 2 ^ 31 ≤ z := by
  by_cases q : z < 2 ^ 31
  · refine Or.inl ?_
    unfold cC sCh nmL
    generalize byT.getD (spT.getD s 0) [] = l at h
    rw [nI_nat q, if_neg (fun w => by
      rcases w with w | w
      · exact nI_pos q w
      · omega), List.getD_eq_getElem?_getD, List.getD_eq_getElem?_getD, List.getElem?_map, List.getElem?_eq_getElem h]
    rfl
  · exact Or.inr (by omega)
theorem C_21 {k2 : St → Int32 → Int32 → Int32 → Option (St × Int32)} {x2 x3 : Int32} {s m : Nat} (w : Rw S 10 tp 0) (ha : a < 2 ^ 20) (hm : (byT.getD (spT.getD s 0) []).length = m) (hm2 : m < 2 ^ 20) : ∀ (k n x : Nat), x + k = m → k < n → ∃ y, x ≤ y ∧ y ≤ m ∧ (∀ z, x ≤ z → z < y → rdB tp (a + z) = (nmL s).getD z 0) ∧ (y = m ∨ ¬ rdB tp (a + y) = (nmL s).getD y 0) ∧ m_Rd_sortNamed_21 g k2 n S (nI a) x2 x3 (spT.getD s 0) (nI x) = m_Rd_sortNamed_58 g k2 S (nI a) x2 x3 (spT.getD s 0) (nI y) := by
  have hs : sLen (spT.getD s 0) = nI m := by unfold sLen; rw [hm]
  intro k
  induction k with
  | zero =>
    intro n x hx hn
    obtain ⟨n, rfl⟩ : ∃ m, n = m + 1 := ⟨n - 1, by omega⟩
    refine ⟨x, Nat.le_refl _, by omega, fun z h1 h2 => by omega, Or.inl (by omega), ?_⟩
    show b_Rd_sortNamed_21 g k2 (m_Rd_sortNamed_21 g k2 n) S (nI a) x2 x3 _ _ = _
    unfold b_Rd_sortNamed_21
    rw [hs, if_pos (nI_le (by omega) (by omega))]
  | succ k ih =>
    intro n x hx hn
    obtain ⟨n, rfl⟩ : ∃ m, n = m + 1 := ⟨n - 1, by omega⟩
    have eq : m_Rd_sortNamed_21 g k2 (n + 1) S (nI a) x2 x3 (spT.getD s 0) (nI x) = b_Rd_sortNamed_21 g k2 (m_Rd_sortNamed_21 g k2 n) S (nI a) x2 x3 (spT.getD s 0) (nI x) := rfl
    unfold b_Rd_sortNamed_21 at eq
    rw [hs, if_neg (nI_ge (by omega) (by omega)), nI_add, C_byte w (by omega), Option.bind_some, (nm_get (s := s) (z := x) (by omega)).resolve_right (by omega), Option.bind_some] at eq
    by_cases q : rdB tp (a + x) = (nmL s).getD x 0
    · rw [if_pos q, lt_d, nI_1] at eq
      obtain ⟨y, h1, h2, h3, h4, h5⟩ := ih n (x + 1) (by omega) (by omega)
      refine ⟨y, by omega, h2, fun z z1 z2 => ?_, h4, eq.trans h5⟩
      by_cases q2 : z = x
      · rw [q2]; exact q
      · exact h3 z (by omega) z2
    · rw [if_neg q] at eq
      exact ⟨x, Nat.le_refl _, by omega, fun z z1 z2 => by omega, Or.inr q, eq⟩
theorem C_names (hg : 100000 ≤ g) (w : Rw S 10 tp 0) (hab : a ≤ b) (hb : b ≤ 3000) : ∀ (k n s : Nat), s + k = 56 → k < n → (∃ t, s ≤ t ∧ t < 56 ∧ nmL t = wdL tp a b ∧ m_Rd_sortNamed_2 g n S (nI a) (nI b) (nI s) = some (S, nI t)) ∨ ((∀ t, s ≤ t → t < 56 → ¬ nmL t = wdL tp a b) ∧ m_Rd_sortNamed_2 g n S (nI a) (nI b) (nI s) = some (S, -1)) := by
  intro k
  induction k with
  | zero =>
    intro n s hs hn
    obtain ⟨n, rfl⟩ : ∃ m, n = m + 1 := ⟨n - 1, by omega⟩
    refine Or.inr ⟨fun t h1 h2 => by omega, ?_⟩
    show b_Rd_sortNamed_2 g (m_Rd_sortNamed_2 g n) S (nI a) (nI b) (nI s) = _
    unfold b_Rd_sortNamed_2
    rw [if_pos (show (56 : Int32) ≤ nI s from nI_le (a := 56) (by omega) (by omega))]
  | succ k ih =>
    intro n s hs hn
    obtain ⟨n, rfl⟩ : ∃ m, n = m + 1 := ⟨n - 1, by omega⟩
    have eq : m_Rd_sortNamed_2 g (n + 1) S (nI a) (nI b) (nI s) = b_Rd_sortNamed_2 g (m_Rd_sortNamed_2 g n) S (nI a) (nI b) (nI s) := rfl
    unfold b_Rd_sortNamed_2 at eq
    have es : eS (nI s) = some s := by
      unfold eS
      rw [nI_nat (by omega), if_neg (fun z => z.elim (nI_pos (by omega)) (by omega))]
    have hL : (nmL s).length = (byT.getD (spT.getD s 0) []).length := by unfold nmL; rw [List.length_map]
    have h7 := nm_len s (by omega)
    rw [if_neg (show ¬ (56 : Int32) ≤ nI s from nI_ge (b := 56) (by omega) (by omega)), es, Option.bind_some] at eq
    obtain ⟨y, h1, h2, h3, h4, h5⟩ := C_21 (g := g) (k2 := m_Rd_sortNamed_2 g n) (x2 := nI b) (x3 := nI s) (s := s) (m := (nmL s).length) w (show a < 2 ^ 20 by omega) hL.symm (by omega) (nmL s).length g 0 (by omega) (by omega)
    have eq := eq.trans h5
    unfold m_Rd_sortNamed_58 at eq
    rw [show sLen (spT.getD s 0) = nI (nmL s).length from by unfold sLen; rw [hL], nI_sub hab, lt_d, nI_1] at eq
    by_cases q : nmL s = wdL tp a b
    · have e1 : (nmL s).length = b - a := by rw [q, wdL_len]
      have e2 : y = (nmL s).length := by
        rcases h4 with h4 | h4
        · exact h4
        · by_cases q2 : y = (nmL s).length
          · exact q2
          · refine absurd ?_ h4
            rw [q, wdL_get (by omega)]
      rw [if_pos (by rw [e2]), if_pos (by rw [e2, e1])] at eq
      exact Or.inl ⟨s, Nat.le_refl _, by omega, q, eq⟩
    · have e3 : ¬ (y = (nmL s).length ∧ y = b - a) := fun z => q (ext_D (by rw [wdL_len]; omega) (fun u hu => by rw [wdL_get (by omega)]; exact (h3 u (by omega) (by omega)).symm))
      have eq : m_Rd_sortNamed_2 g (n + 1) S (nI a) (nI b) (nI s) = m_Rd_sortNamed_2 g n S (nI a) (nI b) (nI (s + 1)) := by
        rw [eq]
        by_cases q2 : y = (nmL s).length
        · rw [if_pos (by rw [q2]), if_neg (i_lit (by omega) (by omega) (by omega))]
        · rw [if_neg (i_lit (by omega) (by omega) (by omega))]
      rw [eq]
      rcases ih n (s + 1) (by omega) (by omega) with ⟨t, t1, t2, t3, t4⟩ | ⟨t1, t2⟩
      · exact Or.inl ⟨t, by omega, t2, t3, t4⟩
      · refine Or.inr ⟨fun t z1 z2 => ?_, t2⟩
        by_cases q2 : t = s
        · rw [q2]; exact q
        · exact t1 t (by omega) z2
theorem M_106 (hm : LM S2) (tm : TabM S2) {y : Nat} (hy : y < 2 ^ 62) : ∀ (k n i : Nat), i + k = 28 → k < n → (∃ t, t < 56 ∧ codW (nmL t) = y ∧ m_sortOfWord_106 g S2 n (Int64.ofNat y) 1 (nI i) = some (nI t)) ∨ ((∀ t, i ≤ t → t < 28 → ¬ codW (nmL t) = y ∧ ¬ codW (nmL (28 + t)) = y) ∧ m_sortOfWord_106 g S2 n (Int64.ofNat y) 1 (nI i) = some (-1)) := by
  have h1 : gN S2 1 = 28 := LMn hm 1
  have h2 : gN S2 2 = 28 := LMn hm 2
  have cb : ∀ t, t < 56 → codW (nmL t) < 2 ^ 62 := fun t ht => by
    have e := codW_b _ (nmL t) rfl (nm_let ht)
    have := nm_len t ht
    have e2 : 32 ^ (nmL t).length ≤ 32 ^ 7 := Nat.pow_le_pow_right (by omega) this.2
    omega
  intro k
  induction k with
  | zero =>
    intro n i hi hn
    obtain ⟨n, rfl⟩ : ∃ m, n = m + 1 := ⟨n - 1, by omega⟩
    refine Or.inr ⟨fun t h1 h2 => by omega, ?_⟩
    show b_sortOfWord_106 g S2 (m_sortOfWord_106 g S2 n) _ _ _ = _
    unfold b_sortOfWord_106
    rw [if_neg (by decide), if_pos (show (28 : Int32) ≤ nI i from nI_le (a := 28) (by omega) (by omega))]
  | succ k ih =>
    intro n i hi hn
    obtain ⟨n, rfl⟩ : ∃ m, n = m + 1 := ⟨n - 1, by omega⟩
    have eq : m_sortOfWord_106 g S2 (n + 1) (Int64.ofNat y) 1 (nI i) = b_sortOfWord_106 g S2 (m_sortOfWord_106 g S2 n) (Int64.ofNat y) 1 (nI i) := rfl
    unfold b_sortOfWord_106 at eq
    obtain ⟨c1, c2⟩ := nm_cod i (by omega)
    rw [if_neg (by decide), if_neg (show ¬ (28 : Int32) ≤ nI i from nI_ge (b := 28) (by omega) (by omega)), aJ_at (by omega) (by omega), aJ_at (by omega) (by omega), Option.bind_some, Option.bind_some, tm.2.2.1, tm.2.2.2, c1, c2] at eq
    by_cases q1 : codW (nmL i) = y
    · rw [if_pos (by rw [q1])] at eq
      exact Or.inl ⟨i, by omega, q1, eq⟩
    rw [if_neg (fun z => q1 (j_inj (cb i (by omega)) hy z))] at eq
    by_cases q2 : codW (nmL (28 + i)) = y
    · rw [if_pos (by rw [q2]), show (28 : Int32) = nI 28 from rfl, nI_add] at eq
      exact Or.inl ⟨28 + i, by omega, q2, eq⟩
    rw [if_neg (fun z => q2 (j_inj (cb (28 + i) (by omega)) hy z)), lt_d, nI_1] at eq
    rw [eq]
    rcases ih n (i + 1) (by omega) (by omega) with z | ⟨z1, z2⟩
    · exact Or.inl z
    · refine Or.inr ⟨fun t t1 t2 => ?_, z2⟩
      by_cases q3 : t = i
      · rw [q3]; exact ⟨q1, q2⟩
      · exact z1 t (by omega) t2
theorem M_x0 {n : Nat} {x : Int64} {y : Int32} : m_sortOfWord_35 g S2 (n + 1) x 0 y = m_sortOfWord_106 g S2 g x 0 0 := by
  show b_sortOfWord_35 g S2 (m_sortOfWord_35 g S2 n) x 0 y = _
  unfold b_sortOfWord_35
  rw [if_pos rfl]
theorem M_y0 {n : Nat} {x : Int64} {y : Int32} : m_sortOfWord_106 g S2 (n + 1) x 0 y = some (-1) := by
  show b_sortOfWord_106 g S2 (m_sortOfWord_106 g S2 n) x 0 y = _
  unfold b_sortOfWord_106
  rw [if_pos rfl]
theorem wdL_s {x y : Nat} (h : a ≤ y) (hy : y < x) (hx : x = y + 1) : wdL tp a x = wdL tp a y ++ [rdB tp y] := by
  unfold wdL
  rw [hx, show y + 1 - a = (y - a) + 1 by omega, List.range_succ, List.map_append, List.map_singleton, show a + (y - a) = y by omega]
theorem j_step {x n : Nat} (h : 97 ≤ n) (hn : n ≤ 122) : ((32 : Int64) * Int64.ofNat x + (nI n).toInt64) - 96 = Int64.ofNat (32 * x + (n - 96)) := by
  have e1 : ∀ n, n < 256 → (nI n).toInt64 = Int64.ofNat n := by decide +kernel
  rw [e1 n (by omega), show (32 : Int64) = Int64.ofNat 32 from rfl, ← Int64.ofNat_mul, ← Int64.ofNat_add, show 32 * x + n = (32 * x + (n - 96)) + 96 by omega, Int64.ofNat_add (32 * x + (n - 96)) 96, show Int64.ofNat 96 = (96 : Int64) from rfl, Int64.add_sub_cancel]
theorem M_35 (t : TpM S2 tp) (hm : LM S2) (hl : b ≤ tp.length) (h21 : gI S2 0 21 = nI b) (hg : 100000 ≤ g) : ∀ (k n i : Nat), i + k = b → k < n → a ≤ i → ((∀ c ∈ wdL tp a b, lttr c) ∧ m_sortOfWord_35 g S2 n (Int64.ofNat (codW (wdL tp a i))) 1 (nI i) = m_sortOfWord_106 g S2 g (Int64.ofNat (codW (wdL tp a b))) 1 0) ∨ (¬ (∀ c ∈ wdL tp a b, lttr c) ∧ m_sortOfWord_35 g S2 n (Int64.ofNat (codW (wdL tp a i))) 1 (nI i) = some (-1)) ∨ ¬ (∀ c ∈ wdL tp a i, lttr c) := by
  have h30 := t.2.1
  intro k
  induction k with
  | zero =>
    intro n i hi hn ha
    obtain ⟨n, rfl⟩ : ∃ m, n = m + 1 := ⟨n - 1, by omega⟩
    rw [Nat.add_zero] at hi
    subst hi
    by_cases q : ∀ c ∈ wdL tp a i, lttr c
    · refine Or.inl ⟨q, ?_⟩
      show b_sortOfWord_35 g S2 (m_sortOfWord_35 g S2 n) _ _ _ = _
      unfold b_sortOfWord_35
      rw [if_neg (by decide), h21, if_pos (nI_le (Nat.le_refl _) (by omega))]
    · exact Or.inr (Or.inr q)
  | succ k ih =>
    intro n i hi hn ha
    obtain ⟨n, rfl⟩ : ∃ m, n = m + 2 := ⟨n - 2, by omega⟩
    have eq : m_sortOfWord_35 g S2 (n + 2) (Int64.ofNat (codW (wdL tp a i))) 1 (nI i) = b_sortOfWord_35 g S2 (m_sortOfWord_35 g S2 (n + 1)) (Int64.ofNat (codW (wdL tp a i))) 1 (nI i) := rfl
    unfold b_sortOfWord_35 m_sortOfWord_76 m_sortOfWord_77 at eq
    obtain ⟨c, c1, c2⟩ := rdB_b t.2.2.2 (show i < tp.length by omega)
    rw [if_neg (by decide), h21, if_neg (nI_ge (by omega) (by omega)), M_byte t hm (by omega), Option.bind_some, Option.bind_some, Option.bind_some, Option.bind_some, lt_d, lt_d, lt_d, lt_d, nI_1, c2] at eq
    by_cases q : 97 ≤ c ∧ c ≤ 122
    · rw [if_neg (show ¬ nI c < 97 from nI_nlt (b := 97) (by omega) (by omega)), if_neg (show ¬ (122 : Int32) < nI c from nI_nlt (a := 122) (by omega) (by omega)), j_step q.1 q.2] at eq
      have ew : wdL tp a (i + 1) = wdL tp a i ++ [nI c] := by rw [← c2]; exact wdL_s ha (by omega) rfl
      have ec : 32 * codW (wdL tp a i) + (c - 96) = codW (wdL tp a (i + 1)) := by rw [ew, codW_c, nI_nat (by omega)]
      rw [ec] at eq
      rcases ih (n + 1) (i + 1) (by omega) (by omega) (by omega) with ⟨z1, z2⟩ | ⟨z1, z2⟩ | z
      · exact Or.inl ⟨z1, eq.trans z2⟩
      · exact Or.inr (Or.inl ⟨z1, eq.trans z2⟩)
      · refine Or.inr (Or.inr fun u => z fun x hx => ?_)
        rw [ew] at hx
        rcases List.mem_append.mp hx with hx | hx
        · exact u x hx
        · rw [List.mem_singleton] at hx
          exact ⟨c, q.1, q.2, hx⟩
    · obtain ⟨G, hG⟩ : ∃ G, g = G + 1 := ⟨g - 1, by omega⟩
      refine Or.inr (Or.inl ⟨fun u => ?_, ?_⟩)
      · have hx := u (rdB tp i) (by
          unfold wdL
          exact List.mem_map.mpr ⟨i - a, List.mem_range.mpr (by omega), by rw [show a + (i - a) = i by omega]⟩)
        rw [c2] at hx
        have := lttr_n hx
        rw [nI_nat (by omega)] at this
        omega
      · have b0 : ∀ x y, m_sortOfWord_35 g S2 (n + 1) x 0 y = some (-1) := fun x y => by
          rw [M_x0, hG, M_y0]
        rw [eq, b0]
        by_cases q2 : c < 97
        · rw [if_pos (show nI c < 97 from nI_lt (b := 97) q2 (by omega))]
        · rw [if_neg (show ¬ nI c < 97 from nI_nlt (b := 97) (by omega) (by omega)), if_pos (show (122 : Int32) < nI c from nI_lt (a := 122) (by omega) (by omega))]
/-- the sort that a word names, on both sides -/
theorem B_sort (hg : 100000 ≤ g) (t : TpM S2 tp) (hm : LM S2) (tm : TabM S2) (w : Rw S 10 tp 0) (hl : b ≤ tp.length) (hab : a < b) (h20 : gI S2 0 20 = nI a) (h23 : (gI S2 0 23 = 0 ∧ gI S2 0 21 = nI b) ∨ (gI S2 0 23 = 1 ∧ rdB tp a = 34)) : (∃ s, s < 56 ∧ m_Rd_sortNamed g S (nI a) (nI b) = some (S, nI s) ∧ m_sortOfWord g S2 = some (nI s)) ∨ (m_Rd_sortNamed g S (nI a) (nI b) = some (S, -1) ∧ m_sortOfWord g S2 = some (-1)) := by
  have h30 := t.2.1
  obtain ⟨G, hG⟩ : ∃ G, g = G + 1 := ⟨g - 1, by omega⟩
  have b0 : ∀ x y, m_sortOfWord_35 g S2 g x 0 y = some (-1) := fun x y => by
    have e : m_sortOfWord_35 g S2 (G + 1) x 0 y = m_sortOfWord_106 g S2 g x 0 0 := M_x0
    have e2 : m_sortOfWord_106 g S2 (G + 1) x 0 0 = some (-1) := M_y0
    rw [← hG] at e e2
    rw [e, e2]
  have cl := C_names hg w (show a ≤ b by omega) (show b ≤ 3000 by omega) 56 g 0 (by omega) (by omega)
  have cl : (∃ t, 0 ≤ t ∧ t < 56 ∧ nmL t = wdL tp a b ∧ m_Rd_sortNamed g S (nI a) (nI b) = some (S, nI t)) ∨ ((∀ t, 0 ≤ t → t < 56 → ¬ nmL t = wdL tp a b) ∧ m_Rd_sortNamed g S (nI a) (nI b) = some (S, -1)) := cl
  have bad : (∀ t, t < 56 → ¬ nmL t = wdL tp a b) → m_sortOfWord g S2 = some (-1) → (∃ s, s < 56 ∧ m_Rd_sortNamed g S (nI a) (nI b) = some (S, nI s) ∧ m_sortOfWord g S2 = some (nI s)) ∨ (m_Rd_sortNamed g S (nI a) (nI b) = some (S, -1) ∧ m_sortOfWord g S2 = some (-1)) := fun h1 h2 => by
    rcases cl with ⟨x, -, x1, x2, -⟩ | ⟨-, x⟩
    · exact absurd x2 (h1 x x1)
    · exact Or.inr ⟨x, h2⟩
  have eo : m_sortOfWord g S2 = (if (7 : Int32) < gI S2 0 21 - nI a then m_sortOfWord_35 g S2 g 0 0 (nI a) else if gI S2 0 23 = 0 then m_sortOfWord_35 g S2 g 0 1 (nI a) else m_sortOfWord_35 g S2 g 0 0 (nI a)) := by
    unfold m_sortOfWord
    rw [h20, lt_d, lt_d]
  rcases h23 with ⟨h23, h21⟩ | ⟨h23, h34⟩
  · rw [h21, nI_sub (show a ≤ b by omega), if_pos h23] at eo
    by_cases q : 7 < b - a
    · rw [if_pos (show (7 : Int32) < nI (b - a) from nI_lt (a := 7) q (by omega)), b0] at eo
      exact bad (fun s hs z => by
        have := nm_len s hs
        rw [z, wdL_len] at this
        omega) eo
    · rw [if_neg (show ¬ (7 : Int32) < nI (b - a) from nI_nlt (a := 7) (by omega) (by omega))] at eo
      have e0 : wdL tp a a = [] := by unfold wdL; rw [Nat.sub_self]; rfl
      have m35 := M_35 (g := g) (a := a) t hm hl h21 hg (b - a) g a (by omega) (by omega) (Nat.le_refl _)
      rw [e0, show Int64.ofNat (codW []) = 0 from rfl] at m35
      rcases m35 with ⟨z1, z2⟩ | ⟨z1, z2⟩ | z
      · rw [z2] at eo
        have hcb : codW (wdL tp a b) < 2 ^ 62 := by
          have e := codW_b _ (wdL tp a b) rfl z1
          have e2 : 32 ^ (wdL tp a b).length ≤ 32 ^ 7 := Nat.pow_le_pow_right (by omega) (by rw [wdL_len]; omega)
          omega
        rcases M_106 (g := g) hm tm hcb 28 g 0 (by omega) (by omega) with ⟨s, s1, s2, s3⟩ | ⟨s1, s2⟩
        · have s4 := codW_i _ (nmL s) (wdL tp a b) rfl (nm_let s1) z1 s2
          rcases cl with ⟨x, -, x1, x2, x3⟩ | ⟨x, -⟩
          · have := nm_inj x x1 s s1 (x2.trans s4.symm)
            subst this
            exact Or.inl ⟨x, x1, x3, eo.trans s3⟩
          · exact absurd s4 (x s (Nat.zero_le _) s1)
        · refine bad (fun s hs z => ?_) (eo.trans s2)
          by_cases q2 : s < 28
          · exact (s1 s (Nat.zero_le _) q2).1 (by rw [z])
          · refine (s1 (s - 28) (Nat.zero_le _) (by omega)).2 ?_
            rw [show 28 + (s - 28) = s by omega, z]
      · rw [z2] at eo
        refine bad (fun s hs z => z1 ?_) eo
        rw [← z]
        exact nm_let hs
      · exact absurd (fun c hc => by cases hc) z
  · rw [if_neg (show ¬ gI S2 0 23 = 0 from by rw [h23]; decide), ite_self, b0] at eo
    refine bad (fun s hs z => ?_) eo
    have := nm_let hs (rdB tp a) (by
      rw [z]
      unfold wdL
      exact List.mem_map.mpr ⟨0, List.mem_range.mpr (by omega), rfl⟩)
    rw [h34] at this
    have := lttr_n this
    have e : (34 : Int32).toNatClampNeg = 34 := by decide
    omega
end RDF
