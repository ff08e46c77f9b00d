/-! compile: the class loads its LITERALS, the reference copies what it read -/
theorem lxT_c : ∀ {a : List (List Int32)} {l : List Int32}, lxT (a ++ [l]) = lxT a ++ (if l = [] then [] else [l])
  | [], l => by
    show (if l = [] then lxT [] else l :: lxT []) = [] ++ (if l = [] then [] else [l])
    by_cases q : l = []
    · rw [if_pos q, if_pos q]; rfl
    · rw [if_neg q, if_neg q]; rfl
  | x :: a, l => by
    show (if x = [] then lxT (a ++ [l]) else x :: lxT (a ++ [l])) = (if x = [] then lxT a else x :: lxT a) ++ _
    rw [lxT_c]
    by_cases q : x = []
    · rw [if_pos q, if_pos q]
    · rw [if_neg q, if_neg q]; rfl
theorem lxL_c : ∀ {a : List (List Int32)} {l : List Int32} {k : Nat}, lxL (a ++ [l]) k = lxL a k ++ [if l = [] then 0 else k + (lxT a).length]
  | [], l, k => by
    show (if l = [] then 0 :: lxL [] k else k :: lxL [] (k + 1)) = _
    by_cases q : l = []
    · rw [if_pos q, if_pos q]; rfl
    · rw [if_neg q, if_neg q]; rfl
  | x :: a, l, k => by
    show (if x = [] then 0 :: lxL (a ++ [l]) k else k :: lxL (a ++ [l]) (k + 1)) = (if x = [] then 0 :: lxL a k else k :: lxL a (k + 1)) ++ [if l = [] then 0 else k + (if x = [] then lxT a else x :: lxT a).length]
    rw [lxL_c, lxL_c]
    by_cases q : x = []
    · rw [if_pos q, if_pos q, if_pos q]; rfl
    · rw [if_neg q, if_neg q, if_neg q, List.length_cons, show k + 1 + (lxT a).length = k + ((lxT a).length + 1) by omega]; rfl
theorem lxT_b : ∀ {a : List (List Int32)}, (lxT a).length ≤ a.length ∧ (lxT a).flatten.length ≤ a.flatten.length ∧ (lxT a).flatten = a.flatten
  | [] => ⟨Nat.le_refl _, Nat.le_refl _, rfl⟩
  | x :: a => by
    obtain ⟨h1, h2, h3⟩ := lxT_b (a := a)
    show (if x = [] then lxT a else x :: lxT a).length ≤ _ ∧ (if x = [] then lxT a else x :: lxT a).flatten.length ≤ _ ∧ (if x = [] then lxT a else x :: lxT a).flatten = _
    by_cases q : x = []
    · rw [if_pos q, q]
      exact ⟨by rw [List.length_cons]; omega, by rw [List.flatten_cons, List.nil_append]; exact h2, by rw [List.flatten_cons, List.nil_append]; exact h3⟩
    · rw [if_neg q]
      exact ⟨by rw [List.length_cons, List.length_cons]; omega, by rw [List.flatten_cons, List.flatten_cons, List.length_append, List.length_append]; omega, by rw [List.flatten_cons, List.flatten_cons, h3]⟩
theorem lxL_n : ∀ {a : List (List Int32)} {k : Nat}, (lxL a k).length = a.length
  | [], _ => rfl
  | x :: a, k => by
    show (if x = [] then 0 :: lxL a k else k :: lxL a (k + 1)).length = _
    by_cases q : x = []
    · rw [if_pos q, List.length_cons, List.length_cons, lxL_n]
    · rw [if_neg q, List.length_cons, List.length_cons, lxL_n]
/-- the class: only its texts and LITERALS -/
def FLd (S S' : St) : Prop := (∀ o k, o ≠ 18 → o ≠ 19 → o ≠ 21 → ¬ (o = 5 ∧ k = 4) → gI S' o k = gI S o k) ∧ S'.2.1 = S.2.1 ∧ S'.2.2.1 = S.2.2.1 ∧ (∀ a, a ≠ 42 → a ≠ 43 → a ≠ 45 → gN S' a = gN S a ∧ ∀ i, gF S' a i = gF S a i) ∧ S'.2.2.2.2.2 = S.2.2.2.2.2
theorem FLd.rf {S : St} : FLd S S := ⟨fun _ _ _ _ _ _ => rfl, rfl, rfl, fun _ _ _ _ => ⟨rfl, fun _ => rfl⟩, rfl⟩
theorem FLd.tr {S S1 S2 : St} (h1 : FLd S S1) (h2 : FLd S1 S2) : FLd S S2 := ⟨fun o k a b c d => (h2.1 o k a b c d).trans (h1.1 o k a b c d), h2.2.1.trans h1.2.1, h2.2.2.1.trans h1.2.2.1, fun a x y z => ⟨(h2.2.2.2.1 a x y z).1.trans (h1.2.2.2.1 a x y z).1, fun i => ((h2.2.2.2.1 a x y z).2 i).trans ((h1.2.2.2.1 a x y z).2 i)⟩, h2.2.2.2.2.trans h1.2.2.2.2⟩
theorem FLd.fr {o : Nat} {S S' : St} (h : Fr o S S') (ho : o = 18 ∨ o = 19 ∨ o = 21) : FLd S S' := ⟨fun x k a b c _ => h.1 x k (by omega), h.2.1, h.2.2.1, fun a x y z => h.2.2.2.1 a (by omega), h.2.2.2.2⟩
theorem Rw.ld {x : Nat} {S S' : St} {l : List Int32} {ov : Int32} (w : Rw S x l ov) (h : FLd S S') (h1 : x ≠ 18) (h2 : x ≠ 19) (h3 : x ≠ 21) : Rw S' x l ov := by
  obtain ⟨w0, w1, w2, w3, w4, w5, w6, w7, w8⟩ := w
  unfold Rw
  rw [h.1 x 0 h1 h2 h3 (by omega), h.1 x 2 h1 h2 h3 (by omega), h.1 x 3 h1 h2 h3 (by omega), (h.2.2.2.1 (x + 24) (by omega) (by omega) (by omega)).1]
  exact ⟨w0, w1, w2, w3, w4, w5, w6, w7, fun i hi => by rw [(h.2.2.2.1 (x + 24) (by omega) (by omega) (by omega)).2]; exact w8 i hi⟩
theorem gOK.ld {S S' : St} (w : gOK S) (h : FLd S S') : gOK S' := by
  unfold gOK gR at *
  rw [h.2.2.1]
  exact w
theorem LitsC.ld {d : Nat} {S S' : St} {lits : List (List Int32)} (w : LitsC S d lits) (h : FLd S S') (hd : d = 1 ∨ d = 2) : LitsC S' d lits := ⟨w.1.ld h (by omega) (by omega) (by omega), w.2.ld h (by omega) (by omega) (by omega)⟩
section LDS
variable {g d : Nat} {lits : List (List Int32)}
theorem C_load31 (hg : 100000 ≤ g) (hd : d = 1 ∨ d = 2) (hL : lits.length ≤ 24) (hfl : lits.flatten.length ≤ 3000) : ∀ (k n i : Nat) (S : St), i + k = lits.length → k < n → LitsC S d lits → gOK S → Rw S 21 ((lxL (lits.take i) 1).map nI) 0 → Rw S 18 (lxT (lits.take i)).flatten 0 → Rw S 19 (endsC ([] :: lxT (lits.take i))) 0 → ∃ S', m_Tx_load_31 g n S d (nI i) = some S' ∧ FLd S S' ∧ Rw S' 21 ((lxL lits 1).map nI) 0 ∧ Rw S' 18 (lxT lits).flatten 0 ∧ Rw S' 19 (endsC ([] :: lxT lits)) 0 ∧ gI S' 5 4 = nI (1 + (lxT lits).length) := by
  intro k
  induction k with
  | zero =>
    intro n i S hi hn w hk w21 w18 w19
    obtain ⟨n, rfl⟩ : ∃ m, n = m + 1 := ⟨n - 1, by omega⟩
    have hi : i = lits.length := by omega
    rw [hi, List.take_length] at w21 w18 w19
    have f : Fi 5 (· = 4) S (sI S 5 4 (nI (1 + (lxT lits).length))) := Fi.sI rfl
    refine ⟨sI S 5 4 (nI (1 + (lxT lits).length)), ?_, ⟨fun o k _ _ _ h => gI_ne h, rfl, rfl, fun _ _ _ _ => ⟨rfl, fun _ => rfl⟩, rfl⟩, w21.fi f (by decide), w18.fi f (by decide), w19.fi f (by decide), sI_g⟩
    show b_Tx_load_31 g (m_Tx_load_31 g n) S d (nI i) = _
    unfold b_Tx_load_31
    rw [w.2.2.2.1, endsC_len, if_pos (nI_le (by omega) (by omega)), w19.2.2.1, endsC_len, List.length_cons, lt_d, Nat.add_comm]
  | succ k ih =>
    intro n i S hi hn w hk w21 w18 w19
    obtain ⟨n, rfl⟩ : ∃ m, n = m + 1 := ⟨n - 1, by omega⟩
    have hil : i < lits.length := by omega
    obtain ⟨l, hl⟩ : ∃ l, lits[i]? = some l := ⟨lits[i], List.getElem?_eq_getElem hil⟩
    have hss := stC_succ hl
    have hsl := stC_le (cs := lits) (t := i + 1)
    have htk : lits.take (i + 1) = lits.take i ++ [l] := by rw [List.take_add_one, hl]; rfl
    have hb := lxT_b (a := lits.take i)
    have hfi : (lits.take i).flatten.length + l.length ≤ 3000 := by
      have : stC lits i = (lits.take i).flatten.length := rfl
      omega
    have eq : m_Tx_load_31 g (n + 1) S d (nI i) = b_Tx_load_31 g (m_Tx_load_31 g n) S d (nI i) := rfl
    unfold b_Tx_load_31 at eq
    rw [w.2.2.2.1, endsC_len, if_neg (nI_ge (by omega) (by omega)), C_lstart w (by omega) hL, Option.bind_some, R_at w.2, ends_at hil (by omega), Option.bind_some, hss] at eq
    have l21 : ((lxL (lits.take i) 1).map nI).length = i := by rw [List.length_map, lxL_n, List.length_take]; omega
    have lim21 : limC 21 = 24 := rfl
    have lim18 : limC 18 = 27000 := rfl
    have lim19 : limC 19 = 1465 := rfl
    by_cases q : l = []
    · subst q
      rw [if_pos (by rw [List.length_nil, Nat.add_zero])] at eq
      obtain ⟨S1, a1, a2, a3⟩ := R_add (g := g) (v := (0 : Int32)) w21 hk
      rw [lim21, if_pos (by omega), if_pos (by omega)] at a3
      unfold m_Tx_load_72 m_Tx_load_124 at eq
      rw [a1, Option.bind_some, lt_d, nI_1] at eq
      have f1 := FLd.fr a2 (by omega)
      obtain ⟨S', b1, b2, b3⟩ := ih n (i + 1) S1 (by omega) (by omega) (w.ld f1 hd) (hk.fr a2) (by rw [htk, lxL_c, if_pos rfl, List.map_append]; exact a3) (by rw [htk, lxT_c, if_pos rfl, List.append_nil]; exact w18.fr a2 (by decide)) (by rw [htk, lxT_c, if_pos rfl, List.append_nil]; exact w19.fr a2 (by decide))
      exact ⟨S', eq.trans b1, f1.tr b2, b3⟩
    · have hl0 : 0 < l.length := List.length_pos_iff.mpr q
      rw [if_neg (i_lit (by omega) (by omega) (by omega)), w19.2.2.1, endsC_len, List.length_cons] at eq
      obtain ⟨S1, a1, a2, a3⟩ := R_add (g := g) (v := nI ((lxT (lits.take i)).length + 1)) w21 hk
      rw [lim21, if_pos (by omega), if_pos (by omega)] at a3
      rw [a1, Option.bind_some] at eq
      unfold m_Tx_load_89 m_Tx_load_110 m_Tx_load_124 at eq
      have w18' := w18.fr a2 (by decide)
      have w' := w.ld (FLd.fr a2 (by omega)) hd
      obtain ⟨S3, b1, b2, b3⟩ := R_insert (g := g) (p := (lxT (lits.take i)).flatten.length) (s := stC lits i) (n := l.length) w18' w'.1 (by omega) (hk.fr a2) (Nat.le_refl _) (by omega)
      rw [lim18, if_pos (by omega), if_pos (by omega), segC hl, List.take_length, List.drop_length, List.append_nil] at b3
      rw [w18'.2.2.1, b1, Option.bind_some, b3.2.2.1, List.length_append] at eq
      have w19' := (w19.fr a2 (by decide)).fr b2 (by decide)
      obtain ⟨S5, c1, c2, c3⟩ := R_add (g := g) (v := nI ((lxT (lits.take i)).flatten.length + l.length)) w19' ((hk.fr a2).fr b2)
      have h19l : (endsC ([] :: lxT (lits.take i))).length < 1465 := by
        rw [endsC_len, List.length_cons]
        have := hb.1
        rw [List.length_take] at this
        omega
      rw [lim19, if_pos h19l, if_pos h19l] at c3
      rw [c1, Option.bind_some, lt_d, nI_1] at eq
      have f5 := ((FLd.fr a2 (by omega)).tr (FLd.fr b2 (by omega))).tr (FLd.fr c2 (by omega))
      obtain ⟨S', e1, e2, e3⟩ := ih n (i + 1) S5 (by omega) (by omega) (w.ld f5 hd) (hk.ld f5) (by
        rw [htk, lxL_c, if_neg q, List.map_append, Nat.add_comm]
        exact (a3.fr b2 (by decide)).fr c2 (by decide)) (by
        rw [htk, lxT_c, if_neg q, List.flatten_append, show ([l] : List (List Int32)).flatten = l from by simp]
        exact b3.fr c2 (by decide)) (by
        rw [htk, lxT_c, if_neg q, show ([] :: (lxT (lits.take i) ++ [l]) : List (List Int32)) = ([] :: lxT (lits.take i)) ++ [l] from rfl, ends_app, List.flatten_cons, List.nil_append]
        exact c3)
      exact ⟨S', eq.trans e1, f5.tr e2, e3⟩
theorem C_load {S : St} (hg : 100000 ≤ g) (hd : d = 1 ∨ d = 2) (hL : lits.length ≤ 24) (hfl : lits.flatten.length ≤ 3000) (w : LitsC S d lits) (hk : gOK S) (r18 : ∃ l ov, Rw S 18 l ov) (r19 : ∃ l ov, Rw S 19 l ov) (r21 : ∃ l ov, Rw S 21 l ov) : ∃ S', m_Tx_load g S d = some S' ∧ FLd S S' ∧ LoadC S' lits := by
  obtain ⟨l1, o1, r18⟩ := r18
  obtain ⟨l2, o2, r19⟩ := r19
  obtain ⟨l3, o3, r21⟩ := r21
  obtain ⟨S1, a1, a2, a3⟩ := R_clear (g := g) r18
  obtain ⟨S2, b1, b2, b3⟩ := R_clear (g := g) (r19.fr a2 (by decide))
  have k2 := (hk.fr a2).fr b2
  obtain ⟨S3, c1, c2, c3⟩ := R_add (g := g) (v := (0 : Int32)) b3 k2
  rw [show limC 19 = 1465 from rfl, if_pos (by decide), if_pos (by decide)] at c3
  obtain ⟨S4, d1, d2, d3⟩ := R_clear (g := g) (((r21.fr a2 (by decide)).fr b2 (by decide)).fr c2 (by decide))
  have f4 := (((FLd.fr a2 (by omega)).tr (FLd.fr b2 (by omega))).tr (FLd.fr c2 (by omega))).tr (FLd.fr d2 (by omega))
  obtain ⟨S', e1, e2, e3, e4, e5, e6⟩ := C_load31 hg hd hL hfl lits.length g 0 S4 (by omega) (by omega) (w.ld f4 hd) (hk.ld f4) d3 (((a3.fr b2 (by decide)).fr c2 (by decide)).fr d2 (by decide)) (c3.fr d2 (by decide))
  refine ⟨S', ?_, f4.tr e2, e3, e6, ⟨[], by rw [List.append_nil]; exact e4⟩, [], by rw [List.append_nil]; exact e5⟩
  unfold m_Tx_load m_Tx_load_22
  rw [a1, Option.bind_some, b1, Option.bind_some, c1, Option.bind_some, d1, Option.bind_some]
  exact e1
/-- the reference: only LITERALS of the program -/
def Fcl (S S' : St) : Prop := S'.1 = S.1 ∧ S'.2.1 = S.2.1 ∧ S'.2.2.1 = S.2.2.1 ∧ S'.2.2.2.1 = S.2.2.2.1 ∧ (∀ a i, ¬ (a = 12 ∧ i < 3000) → ¬ ((a = 13 ∨ a = 14) ∧ i < 24) → ¬ (a = 15 ∧ i = 0) → gF S' a i = gF S a i) ∧ S'.2.2.2.2.2 = S.2.2.2.2.2
theorem Fcl.rf {S : St} : Fcl S S := ⟨rfl, rfl, rfl, rfl, fun _ _ _ _ _ => rfl, rfl⟩
theorem Fcl.tr {S S1 S2 : St} (h1 : Fcl S S1) (h2 : Fcl S1 S2) : Fcl S S2 := ⟨h2.1.trans h1.1, h2.2.1.trans h1.2.1, h2.2.2.1.trans h1.2.2.1, h2.2.2.2.1.trans h1.2.2.2.1, fun a i x y z => (h2.2.2.2.2.1 a i x y z).trans (h1.2.2.2.2.1 a i x y z), h2.2.2.2.2.2.trans h1.2.2.2.2.2⟩
theorem Fcl.sF {S : St} {b j : Nat} {v : Int32} (h : (b = 12 ∧ j < 3000) ∨ ((b = 13 ∨ b = 14) ∧ j < 24) ∨ (b = 15 ∧ j = 0)) : Fcl S (sF S b j v) := ⟨rfl, rfl, rfl, rfl, fun a i x y z => by
  by_cases q : a = b
  · subst q
    exact gF_sFi (by rintro rfl; omega)
  · exact gF_ne q, rfl⟩
theorem M_153 {L : Nat} (hL : L ≤ 24) : ∀ (k n i : Nat) (S : St), i + k = L → k < n → LM S → gF S 15 1 = nI L → ∃ S', m_compile_153 g n S (nI i) = m_compile_205 g g S' 0 ∧ Fcl S S' ∧ (∀ j, i ≤ j → j < L → gF S' 13 j = gF S 13 (24 + j) - 3000 ∧ gF S' 14 j = gF S 14 (24 + j)) ∧ (∀ a j, a ≠ 13 → a ≠ 14 → gF S' a j = gF S a j) ∧ ∀ j, j < i → gF S' 13 j = gF S 13 j ∧ gF S' 14 j = gF S 14 j := by
  intro k
  induction k with
  | zero =>
    intro n i S hi hn hm h15
    obtain ⟨n, rfl⟩ : ∃ m, n = m + 1 := ⟨n - 1, by omega⟩
    have g15 : gN S 15 = 2 := LMn hm 15
    refine ⟨S, ?_, Fcl.rf, fun j h1 h2 => by omega, fun _ _ _ _ => rfl, fun _ _ => ⟨rfl, rfl⟩⟩
    show b_compile_153 g (m_compile_153 g n) S (nI i) = _
    unfold b_compile_153
    rw [show (1 : Int32) = nI 1 from rfl, aI_at (by omega) (by omega), h15, Option.bind_some, if_pos (nI_le (by omega) (by omega))]
  | succ k ih =>
    intro n i S hi hn hm h15
    obtain ⟨n, rfl⟩ : ∃ m, n = m + 1 := ⟨n - 1, by omega⟩
    have g15 : gN S 15 = 2 := LMn hm 15
    have g13 : gN S 13 = 48 := LMn hm 13
    have g14 : gN S 14 = 48 := LMn hm 14
    have eq : m_compile_153 g (n + 1) S (nI i) = b_compile_153 g (m_compile_153 g n) S (nI i) := rfl
    unfold b_compile_153 at eq
    rw [show aI S 15 (1 : Int32) = some (nI L) from by rw [show (1 : Int32) = nI 1 from rfl, aI_at (by omega) (by omega), h15], Option.bind_some, if_neg (nI_ge (by omega) (by omega)), show (24 : Int32) = nI 24 from rfl, nI_add, aI_at (S := S) (a := 13) (by omega) (by omega), Option.bind_some, tI_at (S := S) (a := 13) (by omega) (by omega), Option.bind_some, aI_at (S := sF S 13 i (gF S 13 (24 + i) - 3000)) (a := 14) (by show _ < gN S 14; omega) (by show gN S 14 < _; omega), Option.bind_some, gF_ne (by decide), tI_at (S := sF S 13 i (gF S 13 (24 + i) - 3000)) (a := 14) (by show _ < gN S 14; omega) (by show gN S 14 < _; omega), Option.bind_some, lt_d, nI_1] at eq
    have f1 : Fcl S (sF (sF S 13 i (gF S 13 (24 + i) - 3000)) 14 i (gF S 14 (24 + i))) := (Fcl.sF (by omega)).tr (Fcl.sF (by omega))
    obtain ⟨S', a1, a2, a3, a4, a5⟩ := ih n (i + 1) _ (by omega) (by omega) (hm.of f1.2.2.2.1) (by rw [gF_ne (by decide), gF_ne (by decide)]; exact h15)
    refine ⟨S', eq.trans a1, f1.tr a2, fun j h1 h2 => ?_, fun a j h1 h2 => by rw [a4 a j h1 h2, gF_ne h2, gF_ne h1], fun j hj => ?_⟩
    · by_cases q : j = i
      · subst q
        rw [(a5 j (by omega)).1, (a5 j (by omega)).2, gF_ne (by decide), gF_sF, gF_sF]
        exact ⟨rfl, rfl⟩
      · obtain ⟨z1, z2⟩ := a3 j (by omega) h2
        rw [z1, z2, gF_ne (by decide), gF_sFi (by omega), gF_sFi (by omega), gF_ne (by decide)]
        exact ⟨rfl, rfl⟩
    · rw [(a5 j (by omega)).1, (a5 j (by omega)).2, gF_ne (by decide), gF_sFi (by omega), gF_sFi (by omega), gF_ne (by decide)]
      exact ⟨rfl, rfl⟩
theorem M_205 : ∀ (k n i : Nat) (S : St), i + k = 3000 → k < n → LM S → ∃ S', m_compile_205 g n S (nI i) = (m_begin g (sI S' 0 12 1) 0).bind (fun S_11 => (aI S_11 11 (0 : Int32)).bind fun v_12 => some (S_11, v_12)) ∧ Fcl S S' ∧ (∀ j, i ≤ j → j < 3000 → gF S' 12 j = gF S 12 (3000 + j)) ∧ ∀ a j, ¬ (a = 12 ∧ i ≤ j ∧ j < 3000) → gF S' a j = gF S a j := by
  intro k
  induction k with
  | zero =>
    intro n i S hi hn hm
    obtain ⟨n, rfl⟩ : ∃ m, n = m + 1 := ⟨n - 1, by omega⟩
    refine ⟨S, ?_, Fcl.rf, fun j h1 h2 => by omega, fun _ _ _ => rfl⟩
    show b_compile_205 g (m_compile_205 g n) S (nI i) = _
    unfold b_compile_205
    rw [if_pos (show (3000 : Int32) ≤ nI i from nI_le (a := 3000) (by omega) (by omega)), lt_d]
  | succ k ih =>
    intro n i S hi hn hm
    obtain ⟨n, rfl⟩ : ∃ m, n = m + 1 := ⟨n - 1, by omega⟩
    have g12 : gN S 12 = 6000 := LMn hm 12
    have eq : m_compile_205 g (n + 1) S (nI i) = b_compile_205 g (m_compile_205 g n) S (nI i) := rfl
    unfold b_compile_205 at eq
    rw [if_neg (show ¬ (3000 : Int32) ≤ nI i from nI_ge (b := 3000) (by omega) (by omega)), show (3000 : Int32) = nI 3000 from rfl, nI_add, aI_at (by omega) (by omega), Option.bind_some, tI_at (by omega) (by omega), Option.bind_some, lt_d, nI_1] at eq
    have f1 : Fcl S (sF S 12 i (gF S 12 (3000 + i))) := Fcl.sF (by omega)
    obtain ⟨S', a1, a2, a3, a4⟩ := ih n (i + 1) _ (by omega) (by omega) (hm.of f1.2.2.2.1)
    refine ⟨S', eq.trans a1, f1.tr a2, fun j h1 h2 => ?_, fun a j h => ?_⟩
    · by_cases q : j = i
      · subst q
        rw [a4 12 j (by omega), gF_sF]
      · rw [a3 j (by omega) h2, gF_sFi (by omega)]
    · rw [a4 a j (by omega)]
      by_cases q : a = 12
      · subst q
        exact gF_sFi (by omega)
      · exact gF_ne q
end LDS
