/-! spelled: words and lines -/
theorem dgL_b : ∀ (f a k : Nat), a < 10 ^ (k + 1) → (dgL 10 f a).length ≤ k + 1 := by
  intro f
  induction f with
  | zero => intro a k _; exact Nat.zero_le _
  | succ f ih =>
    intro a k h
    unfold dgL
    rw [List.length_cons]
    by_cases q : a / 10 = 0
    · rw [if_pos q]
      simp
    · rw [if_neg q]
      cases k with
      | zero => omega
      | succ k =>
        have := ih (a / 10) k (by
          rw [Nat.pow_succ] at h
          omega)
        omega
theorem numU_20 {x : Int64} : (numU x 10).length ≤ 20 := by
  unfold numU
  rw [List.length_append, List.length_reverse, List.length_map]
  have h1 := Int64.toInt_lt x
  have h2 := Int64.le_toInt x
  have := dgL_b 64 x.toInt.natAbs 18 (by omega)
  by_cases q : x < 0
  · rw [if_pos q, List.length_singleton]
    omega
  · rw [if_neg q, List.length_nil]
    omega
/-- the letters of a name's code -/
def nmP (x : Int64) (j : Nat) : List Int32 := if ((x >>> ((nI (5 * j)).toInt64 &&& 63)) &&& (31 : Int64)).toInt32 ≤ 0 then [] else [(96 : Int32) + ((x >>> ((nI (5 * j)).toInt64 &&& 63)) &&& (31 : Int64)).toInt32]
def nmJ (x : Int64) : Nat → List Int32
  | 0 => nmP x 0
  | j + 1 => nmP x (j + 1) ++ nmJ x j
theorem nmJ_t0 : (List.range 28).all (fun s => decide (nmJ (knamesA.getD s 0) 6 = nmL s) && decide (nmJ (knamesB.getD s 0) 6 = nmL (28 + s))) = true := by decide +kernel
theorem nmJ_t {s : Nat} (hs : s < 28) : nmJ (knamesA.getD s 0) 6 = nmL s ∧ nmJ (knamesB.getD s 0) 6 = nmL (28 + s) := by
  have h := List.all_eq_true.mp nmJ_t0 s (List.mem_range.mpr hs)
  simp only [Bool.and_eq_true, decide_eq_true_eq] at h
  exact h
/-- the spelling of a word -/
def wS (lits : List (List Int32)) (w : Wd) : List Int32 := if w.1 = 3 then 34 :: (((lits.getD w.2.1.toInt.toNat []).map uS).flatten ++ [34]) else (if sgW w.1 = 32 then [] else [nI (sgW w.1)]) ++ ((if ckW w.1 = 48 then [] else [nI (ckW w.1)]) ++ numU w.2.1 10)
theorem fl_len : ∀ {l : List Int32}, ((l.map uS).flatten).length = llen l
  | [] => rfl
  | a :: l => by
    have ih := fl_len (l := l)
    unfold llen at *
    rw [List.map_cons, List.flatten_cons, List.length_append, List.map_cons, List.sum_cons, ih, uS_len]
theorem wS_len {lits : List (List Int32)} {w : Wd} : (wS lits w).length ≤ 22 + wlL lits w := by
  unfold wS wlL
  by_cases q : w.1 = 3
  · rw [if_pos q, if_pos q, List.length_cons, List.length_append, List.length_singleton, fl_len]
    omega
  · rw [if_neg q, if_neg q, List.length_append, List.length_append]
    have := numU_20 (x := w.2.1)
    have h1 : (if sgW w.1 = 32 then ([] : List Int32) else [nI (sgW w.1)]).length ≤ 1 := by
      by_cases z : sgW w.1 = 32
      · rw [if_pos z]; simp
      · rw [if_neg z]; simp
    have h2 : (if ckW w.1 = 48 then ([] : List Int32) else [nI (ckW w.1)]).length ≤ 1 := by
      by_cases z : ckW w.1 = 48
      · rw [if_pos z]; simp
      · rw [if_neg z]; simp
    omega
section SPW
variable {g p x : Nat} {S S2 : St} {l : List Int32} {lits : List (List Int32)} {P : Prg}
theorem C_name40 {k : Nat} {s : Nat} (hs : s < 56) : ∀ (c n i : Nat) (S : St) (l : List Int32), i + c = (nmL s).length → c < n → SayI S p x l → l.length + c < 90000 → ∃ S', m_Pg_spelledByte_40 g n S p (nI k) (spT.getD s 0) (nI i) = m_Pg_spelledByte_40 g (n - c) S' p (nI k) (spT.getD s 0) (nI (nmL s).length) ∧ Fsa p S S' ∧ SayI S' p x (l ++ (nmL s).drop i) := by
  have hL : (byT.getD (spT.getD s 0) []).length = (nmL s).length := by unfold nmL; rw [List.length_map]
  have h7 := nm_len s hs
  intro c
  induction c with
  | zero =>
    intro n i S l hi hn h hl
    refine ⟨S, by rw [show i = (nmL s).length by omega]; rfl, Fi.rf, ?_⟩
    rw [List.drop_of_length_le (by omega), List.append_nil]
    exact h
  | succ c ih =>
    intro n i S l hi hn h hl
    obtain ⟨n, rfl⟩ : ∃ m, n = m + 1 := ⟨n - 1, by omega⟩
    have eq : m_Pg_spelledByte_40 g (n + 1) S p (nI k) (spT.getD s 0) (nI i) = b_Pg_spelledByte_40 g (m_Pg_spelledByte_40 g n) S p (nI k) (spT.getD s 0) (nI i) := rfl
    unfold b_Pg_spelledByte_40 at eq
    obtain ⟨S1, a1, a2, a3⟩ := C_say (g := g) (u := (nmL s).getD i 0) h (by omega)
    rw [show sLen (spT.getD s 0) = nI (nmL s).length from by unfold sLen; rw [hL], if_neg (nI_ge (by omega) (by omega)), (nm_get (s := s) (z := i) (by omega)).resolve_right (by omega), Option.bind_some, a1, Option.bind_some, lt_d, nI_1] at eq
    obtain ⟨S', b1, b2, b3⟩ := ih n (i + 1) S1 _ (by omega) (by omega) a3 (by simp; omega)
    refine ⟨S', eq.trans (b1.trans (by rw [show n + 1 - (c + 1) = n - c by omega])), a2.tr b2, ?_⟩
    rw [List.append_assoc, List.singleton_append] at b3
    have e : (nmL s).drop i = (nmL s).getD i 0 :: (nmL s).drop (i + 1) := by
      rw [List.drop_eq_getElem_cons (show i < (nmL s).length by omega), List.getD_eq_getElem?_getD, List.getElem?_eq_getElem (show i < (nmL s).length by omega)]
      rfl
    rw [e]
    exact b3
theorem M_name29 {y : Int64} : ∀ (j n : Nat) (S2 : St) (l : List Int32), j ≤ 6 → j + 1 < n → LayI S2 l → LM S2 → l.length + j + 1 < 6500 → ∃ S', m_layName_29 g n S2 y (nI (5 * j)) = some S' ∧ FLy S2 S' ∧ LayI S' (l ++ nmJ y j) := by
  have one : ∀ (j n : Nat) (S2 : St) (l : List Int32), j ≤ 6 → LayI S2 l → LM S2 → l.length < 6500 → ∃ S', m_layName_29 g (n + 1) S2 y (nI (5 * j)) = m_layName_29 g n S' y (nI (5 * j) + (-5 : Int32)) ∧ FLy S2 S' ∧ LayI S' (l ++ nmP y j) := by
    intro j n S2 l hj h hm hl
    have eq : m_layName_29 g (n + 1) S2 y (nI (5 * j)) = b_layName_29 g (m_layName_29 g n) S2 y (nI (5 * j)) := rfl
    unfold b_layName_29 at eq
    rw [if_neg (nI_pos (by omega)), lt_d] at eq
    unfold nmP
    by_cases q : ((y >>> ((nI (5 * j)).toInt64 &&& 63)) &&& (31 : Int64)).toInt32 ≤ 0
    · rw [if_pos q, lt_d] at eq
      rw [if_pos q, List.append_nil]
      exact ⟨S2, eq, FLy.rf, h⟩
    · obtain ⟨S', a1, a2, a3⟩ := M_lay (g := g) (u := (96 : Int32) + ((y >>> ((nI (5 * j)).toInt64 &&& 63)) &&& (31 : Int64)).toInt32) h hm hl
      rw [if_neg q, a1, Option.bind_some, lt_d] at eq
      rw [if_neg q]
      exact ⟨S', eq, a2, a3⟩
  intro j
  induction j with
  | zero =>
    intro n S2 l hj hn h hm hl
    obtain ⟨n, rfl⟩ : ∃ m, n = m + 2 := ⟨n - 2, by omega⟩
    obtain ⟨S', a1, a2, a3⟩ := one 0 (n + 1) S2 l (by omega) h hm (by omega)
    refine ⟨S', a1.trans ?_, a2, a3⟩
    show b_layName_29 g (m_layName_29 g n) S' y (nI (5 * 0) + (-5 : Int32)) = _
    unfold b_layName_29
    rw [if_pos (by decide)]
  | succ j ih =>
    intro n S2 l hj hn h hm hl
    obtain ⟨n, rfl⟩ : ∃ m, n = m + 1 := ⟨n - 1, by omega⟩
    obtain ⟨S1, a1, a2, a3⟩ := one (j + 1) n S2 l hj h hm (by omega)
    have e : nI (5 * (j + 1)) + (-5 : Int32) = nI (5 * j) := by
      have : ∀ j, j < 6 → nI (5 * (j + 1)) + (-5 : Int32) = nI (5 * j) := by decide +kernel
      exact this j (by omega)
    rw [e] at a1
    have hp : (nmP y (j + 1)).length ≤ 1 := by
      unfold nmP
      by_cases q : ((y >>> ((nI (5 * (j + 1))).toInt64 &&& 63)) &&& (31 : Int64)).toInt32 ≤ 0
      · rw [if_pos q]; simp
      · rw [if_neg q]; simp
    obtain ⟨S', b1, b2, b3⟩ := ih n S1 _ (by omega) (by omega) a3 (hm.ly a2) (by rw [List.length_append]; omega)
    exact ⟨S', a1.trans b1, a2.tr b2, by rw [List.append_assoc] at b3; exact b3⟩
theorem M_nameL {s : Nat} (hs : s < 56) (hg : 100000 ≤ g) (h : LayI S2 []) (hm : LM S2) (tb : TabM S2) : ∃ S', m_layName g S2 (nI s) = some S' ∧ FLy S2 S' ∧ LayI S' (nmL s) := by
  have h1 : gN S2 1 = 28 := LMn hm 1
  have h2 : gN S2 2 = 28 := LMn hm 2
  unfold m_layName
  by_cases q : 28 ≤ s
  · rw [if_pos (show (28 : Int32) ≤ nI s from nI_le (a := 28) q (by omega)), show nI s - (28 : Int32) = nI (s - 28) from nI_sub (b := 28) q, aJ_at (by omega) (by omega), Option.bind_some, tb.2.2.2]
    obtain ⟨S', a1, a2, a3⟩ := M_name29 (g := g) (y := knamesB.getD (s - 28) 0) 6 g S2 [] (by omega) (by omega) h hm (by simp)
    rw [List.nil_append, (nmJ_t (s := s - 28) (by omega)).2, show 28 + (s - 28) = s by omega] at a3
    exact ⟨S', a1, a2, a3⟩
  · rw [if_neg (show ¬ (28 : Int32) ≤ nI s from nI_ge (b := 28) (by omega) (by omega)), aJ_at (by omega) (by omega), Option.bind_some, tb.2.2.1]
    obtain ⟨S', a1, a2, a3⟩ := M_name29 (g := g) (y := knamesA.getD s 0) 6 g S2 [] (by omega) (by omega) h hm (by simp)
    rw [List.nil_append, (nmJ_t (s := s) (by omega)).1] at a3
    exact ⟨S', a1, a2, a3⟩
theorem C_num90 {v : List Int32} : ∀ (c n i : Nat) (S : St) (l : List Int32), i + c = v.length → c < n → (p = 1 ∨ p = 2) → Rw S (8 + 3 * p + 2) v 0 → SayI S p x l → l.length + c < 90000 → ∃ S', m_Pg_sayWord_90 g n S p (nI i) = some S' ∧ Fsa p S S' ∧ SayI S' p x (l ++ v.drop i) ∧ Rw S' (8 + 3 * p + 2) v 0 := by
  intro c
  induction c with
  | zero =>
    intro n i S l hi hn hp w h hl
    obtain ⟨n, rfl⟩ : ∃ m, n = m + 1 := ⟨n - 1, by omega⟩
    have hb := lim_b (8 + 3 * p + 2) (by omega) (by omega)
    have hv : v.length ≤ limC (8 + 3 * p + 2) := w.2.2.2.2.1
    refine ⟨S, ?_, Fi.rf, by rw [List.drop_of_length_le (by omega), List.append_nil]; exact h, w⟩
    show b_Pg_sayWord_90 g (m_Pg_sayWord_90 g n) S p (nI i) = _
    unfold b_Pg_sayWord_90
    rw [w.2.2.1, if_pos (nI_le (by omega) (by omega))]
  | succ c ih =>
    intro n i S l hi hn hp w h hl
    obtain ⟨n, rfl⟩ : ∃ m, n = m + 1 := ⟨n - 1, by omega⟩
    have hb := lim_b (8 + 3 * p + 2) (by omega) (by omega)
    have hv : v.length ≤ limC (8 + 3 * p + 2) := w.2.2.2.2.1
    have eq : m_Pg_sayWord_90 g (n + 1) S p (nI i) = b_Pg_sayWord_90 g (m_Pg_sayWord_90 g n) S p (nI i) := rfl
    unfold b_Pg_sayWord_90 at eq
    obtain ⟨S1, a1, a2, a3⟩ := C_say (g := g) (u := v.getD i (-1)) h (by omega)
    have w1 : Rw S1 (8 + 3 * p + 2) v 0 := by
      obtain ⟨w0, w1, w2, w3, w4, w5, w6, w7, w8⟩ := w
      have F : ∀ k, gI S1 (8 + 3 * p + 2) k = gI S (8 + 3 * p + 2) k := by
        intro k
        unfold m_Pg_say at a1
        by_cases z : gI S p 13 = 0
        · rw [if_pos z, lt_d, lt_d] at a1
          rw [← Option.some.inj a1, gI_ne (by omega), gI_ne (by omega)]
        · rw [if_neg z, lt_d] at a1
          rw [← Option.some.inj a1, gI_ne (by omega)]
      have A : S1.2 = S.2 := by
        unfold m_Pg_say at a1
        by_cases z : gI S p 13 = 0
        · rw [if_pos z, lt_d, lt_d] at a1
          rw [← Option.some.inj a1]; rfl
        · rw [if_neg z, lt_d] at a1
          rw [← Option.some.inj a1]; rfl
      unfold Rw
      rw [F, F, F, show gN S1 (8 + 3 * p + 2 + 24) = gN S (8 + 3 * p + 2 + 24) from by unfold gN; rw [A]]
      exact ⟨w0, w1, w2, w3, w4, w5, w6, w7, fun i hi => by rw [show gF S1 (8 + 3 * p + 2 + 24) i = gF S (8 + 3 * p + 2 + 24) i from by unfold gF; rw [A]]; exact w8 i hi⟩
    rw [w.2.2.1, if_neg (nI_ge (by omega) (by omega)), R_at w, atR_nI (by omega), Option.bind_some, a1, Option.bind_some, lt_d, nI_1] at eq
    obtain ⟨S', b1, b2, b3, b4⟩ := ih n (i + 1) S1 _ (by omega) (by omega) hp w1 a3 (by simp; omega)
    refine ⟨S', eq.trans b1, a2.tr b2, ?_, b4⟩
    rw [List.append_assoc, List.singleton_append] at b3
    have e : v.drop i = v.getD i (-1) :: v.drop (i + 1) := by
      rw [List.drop_eq_getElem_cons (show i < v.length by omega), List.getD_eq_getElem?_getD, List.getElem?_eq_getElem (show i < v.length by omega)]
      rfl
    rw [e]
    exact b3
theorem M_num14 {v : List Int32} : ∀ (c n i : Nat) (S2 : St) (l : List Int32), i + c = v.length → c < n → v.length ≤ 100 → LM S2 → Out S2 v → LayI S2 l → l.length + c ≤ 6500 → ∃ S', m_layNumber_14 g n S2 (nI i) = some S' ∧ FLy S2 S' ∧ LayI S' (l ++ v.drop i) := by
  intro c
  induction c with
  | zero =>
    intro n i S2 l hi hn hv hm o h hl
    obtain ⟨n, rfl⟩ : ∃ m, n = m + 1 := ⟨n - 1, by omega⟩
    refine ⟨S2, ?_, FLy.rf, by rw [List.drop_of_length_le (by omega), List.append_nil]; exact h⟩
    show b_layNumber_14 g (m_layNumber_14 g n) S2 (nI i) = _
    unfold b_layNumber_14
    rw [o.1, if_pos (nI_le (by omega) (by omega))]
  | succ c ih =>
    intro n i S2 l hi hn hv hm o h hl
    obtain ⟨n, rfl⟩ : ∃ m, n = m + 1 := ⟨n - 1, by omega⟩
    have h34 : gN S2 34 = 600 := LMn hm 34
    have eq : m_layNumber_14 g (n + 1) S2 (nI i) = b_layNumber_14 g (m_layNumber_14 g n) S2 (nI i) := rfl
    unfold b_layNumber_14 at eq
    obtain ⟨h1, h2⟩ := id h
    have h40 : gN S2 40 = 6500 := LMn hm 40
    have e1 : m_lay g S2 (v.getD i 0) = some (sI (sF S2 40 l.length (v.getD i 0)) 0 67 (nI (l.length + 1))) := by
      unfold m_lay
      rw [h1, tI_at (by omega) (by omega), Option.bind_some, lt_d, show gI (sF S2 40 l.length (v.getD i 0)) 0 67 = nI l.length from h1, nI_1]
    obtain ⟨S1, a1, a2, a3⟩ := M_lay (g := g) (u := v.getD i 0) h hm (by omega)
    have eS : S1 = sI (sF S2 40 l.length (v.getD i 0)) 0 67 (nI (l.length + 1)) := Option.some.inj (a1.symm.trans e1)
    have o1 : Out S1 v := by
      rw [eS]
      refine ⟨by rw [gI_ne (by omega)]; exact o.1, fun j hj hj2 => ?_⟩
      show gF (sF S2 40 l.length (v.getD i 0)) 34 j = _
      rw [gF_ne (by decide)]
      exact o.2 j hj hj2
    rw [o.1, if_neg (nI_ge (by omega) (by omega)), aI_at (S := S2) (a := 34) (by omega) (by omega), Option.bind_some, o.2 i (by omega) (by omega), a1, Option.bind_some, lt_d, nI_1] at eq
    obtain ⟨S', b1, b2, b3⟩ := ih n (i + 1) S1 _ (by omega) (by omega) hv (hm.ly a2) o1 a3 (by simp; omega)
    refine ⟨S', eq.trans b1, a2.tr b2, ?_⟩
    rw [List.append_assoc, List.singleton_append] at b3
    have e : v.drop i = v.getD i 0 :: v.drop (i + 1) := by
      rw [List.drop_eq_getElem_cons (show i < v.length by omega), List.getD_eq_getElem?_getD, List.getElem?_eq_getElem (show i < v.length by omega)]
      rfl
    rw [e]
    exact b3
theorem C_lit21 {f : Nat} {us : List Int32} : ∀ (c n i : Nat) (S : St) (l : List Int32), i + c = us.length → c < n → (p = 1 ∨ p = 2) → lits.flatten.length ≤ 3000 → f + us.length ≤ lits.flatten.length → (∀ j, j < us.length → lits.flatten.getD (f + j) (-1) = us.getD j 0) → Rw S (8 + 3 * p + 0) lits.flatten 0 → SayI S p x l → l.length + 6 * c < 80000 → 100000 ≤ g → ∃ S', m_Pg_sayLiteral_21 g n S p (nI (f + us.length)) (nI (f + i)) = some S' ∧ Fsa p S S' ∧ SayI S' p x (l ++ (((us.drop i).map uS).flatten ++ [34])) := by
  intro c
  induction c with
  | zero =>
    intro n i S l hi hn hp hf hfl hu w h hl hg
    obtain ⟨n, rfl⟩ : ∃ m, n = m + 1 := ⟨n - 1, by omega⟩
    obtain ⟨S1, a1, a2, a3⟩ := C_say (g := g) (u := 34) h (by omega)
    refine ⟨S1, ?_, a2, by rw [List.drop_of_length_le (by omega)]; exact a3⟩
    show b_Pg_sayLiteral_21 g (m_Pg_sayLiteral_21 g n) S p _ _ = _
    unfold b_Pg_sayLiteral_21
    rw [if_pos (nI_le (by omega) (by omega)), a1, Option.bind_some]
  | succ c ih =>
    intro n i S l hi hn hp hf hfl hu w h hl hg
    obtain ⟨n, rfl⟩ : ∃ m, n = m + 1 := ⟨n - 1, by omega⟩
    obtain ⟨S1, a1, a2, a3⟩ := C_sUnit (g := g) (u := us.getD i 0) h (by omega) hg
    have eq : m_Pg_sayLiteral_21 g (n + 1) S p (nI (f + us.length)) (nI (f + i)) = b_Pg_sayLiteral_21 g (m_Pg_sayLiteral_21 g n) S p (nI (f + us.length)) (nI (f + i)) := rfl
    unfold b_Pg_sayLiteral_21 at eq
    rw [if_neg (nI_ge (by omega) (by omega)), R_at w, atR_nI (by omega), hu i (by omega), Option.bind_some, a1, Option.bind_some, lt_d, nI_1] at eq
    have hU : (uS (us.getD i 0)).length ≤ 6 := by rw [uS_len]; exact ulen_6
    obtain ⟨S', b1, b2, b3⟩ := ih n (i + 1) S1 _ (by omega) (by omega) hp hf hfl hu (w.fi a2 (by omega)) a3 (by rw [List.length_append]; omega) hg
    refine ⟨S', eq.trans b1, a2.tr b2, ?_⟩
    rw [List.append_assoc, ← List.append_assoc (uS _)] at b3
    have e : us.drop i = us.getD i 0 :: us.drop (i + 1) := by
      rw [List.drop_eq_getElem_cons (show i < us.length by omega), List.getD_eq_getElem?_getD, List.getElem?_eq_getElem (show i < us.length by omega)]
      rfl
    rw [e, List.map_cons, List.flatten_cons]
    exact b3
theorem M_lit29 {m : Nat} {us : List Int32} : ∀ (c n i : Nat) (S2 : St) (l : List Int32), i + c = us.length → c < n → LitM S2 lits → LM S2 → lits[m]? = some us → LayI S2 l → l.length + llen (us.drop i) + 1 ≤ 6500 → 100000 ≤ g → ∃ S', m_layWord_29 g n S2 (nI m) (nI i) = some S' ∧ FLy S2 S' ∧ LayI S' (l ++ (((us.drop i).map uS).flatten ++ [34])) := by
  intro c
  induction c with
  | zero =>
    intro n i S2 l hi hn lm hm hu h hl hg
    obtain ⟨n, rfl⟩ : ∃ m, n = m + 1 := ⟨n - 1, by omega⟩
    obtain ⟨z1, f, z2, z3, z4, z5⟩ := lm.2.2.2 m us hu
    have hml := (List.getElem?_eq_some_iff.mp hu).1
    have h24 := lm.2.1
    have h14 : gN S2 14 = 48 := LMn hm 14
    obtain ⟨S1, a1, a2, a3⟩ := M_lay (g := g) (u := 34) h hm (by omega)
    refine ⟨S1, ?_, a2, by rw [List.drop_of_length_le (by omega)]; exact a3⟩
    show b_layWord_29 g (m_layWord_29 g n) S2 _ _ = _
    unfold b_layWord_29
    rw [aI_at (S := S2) (a := 14) (by omega) (by omega), Option.bind_some, z4, if_pos (nI_le (by omega) (by omega)), a1, Option.bind_some]
  | succ c ih =>
    intro n i S2 l hi hn lm hm hu h hl hg
    obtain ⟨n, rfl⟩ : ∃ m, n = m + 1 := ⟨n - 1, by omega⟩
    obtain ⟨z1, f, z2, z3, z4, z5⟩ := lm.2.2.2 m us hu
    have hml := (List.getElem?_eq_some_iff.mp hu).1
    have h24 := lm.2.1
    have h14 : gN S2 14 = 48 := LMn hm 14
    have h13 : gN S2 13 = 48 := LMn hm 13
    have h12 : gN S2 12 = 6000 := LMn hm 12
    have e : us.drop i = us.getD i 0 :: us.drop (i + 1) := by
      rw [List.drop_eq_getElem_cons (show i < us.length by omega), List.getD_eq_getElem?_getD, List.getElem?_eq_getElem (show i < us.length by omega)]
      rfl
    have el : llen (us.drop i) = ulen (us.getD i 0) + llen (us.drop (i + 1)) := by
      rw [e]
      unfold llen
      rw [List.map_cons, List.sum_cons]
    obtain ⟨S1, a1, a2, a3⟩ := M_lUnit (g := g) (u := us.getD i 0) h hm (by omega) hg
    have eq : m_layWord_29 g (n + 1) S2 (nI m) (nI i) = b_layWord_29 g (m_layWord_29 g n) S2 (nI m) (nI i) := rfl
    unfold b_layWord_29 at eq
    rw [aI_at (S := S2) (a := 14) (by omega) (by omega), Option.bind_some, z4, if_neg (nI_ge (by omega) (by omega)), aI_at (S := S2) (a := 13) (by omega) (by omega), Option.bind_some, z3, nI_add, aI_at (S := S2) (a := 12) (by omega) (by omega), Option.bind_some, z5 i (by omega), a1, Option.bind_some, lt_d, nI_1] at eq
    obtain ⟨S', b1, b2, b3⟩ := ih n (i + 1) S1 _ (by omega) (by omega) (lm.z (FZm.ly a2)) (hm.ly a2) hu a3 (by rw [List.length_append, uS_len]; omega) hg
    refine ⟨S', eq.trans b1, a2.tr b2, ?_⟩
    rw [List.append_assoc, ← List.append_assoc (uS _)] at b3
    rw [e, List.map_cons, List.flatten_cons]
    exact b3
end SPW
