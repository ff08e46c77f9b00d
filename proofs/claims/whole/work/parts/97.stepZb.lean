/-! the STEPS: split, lines -/
section SPL
variable {g : Nat} {xs : List (Nat × Nat)}
theorem CutOK.app {N s e : Nat} (h : CutOK N xs) (h1 : s ≤ e) (h2 : e ≤ N) : CutOK N (xs ++ [(s, e)]) := by
  intro c hc
  rcases List.mem_append.mp hc with hc | hc
  · exact h c hc
  · rw [List.mem_singleton] at hc
    subst hc
    exact ⟨h1, h2⟩
theorem CutOK.take {N n : Nat} (h : CutOK N xs) : CutOK N (xs.take n) := fun c hc => h c (List.mem_of_mem_take hc)
theorem drp_l {S : St} {N : Nat} (hN : N ≤ 400) (hok : CutOK N xs) (wc : CutC S xs) (hx : xs.length ≤ 401) : ∀ (m n1 n2 : Nat) (T : St), m ≤ xs.length → m < n1 → m < n2 → CutM T (xs.take m) → LM T → ∃ m' T', m' ≤ m ∧ m_TS_dropEmptyCuts_8 g n1 S (nI m) = m_TS_dropEmptyCuts_41 g S (nI m') ∧ m_splits_128 g n2 T 0 1 = some T' ∧ CutM T' (xs.take m') ∧ F0M T T' ∧ gI T' 0 58 = gI T 0 58 := by
  intro m
  induction m with
  | zero =>
    intro n1 n2 T hm h1 h2 wm hl
    obtain ⟨n1, rfl⟩ : ∃ m, n1 = m + 1 := ⟨n1 - 1, by omega⟩
    obtain ⟨n2, rfl⟩ : ∃ m, n2 = m + 1 := ⟨n2 - 1, by omega⟩
    refine ⟨0, T, Nat.le_refl _, ?_, ?_, wm, F0M.rf, rfl⟩
    · show b_TS_dropEmptyCuts_8 g (m_TS_dropEmptyCuts_8 g n1) S _ = _
      unfold b_TS_dropEmptyCuts_8
      rw [if_pos (by decide)]
    · show b_splits_128 g (m_splits_128 g n2) T _ _ = _
      unfold b_splits_128
      rw [if_pos rfl, if_neg (by decide), wm.1, if_pos (by simp; decide)]
  | succ m ih =>
    intro n1 n2 T hm h1 h2 wm hl
    obtain ⟨n1, rfl⟩ : ∃ m, n1 = m + 1 := ⟨n1 - 1, by omega⟩
    obtain ⟨n2, rfl⟩ : ∃ m, n2 = m + 1 := ⟨n2 - 1, by omega⟩
    have hlt : m < xs.length := by omega
    have hci : xs[m]? = some xs[m] := List.getElem?_eq_getElem hlt
    have hb := hok xs[m] (List.getElem_mem hlt)
    have htl : (xs.take (m + 1)).length = m + 1 := by rw [List.length_take]; omega
    have hct : (xs.take (m + 1))[m]? = some xs[m] := by rw [List.getElem?_take_of_lt (by omega)]; exact hci
    have ew := wm.2 m _ hct
    have h38 : 401 ≤ gN T 38 ∧ gN T 38 < 2 ^ 31 := by rw [LMn hl 38]; decide +kernel
    have h39 : 401 ≤ gN T 39 ∧ gN T 39 < 2 ^ 31 := by rw [LMn hl 39]; decide +kernel
    have e1 : m_Row_at g S 30 (nI m) = some (nI (xs[m]).1) := by
      rw [R_at wc.1, atR_nI (by omega), List.getD_eq_getElem?_getD, List.getElem?_map, hci]
      rfl
    have e2 : m_Row_at g S 31 (nI m) = some (nI (xs[m]).2) := by
      rw [R_at wc.2, atR_nI (by omega), List.getD_eq_getElem?_getD, List.getElem?_map, hci]
      rfl
    have eC : m_TS_dropEmptyCuts_8 g (n1 + 1) S (nI (m + 1)) = if nI (xs[m]).1 = nI (xs[m]).2 then m_TS_dropEmptyCuts_8 g n1 S (nI m) else m_TS_dropEmptyCuts_41 g S (nI (m + 1)) := by
      show b_TS_dropEmptyCuts_8 g (m_TS_dropEmptyCuts_8 g n1) S _ = _
      unfold b_TS_dropEmptyCuts_8
      rw [if_neg (nI_nle (by omega) (by omega)), nI_pred, e1, Option.bind_some, e2, Option.bind_some, lt_d, nI_dn]
    have eM : m_splits_128 g (n2 + 1) T 0 1 = if nI (xs[m]).1 = nI (xs[m]).2 then m_splits_128 g n2 (sI T 0 65 (nI m)) 0 1 else some T := by
      show b_splits_128 g (m_splits_128 g n2) T _ _ = _
      unfold b_splits_128
      rw [if_pos rfl, if_neg (by decide), wm.1, htl, if_neg (nI_nle (by omega) (by omega)), nI_pred, aI_at (by omega) (by omega), ew.1, Option.bind_some, aI_at (by omega) (by omega), ew.2, Option.bind_some, lt_d]
    by_cases hq : (xs[m]).1 = (xs[m]).2
    · rw [if_pos (by rw [hq])] at eC eM
      have wm' : CutM (sI T 0 65 (nI m)) (xs.take m) := by
        refine ⟨by rw [sI_g, List.length_take, Nat.min_eq_left (by omega)], fun i c hc => ?_⟩
        have hi := (List.getElem?_eq_some_iff.mp hc).1
        rw [List.length_take] at hi
        exact wm.2 i c (by rw [List.getElem?_take_of_lt (by omega)]; rw [List.getElem?_take_of_lt (by omega)] at hc; exact hc)
      obtain ⟨m', T', a1, a2, a3, a4, a5, a6⟩ := ih n1 n2 (sI T 0 65 (nI m)) (by omega) (by omega) (by omega) wm' hl
      exact ⟨m', T', by omega, eC.trans a2, eM.trans a3, a4, (F0M_sI (by omega)).tr a5, a6.trans (gI_ne (by decide))⟩
    · rw [if_neg (i_lit (by omega) (by omega) hq)] at eC eM
      exact ⟨m + 1, T, Nat.le_refl _, eC, eM, wm, F0M.rf, rfl⟩
theorem C_drop {S : St} {m' : Nat} (wc : CutC S xs) (h23 : ∃ l ov, Rw S 23 l ov) (hm : m' < 2 ^ 31) : ∃ S', m_TS_dropEmptyCuts_41 g S (nI m') = some S' ∧ F0C S S' ∧ XR S' ∧ CutC S' (xs.take m') := by
  obtain ⟨S1, a1, a2, a3⟩ := R_shorten (g := g) (n := m') wc.1 hm
  obtain ⟨S3, b1, b2, b3⟩ := R_shorten (g := g) (n := m') (wc.2.fr a2 (by decide)) hm
  obtain ⟨l, ov, h23⟩ := h23
  have a4 := a3.fr b2 (by decide)
  refine ⟨S3, ?_, (F0C.fr a2 (Or.inr (Or.inl rfl))).tr (F0C.fr b2 (Or.inr (Or.inr rfl))), ⟨⟨l, ov, (h23.fr a2 (by decide)).fr b2 (by decide)⟩, ⟨_, _, a4⟩, _, _, b3⟩, ?_, ?_⟩
  · unfold m_TS_dropEmptyCuts_41
    rw [a1, Option.bind_some, b1]
    rfl
  · rw [List.map_take]; exact a4
  · rw [List.map_take]; exact b3
end SPL
section SPLL
variable {U : Nat → Prop} {g p q : Nat} {S0 S20 : St} {φ : Nat → Option Nat} {cs ts : List (List Int32)} {u : Nat} {pl pm ps qs : List Nat} {l : List Int32} {A B : Int64}
theorem spl_l (r0 : RS U S0 S20 φ cs ts u pl pm ps qs) (l1 : cs[p]? = some l) (l2 : ts[q]? = some l) (l3 : l.length ≤ 400) (hg : 100000 ≤ g) : ∀ (kk n1 n2 i s : Nat) (S S2 : St) (xs : List (Nat × Nat)), i + kk = l.length → kk < n1 → kk < n2 → s ≤ i → F0C S0 S → XR S → F0M S20 S2 → gI S2 0 58 = 0 → CutC S xs → CutM S2 xs → CutOK l.length xs → cutL xs ≤ s → xs.length ≤ i → (0 < B.toInt → (xs.length : Int) ≤ B.toInt - 1) → ∃ S' T' xs', m_TS_split_58 g n1 S (nI p) A B (nI s) (nI l.length) (nI i) = m_TS_takeParts g S' (nI p) ∧ m_splits_35 g n2 S2 (nI q) A B (nI s) (nI i) = some T' ∧ F0C S0 S' ∧ XR S' ∧ F0M S20 T' ∧ gI T' 0 58 = 0 ∧ CutC S' xs' ∧ CutM T' xs' ∧ CutOK l.length xs' ∧ cutL xs' ≤ 400 ∧ xs'.length ≤ 401 := by
  intro kk
  induction kk with
  | zero =>
    intro n1 n2 i s S S2 xs hi h1 h2 hs fc hx fm h0 wc wm ok hcl hxl hB
    obtain ⟨n1, rfl⟩ : ∃ m, n1 = m + 1 := ⟨n1 - 1, by omega⟩
    obtain ⟨n2, rfl⟩ : ∃ m, n2 = m + 1 := ⟨n2 - 1, by omega⟩
    have r := RS_0 r0 fc hx fm
    have hi : i = l.length := by omega
    subst hi
    obtain ⟨S7, a1, a2, a3, a4, a5, -⟩ := C_cut (g := g) (s := s) (e := l.length) wc r.1 hx.1 (by omega)
    obtain ⟨T7, b1, b2, b3, b4⟩ := M_slice (g := g) (s := s) (e := l.length) wm r.2.2.1 (by omega)
    have ok7 := ok.app hs (Nat.le_refl _)
    have hcl7 : cutL (xs ++ [(s, l.length)]) ≤ 400 := by
      rw [cutL_app]
      show cutL xs + (l.length - s + 0) ≤ 400
      omega
    have hln7 : (xs ++ [(s, l.length)]).length = xs.length + 1 := by simp
    have eC : ∀ y0 : Int32, m_TS_split_151 g S (nI p) B (nI s) (nI l.length) y0 = m_TS_split_161 g S7 (nI p) B y0 := by
      intro y0
      unfold m_TS_split_151
      rw [a1, Option.bind_some]
    have eM : ∀ y0 : Int32, m_splits_114 g S2 (nI q) B (nI s) y0 = m_splits_128 g g T7 B y0 := by
      intro y0
      unfold m_splits_114
      rw [(T_size r.2.2.2.1.2.1 r.2.2.1 l2).1, Option.bind_some, b1, Option.bind_some]
    have hC : m_TS_split_58 g (n1 + 1) S (nI p) A B (nI s) (nI l.length) (nI l.length) = m_TS_split_161 g S7 (nI p) B (c01 (xs ≠ [])) := by
      show b_TS_split_58 g (m_TS_split_58 g n1) S _ _ _ _ _ _ = _
      unfold b_TS_split_58
      rw [if_pos (nI_le (by omega) (by omega)), eC, eC, wc.1.2.2.1, List.length_map]
      by_cases hz : xs = []
      · subst hz
        rw [if_pos (by decide), c01_f (fun z => z rfl)]
      · rw [if_neg (nI_nle (by cases xs with
          | nil => exact absurd rfl hz
          | cons a b => simp) (by omega)), c01_t hz]
    have hM : m_splits_35 g (n2 + 1) S2 (nI q) A B (nI s) (nI l.length) = m_splits_128 g g T7 B (c01 (xs ≠ [])) := by
      show b_splits_35 g (m_splits_35 g n2) S2 _ _ _ _ _ = _
      unfold b_splits_35
      rw [(T_size r.2.2.2.1.2.1 r.2.2.1 l2).1, Option.bind_some, if_pos (nI_le (by omega) (by omega)), eM, eM, wm.1]
      by_cases hz : xs = []
      · subst hz
        rw [if_pos (by decide), c01_f (fun z => z rfl)]
      · rw [if_neg (nI_nle (by cases xs with
          | nil => exact absurd rfl hz
          | cons a b => simp) (by omega)), c01_t hz]
    obtain ⟨g', hg'⟩ : ∃ g', g = g' + 1 := ⟨g - 1, by omega⟩
    have e177 : ∀ S9, m_TS_split_177 g S9 (nI p) = m_TS_takeParts g S9 (nI p) := by
      intro S9
      unfold m_TS_split_177 m_TS_split_182
      rw [bS2]
    by_cases hd : B = 0 ∧ xs ≠ []
    · obtain ⟨rfl, hne⟩ := hd
      rw [c01_t hne] at hC hM
      have htk : (xs ++ [(s, l.length)]).take (xs.length + 1) = xs ++ [(s, l.length)] := List.take_of_length_le (by omega)
      obtain ⟨m', T', d1, d2, d3, d4, d5, d6⟩ := drp_l (g := g) (xs := xs ++ [(s, l.length)]) l3 ok7 a4 (by omega) (xs.length + 1) g g T7 (by omega) (by omega) (by omega) (by rw [htk]; exact b4) (r.2.2.1.fs (FS.f0 b2))
      obtain ⟨S8, c1, c2, c3, c4⟩ := C_drop (g := g) (m' := m') a4 a3.1 (by omega)
      refine ⟨S8, T', (xs ++ [(s, l.length)]).take m', ?_, hM.trans d3, (fc.tr a2).tr c2, c3, (fm.tr b2).tr d5, d6.trans (b3.trans h0), c4, d4, ok7.take, Nat.le_trans cutL_take hcl7, by rw [List.length_take]; omega⟩
      rw [hC]
      unfold m_TS_split_161 m_TS_dropEmptyCuts
      rw [if_pos rfl, if_neg (by decide), lt_d, a4.1.2.2.1, List.length_map, hln7, d2, c1, Option.bind_some, e177]
    · refine ⟨S7, T7, xs ++ [(s, l.length)], ?_, ?_, fc.tr a2, a3, fm.tr b2, b3.trans h0, a4, b4, ok7, hcl7, by omega⟩
      · rw [hC]
        unfold m_TS_split_161
        rw [e177]
        by_cases hB0 : B = 0
        · rw [if_pos hB0, c01_f (fun z => hd ⟨hB0, z⟩), if_pos rfl]
        · rw [if_neg hB0]
      · rw [hM, show m_splits_128 g g = m_splits_128 g (g' + 1) from by rw [← hg']]
        show b_splits_128 g (m_splits_128 g g') T7 _ _ = _
        unfold b_splits_128
        by_cases hB0 : B = 0
        · rw [if_pos hB0, c01_f (fun z => hd ⟨hB0, z⟩), if_pos rfl]
        · rw [if_neg hB0]
  | succ kk ih =>
    intro n1 n2 i s S S2 xs hi h1 h2 hs fc hx fm h0 wc wm ok hcl hxl hB
    obtain ⟨n1, rfl⟩ : ∃ m, n1 = m + 1 := ⟨n1 - 1, by omega⟩
    obtain ⟨n2, rfl⟩ : ∃ m, n2 = m + 1 := ⟨n2 - 1, by omega⟩
    have r := RS_0 r0 fc hx fm
    have hB1 : 0 < B.toInt → (B - 1).toInt = B.toInt - 1 := fun z => j64_d2 z
    have eC : m_TS_split_58 g (n1 + 1) S (nI p) A B (nI s) (nI l.length) (nI i) = m_TS_split_93 g (m_TS_split_58 g n1) S (nI p) A B (nI s) (nI l.length) (nI i) (c01 (¬ 0 < B.toInt ∨ (xs.length : Int) < B.toInt - 1)) := by
      show b_TS_split_58 g (m_TS_split_58 g n1) S _ _ _ _ _ _ = _
      unfold b_TS_split_58 m_TS_split_88
      rw [if_neg (nI_ge (by omega) (by omega)), wc.1.2.2.1, List.length_map]
      by_cases hp : 0 < B.toInt
      · rw [if_pos (pos64.mpr hp)]
        by_cases hq : (xs.length : Int) < B.toInt - 1
        · rw [if_pos ((i64_ltI (by omega)).mpr (by rw [hB1 hp]; exact hq)), c01_t (Or.inr hq)]
        · rw [if_neg (fun z => hq (by have := (i64_ltI (by omega)).mp z; rw [hB1 hp] at this; exact this)), c01_f (fun z => z.elim (fun y => y hp) hq)]
      · rw [if_neg (fun z => hp (pos64.mp z)), c01_t (Or.inl hp)]
    have eM : m_splits_35 g (n2 + 1) S2 (nI q) A B (nI s) (nI i) = if (l.getD i 0).toInt64 = A then (if c01 (¬ 0 < B.toInt ∨ (xs.length : Int) < B.toInt - 1) = 0 then m_splits_35 g n2 S2 (nI q) A B (nI s) (nI (i + 1)) else m_splits_82 g (m_splits_35 g n2) S2 (nI q) A B (nI s) (nI i)) else m_splits_35 g n2 S2 (nI q) A B (nI s) (nI (i + 1)) := by
      show b_splits_35 g (m_splits_35 g n2) S2 _ _ _ _ _ = _
      unfold b_splits_35
      rw [(T_size r.2.2.2.1.2.1 r.2.2.1 l2).1, Option.bind_some, if_neg (nI_ge (by omega) (by omega)), T_unit r.2.2.2.1.2.1 r.2.2.1 l2 (by omega), Option.bind_some, wm.1, lt_d, nI_1]
      by_cases hA : (l.getD i 0).toInt64 = A
      · rw [if_pos hA, if_pos hA]
        by_cases hp : 0 < B.toInt
        · rw [if_pos (pos64.mpr hp)]
          have hBx := hB hp
          by_cases hq : (xs.length : Int) < B.toInt - 1
          · rw [if_neg (fun z => by
              have := congrArg Int64.toInt z
              rw [j64, nI_toInt (by omega), hB1 hp] at this
              omega), c01_t (Or.inr hq), if_neg (by decide)]
          · rw [if_pos (Int64.toInt_inj.mp (by rw [j64, nI_toInt (by omega), hB1 hp]; omega)), c01_f (fun z => z.elim (fun y => y hp) hq), if_pos rfl]
        · rw [if_neg (fun z => hp (pos64.mp z)), c01_t (Or.inl hp), if_neg (by decide)]
      · rw [if_neg hA, if_neg hA]
    unfold m_TS_split_93 m_TS_split_124 at eC
    rw [C_unit r.2.2.2.1.1 l1, Option.bind_some, atR_nI (by omega), getD_d (by omega), lt_d, nI_1] at eC
    have skip : m_TS_split_58 g (n1 + 1) S (nI p) A B (nI s) (nI l.length) (nI i) = m_TS_split_58 g n1 S (nI p) A B (nI s) (nI l.length) (nI (i + 1)) → m_splits_35 g (n2 + 1) S2 (nI q) A B (nI s) (nI i) = m_splits_35 g n2 S2 (nI q) A B (nI s) (nI (i + 1)) → ∃ S' T' xs', m_TS_split_58 g (n1 + 1) S (nI p) A B (nI s) (nI l.length) (nI i) = m_TS_takeParts g S' (nI p) ∧ m_splits_35 g (n2 + 1) S2 (nI q) A B (nI s) (nI i) = some T' ∧ F0C S0 S' ∧ XR S' ∧ F0M S20 T' ∧ gI T' 0 58 = 0 ∧ CutC S' xs' ∧ CutM T' xs' ∧ CutOK l.length xs' ∧ cutL xs' ≤ 400 ∧ xs'.length ≤ 401 := by
      intro e1 e2
      rw [e1, e2]
      exact ih n1 n2 (i + 1) s S S2 xs (by omega) (by omega) (by omega) (by omega) fc hx fm h0 wc wm ok hcl (by omega) hB
    by_cases hmore : ¬ 0 < B.toInt ∨ (xs.length : Int) < B.toInt - 1
    · rw [c01_t hmore, if_neg (by decide)] at eC
      rw [c01_t hmore, if_neg (show ¬ (1 : Int32) = 0 by decide)] at eM
      by_cases hA : (l.getD i 0).toInt64 = A
      · rw [if_pos hA] at eC eM
        obtain ⟨S7, a1, a2, a3, a4, a5, -⟩ := C_cut (g := g) (s := s) (e := i) wc r.1 hx.1 (by omega)
        obtain ⟨T7, b1, b2, b3, b4⟩ := M_slice (g := g) (s := s) (e := i) wm r.2.2.1 (by omega)
        rw [a1, Option.bind_some, lt_d] at eC
        unfold m_splits_82 at eM
        rw [b1, Option.bind_some, lt_d, lt_d, nI_1] at eM
        rw [eC, eM]
        refine ih n1 n2 (i + 1) (i + 1) S7 T7 _ (by omega) (by omega) (by omega) (by omega) (fc.tr a2) a3 (fm.tr b2) (b3.trans h0) a4 b4 (ok.app hs (by omega)) ?_ (by simp; omega) (fun hp => ?_)
        · rw [cutL_app]
          show cutL xs + (i - s + 0) ≤ i + 1
          omega
        · rw [List.length_append, List.length_singleton]
          rcases hmore with h | h
          · exact absurd hp h
          · omega
      · rw [if_neg hA] at eC eM
        exact skip eC eM
    · rw [c01_f hmore, if_pos rfl] at eC
      rw [c01_f hmore, if_pos (show (0 : Int32) = 0 from rfl)] at eM
      exact skip eC (eM.trans (ifo rfl rfl))
theorem lin_l (r0 : RS U S0 S20 φ cs ts u pl pm ps qs) (l1 : cs[p]? = some l) (l2 : ts[q]? = some l) (l3 : l.length ≤ 400) : ∀ (kk n1 n2 i s : Nat) (S S2 : St) (xs : List (Nat × Nat)), i + kk = l.length → kk < n1 → kk < n2 → s ≤ i → F0C S0 S → XR S → F0M S20 S2 → gI S2 0 58 = 0 → CutC S xs → CutM S2 xs → CutOK l.length xs → cutL xs ≤ s → xs.length ≤ i → ∃ S' T' xs', m_TS_lines_28 g n1 S (nI p) (nI s) (nI l.length) (nI i) = m_TS_takeParts g S' (nI p) ∧ m_linesOf_4 g n2 S2 (nI q) (nI s) (nI i) = some T' ∧ F0C S0 S' ∧ XR S' ∧ F0M S20 T' ∧ gI T' 0 58 = 0 ∧ CutC S' xs' ∧ CutM T' xs' ∧ CutOK l.length xs' ∧ cutL xs' ≤ 400 ∧ xs'.length ≤ 401 := by
  intro kk
  induction kk using Nat.strongRecOn with
  | ind kk ih =>
    intro n1 n2 i s S S2 xs hi h1 h2 hs fc hx fm h0 wc wm ok hcl hxl
    obtain ⟨n1, rfl⟩ : ∃ m, n1 = m + 1 := ⟨n1 - 1, by omega⟩
    obtain ⟨n2, rfl⟩ : ∃ m, n2 = m + 1 := ⟨n2 - 1, by omega⟩
    have r := RS_0 r0 fc hx fm
    have Tz := (T_size r.2.2.2.1.2.1 r.2.2.1 l2).1
    have e116 : ∀ S9, m_TS_lines_116 g S9 (nI p) = m_TS_takeParts g S9 (nI p) := by
      intro S9
      unfold m_TS_lines_116 m_TS_lines_121
      rw [bS2]
    have eC : m_TS_lines_28 g (n1 + 1) S (nI p) (nI s) (nI l.length) (nI i) = b_TS_lines_28 g (m_TS_lines_28 g n1) S (nI p) (nI s) (nI l.length) (nI i) := rfl
    have eM : m_linesOf_4 g (n2 + 1) S2 (nI q) (nI s) (nI i) = b_linesOf_4 g (m_linesOf_4 g n2) S2 (nI q) (nI s) (nI i) := rfl
    unfold b_TS_lines_28 at eC
    unfold b_linesOf_4 at eM
    rw [Tz, Option.bind_some, Option.bind_some, Option.bind_some] at eM
    by_cases hk0 : kk = 0
    · have hi : i = l.length := by omega
      subst hi
      rw [if_pos (nI_le (by omega) (by omega)), e116] at eC
      rw [if_pos (nI_le (by omega) (by omega))] at eM
      by_cases hz : l.length ≤ s
      · rw [if_pos (nI_le hz (by omega))] at eC eM
        exact ⟨S, S2, xs, eC, eM, fc, hx, fm, h0, wc, wm, ok, by omega, by omega⟩
      · rw [if_neg (nI_ge (by omega) (by omega))] at eC eM
        obtain ⟨S7, a1, a2, a3, a4, a5, -⟩ := C_cut (g := g) (s := s) (e := l.length) wc r.1 hx.1 (by omega)
        obtain ⟨T7, b1, b2, b3, b4⟩ := M_slice (g := g) (s := s) (e := l.length) wm r.2.2.1 (by omega)
        rw [a1, Option.bind_some, e116] at eC
        rw [b1, Option.bind_some] at eM
        refine ⟨S7, T7, xs ++ [(s, l.length)], eC, eM, fc.tr a2, a3, fm.tr b2, b3.trans h0, a4, b4, ok.app hs (Nat.le_refl _), ?_, by simp; omega⟩
        rw [cutL_app]
        show cutL xs + (l.length - s + 0) ≤ 400
        omega
    have hil : i < l.length := by omega
    rw [if_neg (nI_ge hil (by omega)), C_unit r.2.2.2.1.1 l1, Option.bind_some, atR_nI (by omega), getD_d hil, lt_d, nI_1] at eC
    rw [if_neg (nI_ge hil (by omega)), T_unit r.2.2.2.1.2.1 r.2.2.1 l2 hil, Option.bind_some, nI_1] at eM
    -- a line ends at i; the next one begins d units on
    have CUT : ∀ d : Nat, 1 ≤ d → i + d ≤ l.length → (∀ S7, F0C S S7 → XR S7 → m_TS_lines_67 g (m_TS_lines_28 g n1) S7 (nI p) (nI l.length) (nI i) (l.getD i 0) = m_TS_lines_28 g n1 S7 (nI p) (nI (i + d)) (nI l.length) (nI (i + d))) → m_TS_lines_28 g (n1 + 1) S (nI p) (nI s) (nI l.length) (nI i) = m_TS_lines_60 g (m_TS_lines_28 g n1) S (nI p) (nI s) (nI l.length) (nI i) (l.getD i 0) → m_linesOf_4 g (n2 + 1) S2 (nI q) (nI s) (nI i) = ((m_slice g S2 (nI s) (nI i)).bind fun S_6 => m_linesOf_4 g n2 S_6 (nI q) (nI (i + d)) (nI (i + d))) → ∃ S' T' xs', m_TS_lines_28 g (n1 + 1) S (nI p) (nI s) (nI l.length) (nI i) = m_TS_takeParts g S' (nI p) ∧ m_linesOf_4 g (n2 + 1) S2 (nI q) (nI s) (nI i) = some T' ∧ F0C S0 S' ∧ XR S' ∧ F0M S20 T' ∧ gI T' 0 58 = 0 ∧ CutC S' xs' ∧ CutM T' xs' ∧ CutOK l.length xs' ∧ cutL xs' ≤ 400 ∧ xs'.length ≤ 401 := by
      intro d hd1 hd2 h67 EC EM
      obtain ⟨S7, a1, a2, a3, a4, a5, -⟩ := C_cut (g := g) (s := s) (e := i) wc r.1 hx.1 (by omega)
      obtain ⟨T7, b1, b2, b3, b4⟩ := M_slice (g := g) (s := s) (e := i) wm r.2.2.1 (by omega)
      unfold m_TS_lines_60 at EC
      rw [a1, Option.bind_some, h67 S7 a2 a3] at EC
      rw [b1, Option.bind_some] at EM
      rw [EC, EM]
      refine ih (kk - d) (by omega) n1 n2 (i + d) (i + d) S7 T7 _ (by omega) (by omega) (by omega) (by omega) (fc.tr a2) a3 (fm.tr b2) (b3.trans h0) a4 b4 (ok.app hs (by omega)) ?_ (by simp; omega)
      rw [cutL_app]
      show cutL xs + (i - s + 0) ≤ i + d
      omega
    have c59 : ∀ y0 : Int32, l.getD i 0 = 10 ∨ l.getD i 0 = 13 → m_linesOf_59 g (m_linesOf_4 g n2) S2 (nI q) (nI s) (nI i) (l.getD i 0) y0 = m_linesOf_75 g (m_linesOf_4 g n2) S2 (nI q) (nI s) (nI i) y0 := by
      intro y0 h
      unfold m_linesOf_59
      rcases h with h | h
      · rw [if_pos h]
      · rw [if_neg (by rw [h]; decide), if_pos h]
    have c75 : m_linesOf_75 g (m_linesOf_4 g n2) S2 (nI q) (nI s) (nI i) 0 = ((m_slice g S2 (nI s) (nI i)).bind fun S_6 => m_linesOf_4 g n2 S_6 (nI q) (nI (i + 1)) (nI (i + 1))) := by
      unfold m_linesOf_75 m_linesOf_95 m_linesOf_96
      refine congrArg _ (funext fun S_6 => ?_)
      rw [if_pos rfl, if_pos rfl, lt_d, nI_1]
    have c75b : m_linesOf_75 g (m_linesOf_4 g n2) S2 (nI q) (nI s) (nI i) 1 = ((m_slice g S2 (nI s) (nI i)).bind fun S_6 => m_linesOf_4 g n2 S_6 (nI q) (nI (i + 2)) (nI (i + 2))) := by
      unfold m_linesOf_75 m_linesOf_95 m_linesOf_96
      refine congrArg _ (funext fun S_6 => ?_)
      rw [if_neg (by decide), if_neg (by decide), lt_d, show (2 : Int32) = nI 2 from rfl, nI_add]
    by_cases h10 : l.getD i 0 = 10
    · rw [if_pos h10] at eC
      rw [if_neg (by rw [h10]; decide)] at eM
      unfold m_linesOf_58 at eM
      rw [c59 0 (Or.inl h10), c75] at eM
      refine CUT 1 (by omega) (by omega) (fun S7 f7 x7 => ?_) eC eM
      unfold m_TS_lines_67
      rw [if_neg (by rw [h10]; decide), lt_d, lt_d, nI_1]
    by_cases h13 : l.getD i 0 = 13
    · rw [if_neg h10, if_pos h13] at eC
      rw [if_pos h13, Option.bind_some] at eM
      by_cases hn : i + 1 < l.length ∧ l.getD (i + 1) 0 = 10
      · rw [if_neg (nI_ge hn.1 (by omega)), T_unit r.2.2.2.1.2.1 r.2.2.1 l2 hn.1, Option.bind_some, if_pos hn.2, c59 1 (Or.inr h13), c75b] at eM
        refine CUT 2 (by omega) (by omega) (fun S7 f7 x7 => ?_) eC eM
        have T7 := (RS_0 r0 (fc.tr f7) x7 fm).2.2.2.1.1
        unfold m_TS_lines_67
        rw [if_pos h13, nI_1, C_unit T7 l1, Option.bind_some, atR_nI (by omega), getD_d hn.1, if_pos hn.2, lt_d, lt_d, lt_d, nI_1]
      · have eM' : m_linesOf_4 g (n2 + 1) S2 (nI q) (nI s) (nI i) = m_linesOf_58 g (m_linesOf_4 g n2) S2 (nI q) (nI s) (nI i) (l.getD i 0) := by
          rw [eM]
          by_cases hn1 : i + 1 < l.length
          · rw [if_neg (nI_ge hn1 (by omega)), T_unit r.2.2.2.1.2.1 r.2.2.1 l2 hn1, Option.bind_some, if_neg (fun z => hn ⟨hn1, z⟩)]
          · rw [if_pos (nI_le (by omega) (by omega))]
        unfold m_linesOf_58 at eM'
        rw [c59 0 (Or.inr h13), c75] at eM'
        refine CUT 1 (by omega) (by omega) (fun S7 f7 x7 => ?_) eC eM'
        have T7 := (RS_0 r0 (fc.tr f7) x7 fm).2.2.2.1.1
        unfold m_TS_lines_67
        rw [if_pos h13, nI_1, C_unit T7 l1, Option.bind_some, atR_nI (by omega), lt_d, lt_d, lt_d, lt_d]
        by_cases hn1 : i + 1 < l.length
        · rw [getD_d hn1, if_neg (fun z => hn ⟨hn1, z⟩)]
          rfl
        · rw [if_neg (by
            rw [List.getD_eq_getElem?_getD, List.getElem?_eq_none (by omega)]
            decide)]
          rfl
    · rw [if_neg h10, if_neg h13] at eC
      rw [if_neg h13] at eM
      unfold m_linesOf_58 m_linesOf_59 m_linesOf_96 at eM
      rw [if_neg h10, if_neg h13, if_pos rfl, lt_d, nI_1] at eM
      rw [eC, eM]
      exact ih (kk - 1) (by omega) n1 n2 (i + 1) s S S2 xs (by omega) (by omega) (by omega) (by omega) fc hx fm h0 wc wm ok hcl (by omega)
end SPLL
section CRF
variable {g : Nat} {T : St}
theorem spl_r {x : Int32} {A B : Int64} (h : ¬ gI T 0 58 = 0) : m_splits g T x A B = some T := by
  unfold m_splits m_splits_17
  rw [isIn_s, Option.bind_some, M_ref0, M_ref1n h, Option.bind_some, if_neg h]
  exact ifo rfl rfl
theorem cut_r {x : Int32} (h : ¬ gI T 0 58 = 0) : m_cuts_213 g T x = some T := by
  unfold m_cuts_213 m_cuts_228
  rw [M_ref0, M_ref1n h, Option.bind_some, if_neg h]
  exact ifo rfl rfl
end CRF
theorem St27 : StOK 27 := by
  intro g U k S S2 ws a hg hk hR c cm hW h0
  obtain ⟨φ, cs, ts, u, pl, pm, ps, qs, r, bd⟩ := hR
  obtain ⟨q1, q2, q3⟩ := hW
  have q1 : 3 ≤ ws.length := q1
  have q2 : ws.length ≤ 3 := q2
  obtain ⟨w0, w1, w2, rfl⟩ := ls3 (show ws.length = 3 by omega)
  change ∃ S' S2' kd, doC g S 27 = some (S', nI kd) ∧ m_does g S2 (nI 27) (nI a) (nI 3) = some S2' ∧ gI S2' 0 58 = nI kd ∧ kd ≤ 5 ∧ RSx U (k + 1) S' S2' ∧ FC S S' ∧ FS S2 S2'
  have hl := r.2.1
  have hm := r.2.2.1
  have hT := r.2.2.2.1
  have hx := r.2.2.2.2.2.2.2.2.2.2.2.2.2
  have f1 : F0M S2 (sI S2 0 57 0) := F0M_sI (Or.inl rfl)
  have f2 : F0M S2 (sI (sI S2 0 57 0) 0 58 4) := f1.tr (F0M_sI (Or.inr (Or.inl rfl)))
  have f3 : F0M S2 (sI (sI S2 0 57 0) 0 58 1) := f1.tr (F0M_sI (Or.inr (Or.inl rfl)))
  have h0' : gI (sI S2 0 57 0) 0 58 = 0 := by rw [gI_ne (by decide)]; exact h0
  have cm' := cm.fs (FS.f0 f1)
  have hm' := hm.fs (FS.f0 f1)
  have T2 := hT.2.1.f0 f1
  obtain ⟨x, y, e1, e2, e3, e4⟩ := getT (g := g) (j := 0) (w := w0) r c cm rfl (show okL U 84 w0 from q3 0 w0 rfl) (by decide)
  have o1 : okW w1 := okL_W (show okL U 87 w1 from q3 1 w1 rfl)
  have m1 : m_value g (sI (sI S2 0 57 0) 0 65 0) (nI a + (1 : Int32)) = some (valW S2 w1) := by rw [show (1 : Int32) = nI 1 from rfl, nI_add]; exact M_value (g := g) (j := 1) (w := w1) (cm.fs (FS.f0 (f1.tr (F0M_sI (Or.inr (Or.inr rfl)))))) (hm.fs (FS.f0 (f1.tr (F0M_sI (Or.inr (Or.inr rfl)))))) rfl o1
  have o2 : okW w2 := okL_W (show okL U 87 w2 from q3 2 w2 rfl)
  have m2 : m_value g (sI (sI S2 0 57 0) 0 65 0) (nI a + (2 : Int32)) = some (valW S2 w2) := by rw [show (2 : Int32) = nI 2 from rfl, nI_add]; exact M_value (g := g) (j := 2) (w := w2) (cm.fs (FS.f0 (f1.tr (F0M_sI (Or.inr (Or.inr rfl)))))) (hm.fs (FS.f0 (f1.tr (F0M_sI (Or.inr (Or.inr rfl)))))) rfl o2
  have hlk := lacks1 (s := 27) (j0 := 0) hg c (show 0 < 3 by decide) (show ∀ j, j < 3 → j ≠ 0 → ¬ lett 27 (nI j) = 84 from by decide +kernel) (by decide +kernel) e1
  have e2' : m_text g (sI S2 0 57 0) (nI a) = some y := by
    have := e2 _ f1
    rw [nI_add] at this
    exact this
  have f6 : F0M S2 (sI (sI S2 0 57 0) 0 65 0) := f1.tr (F0M_sI (Or.inr (Or.inr rfl)))
  have f46 : F0M S2 (sI (sI (sI S2 0 57 0) 0 58 4) 0 65 0) := f2.tr (F0M_sI (Or.inr (Or.inr rfl)))
  have h46 : gI (sI (sI (sI S2 0 57 0) 0 58 4) 0 65 0) 0 58 = nI 4 := by rw [gI_ne (by decide)]; exact sI_58
  have h06 : gI (sI (sI S2 0 57 0) 0 65 0) 0 58 = 0 := by rw [gI_ne (by decide)]; exact h0'
  have hM := dM_27 (g := g) (S := S2) (x2 := nI a) (x3 := nI 3)
  rcases e4 with ⟨rfl, rfl⟩ | ⟨p, q, l, rfl, rfl, hpq, hp, hq, l1, l2, l3, l4⟩
  · rw [c01_t rfl] at hlk
    have hn4 : ¬ gI (sI (sI (sI S2 0 57 0) 0 58 4) 0 65 0) 0 58 = 0 := by rw [h46]; decide
    refine ⟨S, sI (sI (sI S2 0 57 0) 0 58 4) 0 65 0, 4, doC_no hlk, ?_, fin_no r bd F0C.rf hx f46 h46 (by decide)⟩
    rw [hM, dM2_27 (M_tAt0 e2' h0'), bS]
    have mm1 : m_value g (sI (sI (sI S2 0 57 0) 0 58 4) 0 65 0) (nI a + (1 : Int32)) = some (valW S2 w1) := by rw [show (1 : Int32) = nI 1 from rfl, nI_add]; exact M_value (g := g) (j := 1) (w := w1) (cm.fs (FS.f0 f46)) (hm.fs (FS.f0 f46)) rfl o1
    have mm2 : m_value g (sI (sI (sI S2 0 57 0) 0 58 4) 0 65 0) (nI a + (2 : Int32)) = some (valW S2 w2) := by rw [show (2 : Int32) = nI 2 from rfl, nI_add]; exact M_value (g := g) (j := 2) (w := w2) (cm.fs (FS.f0 f46)) (hm.fs (FS.f0 f46)) rfl o2
    rw [mm1, Option.bind_some, mm2, Option.bind_some, spl_r hn4, Option.bind_some, cut_r hn4]
  · rw [c01_f (m1_ne (by omega))] at hlk
    obtain ⟨S1, s1, s2, s3, s4⟩ := clr (g := g) hx
    have fc := F0C.fr s2 (Or.inl rfl)
    have rc := RS_0 r fc s4 f1
    have cS := c.fc (FC.f0 fc)
    have hlS := rc.2.1
    have hTc := rc.2.2.2.1
    have hWR : WR S1 (sI S2 0 57 0) := rc.2.2.2.2.2.2.2.2.1
    have b := C_bounds hTc.1 l1
    have hC := doC_P hlk (by decide +kernel)
    rw [dC_27 s1, show m_Bn_textAt g S1 0 = some (nI p) from tA_F0 (g := g) (j := 0) (w := w0) r c cm rfl (show okL U 84 w0 from q3 0 w0 rfl) (by decide) e1 fc s4, Option.bind_some] at hC
    obtain ⟨-, ⟨y30, z30, x30⟩, y31, z31, x31⟩ := s4
    obtain ⟨S4, i1, i2, i3⟩ := R_clear (g := g) x30
    obtain ⟨S5, j1, j2, j3⟩ := R_clear (g := g) (x31.fr i2 (by decide))
    have wc5 : CutC S5 [] := ⟨i3.fr j2 (by decide), j3⟩
    have fc5 : F0C S S5 := (fc.tr (F0C.fr i2 (Or.inr (Or.inl rfl)))).tr (F0C.fr j2 (Or.inr (Or.inr rfl)))
    have x5 : XR S5 := ⟨⟨[], 0, (s3.fr i2 (by decide)).fr j2 (by decide)⟩, ⟨_, _, wc5.1⟩, _, _, wc5.2⟩
    have r5 := RS_0 r fc5 x5 f6
    have wm6 : CutM (sI (sI S2 0 57 0) 0 65 0) [] := ⟨sI_g, fun i c hc => absurd hc (by simp)⟩
    unfold m_TS_giveParts_56 m_TS_split at hC
    rw [bS2, show m_Bn_wholeAt g S1 1 = some (valW S2 w1) from B_whole (S2 := sI S2 0 57 0) (j := 1) (w := w1) cS hlS rfl o1 hWR, Option.bind_some, show m_Bn_wholeAt g S1 2 = some (valW S2 w2) from B_whole (S2 := sI S2 0 57 0) (j := 2) (w := w2) cS hlS rfl o2 hWR, Option.bind_some, isUnit_s, Option.bind_some] at hC
    rw [dM2_27 (M_tAt e2' (by omega)), bS, m1, Option.bind_some, m2, Option.bind_some] at hM
    unfold m_splits m_splits_17 at hM
    rw [isIn_s, Option.bind_some, z64, show (65535 : Int64).toInt = 65535 from by decide +kernel] at hM
    by_cases hin : 0 ≤ (valW S2 w1).toInt ∧ (valW S2 w1).toInt ≤ 65535
    · rw [c01_t hin, if_neg (by decide), i1, Option.bind_some, j1, Option.bind_some, C_size r5.2.2.2.1.1 l1, Option.bind_some] at hC
      rw [c01_t hin, if_neg (by decide), M_ref0, Option.bind_some, if_pos h06] at hM
      obtain ⟨S', T', xs, a1, a2, a3, a4, a5, a6, a7, a8, a9, a10, a11⟩ := spl_l (g := g) (A := valW S2 w1) (B := valW S2 w2) r l1 l2 l3 hg l.length g g 0 0 S5 (sI (sI S2 0 57 0) 0 65 0) [] (by omega) (by omega) (by omega) (by omega) fc5 x5 f6 h06 wc5 wm6 (fun c hc => absurd hc (by simp)) (Nat.le_refl _) (by simp) (fun h => by simp; omega)
      obtain ⟨S8, T8, kd, b1, b2, b3⟩ := fin_cuts hg hk r bd a3 a4 a5 a6 a7 a8 a9 a10 a11 hpq l1 l2 l3 l4
      refine ⟨S8, T8, kd, hC.trans (a1.trans b1), ?_, b3⟩
      rw [nI_0] at a2
      rw [hM, a2, Option.bind_some, b2]
    · have f36 : F0M S2 (sI (sI (sI S2 0 57 0) 0 65 0) 0 58 3) := f6.tr (F0M_sI (Or.inr (Or.inl rfl)))
      have hn3 : ¬ gI (sI (sI (sI S2 0 57 0) 0 65 0) 0 58 3) 0 58 = 0 := by rw [sI_58]; decide
      refine ⟨S1, sI (sI (sI S2 0 57 0) 0 65 0) 0 58 3, 3, ?_, ?_, fin_no r bd fc ⟨⟨_, _, s3⟩, ⟨_, _, x30⟩, _, _, x31⟩ f36 sI_58 (by decide)⟩
      · rw [hC, c01_f hin, if_pos rfl]
        rfl
      · rw [hM, c01_f hin, if_pos rfl, M_ref1 h06, Option.bind_some, if_neg hn3, Option.bind_some, cut_r hn3]
theorem St28 : StOK 28 := by
  intro g U k S S2 ws a hg hk hR c cm hW h0
  obtain ⟨φ, cs, ts, u, pl, pm, ps, qs, r, bd⟩ := hR
  obtain ⟨q1, q2, q3⟩ := hW
  have q1 : 1 ≤ ws.length := q1
  have q2 : ws.length ≤ 1 := q2
  obtain ⟨w0, rfl⟩ := ls1 (show ws.length = 1 by omega)
  change ∃ S' S2' kd, doC g S 28 = some (S', nI kd) ∧ m_does g S2 (nI 28) (nI a) (nI 1) = some S2' ∧ gI S2' 0 58 = nI kd ∧ kd ≤ 5 ∧ RSx U (k + 1) S' S2' ∧ FC S S' ∧ FS S2 S2'
  have hl := r.2.1
  have hm := r.2.2.1
  have hT := r.2.2.2.1
  have hx := r.2.2.2.2.2.2.2.2.2.2.2.2.2
  have f1 : F0M S2 (sI S2 0 57 0) := F0M_sI (Or.inl rfl)
  have f2 : F0M S2 (sI (sI S2 0 57 0) 0 58 4) := f1.tr (F0M_sI (Or.inr (Or.inl rfl)))
  have f3 : F0M S2 (sI (sI S2 0 57 0) 0 58 1) := f1.tr (F0M_sI (Or.inr (Or.inl rfl)))
  have h0' : gI (sI S2 0 57 0) 0 58 = 0 := by rw [gI_ne (by decide)]; exact h0
  have cm' := cm.fs (FS.f0 f1)
  have hm' := hm.fs (FS.f0 f1)
  have T2 := hT.2.1.f0 f1
  obtain ⟨x, y, e1, e2, e3, e4⟩ := getT (g := g) (j := 0) (w := w0) r c cm rfl (show okL U 84 w0 from q3 0 w0 rfl) (by decide)
  have hlk := lacks1 (s := 28) (j0 := 0) hg c (show 0 < 1 by decide) (show ∀ j, j < 1 → j ≠ 0 → ¬ lett 28 (nI j) = 84 from by decide +kernel) (by decide +kernel) e1
  have e2' : m_text g (sI S2 0 57 0) (nI a) = some y := by
    have := e2 _ f1
    rw [nI_add] at this
    exact this
  have f6 : F0M S2 (sI (sI S2 0 57 0) 0 65 0) := f1.tr (F0M_sI (Or.inr (Or.inr rfl)))
  have f46 : F0M S2 (sI (sI (sI S2 0 57 0) 0 58 4) 0 65 0) := f2.tr (F0M_sI (Or.inr (Or.inr rfl)))
  have h46 : gI (sI (sI (sI S2 0 57 0) 0 58 4) 0 65 0) 0 58 = nI 4 := by rw [gI_ne (by decide)]; exact sI_58
  have h06 : gI (sI (sI S2 0 57 0) 0 65 0) 0 58 = 0 := by rw [gI_ne (by decide)]; exact h0'
  have hM := dM_28 (g := g) (S := S2) (x2 := nI a) (x3 := nI 1)
  rcases e4 with ⟨rfl, rfl⟩ | ⟨p, q, l, rfl, rfl, hpq, hp, hq, l1, l2, l3, l4⟩
  · rw [c01_t rfl] at hlk
    have hn4 : ¬ gI (sI (sI (sI S2 0 57 0) 0 58 4) 0 65 0) 0 58 = 0 := by rw [h46]; decide
    refine ⟨S, sI (sI (sI S2 0 57 0) 0 58 4) 0 65 0, 4, doC_no hlk, ?_, fin_no r bd F0C.rf hx f46 h46 (by decide)⟩
    rw [hM, dM2_28 (M_tAt0 e2' h0'), bS]
    obtain ⟨l, l1, l2, l3, l4⟩ := hT.2.2.1 0 0 hT.2.2.2.2.1
    have hle : l = [] := Option.some.inj (l1.symm.trans hT.2.2.2.2.2)
    subst hle
    have hTz : aI (sI (sI (sI S2 0 57 0) 0 58 4) 0 65 0) 24 0 = some (nI ([] : List Int32).length) := (T_size (hT.2.1.f0 f46) (hm.fs (FS.f0 f46)) l2).1
    obtain ⟨g', hg'⟩ : ∃ g', g = g' + 1 := ⟨g - 1, by omega⟩
    have hlo : m_linesOf g (sI (sI (sI S2 0 57 0) 0 58 4) 0 65 0) 0 = some (sI (sI (sI S2 0 57 0) 0 58 4) 0 65 0) := by
      unfold m_linesOf
      rw [show m_linesOf_4 g g = m_linesOf_4 g (g' + 1) from by rw [← hg']]
      show b_linesOf_4 g (m_linesOf_4 g g') _ _ _ _ = _
      unfold b_linesOf_4
      rw [hTz, Option.bind_some, if_pos (by decide), Option.bind_some, if_pos (by decide)]
    rw [hlo, Option.bind_some, cut_r hn4]
  · rw [c01_f (m1_ne (by omega))] at hlk
    obtain ⟨S1, s1, s2, s3, s4⟩ := clr (g := g) hx
    have fc := F0C.fr s2 (Or.inl rfl)
    have rc := RS_0 r fc s4 f1
    have cS := c.fc (FC.f0 fc)
    have hlS := rc.2.1
    have hTc := rc.2.2.2.1
    have hWR : WR S1 (sI S2 0 57 0) := rc.2.2.2.2.2.2.2.2.1
    have b := C_bounds hTc.1 l1
    have hC := doC_P hlk (by decide +kernel)
    rw [dC_28 s1, show m_Bn_textAt g S1 0 = some (nI p) from tA_F0 (g := g) (j := 0) (w := w0) r c cm rfl (show okL U 84 w0 from q3 0 w0 rfl) (by decide) e1 fc s4, Option.bind_some] at hC
    obtain ⟨-, ⟨y30, z30, x30⟩, y31, z31, x31⟩ := s4
    obtain ⟨S4, i1, i2, i3⟩ := R_clear (g := g) x30
    obtain ⟨S5, j1, j2, j3⟩ := R_clear (g := g) (x31.fr i2 (by decide))
    have wc5 : CutC S5 [] := ⟨i3.fr j2 (by decide), j3⟩
    have fc5 : F0C S S5 := (fc.tr (F0C.fr i2 (Or.inr (Or.inl rfl)))).tr (F0C.fr j2 (Or.inr (Or.inr rfl)))
    have x5 : XR S5 := ⟨⟨[], 0, (s3.fr i2 (by decide)).fr j2 (by decide)⟩, ⟨_, _, wc5.1⟩, _, _, wc5.2⟩
    have r5 := RS_0 r fc5 x5 f6
    have wm6 : CutM (sI (sI S2 0 57 0) 0 65 0) [] := ⟨sI_g, fun i c hc => absurd hc (by simp)⟩
    unfold m_TS_giveParts_69 m_TS_lines at hC
    rw [bS2, i1, Option.bind_some, j1, Option.bind_some, C_size r5.2.2.2.1.1 l1, Option.bind_some] at hC
    rw [dM2_28 (M_tAt e2' (by omega)), bS] at hM
    unfold m_linesOf at hM
    obtain ⟨S', T', xs, a1, a2, a3, a4, a5, a6, a7, a8, a9, a10, a11⟩ := lin_l (g := g) r l1 l2 l3 l.length g g 0 0 S5 (sI (sI S2 0 57 0) 0 65 0) [] (by omega) (by omega) (by omega) (by omega) fc5 x5 f6 h06 wc5 wm6 (fun c hc => absurd hc (by simp)) (Nat.le_refl _) (by simp)
    obtain ⟨S8, T8, kd, b1, b2, b3⟩ := fin_cuts hg hk r bd a3 a4 a5 a6 a7 a8 a9 a10 a11 hpq l1 l2 l3 l4
    refine ⟨S8, T8, kd, hC.trans (a1.trans b1), ?_, b3⟩
    rw [nI_0] at a2
    rw [hM, a2, Option.bind_some, b2]
