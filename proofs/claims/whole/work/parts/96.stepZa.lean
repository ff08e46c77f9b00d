/-! parts are taken -/
section TKP
variable {U : Nat → Prop} {g p q : Nat} {pl pm : List Nat} {l : List Int32} {xs : List (Nat × Nat)}
theorem CutC.fr {o : Nat} {S S' : St} (w : CutC S xs) (h : Fr o S S') (h1 : o ≠ 30) (h2 : o ≠ 31) : CutC S' xs := ⟨w.1.fr h (by omega), w.2.fr h (by omega)⟩
theorem RS_clr22 {S S' T : St} {φ : Nat → Option Nat} {cs ts : List (List Int32)} {u : Nat} {ps qs : List Nat} (r : RS U S T φ cs ts u pl pm ps qs) (hc : Fr 22 S S') (hC : Rw S' 22 [] 0) : RS U S' (sI T 0 50 (nI 0)) φ cs ts u pl pm [] [] := by
  obtain ⟨a1, a2, a3, ⟨t1, t2, t3⟩, a5, a6, a7, a8, a9, a10, -, ⟨m, m1, m2, m3, m4⟩, ⟨ls, l1, l2⟩, ⟨x1, o1, y1⟩, ⟨x2, o2, y2⟩, x3, o3, y3⟩ := r
  have fc : FC S S' := FC.row hc (by unfold stpRow; omega)
  have gc : ∀ a, a ≠ 46 → ∀ i, gF S' a i = gF S a i := fun a h i => (hc.2.2.2.1 a h).2 i
  have gg : ∀ a i, gG S' a i = gG S a i := fun a i => by unfold gG; rw [hc.2.2.2.2]
  refine ⟨a1.fc fc, a2.fc fc, a3, ⟨⟨t1.1.fr hc (by decide), t1.2.fr hc (by decide)⟩, t2.c50, t3⟩, Rw.fr hc (by decide) a5, ⟨(gI_ne (by decide)).trans a6.1, a6.2.1, a6.2.2⟩, a7, fun v hv => ?_, fun i hi => ?_, fun b hb => ?_, ⟨hC, sI_g, by simp, fun i hi => absurd hi (by simp), rfl⟩, ⟨m, m1, ?_, (gI_ne (by decide)).trans m3, fun i hi => ?_⟩, ⟨ls, l1.fr hc (by decide), l2⟩, ⟨x1, o1, y1.fr hc (by decide)⟩, ⟨x2, o2, y2.fr hc (by decide)⟩, x3, o3, y3.fr hc (by decide)⟩
  · rw [gc 74 (by decide)]; exact a8 v hv
  · rw [gg]; exact a9 i hi
  · obtain ⟨lb, ov, b1, b2⟩ := a10 b hb
    refine ⟨lb, ov, b1.fr hc (by omega), ?_⟩
    rw [gc 77 (by decide)]
    exact b2
  · rw [hc.1 4 7 (by decide)]; exact m2
  · rw [gg]; exact m4 i hi
theorem tp_l (hg : 100000 ≤ g) (hl : l.length ≤ 400) (ul : usL l) (hxs : CutOK l.length xs) (hx24 : xs.length ≤ 24) {Cn Fn Tn Un : Nat} (hCn : Cn ≤ 1465) (hFn : Fn ≤ 27000) (hTn : Tn ≤ 1700) (hUn : Un ≤ 34000) : ∀ (kk n1 n2 i : Nat) (S S2 : St) (φ : Nat → Option Nat) (cs ts : List (List Int32)) (u : Nat) (ps qs : List Nat), i + kk = xs.length → kk < n1 → kk < n2 → qs.length = i → RS U S (sI S2 0 50 (nI i)) φ cs ts u pl pm ps qs → CutC S xs → CutM S2 xs → φ p = some q → cs[p]? = some l → ts[q]? = some l → cs.length + kk ≤ Cn → cs.flatten.length + cutL (xs.drop i) ≤ Fn → ts.length + kk ≤ Tn → u + cutL (xs.drop i) ≤ Un → ∃ S' T' φ' cs' ts' u' ps' qs', m_TS_takeParts_32 g n1 S (nI p) (nI l.length) (nI i) = some (S', 0) ∧ m_parted_2 g n2 S2 (nI q) (nI i) = some T' ∧ RS U S' T' φ' cs' ts' u' pl pm ps' qs' ∧ cs'.length ≤ Cn ∧ cs'.flatten.length ≤ Fn ∧ ts'.length ≤ Tn ∧ u' ≤ Un ∧ FC S S' ∧ FS S2 T' ∧ gI T' 0 58 = gI S2 0 58 := by
  intro kk
  induction kk with
  | zero =>
    intro n1 n2 i S S2 φ cs ts u ps qs hi h1 h2 hqi r wc wm hpq l1 l2 k1 k2 k3 k4
    obtain ⟨n1, rfl⟩ : ∃ m, n1 = m + 1 := ⟨n1 - 1, by omega⟩
    obtain ⟨n2, rfl⟩ : ∃ m, n2 = m + 1 := ⟨n2 - 1, by omega⟩
    have hix : i = xs.length := by omega
    refine ⟨S, sI S2 0 50 (nI i), φ, cs, ts, u, ps, qs, ?_, ?_, r, by omega, by omega, by omega, by omega, FC.rf, FS_sI (by unfold stpSl; omega), gI_ne (by decide)⟩
    · show b_TS_takeParts_32 g (m_TS_takeParts_32 g n1) S _ _ _ = _
      unfold b_TS_takeParts_32
      rw [wc.1.2.2.1, List.length_map, if_pos (nI_le (by omega) (by omega))]
    · show b_parted_2 g (m_parted_2 g n2) S2 _ _ = _
      unfold b_parted_2
      rw [wm.1, if_pos (nI_le (by omega) (by omega)), lt_d, hix]
  | succ kk ih =>
    intro n1 n2 i S S2 φ cs ts u ps qs hi h1 h2 hqi r wc wm hpq l1 l2 k1 k2 k3 k4
    obtain ⟨n1, rfl⟩ : ∃ m, n1 = m + 1 := ⟨n1 - 1, by omega⟩
    obtain ⟨n2, rfl⟩ : ∃ m, n2 = m + 1 := ⟨n2 - 1, by omega⟩
    have hix : i < xs.length := by omega
    have hci : xs[i]? = some xs[i] := List.getElem?_eq_getElem hix
    generalize hce : xs[i] = ce at hci
    obtain ⟨s, e⟩ := ce
    obtain ⟨hse, heN⟩ : s ≤ e ∧ e ≤ l.length := hxs (s, e) (by rw [← hce]; exact List.getElem_mem hix)
    obtain ⟨m, rfl⟩ : ∃ m, e = s + m := ⟨e - s, by omega⟩
    have hdrop : xs.drop i = (s, s + m) :: xs.drop (i + 1) := by
      rw [← hce]; exact List.drop_eq_getElem_cons hix
    have hcl : cutL (xs.drop i) = m + cutL (xs.drop (i + 1)) := by
      rw [hdrop]
      show s + m - s + cutL (xs.drop (i + 1)) = _
      omega
    have hm2 : LM S2 := r.2.2.1
    have hTc := r.2.2.2.1
    have b := C_bounds hTc.1 l1
    -- the class
    obtain ⟨⟨y1, z1, x23⟩, x30, x31⟩ := r.2.2.2.2.2.2.2.2.2.2.2.2.2
    obtain ⟨S5, c1, c2, c3⟩ := R_clear (g := g) x23
    have hx5 : XR S5 := by
      obtain ⟨y2, z2, x30⟩ := x30
      obtain ⟨y3, z3, x31⟩ := x31
      exact ⟨⟨[], 0, c3⟩, ⟨y2, z2, x30.fr c2 (by decide)⟩, y3, z3, x31.fr c2 (by decide)⟩
    obtain ⟨S6, d1, d2, d3⟩ := C_stretch (g := g) (i := s) (m := m) (hTc.1.fr23 c2) (Scr.nil c3) (r.1.fr c2) l1 (by omega)
    rw [List.nil_append] at d3
    have fc6 : F0C S S6 := (F0C.fr c2 (Or.inl rfl)).tr (F0C.fr d2 (Or.inl rfl))
    have x6 := hx5.scr d2 d3
    have hsl : (seg l s m).length = m := seg_len (by omega)
    have us := usL_seg (i := s) (m := m) ul (by omega)
    have h400 : limC 23 = 400 := by decide +kernel
    have w6 : Rw S6 23 (seg l s m) 0 := by
      rcases d3 with ⟨-, w⟩ | ⟨w1, -⟩
      · exact w
      · omega
    have wc6 : CutC S6 xs := (wc.fr c2 (by decide) (by decide)).fr d2 (by decide) (by decide)
    -- the reference
    have f57 : F0M S2 (sI S2 0 57 0) := F0M_sI (Or.inl rfl)
    have TS2 : TXs S2 ts u := hTc.2.1.d50
    obtain ⟨T5, v1, v2, v3⟩ := O_text (g := g) (t := q) (a := s) (b := s + m) hg (TS2.f0 f57) (show LM (sI S2 0 57 0) from hm2) l2 (by omega) (by omega) Out_0 (by simp; omega)
    rw [List.nil_append, show s + m - s = m by omega] at v3
    have fm5 : F0M S2 T5 := f57.tr (F0M.fe v2)
    have hm5 : LM T5 := hm2.fs (FS.f0 fm5)
    have wm5 : CutM T5 xs := wm.s57.fe v2
    have h585 : gI T5 0 58 = gI S2 0 58 := (v2.1 58 (by decide)).trans (gI_ne (by decide))
    have r6 := RS_0 r fc6 x6 (fm5.c50 (v := nI i))
    have h27 : gN T5 27 = 24 := LMn hm5 27
    have h38 : 401 ≤ gN (sI S2 0 57 0) 38 ∧ gN (sI S2 0 57 0) 38 < 2 ^ 31 := by rw [LMn (show LM (sI S2 0 57 0) from hm2) 38]; decide +kernel
    have h39 : 401 ≤ gN (sI S2 0 57 0) 39 ∧ gN (sI S2 0 57 0) 39 < 2 ^ 31 := by rw [LMn (show LM (sI S2 0 57 0) from hm2) 39]; decide +kernel
    have eC : m_TS_takeParts_32 g (n1 + 1) S (nI p) (nI l.length) (nI i) = if nI m = nI l.length then m_TS_takeParts_108 g (m_TS_takeParts_32 g n1) S6 (nI p) (nI l.length) (nI i) (nI p) else ((m_Tx_make g S6 23 0).bind fun (S_7, v_8) => m_TS_takeParts_108 g (m_TS_takeParts_32 g n1) S_7 (nI p) (nI l.length) (nI i) v_8) := by
      show b_TS_takeParts_32 g (m_TS_takeParts_32 g n1) S _ _ _ = _
      unfold b_TS_takeParts_32 m_TS_addStretch m_TS_addStretch_39 m_TS_takeParts_79
      have e1 : m_Row_at g S 30 (nI i) = some (nI s) := by
        rw [R_at wc.1, atR_nI (by omega), List.getD_eq_getElem?_getD, List.getElem?_map, hci]
        rfl
      have e2 : m_Row_at g S 31 (nI i) = some (nI (s + m)) := by
        rw [R_at wc.2, atR_nI (by omega), List.getD_eq_getElem?_getD, List.getElem?_map, hci]
        rfl
      rw [wc.1.2.2.1, List.length_map, if_neg (nI_ge hix (by omega)), e1, Option.bind_some, e2, Option.bind_some, c1, Option.bind_some, C_start (hTc.1.fr23 c2) b.1, Option.bind_some, nI_add, nI_add, d1, Option.bind_some, Option.bind_some, nI_sub (by omega), show s + m - s = m by omega]
    have eM : m_parted_2 g (n2 + 1) S2 (nI q) (nI i) = if nI m = nI l.length then ((tI T5 27 (nI i) (nI q)).bind fun S_11 => m_parted_2 g n2 S_11 (nI q) (nI (i + 1))) else ((m_became g T5).bind fun (S_7, v_8) => (tI S_7 27 (nI i) v_8).bind fun S_9 => m_parted_2 g n2 S_9 (nI q) (nI (i + 1))) := by
      show b_parted_2 g (m_parted_2 g n2) S2 _ _ = _
      unfold b_parted_2
      have ew := wm.2 i (s, s + m) hci
      rw [wm.1, if_neg (nI_ge hix (by omega)), lt_d, aI_at (by omega) (by omega), show gF (sI S2 0 57 0) 38 i = nI s from ew.1, Option.bind_some, aI_at (by omega) (by omega), show gF (sI S2 0 57 0) 39 i = nI (s + m) from ew.2, Option.bind_some, v1, Option.bind_some, (T_size (r6.2.2.2.1.2.1.d50) hm5 l2).1, Option.bind_some, v3.1, hsl, nI_1]
      rfl
    -- what follows a part
    have GO : ∀ (S7 T7 : St) (φ7 : Nat → Option Nat) (cs7 ts7 : List (List Int32)) (u7 p7 q7 : Nat), RS U S7 (sI T7 0 50 (nI i)) φ7 cs7 ts7 u7 pl pm ps qs → CutC S7 xs → CutM T7 xs → φ7 p = some q → cs7[p]? = some l → ts7[q]? = some l → φ7 p7 = some q7 → cs7.length + kk ≤ Cn → cs7.flatten.length + cutL (xs.drop (i + 1)) ≤ Fn → ts7.length + kk ≤ Tn → u7 + cutL (xs.drop (i + 1)) ≤ Un → FC S S7 → FS S2 T7 → gI T7 0 58 = gI S2 0 58 → m_TS_takeParts_32 g (n1 + 1) S (nI p) (nI l.length) (nI i) = m_TS_takeParts_108 g (m_TS_takeParts_32 g n1) S7 (nI p) (nI l.length) (nI i) (nI p7) → m_parted_2 g (n2 + 1) S2 (nI q) (nI i) = ((tI T7 27 (nI i) (nI q7)).bind fun S_9 => m_parted_2 g n2 S_9 (nI q) (nI (i + 1))) → ∃ S' T' φ' cs' ts' u' ps' qs', m_TS_takeParts_32 g (n1 + 1) S (nI p) (nI l.length) (nI i) = some (S', 0) ∧ m_parted_2 g (n2 + 1) S2 (nI q) (nI i) = some T' ∧ RS U S' T' φ' cs' ts' u' pl pm ps' qs' ∧ cs'.length ≤ Cn ∧ cs'.flatten.length ≤ Fn ∧ ts'.length ≤ Tn ∧ u' ≤ Un ∧ FC S S' ∧ FS S2 T' ∧ gI T' 0 58 = gI S2 0 58 := by
      intro S7 T7 φ7 cs7 ts7 u7 p7 q7 r7 wc7 wm7 hpq7 l17 l27 hpq77 j1 j2 j3 j4 fC fS h58 EC EM
      subst hqi
      have hPR : PR S7 (sI T7 0 50 (nI qs.length)) φ7 ps qs := r7.2.2.2.2.2.2.2.2.2.2.1
      obtain ⟨S9, g1, g2, g3⟩ := R_add (g := g) (v := nI p7) hPR.1 r7.1
      have hpl : ps.length = qs.length := by have := congrArg List.length hPR.2.2.2.2; simpa using this
      have h24 : limC 22 = 24 := by decide +kernel
      rw [if_pos (by rw [List.length_map]; omega), if_pos (by rw [List.length_map]; omega)] at g3
      have g3' : Rw S9 22 ((ps ++ [p7]).map nI) 0 := by rw [List.map_append]; exact g3
      have h277 : gN T7 27 = 24 := LMn r7.2.2.1 27
      have r9 := RS_part r7 hpq77 (by omega) g2 g3'
      obtain ⟨S', T', φ', cs', ts', u', ps', qs', q1, q2, q3, q4, q5, q6, q7', q8, q9, q10⟩ := ih n1 n2 (qs.length + 1) S9 (sF T7 27 qs.length (nI q7)) φ7 cs7 ts7 u7 (ps ++ [p7]) (qs ++ [q7]) (by omega) (by omega) (by omega) (by simp) r9 (wc7.fr g2 (by decide) (by decide)) wm7.s27 hpq7 l17 l27 j1 j2 j3 j4
      refine ⟨S', T', φ', cs', ts', u', ps', qs', ?_, ?_, q3, q4, q5, q6, q7', (fC.tr (FC.row g2 (by unfold stpRow; omega))).tr q8, (fS.tr (FS_sF (by unfold stpAr; omega))).tr q9, q10.trans h58⟩
      · rw [EC]
        unfold m_TS_takeParts_108 m_TS_takeParts_111
        rw [g1, Option.bind_some, lt_d, nI_1, q1]
      · rw [EM, tI_at (by omega) (by omega), Option.bind_some, q2]
    by_cases hw : m = l.length
    · rw [if_pos (by rw [hw])] at eC eM
      exact GO S6 T5 φ cs ts u p q r6 wc6 wm5 hpq l1 l2 hpq (by omega) (by omega) (by omega) (by omega) (FC.f0 fc6) (FS.f0 fm5) h585 eC eM
    rw [if_neg (i_lit (by omega) (by omega) hw)] at eC eM
    by_cases hz : m = 0
    · subst hz
      have hseg0 : seg l s 0 = [] := seg_0
      rw [hseg0] at w6 v3
      rw [C_make0 w6, Option.bind_some] at eC
      have hbc : m_became g T5 = some (T5, 0) := by
        unfold m_became
        rw [v3.1, if_pos (by rfl)]
      rw [hbc, Option.bind_some] at eM
      exact GO S6 T5 φ cs ts u 0 0 r6 wc6 wm5 hpq l1 l2 r6.2.2.2.1.2.2.2.2.1 (by omega) (by omega) (by omega) (by omega) (FC.f0 fc6) (FS.f0 fm5) h585 eC eM
    · have hne : seg l s m ≠ [] := fun z => by
        rw [z] at hsl
        simp at hsl
        omega
      obtain ⟨S7, g1, g2, g3⟩ := C_make (g := g) (own := 0) r6.2.2.2.1.1 w6 (by decide) (by decide) r6.1 (by rw [hsl]; omega) (by omega) (Or.inr hne)
      obtain ⟨T7, t1, t2, t3⟩ := O_made hg r6.2.2.2.1.2.1.d50 hm5 v3 (by omega) (by rw [hsl]; omega) (by omega)
      obtain ⟨r7, -⟩ := RS_mk r6 g2 g3 (t2.c50 (v := nI i)) (t3.c50) (by omega) us (by omega) (by omega)
      rw [g1, Option.bind_some] at eC
      have hbc : m_became g T5 = some (T7, nI ts.length) := by
        unfold m_became
        rw [v3.1, hsl, if_neg (show ¬ nI m = (0 : Int32) from i_lit (b := 0) (by omega) (by omega) hz), t1]
        rfl
      rw [hbc, Option.bind_some] at eM
      have hpc := b.1
      have hfl : (cs ++ [seg l s m]).flatten.length = cs.flatten.length + m := by
        rw [List.flatten_append, List.length_append, show ([seg l s m] : List (List Int32)).flatten = seg l s m from by simp, hsl]
      have hcl7 : (cs ++ [seg l s m]).length = cs.length + 1 := by simp
      have htl7 : (ts ++ [seg l s m]).length = ts.length + 1 := by simp
      rw [hsl] at r7
      exact GO S7 T7 _ _ _ _ cs.length ts.length r7 ⟨wc6.1.frT g2 (by decide) (by decide), wc6.2.frT g2 (by decide) (by decide)⟩ (wm5.md t2) (by unfold φs; rw [if_neg (by omega)]; exact hpq) (get_app l1) (get_app l2) (by unfold φs; rw [if_pos rfl]) (by omega) (by omega) (by omega) (by omega) ((FC.f0 fc6).tr (FC.frT g2 r6.2.2.2.1.1 g3)) ((FS.f0 fm5).tr (FS.md t2)) ((t2.1 58 (by decide) (by decide)).trans h585) eC eM
theorem fin_cuts {k : Nat} {S S2 S1 T1 : St} {φ : Nat → Option Nat} {cs ts : List (List Int32)} {u : Nat} {ps qs : List Nat} (hg : 100000 ≤ g) (hk : k < 60) (r : RS U S S2 φ cs ts u pl pm ps qs) (bd : Bd k cs ts u pl) (hc : F0C S S1) (hx : XR S1) (hm : F0M S2 T1) (h0 : gI T1 0 58 = 0) (wc : CutC S1 xs) (wm : CutM T1 xs) (hxs : CutOK l.length xs) (hcl : cutL xs ≤ 400) (hlx : xs.length ≤ 401) (hpq : φ p = some q) (l1 : cs[p]? = some l) (l2 : ts[q]? = some l) (l3 : l.length ≤ 400) (l4 : usL l) : ∃ S' T' kd, m_TS_takeParts g S1 (nI p) = some (S', nI kd) ∧ m_cuts_213 g T1 (nI q) = some T' ∧ Tl U k S S2 S' T' kd := by
  have r1 := RS_0 r hc hx hm
  unfold m_TS_takeParts m_cuts_213 m_cuts_228
  rw [wc.1.2.2.1, List.length_map, wm.1]
  by_cases h24 : xs.length ≤ 24
  · rw [if_pos (show nI xs.length ≤ (24 : Int32) from nI_le (b := 24) h24 (by omega)), if_pos (show nI xs.length ≤ (24 : Int32) from nI_le (b := 24) h24 (by omega)), M_ref0, Option.bind_some, if_pos h0]
    have hPR : PR S1 T1 φ ps qs := r1.2.2.2.2.2.2.2.2.2.2.1
    obtain ⟨S3, c1, c2, c3⟩ := R_clear (g := g) hPR.1
    have r3 := RS_clr22 r1 c2 c3
    obtain ⟨b1, b2, b3, b4, b5⟩ := bd
    obtain ⟨S', T', φ', cs', ts', u', ps', qs', q1, q2, q3, q4, q5, q6, q7, q8, q9, q10⟩ := tp_l (U := U) (g := g) (p := p) (q := q) (pl := pl) (pm := pm) hg l3 l4 hxs h24 (Cn := 25 + 24 * (k + 1)) (Fn := 3400 + 400 * k) (Tn := 25 + 24 * (k + 1)) (Un := 3400 + 400 * k) (by omega) (by omega) (by omega) (by omega) xs.length g g 0 S3 T1 φ cs ts u [] [] (by omega) (by omega) (by omega) rfl r3 (wc.fr c2 (by decide) (by decide)) wm hpq l1 l2 (by omega) (by rw [List.drop_zero]; omega) (by omega) (by rw [List.drop_zero]; omega)
    refine ⟨S', T', 0, ?_, ?_, q10.trans h0, by decide, ⟨φ', cs', ts', u', pl, pm, ps', qs', q3, ⟨q4, by rw [Nat.mul_succ]; omega, q6, by rw [Nat.mul_succ]; omega, by omega⟩⟩, ((FC.f0 hc).tr (FC.row c2 (by unfold stpRow; omega))).tr q8, (FS.f0 hm).tr q9⟩
    · rw [c1, Option.bind_some, C_size r3.2.2.2.1.1 l1, Option.bind_some]
      exact q1
    · unfold m_parted
      rw [show m_parted_2 g g T1 (nI q) 0 = some T' from q2]
      rfl
  · rw [if_neg (show ¬ nI xs.length ≤ (24 : Int32) from nI_ge (a := 24) (by omega) (by omega)), if_neg (show ¬ nI xs.length ≤ (24 : Int32) from nI_ge (a := 24) (by omega) (by omega)), M_ref1 h0, Option.bind_some, if_neg (by rw [sI_58]; decide)]
    exact ⟨S1, sI T1 0 58 5, 5, rfl, rfl, fin_no r bd hc hx (hm.tr (F0M_sI (Or.inr (Or.inl rfl)))) sI_58 (by decide)⟩
end TKP
