/-! the STEPS: piece, weave -/
section PCS
variable {U : Nat → Prop} {g k : Nat} {S S2 : St} {ws : List Wd} {a : Nat} {φ : Nat → Option Nat} {cs ts : List (List Int32)} {u : Nat} {pl pm ps qs : List Nat}
theorem P_len (r : RS U S S2 φ cs ts u pl pm ps qs) : gI S 22 2 = nI qs.length ∧ gI S2 0 50 = nI qs.length ∧ qs.length ≤ 24 ∧ ps.length = qs.length := by
  obtain ⟨p1, p2, p3, p4, p5⟩ : PR S S2 φ ps qs := r.2.2.2.2.2.2.2.2.2.2.1
  have hlen : ps.length = qs.length := by have := congrArg List.length p5; simpa using this
  refine ⟨?_, p2, p3, hlen⟩
  rw [p1.2.2.1, List.length_map, hlen]
theorem P_at (r : RS U S S2 φ cs ts u pl pm ps qs) (bd : Bd k cs ts u pl) (hk : k ≤ 60) {i : Nat} (hi : i < qs.length) : ∃ p q l, m_Row_at g S 22 (nI i) = some (nI p) ∧ aI S2 27 (nI i) = some (nI q) ∧ φ p = some q ∧ p < 1465 ∧ q < 1700 ∧ cs[p]? = some l ∧ ts[q]? = some l ∧ l.length ≤ 400 ∧ usL l := by
  obtain ⟨p1, p2, p3, p4, p5⟩ : PR S S2 φ ps qs := r.2.2.2.2.2.2.2.2.2.2.1
  have hlen : ps.length = qs.length := by have := congrArg List.length p5; simpa using this
  have hpq : φ ps[i] = some qs[i] := by
    have h := congrArg (fun z : List (Option Nat) => z[i]?) p5
    simp only [List.getElem?_map, List.getElem?_eq_getElem (show i < ps.length by omega), List.getElem?_eq_getElem hi, Option.map_some] at h
    exact Option.some.inj h
  obtain ⟨l, l1, l2, l3, l4⟩ := r.2.2.2.1.2.2.1 _ _ hpq
  have h27 : gN S2 27 = 24 := LMn r.2.2.1 27
  have hp := (List.getElem?_eq_some_iff.mp l1).1
  have hq := (List.getElem?_eq_some_iff.mp l2).1
  obtain ⟨b1, b2, b3, b4, b5⟩ := bd
  refine ⟨ps[i], qs[i], l, ?_, ?_, hpq, by omega, by omega, l1, l2, l3, l4⟩
  · rw [R_at p1, atR_nI (by omega), List.getD_eq_getElem?_getD, List.getElem?_map, List.getElem?_eq_getElem (show i < ps.length by omega)]
    rfl
  · rw [aI_at (by omega) (by omega), p4 i hi, List.getD_eq_getElem?_getD, List.getElem?_eq_getElem hi]
    rfl
end PCS
theorem St29 : StOK 29 := by
  intro g U k S S2 ws a hg hk hR c cm hW h0
  obtain ⟨φ, cs, ts, u, pl, pm, ps, qs, r, bd⟩ := hR
  obtain ⟨q1, q2, q3⟩ := hW
  have q1 : 2 ≤ ws.length := q1
  have q2 : ws.length ≤ 2 := q2
  obtain ⟨w0, w1, rfl⟩ := ls2 (show ws.length = 2 by omega)
  change ∃ S' S2' kd, doC g S 29 = some (S', nI kd) ∧ m_does g S2 (nI 29) (nI a) (nI 2) = some S2' ∧ gI S2' 0 58 = nI kd ∧ kd ≤ 5 ∧ RSx U (k + 1) S' S2' ∧ FC S S' ∧ FS S2 S2'
  have hl := r.2.1
  have hm := r.2.2.1
  have hT := r.2.2.2.1
  have hx := r.2.2.2.2.2.2.2.2.2.2.2.2.2
  have f1 : F0M S2 (sI S2 0 57 0) := F0M_sI (Or.inl rfl)
  have f2 : F0M S2 (sI (sI S2 0 57 0) 0 58 4) := f1.tr (F0M_sI (Or.inr (Or.inl rfl)))
  have f3 : F0M S2 (sI (sI S2 0 57 0) 0 58 1) := f1.tr (F0M_sI (Or.inr (Or.inl rfl)))
  have h0' : gI (sI S2 0 57 0) 0 58 = 0 := by rw [gI_ne (by decide)]; exact h0
  have cm' := cm.fs (FS.f0 f1)
  have hm' := hm.fs (FS.f0 f1)
  have T2 := hT.2.1.f0 f1
  obtain ⟨-, n, hn, hv⟩ := okL_v (show okL U 118 w0 from q3 0 w0 rfl)
  have o1 : okW w1 := okL_W (show okL U 87 w1 from q3 1 w1 rfl)
  have m1 : m_value g (sI S2 0 57 0) (nI a + (1 : Int32)) = some (valW S2 w1) := by rw [show (1 : Int32) = nI 1 from rfl, nI_add]; exact M_value (g := g) (j := 1) (w := w1) cm' hm' rfl o1
  have hlk := lacks0 (s := 29) hg c (show ∀ j, j < 2 → ¬ lett 29 (nI j) = 84 from by decide +kernel)
  obtain ⟨S1, s1, s2, s3, s4⟩ := clr (g := g) hx
  have fc := F0C.fr s2 (Or.inl rfl)
  have rc := RS_0 r fc s4 f1
  have cS := c.fc (FC.f0 fc)
  have hWR : WR S1 (sI S2 0 57 0) := rc.2.2.2.2.2.2.2.2.1
  obtain ⟨n1, n2, n3, -⟩ := P_len rc
  have hC := doC_P hlk (by decide +kernel)
  rw [dC_29 s1, bS2] at hC
  unfold m_TS_piece at hC
  obtain ⟨z, z1, z2⟩ := B_place (g := g) (j := 1) (w := w1) (n := qs.length) cS rc.2.1 rfl o1 hWR (by omega)
  rw [show valW (sI S2 0 57 0) w1 = valW S2 w1 from rfl] at z2
  rw [n1, show m_Bn_placeAt g S1 1 (nI qs.length) = some z from z1, Option.bind_some] at hC
  have hM := dM_29 (g := g) (S := S2) (x2 := nI a) (x3 := nI 2)
  rw [dM2_29, m1, Option.bind_some, isIn_s, Option.bind_some, n2, bS] at hM
  have hv1 : ((nI qs.length - (1 : Int32)).toInt64).toInt = (qs.length : Int) - 1 := by rw [j64, show (1 : Int32) = nI 1 from rfl, nI_subI (by omega) (by omega)]; rfl
  by_cases hin : (0 : Int) ≤ (valW S2 w1).toInt ∧ (valW S2 w1).toInt ≤ (qs.length : Int) - 1
  · obtain ⟨i, hi⟩ : ∃ m : Nat, (valW S2 w1).toInt = (m : Int) := ⟨(valW S2 w1).toInt.toNat, by omega⟩
    have hz : z = nI i := Int32.toInt_inj.mp (by rw [z2, nI_toInt (by omega)]; omega)
    subst hz
    obtain ⟨p, q, l, e1, e2, hpq, hp, hq, -⟩ := P_at (g := g) rc bd (by omega) (show i < qs.length by omega)
    refine ⟨sF S1 74 n (nI p), sF (sI S2 0 57 0) 26 n (nI q), 0, ?_, ?_, fin_gt r bd fc s4 f1 h0' hn (Or.inr ⟨p, q, rfl, rfl, hpq, hp, hq⟩)⟩
    · rw [hC, if_neg (nI_pos (by omega)), if_pos (nI_lt (by omega) (by omega)), e1, Option.bind_some, B_gt cS rc.2.1 (w := w0) rfl hn hv]
      rfl
    · rw [hM, c01_t (by rw [hv1, z64]; exact hin), if_neg (by decide)]
      unfold m_cuts_54
      rw [M_ref0, Option.bind_some, if_pos h0', j32 hi (by omega), e2, Option.bind_some, M_gt cm' hm' (w := w0) rfl hn hv h0']
      rfl
  · refine ⟨S1, sI (sI S2 0 57 0) 0 58 1, 1, ?_, ?_, fin_no r bd fc s4 f3 sI_58 (by decide)⟩
    · rw [hC]
      by_cases h1 : z < 0
      · rw [if_pos h1]
        rfl
      · rw [if_neg h1, if_neg (fun h2 => by
          rw [Int32.lt_iff_toInt_lt, show (0 : Int32).toInt = 0 from rfl] at h1
          rw [Int32.lt_iff_toInt_lt, nI_toInt (by omega)] at h2
          omega)]
        rfl
    · rw [hM, c01_f (by rw [hv1, z64]; exact hin), if_pos rfl]
      unfold m_cuts_54
      rw [M_ref1 h0', Option.bind_some, if_neg (by rw [sI_58]; decide)]
section WVE
variable {U : Nat → Prop} {g k : Nat} {S0 S20 : St} {a : Nat} {φ : Nat → Option Nat} {cs ts : List (List Int32)} {u : Nat} {pl pm ps qs : List Nat} {p q : Nat} {l : List Int32}
theorem wve_l (hg : 100000 ≤ g) (hk : k ≤ 60) (r0 : RS U S0 S20 φ cs ts u pl pm ps qs) (bd : Bd k cs ts u pl) (l1 : cs[p]? = some l) (l2 : ts[q]? = some l) (l3 : l.length ≤ 400) (l4 : usL l) : ∀ (kk n1 n2 i : Nat) (S S2 : St) (v : List Int32), i + kk = qs.length → kk < n1 → kk < n2 → F0C S0 S → XR S → F0M S20 S2 → Scr S 23 v → Out S2 v → v.length + 800 * kk < 1000000 → usL v → ∃ S' T' v', m_TS_weave_2 g n1 S (nI p) (nI i) = m_TS_become g S' (-1) 1 ∧ m_cuts_105 g n2 S2 (nI a) (nI q) (nI i) = m_givesUnits g T' (nI a) ∧ F0C S0 S' ∧ XR S' ∧ F0M S20 T' ∧ gI T' 0 58 = gI S2 0 58 ∧ Scr S' 23 v' ∧ Out T' v' ∧ usL v' ∧ v'.length < 1000000 := by
  have h24 := (P_len r0).2.2.1
  intro kk
  induction kk with
  | zero =>
    intro n1 n2 i S S2 v hi h1 h2 fc hx fm sc o hv hu
    obtain ⟨n1, rfl⟩ : ∃ m, n1 = m + 1 := ⟨n1 - 1, by omega⟩
    obtain ⟨n2, rfl⟩ : ∃ m, n2 = m + 1 := ⟨n2 - 1, by omega⟩
    obtain ⟨e1, e2, -⟩ := P_len (RS_0 r0 fc hx fm)
    refine ⟨S, S2, v, ?_, ?_, fc, hx, fm, rfl, sc, o, hu, by omega⟩
    · show b_TS_weave_2 g (m_TS_weave_2 g n1) S _ _ = _
      unfold b_TS_weave_2 m_TS_weave_52
      rw [e1, if_pos (nI_le (by omega) (by omega)), bS2]
    · show b_cuts_105 g (m_cuts_105 g n2) S2 _ _ _ = _
      unfold b_cuts_105
      rw [e2, if_pos (nI_le (by omega) (by omega)), bS]
  | succ kk ih =>
    intro n1 n2 i S S2 v hi h1 h2 fc hx fm sc o hv hu
    obtain ⟨n1, rfl⟩ : ∃ m, n1 = m + 1 := ⟨n1 - 1, by omega⟩
    obtain ⟨n2, rfl⟩ : ∃ m, n2 = m + 1 := ⟨n2 - 1, by omega⟩
    have r := RS_0 r0 fc hx fm
    obtain ⟨e1, e2, -⟩ := P_len r
    have sep : ∃ S1 T1 W, (m_TS_weave_2 g (n1 + 1) S (nI p) (nI i) = m_TS_weave_25 g (m_TS_weave_2 g n1) S1 (nI p) (nI i)) ∧ (m_cuts_105 g (n2 + 1) S2 (nI a) (nI q) (nI i) = m_cuts_131 g (m_cuts_105 g n2) T1 (nI a) (nI q) (nI i)) ∧ Fr 23 S S1 ∧ FE S2 T1 ∧ Scr S1 23 (v ++ W) ∧ Out T1 (v ++ W) ∧ usL W ∧ W.length ≤ 400 := by
      by_cases hz : i = 0
      · subst hz
        refine ⟨S, S2, [], ?_, ?_, Fr.rf, FE.rf, by rw [List.append_nil]; exact sc, by rw [List.append_nil]; exact o, usL_nil, by simp⟩
        · show b_TS_weave_2 g (m_TS_weave_2 g n1) S _ _ = _
          unfold b_TS_weave_2
          rw [e1, if_neg (nI_ge (by omega) (by omega)), if_pos (by decide)]
        · show b_cuts_105 g (m_cuts_105 g n2) S2 _ _ _ = _
          unfold b_cuts_105
          rw [e2, if_neg (nI_ge (by omega) (by omega)), if_pos (by decide)]
      · obtain ⟨S1, a1, a2, a3⟩ := C_addTextS (g := g) r.2.2.2.1.1 sc r.1 l1
        obtain ⟨T1, b1, b2, b3⟩ := O_text (g := g) (t := q) (a := 0) (b := l.length) hg r.2.2.2.1.2.1 r.2.2.1 l2 (by omega) (by omega) o (by omega)
        rw [Nat.sub_zero, seg_all] at b3
        rw [nI_0] at b1
        refine ⟨S1, T1, l, ?_, ?_, a2, b2, a3, b3, l4, l3⟩
        · show b_TS_weave_2 g (m_TS_weave_2 g n1) S _ _ = _
          unfold b_TS_weave_2
          rw [e1, if_neg (nI_ge (by omega) (by omega)), if_neg (nI_nle (by omega) (by omega)), a1, Option.bind_some]
        · show b_cuts_105 g (m_cuts_105 g n2) S2 _ _ _ = _
          unfold b_cuts_105
          rw [e2, if_neg (nI_ge (by omega) (by omega)), if_neg (nI_nle (by omega) (by omega)), (T_size r.2.2.2.1.2.1 r.2.2.1 l2).1, Option.bind_some, b1, Option.bind_some]
    obtain ⟨S1, T1, W, c1, c2, c3, c4, c5, c6, c7, c8⟩ := sep
    have fc1 := fc.tr (F0C.fr c3 (Or.inl rfl))
    have fm1 := fm.tr (F0M.fe c4)
    have hx1 := hx.scr c3 c5
    have r1 := RS_0 r0 fc1 hx1 fm1
    obtain ⟨p', q', l', d1, d2, -, -, -, d6, d7, d8, d9⟩ := P_at (g := g) r1 bd hk (show i < qs.length by omega)
    obtain ⟨S3, a1, a2, a3⟩ := C_addTextS (g := g) r1.2.2.2.1.1 c5 r1.1 d6
    obtain ⟨T3, b1, b2, b3⟩ := O_text (g := g) (t := q') (a := 0) (b := l'.length) hg r1.2.2.2.1.2.1 r1.2.2.1 d7 (by omega) (by omega) c6 (by rw [List.length_append]; omega)
    rw [Nat.sub_zero, seg_all] at b3
    rw [nI_0] at b1
    obtain ⟨S', T', v', g1, g2, g3, g4, g5, g6, g7⟩ := ih n1 n2 (i + 1) S3 T3 _ (by omega) (by omega) (by omega) (fc1.tr (F0C.fr a2 (Or.inl rfl))) (hx1.scr a2 a3) (fm1.tr (F0M.fe b2)) a3 b3 (by rw [List.length_append, List.length_append]; omega) (usL_app (usL_app hu c7) d9)
    refine ⟨S', T', v', ?_, ?_, g3, g4, g5, g6.trans ((b2.1 58 (by decide)).trans (c4.1 58 (by decide))), g7⟩
    · rw [c1]
      unfold m_TS_weave_25 m_TS_weave_40
      rw [d1, Option.bind_some, a1, Option.bind_some, lt_d, nI_1, g1]
    · rw [c2]
      unfold m_cuts_131
      rw [d2, Option.bind_some, Option.bind_some, (T_size r1.2.2.2.1.2.1 r1.2.2.1 d7).1, Option.bind_some, b1, Option.bind_some, lt_d, nI_1, g2]
end WVE
theorem St31 : StOK 31 := by
  intro g U k S S2 ws a hg hk hR c cm hW h0
  obtain ⟨φ, cs, ts, u, pl, pm, ps, qs, r, bd⟩ := hR
  obtain ⟨q1, q2, q3⟩ := hW
  have q1 : 2 ≤ ws.length := q1
  have q2 : ws.length ≤ 2 := q2
  obtain ⟨w0, w1, rfl⟩ := ls2 (show ws.length = 2 by omega)
  change ∃ S' S2' kd, doC g S 31 = some (S', nI kd) ∧ m_does g S2 (nI 31) (nI a) (nI 2) = some S2' ∧ gI S2' 0 58 = nI kd ∧ kd ≤ 5 ∧ RSx U (k + 1) S' S2' ∧ FC S S' ∧ FS S2 S2'
  have hl := r.2.1
  have hm := r.2.2.1
  have hT := r.2.2.2.1
  have hx := r.2.2.2.2.2.2.2.2.2.2.2.2.2
  have f1 : F0M S2 (sI S2 0 57 0) := F0M_sI (Or.inl rfl)
  have f2 : F0M S2 (sI (sI S2 0 57 0) 0 58 4) := f1.tr (F0M_sI (Or.inr (Or.inl rfl)))
  have f3 : F0M S2 (sI (sI S2 0 57 0) 0 58 1) := f1.tr (F0M_sI (Or.inr (Or.inl rfl)))
  have h0' : gI (sI S2 0 57 0) 0 58 = 0 := by rw [gI_ne (by decide)]; exact h0
  have cm' := cm.fs (FS.f0 f1)
  have hm' := hm.fs (FS.f0 f1)
  have T2 := hT.2.1.f0 f1
  obtain ⟨-, n, hn, hv⟩ := okL_v (show okL U 118 w0 from q3 0 w0 rfl)
  obtain ⟨x, y, e1, e2, e3, e4⟩ := getT (g := g) (j := 1) (w := w1) r c cm rfl (show okL U 84 w1 from q3 1 w1 rfl) (by decide)
  have hlk := lacks1 (s := 31) (j0 := 1) hg c (show 1 < 2 by decide) (show ∀ j, j < 2 → j ≠ 1 → ¬ lett 31 (nI j) = 84 from by decide +kernel) (by decide +kernel) e1
  rcases e4 with ⟨rfl, rfl⟩ | ⟨p, q, l, rfl, rfl, hpq, hp, hq, l1, l2, l3, l4⟩
  · rw [c01_t rfl] at hlk
    refine ⟨S, sI (sI S2 0 57 0) 0 58 4, 4, doC_no hlk, ?_, fin_no r bd F0C.rf hx f2 sI_58 (by decide)⟩
    rw [dM_31, dM2_31, show m_textAt g (sI S2 0 57 0) (nI a + 1) = _ from M_tAt0 (e2 _ f1) h0', Option.bind_some]
    dsimp only
    rw [if_neg (by rw [sI_58]; decide), Option.bind_some]
  · rw [c01_f (m1_ne (by omega))] at hlk
    obtain ⟨S1, s1, s2, s3, s4⟩ := clr (g := g) hx
    have fc := F0C.fr s2 (Or.inl rfl)
    have rc := RS_0 r fc s4 f1
    have cS := c.fc (FC.f0 fc)
    have hlS := rc.2.1
    have hTc := rc.2.2.2.1
    have hWR : WR S1 (sI S2 0 57 0) := rc.2.2.2.2.2.2.2.2.1
    have b := C_bounds hTc.1 l1
    have hC := doC_P hlk (by decide +kernel)
    rw [dC_31 s1, show m_Bn_textAt g S1 1 = some (nI p) from tA_F0 (g := g) (j := 1) (w := w1) r c cm rfl (show okL U 84 w1 from q3 1 w1 rfl) (by decide) e1 fc s4, Option.bind_some] at hC
    unfold m_TS_giveParts_87 m_TS_weave at hC
    rw [bS2] at hC
    have hM := dM_31 (g := g) (S := S2) (x2 := nI a) (x3 := nI 2)
    rw [dM2_31, show m_textAt g (sI S2 0 57 0) (nI a + 1) = _ from M_tAt (e2 _ f1) (by omega), Option.bind_some] at hM
    dsimp only at hM
    rw [if_pos h0', bS] at hM
    have h24 := (P_len r).2.2.1
    obtain ⟨S', T', v', a1, a2, a3, a4, a5, a6, a7, a8, a9, a10⟩ := wve_l (g := g) (a := a) hg (by omega) r bd l1 l2 l3 l4 qs.length g g 0 S1 (sI S2 0 57 0) [] (by omega) (by omega) (by omega) fc s4 f1 (Scr.nil s3) Out_0 (by simp; omega) usL_nil
    obtain ⟨S4, T4, kd, y1, y2, y3⟩ := fin_units (x := -1) hg hk r bd c cm (w0 := w0) rfl hn hv a3 a4 a7 a5 (a6.trans h0') a8 (by omega) (fun _ => a9)
    exact ⟨S4, T4, kd, hC.trans (a1.trans y1), hM.trans (a2.trans y2), y3⟩
