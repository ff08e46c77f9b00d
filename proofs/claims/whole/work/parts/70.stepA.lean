/-! the STEPS: wholes -/
theorem St50 : StOK 50 := by
  intro g U k S S2 ws a hg hk hR c cm hW h0
  obtain ⟨φ, cs, ts, u, pl, pm, ps, qs, r, bd⟩ := hR
  obtain ⟨q1, q2, q3⟩ := hW
  have q1 : 3 ≤ ws.length := q1
  have q2 : ws.length ≤ 3 := q2
  obtain ⟨w0, w1, w2, rfl⟩ := ls3 (show ws.length = 3 by omega)
  have hl := r.2.1
  have hm := r.2.2.1
  have hWR : WR S S2 := r.2.2.2.2.2.2.2.2.1
  obtain ⟨-, n, hn, hv⟩ := okL_w (show okL U 119 w0 from q3 0 w0 rfl)
  have o1 : okW w1 := okL_W (show okL U 87 w1 from q3 1 w1 rfl)
  have o2 : okW w2 := okL_W (show okL U 87 w2 from q3 2 w2 rfl)
  have f1 : F0M S2 (sI S2 0 57 0) := F0M_sI (Or.inl rfl)
  have h0' : gI (sI S2 0 57 0) 0 58 = 0 := by rw [gI_ne (by decide)]; exact h0
  have cm' := cm.fs (FS.f0 f1)
  have hm' := hm.fs (FS.f0 f1)
  refine ⟨sG S 75 n (valW S2 w1 + valW S2 w2), sG (sI S2 0 57 0) 32 n (valW S2 w1 + valW S2 w2), 0, ?_, ?_, fin_gw r bd f1 h0' hn⟩
  · rw [doC_W (lacks0 hg c (show ∀ j, j < 3 → ¬ lett 50 (nI j) = 84 from by decide +kernel)) (by decide +kernel), dC_50]
    rw [show (1 : Int32) = nI 1 from rfl, show (2 : Int32) = nI 2 from rfl, B_whole (S2 := S2) (w := w1) c hl rfl o1 hWR, B_whole (S2 := S2) (w := w2) c hl rfl o2 hWR, Option.bind_some, Option.bind_some, B_gw c hl (w := w0) rfl hn hv]
    rfl
  · have e1 := M_value (g := g) (j := 1) (w := w1) cm' hm' rfl o1
    have e2 := M_value (g := g) (j := 2) (w := w2) cm' hm' rfl o2
    rw [dM_50, dM2_50 (v_1 := valW S2 w1) (v_2 := valW S2 w2) (by rw [show (1 : Int32) = nI 1 from rfl, nI_add]; exact e1) (by rw [show (2 : Int32) = nI 2 from rfl, nI_add]; exact e2)]
    unfold m_reckons_267
    rw [M_gw cm' hm' (w := w0) rfl hn hv h0']
    rfl
theorem St51 : StOK 51 := by
  intro g U k S S2 ws a hg hk hR c cm hW h0
  obtain ⟨φ, cs, ts, u, pl, pm, ps, qs, r, bd⟩ := hR
  obtain ⟨q1, q2, q3⟩ := hW
  have q1 : 3 ≤ ws.length := q1
  have q2 : ws.length ≤ 3 := q2
  obtain ⟨w0, w1, w2, rfl⟩ := ls3 (show ws.length = 3 by omega)
  have hl := r.2.1
  have hm := r.2.2.1
  have hWR : WR S S2 := r.2.2.2.2.2.2.2.2.1
  obtain ⟨-, n, hn, hv⟩ := okL_w (show okL U 119 w0 from q3 0 w0 rfl)
  have o1 : okW w1 := okL_W (show okL U 87 w1 from q3 1 w1 rfl)
  have o2 : okW w2 := okL_W (show okL U 87 w2 from q3 2 w2 rfl)
  have f1 : F0M S2 (sI S2 0 57 0) := F0M_sI (Or.inl rfl)
  have h0' : gI (sI S2 0 57 0) 0 58 = 0 := by rw [gI_ne (by decide)]; exact h0
  have cm' := cm.fs (FS.f0 f1)
  have hm' := hm.fs (FS.f0 f1)
  refine ⟨sG S 75 n (valW S2 w1 - valW S2 w2), sG (sI S2 0 57 0) 32 n (valW S2 w1 - valW S2 w2), 0, ?_, ?_, fin_gw r bd f1 h0' hn⟩
  · rw [doC_W (lacks0 hg c (show ∀ j, j < 3 → ¬ lett 51 (nI j) = 84 from by decide +kernel)) (by decide +kernel), dC_51]
    rw [show (1 : Int32) = nI 1 from rfl, show (2 : Int32) = nI 2 from rfl, B_whole (S2 := S2) (w := w1) c hl rfl o1 hWR, B_whole (S2 := S2) (w := w2) c hl rfl o2 hWR, Option.bind_some, Option.bind_some, B_gw c hl (w := w0) rfl hn hv]
    rfl
  · have e1 := M_value (g := g) (j := 1) (w := w1) cm' hm' rfl o1
    have e2 := M_value (g := g) (j := 2) (w := w2) cm' hm' rfl o2
    rw [dM_51, dM2_51 (v_1 := valW S2 w1) (v_2 := valW S2 w2) (by rw [show (1 : Int32) = nI 1 from rfl, nI_add]; exact e1) (by rw [show (2 : Int32) = nI 2 from rfl, nI_add]; exact e2)]
    unfold m_reckons_267
    rw [M_gw cm' hm' (w := w0) rfl hn hv h0']
    rfl
theorem St52 : StOK 52 := by
  intro g U k S S2 ws a hg hk hR c cm hW h0
  obtain ⟨φ, cs, ts, u, pl, pm, ps, qs, r, bd⟩ := hR
  obtain ⟨q1, q2, q3⟩ := hW
  have q1 : 3 ≤ ws.length := q1
  have q2 : ws.length ≤ 3 := q2
  obtain ⟨w0, w1, w2, rfl⟩ := ls3 (show ws.length = 3 by omega)
  have hl := r.2.1
  have hm := r.2.2.1
  have hWR : WR S S2 := r.2.2.2.2.2.2.2.2.1
  obtain ⟨-, n, hn, hv⟩ := okL_w (show okL U 119 w0 from q3 0 w0 rfl)
  have o1 : okW w1 := okL_W (show okL U 87 w1 from q3 1 w1 rfl)
  have o2 : okW w2 := okL_W (show okL U 87 w2 from q3 2 w2 rfl)
  have f1 : F0M S2 (sI S2 0 57 0) := F0M_sI (Or.inl rfl)
  have h0' : gI (sI S2 0 57 0) 0 58 = 0 := by rw [gI_ne (by decide)]; exact h0
  have cm' := cm.fs (FS.f0 f1)
  have hm' := hm.fs (FS.f0 f1)
  refine ⟨sG S 75 n (valW S2 w1 * valW S2 w2), sG (sI S2 0 57 0) 32 n (valW S2 w1 * valW S2 w2), 0, ?_, ?_, fin_gw r bd f1 h0' hn⟩
  · rw [doC_W (lacks0 hg c (show ∀ j, j < 3 → ¬ lett 52 (nI j) = 84 from by decide +kernel)) (by decide +kernel), dC_52]
    rw [show (1 : Int32) = nI 1 from rfl, show (2 : Int32) = nI 2 from rfl, B_whole (S2 := S2) (w := w1) c hl rfl o1 hWR, B_whole (S2 := S2) (w := w2) c hl rfl o2 hWR, Option.bind_some, Option.bind_some, B_gw c hl (w := w0) rfl hn hv]
    rfl
  · have e1 := M_value (g := g) (j := 1) (w := w1) cm' hm' rfl o1
    have e2 := M_value (g := g) (j := 2) (w := w2) cm' hm' rfl o2
    rw [dM_52, dM2_52 (v_1 := valW S2 w1) (v_2 := valW S2 w2) (by rw [show (1 : Int32) = nI 1 from rfl, nI_add]; exact e1) (by rw [show (2 : Int32) = nI 2 from rfl, nI_add]; exact e2)]
    unfold m_reckons_267
    rw [M_gw cm' hm' (w := w0) rfl hn hv h0']
    rfl
theorem St9 : StOK 9 := by
  intro g U k S S2 ws a hg hk hR c cm hW h0
  obtain ⟨φ, cs, ts, u, pl, pm, ps, qs, r, bd⟩ := hR
  obtain ⟨q1, q2, q3⟩ := hW
  have q1 : 2 ≤ ws.length := q1
  have q2 : ws.length ≤ 2 := q2
  obtain ⟨w0, w1, rfl⟩ := ls2 (show ws.length = 2 by omega)
  have hl := r.2.1
  have hm := r.2.2.1
  have hT := r.2.2.2.1
  obtain ⟨-, n, hn, hv⟩ := okL_w (show okL U 119 w0 from q3 0 w0 rfl)
  have f1 : F0M S2 (sI S2 0 57 0) := F0M_sI (Or.inl rfl)
  have h0' : gI (sI S2 0 57 0) 0 58 = 0 := by rw [gI_ne (by decide)]; exact h0
  have cm' := cm.fs (FS.f0 f1)
  have hm' := hm.fs (FS.f0 f1)
  have r1 := RS_0 r F0C.rf r.2.2.2.2.2.2.2.2.2.2.2.2.2 f1
  have o1 : okT φ S (sI S2 0 57 0) w1 := okL_T (show okL U 84 w1 from q3 1 w1 rfl) (Or.inl rfl) r1.2.2.2.2.2.2.2.2.2.2.2.2.1
  obtain ⟨x, y, e1, e2, e3, -⟩ := MB_text (g := g) (j := 1) (w := w1) c cm' hl hm' rfl o1 r1.2.2.2.2.2.2.2.1
  have e2' : m_text g (sI S2 0 57 0) (nI a + (1 : Int32)) = some y := by rw [show (1 : Int32) = nI 1 from rfl, nI_add]; exact e2
  have hlk := lacks1 (s := 9) (j0 := 1) hg c (show 1 < 2 by decide) (show ∀ j, j < 2 → j ≠ 1 → ¬ lett 9 (nI j) = 84 from by decide +kernel) (by decide +kernel) e1
  rcases e3 with ⟨rfl, rfl⟩ | ⟨p, q, rfl, rfl, hpq, hp, hq⟩
  · rw [c01_t rfl] at hlk
    refine ⟨S, sI (sI S2 0 57 0) 0 58 4, 4, doC_no hlk, ?_, fin_no r bd F0C.rf r.2.2.2.2.2.2.2.2.2.2.2.2.2 (f1.tr (F0M_sI (Or.inr (Or.inl rfl)))) sI_58 (by decide)⟩
    rw [dM_9, dM2_9 (M_tAt0 e2' h0')]
    unfold m_compares_74
    rw [if_neg (by rw [sI_58]; decide)]
    rfl
  · rw [c01_f (m1_ne (by omega))] at hlk
    obtain ⟨l, l1, l2, l3, l4⟩ := hT.2.2.1 p q hpq
    have T2 := r1.2.2.2.1.2.1
    refine ⟨sG S 75 n ((hashF 0 l).toInt64), sG (sI S2 0 57 0) 32 n ((hashF 0 l).toInt64), 0, ?_, ?_, fin_gw r bd f1 h0' hn⟩
    · rw [doC_W hlk (by decide +kernel), dC_9, show (1 : Int32) = nI 1 from rfl, e1, Option.bind_some, C_hash hg hT.1 l1, Option.bind_some, B_gw c hl (w := w0) rfl hn hv]
      rfl
    · rw [dM_9, dM2_9 (M_tAt e2' (by omega))]
      unfold m_compares_74
      rw [if_pos h0', (T_size T2 hm' l2).1, Option.bind_some, lt_d, if_neg (by decide +kernel)]
      unfold m_compares_121
      rw [if_neg (by decide +kernel)]
      unfold m_compares_149
      rw [if_neg (by decide +kernel)]
      unfold m_compares_164
      rw [if_pos (by decide +kernel), M_hash hg T2 hm' l2, Option.bind_some, lt_d]
      unfold m_compares_178
      rw [M_gw cm' hm' (w := w0) rfl hn hv h0']
      rfl
theorem St10 : StOK 10 := by
  intro g U k S S2 ws a hg hk hR c cm hW h0
  obtain ⟨φ, cs, ts, u, pl, pm, ps, qs, r, bd⟩ := hR
  obtain ⟨q1, q2, q3⟩ := hW
  have q1 : 2 ≤ ws.length := q1
  have q2 : ws.length ≤ 2 := q2
  obtain ⟨w0, w1, rfl⟩ := ls2 (show ws.length = 2 by omega)
  have hl := r.2.1
  have hm := r.2.2.1
  have hT := r.2.2.2.1
  obtain ⟨-, n, hn, hv⟩ := okL_w (show okL U 119 w0 from q3 0 w0 rfl)
  have f1 : F0M S2 (sI S2 0 57 0) := F0M_sI (Or.inl rfl)
  have h0' : gI (sI S2 0 57 0) 0 58 = 0 := by rw [gI_ne (by decide)]; exact h0
  have cm' := cm.fs (FS.f0 f1)
  have hm' := hm.fs (FS.f0 f1)
  have r1 := RS_0 r F0C.rf r.2.2.2.2.2.2.2.2.2.2.2.2.2 f1
  have o1 : okT φ S (sI S2 0 57 0) w1 := okL_T (show okL U 84 w1 from q3 1 w1 rfl) (Or.inl rfl) r1.2.2.2.2.2.2.2.2.2.2.2.2.1
  obtain ⟨x, y, e1, e2, e3, -⟩ := MB_text (g := g) (j := 1) (w := w1) c cm' hl hm' rfl o1 r1.2.2.2.2.2.2.2.1
  have e2' : m_text g (sI S2 0 57 0) (nI a + (1 : Int32)) = some y := by rw [show (1 : Int32) = nI 1 from rfl, nI_add]; exact e2
  have hlk := lacks1 (s := 10) (j0 := 1) hg c (show 1 < 2 by decide) (show ∀ j, j < 2 → j ≠ 1 → ¬ lett 10 (nI j) = 84 from by decide +kernel) (by decide +kernel) e1
  rcases e3 with ⟨rfl, rfl⟩ | ⟨p, q, rfl, rfl, hpq, hp, hq⟩
  · rw [c01_t rfl] at hlk
    refine ⟨S, sI (sI S2 0 57 0) 0 58 4, 4, doC_no hlk, ?_, fin_no r bd F0C.rf r.2.2.2.2.2.2.2.2.2.2.2.2.2 (f1.tr (F0M_sI (Or.inr (Or.inl rfl)))) sI_58 (by decide)⟩
    rw [dM_10, dM2_10 (M_tAt0 e2' h0')]
    unfold m_compares_74
    rw [if_neg (by rw [sI_58]; decide)]
    rfl
  · rw [c01_f (m1_ne (by omega))] at hlk
    obtain ⟨l, l1, l2, l3, l4⟩ := hT.2.2.1 p q hpq
    have T2 := r1.2.2.2.1.2.1
    refine ⟨sG S 75 n ((nI l.length).toInt64), sG (sI S2 0 57 0) 32 n ((nI l.length).toInt64), 0, ?_, ?_, fin_gw r bd f1 h0' hn⟩
    · rw [doC_W hlk (by decide +kernel), dC_10, show (1 : Int32) = nI 1 from rfl, e1, Option.bind_some, C_size hT.1 l1, Option.bind_some, B_gw c hl (w := w0) rfl hn hv]
      rfl
    · rw [dM_10, dM2_10 (M_tAt e2' (by omega))]
      unfold m_compares_74
      rw [if_pos h0', (T_size T2 hm' l2).1, Option.bind_some, lt_d, if_neg (by decide +kernel)]
      unfold m_compares_121
      rw [if_neg (by decide +kernel)]
      unfold m_compares_149
      rw [if_neg (by decide +kernel)]
      unfold m_compares_164
      rw [if_neg (by decide +kernel)]
      unfold m_compares_178
      rw [M_gw cm' hm' (w := w0) rfl hn hv h0']
      rfl
