/-! the STEPS: mark, truth -/
theorem Rw.mk47 {S : St} {x : Nat} {l : List Int32} {ov v : Int32} (w : Rw S x l ov) : Rw (sI S 4 7 v) x l ov := by
  obtain ⟨w0, w1, w2, w3, w4⟩ := w
  unfold Rw
  rw [gI_ne (by omega), gI_ne (by omega), gI_ne (by omega)]
  exact ⟨w0, w1, w2, w3, w4⟩
theorem sI_g {S : St} {o k : Nat} {v : Int32} : gI (sI S o k v) o k = v := by simp [gI, sI]
theorem sI_sI {S : St} {o k : Nat} {v w : Int32} : sI (sI S o k v) o k w = sI S o k w := by
  unfold sI
  congr 1
  funext a b
  by_cases h : a = o ∧ b = k
  · simp [h]
  · simp [h]
theorem RS_mark {U : Nat → Prop} {S S2 : St} {φ : Nat → Option Nat} {cs ts : List (List Int32)} {u : Nat} {pl pm ps qs : List Nat} (r : RS U S S2 φ cs ts u pl pm ps qs) {m : Nat} {x : Int64} (h1 : gI S 4 7 = nI m) (h2 : gI S2 0 51 = nI m) (h : m < 30) : RS U (sI (sG S 78 m x) 4 7 (nI (m + 1))) (sI (sG S2 33 m x) 0 51 (nI (m + 1))) φ cs ts u pl pm ps qs := by
  obtain ⟨a1, a2, a3, ⟨t1, t2, t3⟩, a5, a6, a7, a8, a9, a10, ⟨p1, p2, p3, p4, p5⟩, ⟨m', m1, m2, m3, m4⟩, ⟨ls, s1, s2⟩, ⟨x1, o1, y1⟩, ⟨x2, o2, y2⟩, x3, o3, y3⟩ := r
  have hmm : m' = m := (nI_eq (by omega) (by omega)).mp (m2.symm.trans h1)
  subst hmm
  refine ⟨gOK.fc (S := sG S 78 m' x) a1 FC_mk, LC.fc (S := sG S 78 m' x) a2 FC_mk, a3, ⟨⟨Rw.mk47 (S := sG S 78 m' x) t1.1, Rw.mk47 (S := sG S 78 m' x) t1.2⟩, ?_, t3⟩, Rw.mk47 (S := sG S 78 m' x) a5, ?_, a7, a8, ?_, ?_, ⟨Rw.mk47 (S := sG S 78 m' x) p1, ?_, p3, p4, p5⟩, ⟨m' + 1, by omega, sI_g, sI_g, fun i hi => ?_⟩, ⟨ls, Rw.mk47 (S := sG S 78 m' x) s1, s2⟩, ⟨x1, o1, Rw.mk47 (S := sG S 78 m' x) y1⟩, ⟨x2, o2, Rw.mk47 (S := sG S 78 m' x) y2⟩, x3, o3, Rw.mk47 (S := sG S 78 m' x) y3⟩
  · obtain ⟨b1, b2, b3, b4, b5⟩ := t2
    exact ⟨(gI_ne (by decide)).trans b1, b2, b3, (gI_ne (by decide)).trans b4, b5⟩
  · obtain ⟨b1, b2, b3⟩ := a6
    exact ⟨(gI_ne (by decide)).trans b1, b2, b3⟩
  · intro z hz
    have := a9 z hz
    show gG (sG S 78 m' x) 75 z = gG (sG S2 33 m' x) 32 z
    rw [gG_ne (by decide), gG_ne (by decide)]
    exact this
  · intro b hb
    obtain ⟨lb, ov, b1, b2⟩ := a10 b hb
    exact ⟨lb, ov, Rw.mk47 (S := sG S 78 m' x) b1, b2⟩
  · exact (gI_ne (by decide)).trans p2
  · show gG (sG S 78 m' x) 78 i = gG (sG S2 33 m' x) 33 i
    by_cases q : i = m'
    · subst q
      simp only [gG, sG, and_self, if_true]
    · have := m4 i (by omega)
      simp only [gG, sG, q, and_false, if_false] at this ⊢
      exact this
theorem St55 : StOK 55 := by
  intro g U k S S2 ws a hg hk hR c cm hW h0
  obtain ⟨φ, cs, ts, u, pl, pm, ps, qs, r, bd⟩ := hR
  obtain ⟨q1, q2, q3⟩ := hW
  have q1 : 1 ≤ ws.length := q1
  have q2 : ws.length ≤ 1 := q2
  obtain ⟨w0, rfl⟩ := ls1 (show ws.length = 1 by omega)
  have hl := r.2.1
  have hm := r.2.2.1
  have hx := r.2.2.2.2.2.2.2.2.2.2.2.2.2
  have hWR : WR S S2 := r.2.2.2.2.2.2.2.2.1
  have f1 : F0M S2 (sI S2 0 57 0) := F0M_sI (Or.inl rfl)
  have f5 : F0M S2 (sI (sI S2 0 57 0) 0 58 5) := f1.tr (F0M_sI (Or.inr (Or.inl rfl)))
  have h0' : gI (sI S2 0 57 0) 0 58 = 0 := by rw [gI_ne (by decide)]; exact h0
  have cm' := cm.fs (FS.f0 f1)
  have hm' := hm.fs (FS.f0 f1)
  have o0 : okW w0 := okL_W (show okL U 87 w0 from q3 0 w0 rfl)
  have hlk := lacks0 (s := 55) hg c (show ∀ j, j < 1 → ¬ lett 55 (nI j) = 84 from by decide +kernel)
  have hC : doC g S 55 = m_Bn_addMark g S := by
    unfold doC
    rw [hlk, Option.bind_some, if_pos rfl, show grT.getD 55 0 = 4 from by decide +kernel, if_neg (by decide), if_neg (by decide), if_neg (by decide), if_neg (by decide), if_pos rfl]
  have r1 := RS_0 r F0C.rf hx f1
  obtain ⟨m, m1, m2, m3, -⟩ := r1.2.2.2.2.2.2.2.2.2.2.2.1
  unfold m_Bn_addMark at hC
  have hM := dM_55 (g := g) (S := S2) (x2 := nI a) (x3 := nI 1)
  rw [dM2_55, bS] at hM
  by_cases h30 : m = 30
  · subst h30
    refine ⟨S, sI (sI S2 0 57 0) 0 58 5, 5, ?_, ?_, fin_no r bd F0C.rf hx f5 sI_58 (by decide)⟩
    · rw [hC, m2, if_neg (by decide)]
      rfl
    · rw [show (nI [w0].length) = nI 1 from rfl, hM, m3, if_pos (show nI 30 = 30 from rfl)]
      unfold m_reckons_175
      rw [M_ref1 h0', Option.bind_some, if_neg (by rw [sI_58]; decide)]
  · have h78 : gN S 78 = 30 := hl 78 (by decide)
    have h33 : gN (sI S2 0 57 0) 33 = 30 := LMn hm' 33
    refine ⟨sI (sG S 78 m (valW S2 w0)) 4 7 (nI (m + 1)), sI (sG (sI S2 0 57 0) 33 m (valW S2 w0)) 0 51 (nI (m + 1)), 0, ?_, ?_, ?_, by decide, ⟨φ, cs, ts, u, pl, pm, ps, qs, RS_mark r1 m2 m3 (by omega), bd.up⟩, (FC_sG (Or.inr rfl)).tr FC_mk, ((FS.f0 f1).tr (FS_sG (by unfold stpAr; omega))).tr (FS_sI (by unfold stpSl; omega))⟩
    · rw [hC, m2, if_pos (show nI m < (30 : Int32) from nI_lt (b := 30) (by omega) (by omega)), show (0 : Int32) = nI 0 from rfl, B_whole (S2 := S2) (w := w0) c hl rfl o0 hWR, Option.bind_some, tJ_at (by omega) (by omega), Option.bind_some, lt_d, show gI (sG S 78 m (valW S2 w0)) 4 7 = nI m from m2, nI_1]
    · rw [show (nI [w0].length) = nI 1 from rfl, hM, m3, if_neg (show ¬ nI m = (30 : Int32) from i_lit (b := 30) (by omega) (by omega) h30)]
      unfold m_reckons_175
      rw [M_ref0, Option.bind_some, if_pos h0', show nI a = nI (a + 0) from rfl, M_value (g := g) (j := 0) (w := w0) cm' hm' rfl o0, Option.bind_some, m3, tJ_at (by omega) (by omega), Option.bind_some, lt_d, show gI (sG (sI S2 0 57 0) 33 m (valW (sI S2 0 57 0) w0)) 0 51 = nI m from m3, nI_1]
      rfl
    · show gI (sI (sG (sI S2 0 57 0) 33 m (valW S2 w0)) 0 51 (nI (m + 1))) 0 58 = nI 0
      rw [gI_ne (by decide)]
      exact h0'
section TRU
variable {g : Nat} {S S2 : St} {cs ts : List (List Int32)} {u p q : Nat} {l : List Int32}
theorem true_8 : ∀ i, i < 4 → cC 8 (nI i) = some (([116, 114, 117, 101] : List Int32).getD i 0) := by decide +kernel
theorem O_true (hm : LM S2) : ∃ T, m_emitTruth g (sI S2 0 57 0) 1 = some T ∧ FE (sI S2 0 57 0) T ∧ Out T [116, 114, 117, 101] := by
  have hm' : LM (sI S2 0 57 0) := hm
  obtain ⟨T1, a1, a2, a3⟩ := O_add (g := g) (u := 116) (Out_0 (S2 := S2)) hm' (by simp)
  obtain ⟨T2, b1, b2, b3⟩ := O_add (g := g) (u := 114) a3 (hm'.fe a2) (by simp)
  obtain ⟨T3, c1, c2, c3⟩ := O_add (g := g) (u := 117) b3 ((hm'.fe a2).fe b2) (by simp)
  obtain ⟨T4, d1, d2, d3⟩ := O_add (g := g) (u := 101) c3 (((hm'.fe a2).fe b2).fe c2) (by simp)
  refine ⟨T4, ?_, ((a2.tr b2).tr c2).tr d2, d3⟩
  unfold m_emitTruth m_emitTruth_12 m_emitTruth_27 m_emitTruth_42 m_emitTruth_57
  rw [if_neg (by decide), a1, Option.bind_some, if_neg (by decide), b1, Option.bind_some, if_neg (by decide), c1, Option.bind_some, if_neg (by decide), d1, Option.bind_some, if_neg (by decide)]
theorem tru_l (hT : TXc S cs) (hM : TXs S2 ts u) (hm : LM S2) (l1 : cs[p]? = some l) (l2 : ts[q]? = some l) (hu : usL l) (ho : Out S2 [116, 114, 117, 101]) : ∀ (k n1 n2 i : Nat) (b : Int32), i + k = 4 → k < n1 → k < n2 → (b = 0 ∨ b = 1) → (b = 1 → l.length = 4) → ∃ b', (b' = 0 ∨ b' = 1) ∧ m_WS_truth_41 g n1 S (nI p) 8 b (nI i) = m_WS_truth_80 g S b' ∧ m_isTrue_28 g n2 S2 (nI q) b (nI i) = some (S2, b') := by
  have h34 : gN S2 34 = 600 := LMn hm 34
  intro k
  induction k with
  | zero =>
    intro n1 n2 i b hi h1 h2 hb hb1
    obtain ⟨n1, rfl⟩ : ∃ m, n1 = m + 1 := ⟨n1 - 1, by omega⟩
    obtain ⟨n2, rfl⟩ : ∃ m, n2 = m + 1 := ⟨n2 - 1, by omega⟩
    refine ⟨b, hb, ?_, ?_⟩
    · show b_WS_truth_41 g (m_WS_truth_41 g n1) S (nI p) 8 b (nI i) = _
      unfold b_WS_truth_41
      rw [if_pos (show sLen 8 ≤ nI i from by
        have : i = 4 := by omega
        subst this
        decide +kernel)]
      exact ifo rfl rfl
    · show b_isTrue_28 g (m_isTrue_28 g n2) S2 (nI q) b (nI i) = _
      unfold b_isTrue_28
      rw [if_pos (show (4 : Int32) ≤ nI i from nI_le (a := 4) (by omega) (by omega)), if_pos hb]
      exact ifo rfl rfl
  | succ k ih =>
    intro n1 n2 i b hi h1 h2 hb hb1
    obtain ⟨n1, rfl⟩ : ∃ m, n1 = m + 1 := ⟨n1 - 1, by omega⟩
    obtain ⟨n2, rfl⟩ : ∃ m, n2 = m + 1 := ⟨n2 - 1, by omega⟩
    rcases hb with rfl | rfl
    · refine ⟨0, Or.inl rfl, ?_, ?_⟩
      · show b_WS_truth_41 g (m_WS_truth_41 g n1) S (nI p) 8 0 (nI i) = _
        unfold b_WS_truth_41
        rw [if_pos rfl]
      · show b_isTrue_28 g (m_isTrue_28 g n2) S2 (nI q) 0 (nI i) = _
        unfold b_isTrue_28
        rw [if_pos rfl, if_pos (Or.inl rfl)]
    · have hl4 := hb1 rfl
      have hU : isU (([116, 114, 117, 101] : List Int32).getD i 0) := by
        have : i = 0 ∨ i = 1 ∨ i = 2 ∨ i = 3 := by omega
        rcases this with rfl | rfl | rfl | rfl
        · exact ⟨116, by omega, rfl⟩
        · exact ⟨114, by omega, rfl⟩
        · exact ⟨117, by omega, rfl⟩
        · exact ⟨101, by omega, rfl⟩
      obtain ⟨k1, k2, k3⟩ := U_alk (g := g) (hu i (by omega)) hU
      obtain ⟨b', a1, a2, a3⟩ := ih n1 n2 (i + 1) _ (by omega) (by omega) (by omega) k3 (fun _ => hl4)
      refine ⟨b', a1, ?_, ?_⟩
      · rw [← a2]
        show b_WS_truth_41 g (m_WS_truth_41 g n1) S (nI p) 8 1 (nI i) = _
        unfold b_WS_truth_41
        rw [if_neg (by decide), if_neg (show ¬ sLen 8 ≤ nI i from by
          rw [show sLen 8 = nI 4 from by decide +kernel]
          exact nI_ge (by omega) (by omega)), C_unit hT l1, Option.bind_some, atR_nI (by omega), getD_d (by omega), true_8 i (by omega), Option.bind_some, k2, Option.bind_some, lt_d, nI_1]
      · rw [← a3]
        show b_isTrue_28 g (m_isTrue_28 g n2) S2 (nI q) 1 (nI i) = _
        unfold b_isTrue_28
        rw [if_neg (by decide), if_neg (show ¬ (4 : Int32) ≤ nI i from nI_ge (b := 4) (by omega) (by omega)), T_unit hM hm l2 (by omega), Option.bind_some, aI_at (by omega) (by omega), Option.bind_some, ho.2 i (by simp; omega) (by omega), k1, Option.bind_some, lt_d, nI_1]
end TRU
theorem St49 : StOK 49 := by
  intro g U k S S2 ws a hg hk hR c cm hW h0
  obtain ⟨φ, cs, ts, u, pl, pm, ps, qs, r, bd⟩ := hR
  obtain ⟨q1, q2, q3⟩ := hW
  have q1 : 2 ≤ ws.length := q1
  have q2 : ws.length ≤ 2 := q2
  obtain ⟨w0, w1, rfl⟩ := ls2 (show ws.length = 2 by omega)
  change ∃ S' S2' kd, doC g S 49 = some (S', nI kd) ∧ m_does g S2 (nI 49) (nI a) (nI 2) = some S2' ∧ gI S2' 0 58 = nI kd ∧ kd ≤ 5 ∧ RSx U (k + 1) S' S2' ∧ FC S S' ∧ FS S2 S2'
  have hl := r.2.1
  have hm := r.2.2.1
  have hT := r.2.2.2.1
  have hx := r.2.2.2.2.2.2.2.2.2.2.2.2.2
  have f1 : F0M S2 (sI S2 0 57 0) := F0M_sI (Or.inl rfl)
  have f2 : F0M S2 (sI (sI S2 0 57 0) 0 58 4) := f1.tr (F0M_sI (Or.inr (Or.inl rfl)))
  have f3 : F0M S2 (sI (sI S2 0 57 0) 0 58 1) := f1.tr (F0M_sI (Or.inr (Or.inl rfl)))
  have h0' : gI (sI S2 0 57 0) 0 58 = 0 := by rw [gI_ne (by decide)]; exact h0
  have cm' := cm.fs (FS.f0 f1)
  have hm' := hm.fs (FS.f0 f1)
  have T2 := hT.2.1.f0 f1
  obtain ⟨-, n, hn, hv⟩ := okL_w (show okL U 119 w0 from q3 0 w0 rfl)
  obtain ⟨x, y, e1, e2, e3, e4⟩ := getT (g := g) (j := 1) (w := w1) r c cm rfl (show okL U 116 w1 from q3 1 w1 rfl) (by decide)
  have hlk := lacks0 (s := 49) hg c (show ∀ j, j < 2 → ¬ lett 49 (nI j) = 84 from by decide +kernel)
  have hC : doC g S 49 = m_WS_truth g S := by
    rw [doC_W hlk (by decide +kernel), dC_49]
    unfold m_WS_give_161
    rw [bS2]
  unfold m_WS_truth at hC
  rw [show m_Bn_textAt g S 1 = some x from e1, Option.bind_some] at hC
  have hM := dM_49 (g := g) (S := S2) (x2 := nI a) (x3 := nI 2)
  rw [dM2_49, show m_text g (sI S2 0 57 0) (nI a + 1) = some y from e2 _ f1, Option.bind_some, bS] at hM
  rcases e4 with ⟨rfl, rfl⟩ | ⟨p, q, l, rfl, rfl, hpq, hp, hq, l1, l2, l3, l4⟩
  · refine ⟨sG S 75 n (j01 False), sG (sI S2 0 57 0) 32 n (j01 False), 0, ?_, ?_, fin_gw r bd f1 h0' hn⟩
    · obtain ⟨g', hg'⟩ : ∃ g', g = g' + 1 := ⟨g - 1, by omega⟩
      rw [hC, if_pos rfl, show m_WS_truth_41 g g = m_WS_truth_41 g (g' + 1) from by rw [← hg']]
      show b_WS_truth_41 g (m_WS_truth_41 g g') S (-1) 8 0 0 = _
      unfold b_WS_truth_41 m_WS_truth_80
      rw [if_pos rfl, show (0 : Int32) = c01 False from (c01_f id).symm, B_gtr c hl (w := w0) rfl hn hv]
      rfl
    · rw [hM, if_pos (by decide)]
      unfold m_reckons_147 m_reckons_148
      rw [M_gw cm' hm' (w := w0) rfl hn hv h0', j01_f id]
      rfl
  · obtain ⟨T, v1, v2, v3⟩ := O_true (g := g) hm
    have T3 := T2.fe v2
    have hm3 := hm'.fe v2
    have fm := f1.tr (F0M.fe v2)
    have h03 : gI T 0 58 = 0 := (v2.1 58 (by decide)).trans h0'
    obtain ⟨b', a1, a2, a3⟩ := tru_l (g := g) hT.1 T3 hm3 l1 l2 l4 v3 4 g g 0 (c01 (l.length = 4)) (by omega) (by omega) (by omega) c01_z (fun h => by
      by_cases e : l.length = 4
      · exact e
      · rw [c01_f e] at h; exact absurd h (by decide))
    have eb : b' = c01 (b' = 1) := by
      rcases a1 with rfl | rfl
      · rw [c01_f (by decide)]
      · rw [c01_t rfl]
    refine ⟨sG S 75 n (j01 (b' = 1)), sG T 32 n (j01 (b' = 1)), 0, ?_, ?_, fin_gw r bd fm h03 hn⟩
    · rw [hC, if_neg (m1_ne (by omega)), C_size hT.1 l1, Option.bind_some, show sLen 8 = nI 4 from by decide +kernel]
      have key : m_WS_truth_80 g S b' = some (sG S 75 n (j01 (b' = 1)), 0) := by
        unfold m_WS_truth_80
        rw [show m_WS_giveTruth g S b' = m_WS_giveTruth g S (c01 (b' = 1)) from by rw [← eb], B_gtr c hl (w := w0) rfl hn hv]
        rfl
      rw [show nI 0 = 0 from rfl]
      rw [← key, ← a2]
      by_cases e : l.length = 4
      · rw [if_pos (by rw [e]), c01_t e]
        rfl
      · rw [if_neg (i_lit (by omega) (by omega) e), c01_f e]
        rfl
    · rw [hM, if_neg (nI_pos (by omega))]
      have key : m_isTrue g (sI S2 0 57 0) (nI q) = some (T, b') := by
        unfold m_isTrue
        rw [lt_d, show sI (sI S2 0 57 0) 0 57 0 = sI S2 0 57 0 from sI_sI, v1, Option.bind_some, (T_size T3 hm3 l2).1, Option.bind_some, ← a3]
        by_cases e : l.length = 4
        · rw [if_pos (by rw [e]; rfl), c01_t e]
          rfl
        · rw [if_neg (show ¬ nI l.length = (4 : Int32) from i_lit (b := 4) (by omega) (by omega) e), c01_f e]
          rfl
      rw [key, Option.bind_some]
      dsimp only
      unfold m_reckons_147 m_reckons_148
      rcases a1 with rfl | rfl
      · rw [if_pos rfl, M_gw (cm.fs (FS.f0 fm)) hm3 (w := w0) rfl hn hv h03, j01_f (by decide)]
        rfl
      · rw [if_neg (by decide), M_gw (cm.fs (FS.f0 fm)) hm3 (w := w0) rfl hn hv h03, j01_t rfl]
        rfl
