/-! the STEPS: set, null, pieces -/
section CLR
variable {U : Nat → Prop} {g k s : Nat} {S S1 S2 S2b : St} {ws : List Wd} {a : Nat} {φ : Nat → Option Nat} {cs ts : List (List Int32)} {u : Nat} {pl pm ps qs : List Nat}
theorem clr (hx : XR S) : ∃ S1, m_Row_clear g S 23 = some S1 ∧ Fr 23 S S1 ∧ Rw S1 23 [] 0 ∧ XR S1 := by
  obtain ⟨⟨l, ov, x1⟩, ⟨l2, ov2, x2⟩, l3, ov3, x3⟩ := hx
  obtain ⟨S1, s1, s2, s3⟩ := R_clear (g := g) x1
  exact ⟨S1, s1, s2, s3, ⟨[], 0, s3⟩, ⟨l2, ov2, x2.fr s2 (by decide)⟩, l3, ov3, x3.fr s2 (by decide)⟩
theorem fin_gt {n : Nat} {x y : Int32} (r : RS U S S2 φ cs ts u pl pm ps qs) (bd : Bd k cs ts u pl) (hc : F0C S S1) (hx : XR S1) (hm : F0M S2 S2b) (h0 : gI S2b 0 58 = 0) (hn : n < 20) (ht : tRel φ x y) : gI (sF S2b 26 n y) 0 58 = nI 0 ∧ (0 : Nat) ≤ 5 ∧ RSx U (k + 1) (sF S1 74 n x) (sF S2b 26 n y) ∧ FC S (sF S1 74 n x) ∧ FS S2 (sF S2b 26 n y) := by
  have r' := RS_gt (RS_0 r hc hx hm) hn ht
  exact ⟨h0, by decide, ⟨φ, cs, ts, u, pl, pm, ps, qs, r', bd.up⟩, (FC.f0 hc).tr (FC_sF (Or.inl rfl)), (FS.f0 hm).tr (FS_sF (by unfold stpAr; omega))⟩
theorem B_text0 (c : CurC S ws) (hl : LC S) {j : Nat} (hj : ws.length ≤ j) (hj2 : j < 2 ^ 31) : ∃ v, m_Bn_textAt g S (nI j) = some v := by
  have h74 : gN S 74 = 20 := hl 74 (by decide)
  refine ⟨gF S 74 0, ?_⟩
  unfold m_Bn_textAt
  rw [(B_kind0 c hj hj2).2, Option.bind_some, lt_d, (B_kind0 c hj hj2).1, Option.bind_some, if_neg (by decide +kernel)]
  unfold m_Bn_textOf
  rw [if_neg (by decide +kernel), if_pos (by decide +kernel), show (0 : Int64).toInt32 = nI 0 from by decide +kernel, aI_at (by omega) (by omega)]
  rfl
end CLR
theorem St0 : StOK 0 := by
  intro g U k S S2 ws a hg hk hR c cm hW h0
  obtain ⟨φ, cs, ts, u, pl, pm, ps, qs, r, bd⟩ := hR
  obtain ⟨q1, q2, q3⟩ := hW
  have q1 : 2 ≤ ws.length := q1
  have q2 : ws.length ≤ 2 := q2
  obtain ⟨w0, w1, rfl⟩ := ls2 (show ws.length = 2 by omega)
  have hl := r.2.1
  have hm := r.2.2.1
  obtain ⟨-, n, hn, hv⟩ := okL_v (show okL U 118 w0 from q3 0 w0 rfl)
  have f1 : F0M S2 (sI S2 0 57 0) := F0M_sI (Or.inl rfl)
  have h0' : gI (sI S2 0 57 0) 0 58 = 0 := by rw [gI_ne (by decide)]; exact h0
  have cm' := cm.fs (FS.f0 f1)
  have hm' := hm.fs (FS.f0 f1)
  obtain ⟨x, y, e1, e2, e3, e4⟩ := getT (g := g) (j := 1) (w := w1) r c cm rfl (show okL U 116 w1 from q3 1 w1 rfl) (by decide)
  obtain ⟨S1, s1, s2, s3, s4⟩ := clr (g := g) r.2.2.2.2.2.2.2.2.2.2.2.2.2
  have fc := F0C.fr s2 (Or.inl rfl)
  refine ⟨sF S1 74 n x, sF (sI S2 0 57 0) 26 n y, 0, ?_, ?_, fin_gt r bd fc s4 f1 h0' hn e3⟩
  · rw [doC_T (lacks0 hg c (show ∀ j, j < 2 → ¬ lett 0 (nI j) = 84 from by decide +kernel)) (by decide +kernel), dC_0 e1 s1, B_gt (c.fc (FC.f0 fc)) (hl.fc (FC.f0 fc)) (w := w0) rfl hn hv]
    rfl
  · rw [dM_0, dM2_0, show (1 : Int32) = nI 1 from rfl, e2 _ f1, Option.bind_some, M_gt cm' hm' (w := w0) rfl hn hv h0']
    rfl
theorem St1 : StOK 1 := by
  intro g U k S S2 ws a hg hk hR c cm hW h0
  obtain ⟨φ, cs, ts, u, pl, pm, ps, qs, r, bd⟩ := hR
  obtain ⟨q1, q2, q3⟩ := hW
  have q1 : 1 ≤ ws.length := q1
  have q2 : ws.length ≤ 1 := q2
  obtain ⟨w0, rfl⟩ := ls1 (show ws.length = 1 by omega)
  have hl := r.2.1
  have hm := r.2.2.1
  obtain ⟨-, n, hn, hv⟩ := okL_v (show okL U 118 w0 from q3 0 w0 rfl)
  have f1 : F0M S2 (sI S2 0 57 0) := F0M_sI (Or.inl rfl)
  have h0' : gI (sI S2 0 57 0) 0 58 = 0 := by rw [gI_ne (by decide)]; exact h0
  have cm' := cm.fs (FS.f0 f1)
  have hm' := hm.fs (FS.f0 f1)
  obtain ⟨v1, e1⟩ := B_text0 (g := g) (j := 1) c hl (show 1 ≤ 1 by decide) (by decide)
  obtain ⟨S1, s1, s2, s3, s4⟩ := clr (g := g) r.2.2.2.2.2.2.2.2.2.2.2.2.2
  have fc := F0C.fr s2 (Or.inl rfl)
  refine ⟨sF S1 74 n (-1), sF (sI S2 0 57 0) 26 n (-1), 0, ?_, ?_, fin_gt r bd fc s4 f1 h0' hn (Or.inl ⟨rfl, rfl⟩)⟩
  · rw [doC_T (lacks0 hg c (show ∀ j, j < 1 → ¬ lett 1 (nI j) = 84 from by decide +kernel)) (by decide +kernel), dC_1 e1 s1, B_gt (c.fc (FC.f0 fc)) (hl.fc (FC.f0 fc)) (w := w0) rfl hn hv]
    rfl
  · rw [dM_1, dM2_1, M_gt cm' hm' (w := w0) rfl hn hv h0']
    rfl
theorem St30 : StOK 30 := by
  intro g U k S S2 ws a hg hk hR c cm hW h0
  obtain ⟨φ, cs, ts, u, pl, pm, ps, qs, r, bd⟩ := hR
  obtain ⟨q1, q2, q3⟩ := hW
  have q1 : 1 ≤ ws.length := q1
  have q2 : ws.length ≤ 1 := q2
  obtain ⟨w0, rfl⟩ := ls1 (show ws.length = 1 by omega)
  have hl := r.2.1
  have hm := r.2.2.1
  obtain ⟨-, n, hn, hv⟩ := okL_w (show okL U 119 w0 from q3 0 w0 rfl)
  have f1 : F0M S2 (sI S2 0 57 0) := F0M_sI (Or.inl rfl)
  have h0' : gI (sI S2 0 57 0) 0 58 = 0 := by rw [gI_ne (by decide)]; exact h0
  have cm' := cm.fs (FS.f0 f1)
  have hm' := hm.fs (FS.f0 f1)
  obtain ⟨p1, p2, p3, p4, p5⟩ := r.2.2.2.2.2.2.2.2.2.2.1
  have pl5 : ps.length = qs.length := by have := congrArg List.length p5; simpa using this
  have z1 : gI S 22 2 = nI qs.length := by rw [← pl5, show ps.length = (ps.map nI).length by simp]; exact p1.2.2.1
  have z2 : gI (sI S2 0 57 0) 0 50 = nI qs.length := by rw [gI_ne (by decide)]; exact p2
  refine ⟨sG S 75 n (nI qs.length).toInt64, sG (sI S2 0 57 0) 32 n (nI qs.length).toInt64, 0, ?_, ?_, fin_gw r bd f1 h0' hn⟩
  · rw [doC_W (lacks0 hg c (show ∀ j, j < 1 → ¬ lett 30 (nI j) = 84 from by decide +kernel)) (by decide +kernel), dC_30, z1, B_gw c hl (w := w0) rfl hn hv]
    rfl
  · rw [dM_30, dM2_30, z2, M_gw cm' hm' (w := w0) rfl hn hv h0']
    rfl
