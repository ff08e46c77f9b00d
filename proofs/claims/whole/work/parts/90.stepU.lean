/-! the STEPS: from, join -/
section FRM
variable {U : Nat → Prop} {g k : Nat} {S0 S20 : St} {ws : List Wd} {a : Nat} {φ : Nat → Option Nat} {cs ts : List (List Int32)} {u : Nat} {pl pm ps qs : List Nat}
theorem M_crN {S2 : St} (h : ¬ gI S2 0 58 = 0) : m_checkRoom g S2 = some S2 := by
  unfold m_checkRoom m_checkRoom_16
  rw [M_ref0, M_ref1n h]
  exact ifo rfl rfl
theorem M_guN {S2 : St} {x : Int32} (h : ¬ gI S2 0 58 = 0) : m_givesUnits g S2 x = some S2 := by
  unfold m_givesUnits
  rw [M_crN h, Option.bind_some, if_neg h]
theorem cur_n {S : St} (c : CurC S ws) : gI S 4 11 = nI ws.length := by
  obtain ⟨p, f, -, -, -, h, -⟩ := c
  exact h
theorem fromR_l {S2 : St} (cm : CurM S2 a ws) (hm : LM S2) (hok : ∀ j w, 1 ≤ j → ws[j]? = some w → okW w) (h0 : ¬ gI S2 0 58 = 0) (hlen : ws.length ≤ 9) : ∀ (k n j : Nat), j + k = ws.length → 1 ≤ j → k < n → m_reckons_9 g n S2 (nI a) (nI ws.length) (nI j) = some S2 := by
  intro k
  induction k with
  | zero =>
    intro n j hj h1 hn
    obtain ⟨n, rfl⟩ : ∃ m, n = m + 1 := ⟨n - 1, by omega⟩
    show b_reckons_9 g (m_reckons_9 g n) S2 (nI a) _ (nI j) = _
    unfold b_reckons_9
    rw [if_pos (nI_le (by omega) (by omega)), M_guN h0]
    rfl
  | succ k ih =>
    intro n j hj h1 hn
    obtain ⟨n, rfl⟩ : ∃ m, n = m + 1 := ⟨n - 1, by omega⟩
    obtain ⟨w, hw⟩ : ∃ w, ws[j]? = some w := ⟨_, List.getElem?_eq_getElem (show j < ws.length by omega)⟩
    show b_reckons_9 g (m_reckons_9 g n) S2 (nI a) _ (nI j) = _
    unfold b_reckons_9
    rw [if_neg (nI_ge (by omega) (by omega)), nI_add, M_value cm hm hw (hok j w h1 hw), Option.bind_some, O_pointN h0, Option.bind_some, lt_d, nI_1, ih n (j + 1) (by omega) (by omega) (by omega)]
theorem from_l (r0 : RS U S0 S20 φ cs ts u pl pm ps qs) (c0 : CurC S0 ws) (cm0 : CurM S20 a ws) (hok : ∀ j w, 1 ≤ j → ws[j]? = some w → okW w) (hlen : ws.length ≤ 9) : ∀ (k n1 n2 j : Nat) (S S2 : St) (v : List Int32), j + k = ws.length → 1 ≤ j → k < n1 → k < n2 → F0C S0 S → XR S → F0M S20 S2 → Scr S 23 v → Out S2 v → gI S2 0 58 = 0 → v.length + 2 * k < 2 ^ 30 → usL v → (∃ S' T' v', m_TS_from_2 g n1 S (nI j) = m_TS_become g S' (-1) 1 ∧ m_reckons_9 g n2 S2 (nI a) (nI ws.length) (nI j) = m_givesUnits g T' (nI a) ∧ F0C S0 S' ∧ XR S' ∧ F0M S20 T' ∧ gI T' 0 58 = 0 ∧ Scr S' 23 v' ∧ Out T' v' ∧ usL v' ∧ v'.length < 2 ^ 30) ∨ (∃ S' T', m_TS_from_2 g n1 S (nI j) = some (S', 3) ∧ m_reckons_9 g n2 S2 (nI a) (nI ws.length) (nI j) = some T' ∧ F0C S0 S' ∧ XR S' ∧ F0M S20 T' ∧ gI T' 0 58 = nI 3) := by
  intro k
  induction k with
  | zero =>
    intro n1 n2 j S S2 v hj h1 k1 k2 fc hx fm sc o h0 hv hu
    obtain ⟨n1, rfl⟩ : ∃ m, n1 = m + 1 := ⟨n1 - 1, by omega⟩
    obtain ⟨n2, rfl⟩ : ∃ m, n2 = m + 1 := ⟨n2 - 1, by omega⟩
    refine Or.inl ⟨S, S2, v, ?_, ?_, fc, hx, fm, h0, sc, o, hu, by omega⟩
    · show b_TS_from_2 g (m_TS_from_2 g n1) S (nI j) = _
      unfold b_TS_from_2 m_TS_from_52
      rw [cur_n (c0.fc (FC.f0 fc)), if_pos (nI_le (by omega) (by omega)), bS2]
    · show b_reckons_9 g (m_reckons_9 g n2) S2 (nI a) _ (nI j) = _
      unfold b_reckons_9
      rw [if_pos (nI_le (by omega) (by omega)), bS]
  | succ k ih =>
    intro n1 n2 j S S2 v hj h1 k1 k2 fc hx fm sc o h0 hv hu
    obtain ⟨n1, rfl⟩ : ∃ m, n1 = m + 1 := ⟨n1 - 1, by omega⟩
    obtain ⟨n2, rfl⟩ : ∃ m, n2 = m + 1 := ⟨n2 - 1, by omega⟩
    obtain ⟨w, hw⟩ : ∃ w, ws[j]? = some w := ⟨_, List.getElem?_eq_getElem (show j < ws.length by omega)⟩
    have r := RS_0 r0 fc hx fm
    have c := c0.fc (FC.f0 fc)
    have cm := cm0.fs (FS.f0 fm)
    have hWR : WR S S2 := r.2.2.2.2.2.2.2.2.1
    have ow := hok j w h1 hw
    have eC : m_TS_from_2 g (n1 + 1) S (nI j) = b_TS_from_2 g (m_TS_from_2 g n1) S (nI j) := rfl
    have eM : m_reckons_9 g (n2 + 1) S2 (nI a) (nI ws.length) (nI j) = b_reckons_9 g (m_reckons_9 g n2) S2 (nI a) (nI ws.length) (nI j) := rfl
    unfold b_TS_from_2 m_TS_from_40 at eC
    unfold b_reckons_9 at eM
    rw [cur_n c, if_neg (nI_ge (by omega) (by omega)), B_whole (S2 := S2) c r.2.1 hw ow hWR, Option.bind_some, isPoint_s, Option.bind_some] at eC
    rw [if_neg (nI_ge (by omega) (by omega)), nI_add, M_value cm r.2.2.1 hw ow, Option.bind_some] at eM
    by_cases hin : 0 ≤ (valW S2 w).toInt ∧ (valW S2 w).toInt ≤ 1114111
    · obtain ⟨S3, a1, a2, a3⟩ := Scr_point (g := g) (x := (valW S2 w).toInt32) sc r.1
      obtain ⟨T3, b1, b2, b3⟩ := O_point (g := g) r.2.2.1 o h0 hin (by omega)
      obtain ⟨m, hm⟩ : ∃ n : Nat, (valW S2 w).toInt = (n : Int) := ⟨(valW S2 w).toInt.toNat, by omega⟩
      have hu2 := pt_us (n := m) (by omega)
      rw [← j32 hm (by omega)] at hu2
      rw [c01_t hin, if_neg (by decide), a1, Option.bind_some, lt_d, nI_1] at eC
      rw [b1, Option.bind_some, lt_d, nI_1] at eM
      rw [eC, eM]
      exact ih n1 n2 (j + 1) S3 T3 _ (by omega) (by omega) (by omega) (by omega) (fc.tr (F0C.fr a2 (Or.inl rfl))) (hx.scr a2 a3) (fm.tr (F0M.fe b2)) a3 b3 ((b2.1 58 (by decide)).trans h0) (by rw [List.length_append]; omega) (usL_app hu hu2.1)
    · have f3 : F0M S2 (sI S2 0 58 3) := F0M_sI (Or.inr (Or.inl rfl))
      refine Or.inr ⟨S, sI S2 0 58 3, ?_, ?_, fc, hx, fm.tr f3, sI_58⟩
      · rw [eC, c01_f hin, if_pos rfl]
      · rw [eM, O_pointR h0 hin, Option.bind_some, lt_d, nI_1]
        exact fromR_l (cm.fs (FS.f0 f3)) (r.2.2.1.fs (FS.f0 f3)) hok (by rw [sI_58]; decide) hlen k n2 (j + 1) (by omega) (by omega) (by omega)
end FRM
theorem St45 : StOK 45 := by
  intro g U k S S2 ws a hg hk hR c cm hW h0
  obtain ⟨φ, cs, ts, u, pl, pm, ps, qs, r, bd⟩ := hR
  obtain ⟨q1, q2, q3⟩ := hW
  have q1 : 2 ≤ ws.length := q1
  have q2 : ws.length ≤ 9 := q2
  obtain ⟨w0, hw0⟩ : ∃ w0, ws[0]? = some w0 := ⟨_, List.getElem?_eq_getElem (show 0 < ws.length by omega)⟩
  obtain ⟨w1, hw1⟩ : ∃ w1, ws[1]? = some w1 := ⟨_, List.getElem?_eq_getElem (show 1 < ws.length by omega)⟩
  have hl := r.2.1
  have hm := r.2.2.1
  have hT := r.2.2.2.1
  have hx := r.2.2.2.2.2.2.2.2.2.2.2.2.2
  have f1 : F0M S2 (sI S2 0 57 0) := F0M_sI (Or.inl rfl)
  have h0' : gI (sI S2 0 57 0) 0 58 = 0 := by rw [gI_ne (by decide)]; exact h0
  have cm' := cm.fs (FS.f0 f1)
  have hm' := hm.fs (FS.f0 f1)
  obtain ⟨-, n, hn, hv⟩ := okL_v (show okL U 118 w0 from q3 0 w0 hw0)
  have hlet : ∀ j, j < 9 → 1 ≤ j → lett 45 (nI j) = 87 := by decide +kernel
  have hok : ∀ j w, 1 ≤ j → ws[j]? = some w → okW w := by
    intro j w h1 hw
    have hj := (List.getElem?_eq_some_iff.mp hw).1
    have := q3 j w hw
    rw [hlet j (by omega) h1] at this
    exact okL_W this
  have o1 := hok 1 w1 (by omega) hw1
  obtain ⟨x1, ex⟩ := B_textE (g := g) (j := 1) (w := w1) c hl hw1 (by rcases o1 with h | h <;> omega) (by rcases o1 with h | h <;> omega)
  have hlk := lacks0 (s := 45) hg c (fun j hj => (show ∀ j, j < 9 → ¬ lett 45 (nI j) = 84 from by decide +kernel) j (by omega))
  obtain ⟨S1, s1, s2, s3, s4⟩ := clr (g := g) hx
  have fc := F0C.fr s2 (Or.inl rfl)
  have hC := doC_T hlk (by decide +kernel)
  rw [dC_45 ex s1] at hC
  unfold m_TS_give_255 m_TS_from at hC
  rw [bS2] at hC
  have hM := dM_45 (g := g) (S := S2) (x2 := nI a) (x3 := nI ws.length)
  rw [dM2_45, bS] at hM
  rcases from_l (g := g) r c cm hok q2 (ws.length - 1) g g 1 S1 (sI S2 0 57 0) [] (by omega) (by omega) (by omega) (by omega) fc s4 f1 (Scr.nil s3) Out_0 h0' (by simp; omega) usL_nil with ⟨S', T', v', a1, a2, a3, a4, a5, a6, a7, a8, a9, a10⟩ | ⟨S', T', a1, a2, a3, a4, a5, a6⟩
  · obtain ⟨S4, T4, kd, y1, y2, y3⟩ := fin_units (x := -1) hg hk r bd c cm hw0 hn hv a3 a4 a7 a5 a6 a8 (by omega) (fun _ => a9)
    exact ⟨S4, T4, kd, hC.trans (a1.trans y1), hM.trans (a2.trans y2), y3⟩
  · exact ⟨S', T', 3, hC.trans a1, hM.trans a2, fin_no r bd a3 a4 a5 a6 (by decide)⟩
section JON
variable {U : Nat → Prop} {g k : Nat} {S0 S20 : St} {ws : List Wd} {a : Nat} {φ : Nat → Option Nat} {cs ts : List (List Int32)} {u : Nat} {pl pm ps qs : List Nat}
theorem joinR_l (hg : 100000 ≤ g) (r0 : RS U S0 S20 φ cs ts u pl pm ps qs) (c0 : CurC S0 ws) (cm0 : CurM S20 a ws) (hok : ∀ j w, 1 ≤ j → ws[j]? = some w → okL U 88 w ∧ (w.1 = 2 → ∀ b : Nat, w.2.1.toInt = (b : Int) → ¬ gF S0 77 b = -1)) (hlen : ws.length ≤ 9) : ∀ (k n j : Nat) (S2 : St) (v : List Int32) (x3 : Int32), j + k = ws.length → 1 ≤ j → k < n → F0M S20 S2 → Out S2 v → gI S2 0 58 = nI 3 → v.length + 400 * k + 600 < 1000000 → ∃ T', m_joins_5 g n S2 (nI a) (nI ws.length) x3 (nI j) = some T' ∧ F0M S20 T' ∧ gI T' 0 58 = nI 3 := by
  have hx := r0.2.2.2.2.2.2.2.2.2.2.2.2.2
  intro k
  induction k with
  | zero =>
    intro n j S2 v x3 hj h1 hn fm o h0 hv
    obtain ⟨n, rfl⟩ : ∃ m, n = m + 1 := ⟨n - 1, by omega⟩
    have h3 : ¬ gI S2 0 58 = 0 := by rw [h0]; decide
    refine ⟨S2, ?_, fm, h0⟩
    show b_joins_5 g (m_joins_5 g n) S2 (nI a) _ x3 (nI j) = _
    unfold b_joins_5
    rw [if_pos (nI_le (by omega) (by omega)), M_crN h3, Option.bind_some, if_neg h3]
  | succ k ih =>
    intro n j S2 v x3 hj h1 hn fm o h0 hv
    obtain ⟨n, rfl⟩ : ∃ m, n = m + 1 := ⟨n - 1, by omega⟩
    have h3 : ¬ gI S2 0 58 = 0 := by rw [h0]; decide
    obtain ⟨w, hw⟩ : ∃ w, ws[j]? = some w := ⟨_, List.getElem?_eq_getElem (show j < ws.length by omega)⟩
    have r := RS_0 r0 F0C.rf hx fm
    have cm := cm0.fs (FS.f0 fm)
    obtain ⟨T1, v1, a1, a2, a3, a4⟩ := X_ref hg r c0 cm hw (hok j w h1 hw).1 (hok j w h1 hw).2 o h3 (by omega)
    have nx := fun y0 : Int32 => ih n (j + 1) T1 v1 y0 (by omega) (by omega) (by omega) (fm.tr (F0M.fe a2)) a3 ((a2.1 58 (by decide)).trans h0) (by omega)
    have e57 : ∀ y0, m_joins_57 g (m_joins_5 g n) S2 (nI a) (nI ws.length) (nI j) y0 = m_joins_5 g n T1 (nI a) (nI ws.length) y0 (nI (j + 1)) := by
      intro y0
      unfold m_joins_57
      rw [nI_add, a1, Option.bind_some, lt_d, nI_1]
    obtain ⟨ek, -⟩ := M_word cm r.2.2.1 hw
    have e : ∃ y0, m_joins_5 g (n + 1) S2 (nI a) (nI ws.length) x3 (nI j) = m_joins_5 g n T1 (nI a) (nI ws.length) y0 (nI (j + 1)) := by
      show ∃ y0, b_joins_5 g (m_joins_5 g n) S2 (nI a) (nI ws.length) x3 (nI j) = _
      unfold b_joins_5 m_joins_52 m_joins_56
      rw [if_neg (nI_ge (by omega) (by omega)), nI_add, ek, Option.bind_some, e57, e57]
      by_cases b0 : x3 = 0
      · exact ⟨0, by rw [if_pos b0]⟩
      by_cases b1 : nI w.1 = 3
      · exact ⟨1, by rw [if_neg b0, if_pos b1]⟩
      by_cases b2 : nI w.1 = 4
      · exact ⟨1, by rw [if_neg b0, if_neg b1, if_pos b2]⟩
      by_cases b3 : nI w.1 = 6
      · exact ⟨1, by rw [if_neg b0, if_neg b1, if_neg b2, if_pos b3]⟩
      by_cases b4 : nI w.1 = 8
      · exact ⟨1, by rw [if_neg b0, if_neg b1, if_neg b2, if_neg b3, if_pos b4]⟩
      · exact ⟨0, by rw [if_neg b0, if_neg b1, if_neg b2, if_neg b3, if_neg b4]⟩
    obtain ⟨y0, e⟩ := e
    obtain ⟨T', b1, b2, b3⟩ := nx y0
    exact ⟨T', e.trans b1, b2, b3⟩
theorem join_l (hg : 100000 ≤ g) (r0 : RS U S0 S20 φ cs ts u pl pm ps qs) (c0 : CurC S0 ws) (cm0 : CurM S20 a ws) (hok : ∀ j w, 1 ≤ j → ws[j]? = some w → okL U 88 w ∧ (w.1 = 2 → ∀ b : Nat, w.2.1.toInt = (b : Int) → ¬ gF S0 77 b = -1)) (hlen : ws.length ≤ 9) : ∀ (k n1 n2 j : Nat) (S S2 : St) (v : List Int32) (lit : Prop), j + k = ws.length → 1 ≤ j → k < n1 → k < n2 → F0C S0 S → XR S → F0M S20 S2 → Scr S 23 v → Out S2 v → gI S2 0 58 = 0 → v.length + 400 * k + 600 < 1000000 → usL v → (∃ S' T' v' lit', m_TS_join_4 g n1 S (c01 lit) (nI j) = m_TS_join_4 g 1 S' (c01 lit') (nI ws.length) ∧ m_joins_5 g n2 S2 (nI a) (nI ws.length) (c01 lit) (nI j) = m_joins_5 g 1 T' (nI a) (nI ws.length) (c01 lit') (nI ws.length) ∧ F0C S0 S' ∧ XR S' ∧ F0M S20 T' ∧ gI T' 0 58 = 0 ∧ Scr S' 23 v' ∧ Out T' v' ∧ usL v' ∧ v'.length < 1000000) ∨ (∃ S' T', m_TS_join_4 g n1 S (c01 lit) (nI j) = some (S', 3) ∧ m_joins_5 g n2 S2 (nI a) (nI ws.length) (c01 lit) (nI j) = some T' ∧ F0C S0 S' ∧ XR S' ∧ F0M S20 T' ∧ gI T' 0 58 = nI 3) := by
  intro k
  induction k with
  | zero =>
    intro n1 n2 j S S2 v lit hj h1 k1 k2 fc hx fm sc o h0 hv hu
    obtain ⟨n1, rfl⟩ : ∃ m, n1 = m + 1 := ⟨n1 - 1, by omega⟩
    obtain ⟨n2, rfl⟩ : ∃ m, n2 = m + 1 := ⟨n2 - 1, by omega⟩
    have hj : j = ws.length := by omega
    subst hj
    refine Or.inl ⟨S, S2, v, lit, ?_, ?_, fc, hx, fm, h0, sc, o, hu, by omega⟩
    · show b_TS_join_4 g (m_TS_join_4 g n1) S _ _ = b_TS_join_4 g (m_TS_join_4 g 0) S _ _
      unfold b_TS_join_4
      rw [cur_n (c0.fc (FC.f0 fc)), if_pos (nI_le (by omega) (by omega)), if_pos (nI_le (by omega) (by omega))]
    · show b_joins_5 g (m_joins_5 g n2) S2 (nI a) _ _ _ = b_joins_5 g (m_joins_5 g 0) S2 (nI a) _ _ _
      unfold b_joins_5
      rw [if_pos (nI_le (by omega) (by omega)), if_pos (nI_le (by omega) (by omega))]
  | succ k ih =>
    intro n1 n2 j S S2 v lit hj h1 k1 k2 fc hx fm sc o h0 hv hu
    obtain ⟨n1, rfl⟩ : ∃ m, n1 = m + 1 := ⟨n1 - 1, by omega⟩
    obtain ⟨n2, rfl⟩ : ∃ m, n2 = m + 1 := ⟨n2 - 1, by omega⟩
    obtain ⟨w, hw⟩ : ∃ w, ws[j]? = some w := ⟨_, List.getElem?_eq_getElem (show j < ws.length by omega)⟩
    have r := RS_0 r0 fc hx fm
    have c := c0.fc (FC.f0 fc)
    have cm := cm0.fs (FS.f0 fm)
    obtain ⟨ok1, ok2⟩ := hok j w h1 hw
    have op : w.1 = 2 → ∀ b : Nat, w.2.1.toInt = (b : Int) → ¬ gF S 77 b = -1 := fun q b hb => by
      rw [(fc.2.2.2.1 77 (by decide) (by decide) (by decide)).2 b]
      exact ok2 q b hb
    obtain ⟨ek, -⟩ := M_word cm r.2.2.1 hw
    have hw9 : w.1 < 9 := by
      rcases okX ok1 with h | h | h | h | h <;> omega
    have fM : ∃ y0 : Int32, (y0 = c01 (lit ∧ (w.1 = 3 ∨ w.1 = 4 ∨ w.1 = 6 ∨ w.1 = 8))) ∧ m_joins_5 g (n2 + 1) S2 (nI a) (nI ws.length) (c01 lit) (nI j) = m_joins_57 g (m_joins_5 g n2) S2 (nI a) (nI ws.length) (nI j) y0 := by
      refine ⟨_, rfl, ?_⟩
      show b_joins_5 g (m_joins_5 g n2) S2 (nI a) (nI ws.length) (c01 lit) (nI j) = _
      unfold b_joins_5 m_joins_52 m_joins_56
      rw [if_neg (nI_ge (by omega) (by omega)), nI_add, ek, Option.bind_some]
      by_cases hlit : lit
      · rw [c01_t hlit, if_neg (by decide)]
        have hk : ∀ m : Nat, m < 9 → (nI w.1 = nI m ↔ w.1 = m) := fun m hm => nI_eq (by omega) (by omega)
        by_cases b1 : w.1 = 3
        · rw [if_pos (show nI w.1 = 3 from (hk 3 (by omega)).mpr b1), c01_t ⟨hlit, Or.inl b1⟩]
        rw [if_neg (show ¬ nI w.1 = 3 from fun z => b1 ((hk 3 (by omega)).mp z))]
        by_cases b2 : w.1 = 4
        · rw [if_pos (show nI w.1 = 4 from (hk 4 (by omega)).mpr b2), c01_t ⟨hlit, Or.inr (Or.inl b2)⟩]
        rw [if_neg (show ¬ nI w.1 = 4 from fun z => b2 ((hk 4 (by omega)).mp z))]
        by_cases b3 : w.1 = 6
        · rw [if_pos (show nI w.1 = 6 from (hk 6 (by omega)).mpr b3), c01_t ⟨hlit, Or.inr (Or.inr (Or.inl b3))⟩]
        rw [if_neg (show ¬ nI w.1 = 6 from fun z => b3 ((hk 6 (by omega)).mp z))]
        by_cases b4 : w.1 = 8
        · rw [if_pos (show nI w.1 = 8 from (hk 8 (by omega)).mpr b4), c01_t ⟨hlit, Or.inr (Or.inr (Or.inr b4))⟩]
        rw [if_neg (show ¬ nI w.1 = 8 from fun z => b4 ((hk 8 (by omega)).mp z)), c01_f (fun z => by omega)]
      · rw [c01_f hlit, if_pos rfl, c01_f (fun z => hlit z.1)]
    obtain ⟨y0, hy0, fM⟩ := fM
    have fC : ∀ S3, Fr 23 S S3 → m_TS_join_23 g (m_TS_join_4 g n1) S3 (c01 lit) (nI j) 0 = m_TS_join_4 g n1 S3 y0 (nI (j + 1)) := by
      intro S3 f3
      have kk : m_Bn_kindAt g S3 (nI j) = some (nI (ckW w.1)) := B_kind (c.fc (FC.f0 (F0C.fr f3 (Or.inl rfl)))) (r.2.1.fc (FC.f0 (F0C.fr f3 (Or.inl rfl)))) hw
      have t34 : ∀ m, m < 9 → (nI (ckW m) = 34 ↔ m = 3) := by decide +kernel
      have t48 : ∀ m, m < 9 → (nI (ckW m) = 48 ↔ (m = 4 ∨ m = 6 ∨ m = 8)) := by decide +kernel
      unfold m_TS_join_23
      rw [if_pos rfl, kk, Option.bind_some, Option.bind_some, lt_d, lt_d, nI_1, hy0]
      by_cases hlit : lit
      · rw [c01_t hlit, if_neg (by decide)]
        by_cases b1 : w.1 = 3
        · rw [if_pos ((t34 _ hw9).mpr b1), c01_t ⟨hlit, Or.inl b1⟩]
        rw [if_neg (fun z => b1 ((t34 _ hw9).mp z))]
        by_cases b2 : w.1 = 4 ∨ w.1 = 6 ∨ w.1 = 8
        · rw [if_pos ((t48 _ hw9).mpr b2), c01_t ⟨hlit, Or.inr b2⟩]
        · rw [if_neg (fun z => b2 ((t48 _ hw9).mp z)), c01_f (fun z => by omega)]
          try rfl
      · rw [c01_f hlit, if_pos rfl, c01_f (fun z => hlit z.1)]
    have eC : m_TS_join_4 g (n1 + 1) S (c01 lit) (nI j) = (m_Bn_addX g S (nI j)).bind fun (S_2, v_3) => m_TS_join_23 g (m_TS_join_4 g n1) S_2 (c01 lit) (nI j) v_3 := by
      show b_TS_join_4 g (m_TS_join_4 g n1) S _ _ = _
      unfold b_TS_join_4
      rw [cur_n c, if_neg (nI_ge (by omega) (by omega))]
    rcases X_add hg r c cm hw ok1 op sc o h0 (by omega) with ⟨S3, T3, W, a1, a2, a3, a4, a5, a6, a7, a8⟩ | ⟨a1, a2⟩
    · rw [eC, a1, Option.bind_some, fM]
      dsimp only
      rw [fC S3 a3]
      unfold m_joins_57
      rw [nI_add, a2, Option.bind_some, lt_d, nI_1, hy0]
      exact ih n1 n2 (j + 1) S3 T3 _ _ (by omega) (by omega) (by omega) (by omega) (fc.tr (F0C.fr a3 (Or.inl rfl))) (hx.scr a3 a5) (fm.tr (F0M.fe a4)) a5 a6 ((a4.1 58 (by decide)).trans h0) (by rw [List.length_append]; omega) (usL_app hu a7)
    · have f3 : F0M S2 (sI S2 0 58 3) := F0M_sI (Or.inr (Or.inl rfl))
      obtain ⟨T', b1, b2, b3⟩ := joinR_l hg r0 c0 cm0 hok hlen k n2 (j + 1) (sI S2 0 58 3) v y0 (by omega) (by omega) (by omega) (fm.tr f3) ⟨by rw [gI_ne (by decide)]; exact o.1, o.2⟩ sI_58 (by omega)
      refine Or.inr ⟨S, T', ?_, ?_, fc, hx, b2, b3⟩
      · rw [eC, a1, Option.bind_some]
        dsimp only
        unfold m_TS_join_23
        rw [if_neg (by decide)]
      · rw [fM]
        unfold m_joins_57
        rw [nI_add, a2, Option.bind_some, lt_d, nI_1, b1]
theorem fnd_app {l m : List Int32} {ts : List (List Int32)} : ∀ (pm : List Nat), (∀ p ∈ pm, p < ts.length) → fndP (ts ++ [m]) l pm = fndP ts l pm := by
  intro pm
  induction pm with
  | nil => intro _; rfl
  | cons p pm ih =>
    intro h
    have hp := h p (by simp)
    unfold fndP
    rw [List.getElem?_append_left hp, ih (fun q hq => h q (by simp [hq]))]
end JON
theorem St4 : StOKb 4 := by
  intro g U k S S2 ws a hg hk hR c cm hW hO h0
  obtain ⟨φ, cs, ts, u, pl, pm, ps, qs, r, bd⟩ := hR
  obtain ⟨q1, q2, q3⟩ := hW
  have q1 : 2 ≤ ws.length := q1
  have q2 : ws.length ≤ 9 := q2
  obtain ⟨w0, hw0⟩ : ∃ w0, ws[0]? = some w0 := ⟨_, List.getElem?_eq_getElem (show 0 < ws.length by omega)⟩
  obtain ⟨w1, hw1⟩ : ∃ w1, ws[1]? = some w1 := ⟨_, List.getElem?_eq_getElem (show 1 < ws.length by omega)⟩
  have hl := r.2.1
  have hm := r.2.2.1
  have hT := r.2.2.2.1
  have hx := r.2.2.2.2.2.2.2.2.2.2.2.2.2
  have f1 : F0M S2 (sI S2 0 57 0) := F0M_sI (Or.inl rfl)
  have h0' : gI (sI S2 0 57 0) 0 58 = 0 := by rw [gI_ne (by decide)]; exact h0
  have cm' := cm.fs (FS.f0 f1)
  have hm' := hm.fs (FS.f0 f1)
  obtain ⟨-, n, hn, hv⟩ := okL_v (show okL U 118 w0 from q3 0 w0 hw0)
  have hlet : ∀ j, j < 9 → 1 ≤ j → lett 4 (nI j) = 88 := by decide +kernel
  have hok : ∀ j w, 1 ≤ j → ws[j]? = some w → okL U 88 w ∧ (w.1 = 2 → ∀ b : Nat, w.2.1.toInt = (b : Int) → ¬ gF S 77 b = -1) := by
    intro j w h1 hw
    have hj := (List.getElem?_eq_some_iff.mp hw).1
    have := q3 j w hw
    rw [hlet j (by omega) h1] at this
    refine ⟨this, fun q b hb => hO j w b hw q ?_ hb⟩
    rw [hlet j (by omega) h1]
    decide
  obtain ⟨x1, ex⟩ : ∃ x1, m_Bn_textAt g S (nI 1) = some x1 := by
    rcases okX (hok 1 w1 (by omega) hw1).1 with h | h | h | h | h
    · obtain ⟨x, y, e1, -⟩ := getX (g := g) r c cm hw1 (Or.inl h)
      exact ⟨x, e1⟩
    · obtain ⟨x, y, e1, -⟩ := getX (g := g) r c cm hw1 (Or.inr h)
      exact ⟨x, e1⟩
    · exact B_textE (g := g) (j := 1) (w := w1) c hl hw1 (by omega) (by omega)
    · exact B_textE (g := g) (j := 1) (w := w1) c hl hw1 (by omega) (by omega)
    · exact B_textE (g := g) (j := 1) (w := w1) c hl hw1 (by omega) (by omega)
  have hlk := lacks0 (s := 4) hg c (fun j hj => (show ∀ j, j < 9 → ¬ lett 4 (nI j) = 84 from by decide +kernel) j (by omega))
  obtain ⟨S1, s1, s2, s3, s4⟩ := clr (g := g) hx
  have fc := F0C.fr s2 (Or.inl rfl)
  have hC := doC_T hlk (by decide +kernel)
  rw [dC_4 ex s1] at hC
  have hM := dM_4 (g := g) (S := S2) (x2 := nI a) (x3 := nI ws.length)
  rw [dM2_4] at hM
  have hC2 : doC g S 4 = m_TS_join_4 g g S1 (c01 True) (nI 1) := by
    rw [hC, c01_t trivial]
    unfold m_TS_give_160 m_TS_join
    rw [bS2]
    rfl
  have hM2 : m_does g S2 (nI 4) (nI a) (nI ws.length) = m_joins_5 g g (sI S2 0 57 0) (nI a) (nI ws.length) (c01 True) (nI 1) := by
    rw [hM, c01_t trivial]
    unfold m_joins
    rw [bS, bS]
    rfl
  rcases join_l (g := g) hg r c cm hok q2 (ws.length - 1) g g 1 S1 (sI S2 0 57 0) [] True (by omega) (by omega) (by omega) (by omega) fc s4 f1 (Scr.nil s3) Out_0 h0' (by simp; omega) usL_nil with HH | ⟨S', T', a1, a2, a3, a4, a5, a6⟩
  rotate_left
  · exact ⟨S', T', 3, hC2.trans a1, hM2.trans a2, fin_no r bd a3 a4 a5 a6 (by decide)⟩
  obtain ⟨S', T', v, lit, a1, a2, fcS, xS, fmT, h0T, scv, ov, uv, lv⟩ := HH
  have eC := hC2.trans a1
  have eM := hM2.trans a2
  rw [show m_TS_join_4 g 1 S' (c01 lit) (nI ws.length) = b_TS_join_4 g (m_TS_join_4 g 0) S' (c01 lit) (nI ws.length) from rfl] at eC
  rw [show m_joins_5 g 1 T' (nI a) (nI ws.length) (c01 lit) (nI ws.length) = b_joins_5 g (m_joins_5 g 0) T' (nI a) (nI ws.length) (c01 lit) (nI ws.length) from rfl] at eM
  unfold b_TS_join_4 at eC
  unfold b_joins_5 at eM
  have cS := c.fc (FC.f0 fcS)
  have cmT := cm.fs (FS.f0 fmT)
  rw [cur_n cS, if_pos (nI_le (by omega) (by omega))] at eC
  rw [if_pos (nI_le (by omega) (by omega))] at eM
  rcases Nat.lt_or_ge 400 v.length with hov | hov
  · have f5 : F0M S2 (sI T' 0 58 5) := fmT.tr (F0M_sI (Or.inr (Or.inl rfl)))
    refine ⟨S', sI T' 0 58 5, 5, ?_, ?_, fin_no r bd fcS xS f5 sI_58 (by decide)⟩
    · rw [eC, if_neg (scv.ov1 hov)]
      rfl
    · rw [eM, M_room5 ov hov (by omega) h0T, Option.bind_some, if_neg (by rw [sI_58]; decide)]
  rw [if_pos (scv.ov0 hov)] at eC
  rw [M_room ov hov, Option.bind_some, if_pos h0T] at eM
  have h400 : limC 23 = 400 := by decide +kernel
  have wv : Rw S' 23 v 0 := by
    rcases scv with ⟨-, w⟩ | ⟨w1, -⟩
    · exact w
    · omega
  rcases Classical.em (¬ lit) with hlit | hlit
  · obtain ⟨S3, S4, T3, T4, x, y, z1, z2, z3, z4, z5, z6⟩ := fin_make hg hk r bd c cm hw0 hn hv fcS xS wv fmT h0T ov hov uv
    refine ⟨S4, T4, 0, ?_, ?_, z6⟩
    · rw [eC, c01_f hlit, if_pos rfl]
      unfold m_TS_join_111 m_TS_join_138 m_TS_join_154
      rw [if_pos rfl, z1, Option.bind_some]
      dsimp only
      rw [if_pos rfl, z2]
      rfl
    · rw [eM, z3, Option.bind_some]
      dsimp only
      unfold m_joins_107
      rw [c01_f hlit, if_pos rfl, bS, z5]
  have hlit := Classical.not_not.mp hlit
  have r1 := RS_0 r fcS xS fmT
  have hT1 := r1.2.2.2.1
  have hPC : PoC S' pl := r1.2.2.2.2.1
  have hPM : PoM T' pm := r1.2.2.2.2.2.1
  have hmap : pl.map φ = pm.map some := r1.2.2.2.2.2.2.1
  have hlen : pl.length = pm.length := by have := congrArg List.length hmap; simpa using this
  have mm := map_mem pl pm hmap
  obtain ⟨b1, b2, b3, b4, b5⟩ := bd
  obtain ⟨T3, t1, t2, t3⟩ := O_made hg hT1.2.1 r1.2.2.1 ov (by omega) (by omega) (by omega)
  have h0T3 : gI T3 0 58 = 0 := (t2.1 58 (by decide) (by decide)).trans h0T
  have rM := RS_mkM r1 t2 t3
  have fsT3 : FS S2 T3 := (FS.f0 fmT).tr (FS.md t2)
  have hPM3 : PoM T3 pm := rM.2.2.2.2.2.1
  have hplC : ∀ z ∈ pl, z < cs.length := fun z hz => by
    obtain ⟨z', hz'⟩ := mm.1 z hz
    obtain ⟨m, m1, -⟩ := hT1.2.2.1 z z' hz'
    exact (List.getElem?_eq_some_iff.mp m1).1
  have hpmM : ∀ z ∈ pm, z < ts.length := fun z hz => by
    obtain ⟨z', hz'⟩ := mm.2 z hz
    obtain ⟨m, -, m2, -⟩ := hT1.2.2.1 z' z hz'
    exact (List.getElem?_eq_some_iff.mp m2).1
  have hPool := C_pooled (g := g) (s := 0) (n := v.length) hg hT1.1 wv hPC hplC (by omega)
  rw [Nat.zero_add, seg_all] at hPool
  have hIn := M_inPool (t := ts.length) (l := v) hg t3 rM.2.2.1 (by simp) hPM3 (fun z hz => ⟨_, by rw [List.getElem?_append_left (hpmM z hz)]; exact List.getElem?_eq_getElem (hpmM z hz)⟩)
  rw [fnd_app pm hpmM] at hIn
  rw [c01_t hlit, if_neg (by decide), wv.2.2.1, show m_Tx_pooledWith g S' 23 0 (nI v.length) = some (oI (fndP cs v pl)) from hPool, Option.bind_some] at eC
  rw [t1, Option.bind_some] at eM
  dsimp only at eM
  rw [c01_t hlit, if_neg (by decide)] at eM
  unfold m_interned at eM
  rw [hIn, Option.bind_some] at eM
  rcases fnd_rel (l := v) (fun p q h => by obtain ⟨m, m1, m2, -⟩ := hT1.2.2.1 p q h; exact ⟨m, m1, m2⟩) pl pm hmap with ⟨n1, n2⟩ | ⟨p', q', n1, n2, hpq'⟩
  · rw [n1] at eC
    rw [n2, if_pos (show oI none < 0 from by decide +kernel)] at eM
    obtain ⟨S3, c1, c2, c3⟩ := C_make (g := g) (own := 1) hT1.1 wv (by decide) (by decide) r1.1 (by omega) (by omega) (Or.inl (by decide))
    obtain ⟨r2, er⟩ := RS_mk r1 c2 c3 t2 t3 hov uv (by omega) (by omega)
    have h85 : limC 20 = 85 := by decide +kernel
    obtain ⟨S5, d1, d2, d3⟩ := R_add (g := g) (v := nI cs.length) r2.2.2.2.2.1 r2.1
    rw [if_pos (by rw [List.length_map]; omega), if_pos (by rw [List.length_map]; omega)] at d3
    have hPC' : PoC S5 (pl ++ [cs.length]) := by unfold PoC; rw [List.map_append]; exact d3
    obtain ⟨T5, e1, e2, e3⟩ := M_pools (g := g) (t := ts.length) rM.2.2.1 hPM3 (by omega)
    subst e2
    have r5 := RS_pool r2 (p := cs.length) (q := ts.length) (by unfold φs; rw [if_pos rfl]) d2 hPC' e3
    have r6 := RS_gt r5 hn er
    have fcF : FC S S5 := ((FC.f0 fcS).tr (FC.frT c2 hT1.1 c3)).tr (FC.row d2 (by unfold stpRow; omega))
    have fsF : FS S2 (sI (sF T3 25 pm.length (nI ts.length)) 0 41 (nI (pm.length + 1))) := (fsT3.tr (FS_sF (by unfold stpAr; omega))).tr (FS_sI (by unfold stpSl; omega))
    have h05 : gI (sI (sF T3 25 pm.length (nI ts.length)) 0 41 (nI (pm.length + 1))) 0 58 = 0 := by rw [gI_ne (by decide)]; exact h0T3
    refine ⟨sF S5 74 n (nI cs.length), sF (sI (sF T3 25 pm.length (nI ts.length)) 0 41 (nI (pm.length + 1))) 26 n (nI ts.length), 0, ?_, ?_, h05, by decide, ⟨_, _, _, _, _, _, ps, qs, r6, ?_⟩, fcF.tr (FC_sF (Or.inl rfl)), fsF.tr (FS_sF (a := 26) (by unfold stpAr; omega))⟩
    · rw [eC]
      unfold m_TS_join_111 m_TS_join_138 m_TS_join_154
      rw [if_pos (show oI none = -1 from rfl), c1, Option.bind_some]
      dsimp only
      rw [if_neg (by decide), d1, Option.bind_some, B_gt (c.fc fcF) r5.2.1 hw0 hn hv]
      rfl
    · rw [eM, e1, Option.bind_some, Option.bind_some]
      dsimp only
      unfold m_joins_107
      rw [M_gt (cm.fs fsF) r5.2.2.1 hw0 hn hv h05]
      rfl
    · unfold Bd
      rw [List.length_append, List.length_append, List.flatten_append, List.length_append, show ([v] : List (List Int32)).flatten = v from by simp, List.length_singleton, List.length_append, List.length_singleton]
      omega
  · have hp' : p' < 1465 ∧ q' < 1700 := by
      obtain ⟨m, m1, m2, -⟩ := hT1.2.2.1 p' q' hpq'
      have := (List.getElem?_eq_some_iff.mp m1).1
      have := (List.getElem?_eq_some_iff.mp m2).1
      omega
    have r6 := RS_gt rM hn (Or.inr ⟨p', q', rfl, rfl, hpq', hp'.1, hp'.2⟩ : tRel φ (nI p') (nI q'))
    rw [n1] at eC
    rw [n2, if_neg (show ¬ oI (some q') < 0 from nI_pos (by omega)), Option.bind_some] at eM
    refine ⟨sF S' 74 n (nI p'), sF T3 26 n (nI q'), 0, ?_, ?_, h0T3, by decide, ⟨_, _, _, _, pl, pm, ps, qs, r6, ?_⟩, (FC.f0 fcS).tr (FC_sF (Or.inl rfl)), fsT3.tr (FS_sF (a := 26) (by unfold stpAr; omega))⟩
    · rw [eC]
      unfold m_TS_join_111
      rw [if_neg (show ¬ oI (some p') = -1 from m1_ne (by omega)), show oI (some p') = nI p' from rfl, B_gt cS r1.2.1 hw0 hn hv]
      rfl
    · rw [eM]
      dsimp only
      unfold m_joins_107
      rw [show oI (some q') = nI q' from rfl, M_gt (cm.fs fsT3) rM.2.2.1 hw0 hn hv h0T3]
      rfl
    · unfold Bd
      rw [List.length_append, List.length_singleton]
      omega
