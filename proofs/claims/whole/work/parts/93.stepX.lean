/-! the STEPS: open, delete, size -/
section BLP
variable {g : Nat} {ts : List (List Int32)} {u q b : Nat} {l : List Int32}
theorem b28 {S : St} {b : Nat} (hm : LM S) (hb : b < 6) : aI S 28 (nI b) = some (gF S 28 b) ∧ aI S 29 (nI b) = some (gF S 29 b) ∧ (∀ v, tI S 28 (nI b) v = some (sF S 28 b v)) ∧ ∀ v, tI S 29 (nI b) v = some (sF S 29 b v) := by
  have h28 : gN S 28 = 6 := LMn hm 28
  have h29 : gN S 29 = 6 := LMn hm 29
  exact ⟨aI_at (by omega) (by omega), aI_at (by omega) (by omega), fun v => tI_at (by omega) (by omega), fun v => tI_at (by omega) (by omega)⟩
theorem opn_l (hb : b < 6) (l2 : ts[q]? = some l) (hl : l.length ≤ 400) : ∀ (k n i : Nat) (S : St), i + k = l.length → k < n → TXs S ts u → LM S → gF S 28 b = nI l.length → ∃ S', m_opensBuilder_120 g n S (nI b) (nI q) (nI i) = some S' ∧ FBm b S S' ∧ gF S' 28 b = gF S 28 b ∧ gF S' 29 b = gF S 29 b ∧ (∀ j, i ≤ j → j < l.length → gF S' 30 (400 * b + j) = l.getD j 0) ∧ ∀ j, j < i → gF S' 30 (400 * b + j) = gF S 30 (400 * b + j) := by
  intro k
  induction k with
  | zero =>
    intro n i S hi hn hT hm h28
    obtain ⟨n, rfl⟩ : ∃ m, n = m + 1 := ⟨n - 1, by omega⟩
    refine ⟨S, ?_, FBm.rf, rfl, rfl, fun j h1 h2 => by omega, fun j _ => rfl⟩
    show b_opensBuilder_120 g (m_opensBuilder_120 g n) S _ _ _ = _
    unfold b_opensBuilder_120
    rw [(b28 hm hb).1, Option.bind_some, h28, if_pos (nI_le (by omega) (by omega))]
  | succ k ih =>
    intro n i S hi hn hT hm h28
    obtain ⟨n, rfl⟩ : ∃ m, n = m + 1 := ⟨n - 1, by omega⟩
    have f1 : FBm b S (sF S 30 (400 * b + i) (l.getD i 0)) := FBm.s30 (by omega)
    obtain ⟨S', a1, a2, a3, a4, a5, a6⟩ := ih n (i + 1) _ (by omega) (by omega) (hT.fbm f1) (hm.fbm f1) (by rw [gF_ne (by decide)]; exact h28)
    refine ⟨S', ?_, f1.tr a2, a3.trans (gF_ne (by decide)), a4.trans (gF_ne (by decide)), fun j h1 h2 => ?_, fun j hj => ?_⟩
    · show b_opensBuilder_120 g (m_opensBuilder_120 g n) S _ _ _ = _
      unfold b_opensBuilder_120
      rw [(b28 hm hb).1, Option.bind_some, h28, if_neg (nI_ge (by omega) (by omega)), T_unit hT hm l2 (by omega), Option.bind_some, (b30 hm hb (by omega)).2, Option.bind_some, lt_d, nI_1, a1]
    · by_cases e : j = i
      · subst e
        rw [a6 j (by omega), gF_sF]
      · exact a5 j (by omega) h2
    · rw [a6 j (by omega), gF_sFi (by omega)]
theorem del_l {x4 x6 : Int64} {d N : Nat} (hb : b < 6) (hN : N ≤ 400) (hd : (x6 - x4).toInt32 = nI d) : ∀ (k n i : Nat) (S : St), i + k = N → k < n → d ≤ i → LM S → ∃ S', m_deletes_77 g n S (nI b) (nI N) x4 x6 (nI i) = some (sF S' 28 b (nI (N - d))) ∧ FBm b S S' ∧ gF S' 29 b = gF S 29 b ∧ (∀ j, i ≤ j + d → j + d < N → gF S' 30 (400 * b + j) = gF S 30 (400 * b + (j + d))) ∧ ∀ j, j + d < i → gF S' 30 (400 * b + j) = gF S 30 (400 * b + j) := by
  intro k
  induction k with
  | zero =>
    intro n i S hi hn hdi hm
    obtain ⟨n, rfl⟩ : ∃ m, n = m + 1 := ⟨n - 1, by omega⟩
    refine ⟨S, ?_, FBm.rf, rfl, fun j h1 h2 => by omega, fun j _ => rfl⟩
    show b_deletes_77 g (m_deletes_77 g n) S _ _ _ _ _ = _
    unfold b_deletes_77
    rw [if_pos (nI_le (by omega) (by omega)), hd, nI_sub (by omega), (b28 hm hb).2.2.1]
    rfl
  | succ k ih =>
    intro n i S hi hn hdi hm
    obtain ⟨n, rfl⟩ : ∃ m, n = m + 1 := ⟨n - 1, by omega⟩
    have f1 : FBm b S (sF S 30 (400 * b + (i - d)) (gF S 30 (400 * b + i))) := FBm.s30 (by omega)
    obtain ⟨S', a1, a2, a4, a5, a6⟩ := ih n (i + 1) _ (by omega) (by omega) (by omega) (hm.fbm f1)
    have h30 : gN S 30 = 2400 := LMn hm 30
    refine ⟨S', ?_, f1.tr a2, a4.trans (gF_ne (by decide)), fun j h1 h2 => ?_, fun j hj => ?_⟩
    · show b_deletes_77 g (m_deletes_77 g n) S _ _ _ _ _ = _
      unfold b_deletes_77
      rw [if_neg (nI_ge (by omega) (by omega)), (b30 hm hb (by omega)).1, Option.bind_some, hd, show (400 : Int32) = nI 400 from rfl, nI_mulE, nI_add, nI_sub (by omega), show 400 * b + i - d = 400 * b + (i - d) by omega, tI_at (by omega) (by omega), Option.bind_some, lt_d, nI_1, a1]
    · by_cases e : j + d = i
      · rw [a6 j (by omega), show j = i - d by omega, gF_sF, show i - d + d = i by omega]
      · rw [a5 j (by omega) h2, gF_sFi (by omega)]
    · rw [a6 j (by omega), gF_sFi (by omega)]
def rmF (rm V : Nat) : Nat := if V ≤ rm then rm else max V (2 * rm + 2)
theorem rmF_b {rm V : Nat} (h1 : rm ≤ 1000) (h2 : V ≤ 400) : rmF rm V ≤ 1000 := by
  unfold rmF
  split <;> omega
theorem M_grows {S : St} {rm V : Nat} (hb : b < 6) (hm : LM S) (h29 : gF S 29 b = nI rm) (hr : rm ≤ 1000) (hV : V ≤ 400) : ∃ S', m_grows g S (nI b) (nI V) = some S' ∧ FBm b S S' ∧ gF S' 29 b = nI (rmF rm V) ∧ gF S' 28 b = gF S 28 b ∧ ∀ j, gF S' 30 j = gF S 30 j := by
  unfold m_grows rmF
  rw [(b28 hm hb).2.1, h29, Option.bind_some, Option.bind_some, Option.bind_some, show (2 : Int32) = nI 2 from rfl, nI_mulE, nI_add]
  by_cases h : V ≤ rm
  · rw [if_pos (nI_le h (by omega)), if_pos h]
    exact ⟨S, rfl, FBm.rf, h29, rfl, fun _ => rfl⟩
  · rw [if_neg (nI_ge (by omega) (by omega)), if_neg h]
    by_cases h2 : V ≤ 2 * rm + 2
    · rw [if_pos (nI_le h2 (by omega)), (b28 hm hb).2.2.2, Option.bind_some, Nat.max_eq_right h2]
      exact ⟨_, rfl, FBm.s29, gF_sF, gF_ne (by decide), fun _ => gF_ne (by decide)⟩
    · rw [if_neg (nI_ge (by omega) (by omega)), (b28 hm hb).2.2.2, Option.bind_some, Nat.max_eq_left (by omega)]
      exact ⟨_, rfl, FBm.s29, gF_sF, gF_ne (by decide), fun _ => gF_ne (by decide)⟩
theorem C_mkRoom {S : St} {lb : List Int32} {ov : Int32} {rm : Nat} (hb : b < 6) (hl : LC S) (w : Rw S (24 + b) lb ov) (h77 : gF S 77 b = nI rm) (hr : rm ≤ 1000) (hlb : lb.length ≤ 400) : ∃ S', m_BS_makeRoom g S (nI b) = some S' ∧ FBc b S S' ∧ gF S' 77 b = nI (rmF rm lb.length) ∧ Rw S' (24 + b) lb ov := by
  have hn : gN S 77 = 6 := hl 77 (by decide)
  unfold m_BS_makeRoom rmF
  rw [bR_at hl hb, Option.bind_some, lt_d, w.2.2.1, aI_at (by omega) (by omega), h77, Option.bind_some, Option.bind_some]
  by_cases h : lb.length ≤ rm
  · rw [if_pos (nI_le h (by omega)), if_pos h]
    exact ⟨S, rfl, ⟨fun _ _ _ => rfl, rfl, rfl, fun _ _ => rfl, fun _ _ _ _ => rfl, fun _ _ => rfl, rfl⟩, h77, w⟩
  · rw [if_neg (nI_ge (by omega) (by omega)), if_neg h, show (2 : Int32) = nI 2 from rfl, nI_mulE, nI_add, maxI_nI (by omega) (by omega), tI_at (by omega) (by omega), Option.bind_some]
    exact ⟨_, rfl, FBc.s77 hb, gF_sF, w.sFx (by decide)⟩
theorem siz_l {x : Int64} {V : Nat} (hb : b < 6) (hx : x.toInt = (V : Int)) (hV : V ≤ 400) : ∀ (k n i : Nat) (S : St), (i + k = V ∨ (k = 0 ∧ V ≤ i)) → i < 2 ^ 30 → k < n → LM S → ∃ S', m_sizes_65 g n S (nI b) x (nI i) = some (sF S' 28 b (nI V)) ∧ FBm b S S' ∧ gF S' 29 b = gF S 29 b ∧ (∀ j, i ≤ j → j < V → gF S' 30 (400 * b + j) = 0) ∧ ∀ j, j < i → gF S' 30 (400 * b + j) = gF S 30 (400 * b + j) := by
  intro k
  induction k with
  | zero =>
    intro n i S hi hi2 hn hm
    obtain ⟨n, rfl⟩ : ∃ m, n = m + 1 := ⟨n - 1, by omega⟩
    refine ⟨S, ?_, FBm.rf, rfl, fun j h1 h2 => by omega, fun j _ => rfl⟩
    show b_sizes_65 g (m_sizes_65 g n) S _ _ _ = _
    unfold b_sizes_65
    rw [if_neg (fun z => by have := (i64_lt hx (by omega)).mp z; omega), j32 hx (by omega), (b28 hm hb).2.2.1]
    rfl
  | succ k ih =>
    intro n i S hi hi2 hn hm
    obtain ⟨n, rfl⟩ : ∃ m, n = m + 1 := ⟨n - 1, by omega⟩
    have f1 : FBm b S (sF S 30 (400 * b + i) 0) := FBm.s30 (by omega)
    obtain ⟨S', a1, a2, a4, a5, a6⟩ := ih n (i + 1) _ (by omega) (by omega) (by omega) (hm.fbm f1)
    refine ⟨S', ?_, f1.tr a2, a4.trans (gF_ne (by decide)), fun j h1 h2 => ?_, fun j hj => ?_⟩
    · show b_sizes_65 g (m_sizes_65 g n) S _ _ _ = _
      unfold b_sizes_65
      rw [if_pos ((i64_lt hx (by omega)).mpr (by omega)), (b30 hm hb (by omega)).2, Option.bind_some, lt_d, nI_1, a1]
    · by_cases e : j = i
      · subst e
        rw [a6 j (by omega), gF_sF]
      · exact a5 j (by omega) h2
    · rw [a6 j (by omega), gF_sFi (by omega)]
theorem sizC_l {x : Int64} {V : Nat} (hb : b < 6) (hx : x.toInt = (V : Int)) (hV : V ≤ 400) : ∀ (k n i : Nat) (S : St) (lb : List Int32) (ov : Int32), i + k = V → k < n → lb.length = i → gOK S → Rw S (24 + b) lb ov → ∃ S', m_BS_resize_49 g n S (nI b) (24 + b) x (nI i) = ((m_BS_makeRoom g S' (nI b)).bind fun S_5 => some (S_5, 0)) ∧ Fr (24 + b) S S' ∧ Rw S' (24 + b) (lb ++ List.replicate k 0) ov := by
  have hlim : limC (24 + b) = 400 := by
    have : ∀ b, b < 6 → limC (24 + b) = 400 := by decide +kernel
    exact this b hb
  intro k
  induction k with
  | zero =>
    intro n i S lb ov hi hn hlb hk w
    obtain ⟨n, rfl⟩ : ∃ m, n = m + 1 := ⟨n - 1, by omega⟩
    refine ⟨S, ?_, Fr.rf, by simpa using w⟩
    show b_BS_resize_49 g (m_BS_resize_49 g n) S _ _ _ _ = _
    unfold b_BS_resize_49
    rw [if_neg (fun z => by have := (i64_lt hx (by omega)).mp z; omega)]
  | succ k ih =>
    intro n i S lb ov hi hn hlb hk w
    obtain ⟨n, rfl⟩ : ∃ m, n = m + 1 := ⟨n - 1, by omega⟩
    obtain ⟨S1, a1, a2, a3⟩ := R_add (g := g) (v := 0) w hk
    rw [if_pos (by omega), if_pos (by omega)] at a3
    obtain ⟨S', b1, b2, b3⟩ := ih n (i + 1) S1 (lb ++ [0]) ov (by omega) (by omega) (by simp [hlb]) (hk.fr a2) a3
    refine ⟨S', ?_, a2.tr b2, ?_⟩
    · show b_BS_resize_49 g (m_BS_resize_49 g n) S _ _ _ _ = _
      unfold b_BS_resize_49 m_BS_resize_62
      rw [if_pos ((i64_lt hx (by omega)).mpr (by omega)), a1, Option.bind_some, lt_d, nI_1, b1]
    · rw [List.append_assoc, List.singleton_append, ← List.replicate_succ] at b3
      exact b3
end BLP
theorem St35 : StOK 35 := by
  intro g U k S S2 ws a hg hk hR c cm hW h0
  obtain ⟨φ, cs, ts, u, pl, pm, ps, qs, r, bd⟩ := hR
  obtain ⟨q1, q2, q3⟩ := hW
  have q1 : 2 ≤ ws.length := q1
  have q2 : ws.length ≤ 2 := q2
  obtain ⟨w0, w1, rfl⟩ := ls2 (show ws.length = 2 by omega)
  change ∃ S' S2' kd, doC g S 35 = some (S', nI kd) ∧ m_does g S2 (nI 35) (nI a) (nI 2) = some S2' ∧ gI S2' 0 58 = nI kd ∧ kd ≤ 5 ∧ RSx U (k + 1) S' S2' ∧ FC S S' ∧ FS S2 S2'
  have hl := r.2.1
  have hm := r.2.2.1
  have hT := r.2.2.2.1
  have hx := r.2.2.2.2.2.2.2.2.2.2.2.2.2
  have f1 : F0M S2 (sI S2 0 57 0) := F0M_sI (Or.inl rfl)
  have f2 : F0M S2 (sI (sI S2 0 57 0) 0 58 4) := f1.tr (F0M_sI (Or.inr (Or.inl rfl)))
  have f3 : F0M S2 (sI (sI S2 0 57 0) 0 58 1) := f1.tr (F0M_sI (Or.inr (Or.inl rfl)))
  have h0' : gI (sI S2 0 57 0) 0 58 = 0 := by rw [gI_ne (by decide)]; exact h0
  have cm' := cm.fs (FS.f0 f1)
  have hm' := hm.fs (FS.f0 f1)
  have T2 := hT.2.1.f0 f1
  obtain ⟨x, y, e1, e2, e3, e4⟩ := getT (g := g) (j := 1) (w := w1) r c cm rfl (show okL U 84 w1 from q3 1 w1 rfl) (by decide)
  obtain ⟨kb, bi, hb, hbv⟩ := okL_b (show okL U 66 w0 from q3 0 w0 rfl) (Or.inr rfl)
  have hbld : m_Bn_builderAt g S 0 = some (nI bi) := B_bld (j := 0) (w := w0) c hl rfl hb hbv
  have ea : aJ (sI S2 0 57 0) 10 (nI a) = some w0.2.1 := (M_word (j := 0) (w := w0) cm' hm' rfl).2
  have hM := dM_35 (g := g) (S := S2) (x2 := nI a) (x3 := nI 2)
  rw [dM2_35 ea, bS, bS, j32 hbv (by omega)] at hM
  obtain ⟨S1, s1, s2, s3, s4⟩ := clr (g := g) hx
  have fc := F0C.fr s2 (Or.inl rfl)
  have rc := RS_0 r fc s4 f1
  have cS := c.fc (FC.f0 fc)
  have hlS := rc.2.1
  have hTc := rc.2.2.2.1
  have hWR : WR S1 (sI S2 0 57 0) := rc.2.2.2.2.2.2.2.2.1
  have hBR : BR S1 (sI S2 0 57 0) := rc.2.2.2.2.2.2.2.2.2.1
  have h77 : gN S1 77 = 6 := hlS 77 (by decide)
  have hlk := lacks1 (s := 35) (j0 := 1) hg c (show 1 < 2 by decide) (show ∀ j, j < 2 → j ≠ 1 → ¬ lett 35 (nI j) = 84 from by decide +kernel) (by decide +kernel) e1
  rcases e4 with ⟨rfl, rfl⟩ | ⟨p, q, l, rfl, rfl, hpq, hp, hq, l1, l2, l3, l4⟩
  · rw [c01_t rfl] at hlk
    obtain ⟨l, l1, l2, l3, l4⟩ := hT.2.2.1 0 0 hT.2.2.2.2.1
    have h4 : ¬ gI (sI (sI S2 0 57 0) 0 58 4) 0 58 = 0 := by rw [sI_58]; decide
    have hm2 := hm.fs (FS.f0 f2)
    refine ⟨S, sI (sI S2 0 57 0) 0 58 4, 4, doC_no hlk, ?_, fin_no r bd F0C.rf hx f2 sI_58 (by decide)⟩
    rw [hM]
    unfold m_opensBuilder
    rw [if_pos (show nI 35 = 35 from rfl), show m_textAt g (sI S2 0 57 0) (nI a + 1) = _ from M_tAt0 (e2 _ f1) h0', Option.bind_some]
    dsimp only
    unfold m_opensBuilder_17 m_opensBuilder_47 m_opensBuilder_72 m_opensBuilder_73
    rw [if_neg (by decide), show aI (sI (sI S2 0 57 0) 0 58 4) 24 0 = some (nI l.length) from (T_size (hT.2.1.f0 f2) hm2 l2).1, Option.bind_some, if_neg (by decide), M_ref0, Option.bind_some, if_neg h4]
  · rw [c01_f (m1_ne (by omega))] at hlk
    have hC := doC_B hlk (by decide +kernel)
    rw [dC_35 hbld (bR_at hl hb) s1] at hC
    unfold m_BS_change_91 m_BS_open m_BS_open_15 m_BS_open_46 at hC
    rw [bS2, show m_Bn_textAt g S1 1 = some (nI p) from tA_F0 (g := g) (j := 1) (w := w1) r c cm rfl (show okL U 84 w1 from q3 1 w1 rfl) (by decide) e1 fc s4, Option.bind_some] at hC
    obtain ⟨S3, v1, v2, v3⟩ := C_addText (g := g) hTc.1 s3 rc.1 l1 (by simpa using l3)
    rw [List.nil_append] at v3
    have fc3 := fc.tr (F0C.fr v2 (Or.inl rfl))
    have hl23 : limC 23 = 400 := by decide +kernel
    have x3 : XR S3 := s4.scr (v := l) v2 (Or.inl ⟨by omega, v3⟩)
    have r3 := RS_0 r fc3 x3 f1
    obtain ⟨lb0, ov0, wb, -⟩ : BRb S3 (sI S2 0 57 0) bi := (show BR S3 (sI S2 0 57 0) from r3.2.2.2.2.2.2.2.2.2.1) bi hb
    obtain ⟨S4, c1, c2, c3⟩ := R_clear (g := g) wb
    have v4 : Rw S4 23 l 0 := v3.fr c2 (by omega)
    have hk4 : gOK S4 := r3.1.fr c2
    have hlim : limC (24 + bi) = 400 := (show ∀ b, b < 6 → limC (24 + b) = 400 from by decide +kernel) bi hb
    obtain ⟨S5, d1, d2, d3⟩ := R_insert (g := g) (p := 0) (s := 0) (n := l.length) c3 v4 (by omega) hk4 (by simp) (by omega)
    rw [List.length_nil, Nat.zero_add, if_pos (by omega), if_pos (by omega), seg_all, List.take_nil, List.drop_nil, List.append_nil, List.nil_append] at d3
    rw [Nat.zero_add] at d1
    have h775 : gN S5 77 = 6 := ((d2.2.2.2.1 77 (by omega)).1.trans (c2.2.2.2.1 77 (by omega)).1).trans ((v2.2.2.2.1 77 (by omega)).1.trans h77)
    have T3 := r3.2.2.2.1.2.1
    have fA : FBm bi (sI S2 0 57 0) (sF (sF (sI S2 0 57 0) 28 bi (nI l.length)) 29 bi (nI (l.length + 16))) := FBm.s28.tr FBm.s29
    obtain ⟨T6, g1, g2, g3, g4, g5, -⟩ := opn_l (g := g) hb l2 l3 l.length g 0 _ (by omega) (by omega) (T2.fbm fA) (hm'.fbm fA) (by rw [gF_ne (by decide)]; exact gF_sF)
    refine ⟨sF S5 77 bi (nI (l.length + 16)), T6, 0, ?_, ?_, fin_b hb r bd fc3 x3 f1 h0' (((FBc.fr hb c2).tr (FBc.fr hb d2)).tr (FBc.s77 hb)) (fA.tr g2) (BRb.mk (d3.sFx (by decide)) (rm := l.length + 16) (by omega) gF_sF (g4.trans gF_sF) (by rw [g3, gF_ne (by decide)]; exact gF_sF) l3 l4 (fun i hi => g5 i (by omega) hi))⟩
    · rw [hC, v1, Option.bind_some, bR_at r3.2.1 hb, Option.bind_some, c1, Option.bind_some, v4.2.2.1, show m_Row_insert g S4 (24 + bi) 0 23 0 (nI l.length) = some S5 from d1, Option.bind_some, d3.2.2.1, show (16 : Int32) = nI 16 from rfl, nI_add, tI_at (by omega) (by omega)]
      rfl
    · rw [hM]
      unfold m_opensBuilder
      rw [if_pos (show nI 35 = 35 from rfl), show m_textAt g (sI S2 0 57 0) (nI a + 1) = _ from M_tAt (e2 _ f1) (by omega), Option.bind_some]
      dsimp only
      unfold m_opensBuilder_17 m_opensBuilder_47 m_opensBuilder_72 m_opensBuilder_73 m_opensBuilder_107
      have e16 : ((nI l.length).toInt64 + (16 : Int64)).toInt32 = nI (l.length + 16) := by
        rw [nI_l (by omega), show (16 : Int64) = lN 16 from rfl, lN_add, lN_i]
      rw [if_neg (by decide), (T_size T2 hm' l2).1, Option.bind_some, if_neg (by decide), M_ref0, Option.bind_some, if_pos h0', if_neg (by decide), (T_size T2 hm' l2).1, Option.bind_some, (b28 hm' hb).2.2.1, Option.bind_some, e16, (b28 (hm'.fbm FBm.s28) hb).2.2.2, Option.bind_some]
      exact g1
theorem St38 : StOKb 38 := by
  intro g U k S S2 ws a hg hk hR c cm hW hO h0
  obtain ⟨φ, cs, ts, u, pl, pm, ps, qs, r, bd⟩ := hR
  obtain ⟨q1, q2, q3⟩ := hW
  have q1 : 3 ≤ ws.length := q1
  have q2 : ws.length ≤ 3 := q2
  obtain ⟨w0, w1, w2, rfl⟩ := ls3 (show ws.length = 3 by omega)
  change ∃ S' S2' kd, doC g S 38 = some (S', nI kd) ∧ m_does g S2 (nI 38) (nI a) (nI 3) = some S2' ∧ gI S2' 0 58 = nI kd ∧ kd ≤ 5 ∧ RSx U (k + 1) S' S2' ∧ FC S S' ∧ FS S2 S2'
  have hl := r.2.1
  have hm := r.2.2.1
  have hT := r.2.2.2.1
  have hx := r.2.2.2.2.2.2.2.2.2.2.2.2.2
  have f1 : F0M S2 (sI S2 0 57 0) := F0M_sI (Or.inl rfl)
  have f2 : F0M S2 (sI (sI S2 0 57 0) 0 58 4) := f1.tr (F0M_sI (Or.inr (Or.inl rfl)))
  have f3 : F0M S2 (sI (sI S2 0 57 0) 0 58 1) := f1.tr (F0M_sI (Or.inr (Or.inl rfl)))
  have h0' : gI (sI S2 0 57 0) 0 58 = 0 := by rw [gI_ne (by decide)]; exact h0
  have cm' := cm.fs (FS.f0 f1)
  have hm' := hm.fs (FS.f0 f1)
  have T2 := hT.2.1.f0 f1
  have o1 : okW w1 := okL_W (show okL U 87 w1 from q3 1 w1 rfl)
  have m1 : m_value g (sI S2 0 57 0) (nI a + (1 : Int32)) = some (valW S2 w1) := by rw [show (1 : Int32) = nI 1 from rfl, nI_add]; exact M_value (g := g) (j := 1) (w := w1) cm' hm' rfl o1
  have o2 : okW w2 := okL_W (show okL U 87 w2 from q3 2 w2 rfl)
  have m2 : m_value g (sI S2 0 57 0) (nI a + (2 : Int32)) = some (valW S2 w2) := by rw [show (2 : Int32) = nI 2 from rfl, nI_add]; exact M_value (g := g) (j := 2) (w := w2) cm' hm' rfl o2
  obtain ⟨kb, bi, hb, hbv⟩ := okL_b (show okL U 98 w0 from q3 0 w0 rfl) (Or.inl rfl)
  have hbld : m_Bn_builderAt g S 0 = some (nI bi) := B_bld (j := 0) (w := w0) c hl rfl hb hbv
  have ea : aJ (sI S2 0 57 0) 10 (nI a) = some w0.2.1 := (M_word (j := 0) (w := w0) cm' hm' rfl).2
  have hM := dM_38 (g := g) (S := S2) (x2 := nI a) (x3 := nI 3)
  rw [dM2_38 ea, bS, bS, j32 hbv (by omega)] at hM
  obtain ⟨S1, s1, s2, s3, s4⟩ := clr (g := g) hx
  have fc := F0C.fr s2 (Or.inl rfl)
  have rc := RS_0 r fc s4 f1
  have cS := c.fc (FC.f0 fc)
  have hlS := rc.2.1
  have hTc := rc.2.2.2.1
  have hWR : WR S1 (sI S2 0 57 0) := rc.2.2.2.2.2.2.2.2.1
  have hBR : BR S1 (sI S2 0 57 0) := rc.2.2.2.2.2.2.2.2.2.1
  have h77 : gN S1 77 = 6 := hlS 77 (by decide)
  have hop : ¬ gF S1 77 bi = -1 := by
    rw [(fc.2.2.2.1 77 (by decide) (by decide) (by decide)).2 bi]
    exact hO 0 w0 bi rfl kb (by decide +kernel) hbv
  obtain ⟨lb, ov, rm, b1, b2, b3, b4, b5, b6⟩ := hBR.op hb hop
  have hlb := b5.2.1
  have b5z := b5.sz hm' hb
  have hlk := lacks0 (s := 38) hg c (show ∀ j, j < 3 → ¬ lett 38 (nI j) = 84 from by decide +kernel)
  have hC := doC_B hlk (by decide +kernel)
  rw [dC_38 hbld (bR_at hl hb) s1] at hC
  rw [bS2] at hC
  unfold m_BS_delete at hC
  obtain ⟨z, z1, z2⟩ := B_place (g := g) (j := 1) (w := w1) (n := lb.length) cS hlS rfl o1 hWR (by omega)
  obtain ⟨y, y1, y2⟩ := B_place (g := g) (j := 2) (w := w2) (n := lb.length) cS hlS rfl o2 hWR (by omega)
  rw [show valW (sI S2 0 57 0) w1 = valW S2 w1 from rfl] at z2
  rw [show valW (sI S2 0 57 0) w2 = valW S2 w2 from rfl] at y2
  rw [b1.2.2.1, show m_Bn_placeAt g S1 1 (nI lb.length) = some z from z1, Option.bind_some, show m_Bn_placeAt g S1 2 (nI lb.length) = some y from y1, Option.bind_some, lt_d] at hC
  have hmin : (minI (nI lb.length) y).toInt = min (lb.length : Int) y.toInt := by
    unfold minI
    by_cases h : y < nI lb.length
    · rw [if_pos h]
      rw [Int32.lt_iff_toInt_lt, nI_toInt (by omega)] at h
      omega
    · rw [if_neg h]
      rw [Int32.lt_iff_toInt_lt, nI_toInt (by omega)] at h
      rw [nI_toInt (by omega)]
      omega
  generalize hx9 : minI (nI lb.length) y = x9 at hC hmin
  obtain ⟨E, hE, hM41⟩ : ∃ E : Int64, E.toInt = min (lb.length : Int) (valW S2 w2).toInt ∧ m_does g S2 (nI 38) (nI a) (nI 3) = m_deletes_41 g (sI S2 0 57 0) (nI bi) (nI lb.length) (valW S2 w1) E := by
    unfold m_deletes at hM
    rw [b5z, Option.bind_some, m1, Option.bind_some, m2, Option.bind_some, Option.bind_some] at hM
    by_cases h : (nI lb.length).toInt64 < valW S2 w2
    · rw [if_pos h] at hM
      refine ⟨_, ?_, hM⟩
      rw [i64_ltI (by omega)] at h
      rw [j64, nI_toInt (by omega)]
      omega
    · rw [if_neg h] at hM
      refine ⟨_, ?_, hM⟩
      rw [i64_ltI (by omega)] at h
      omega
  unfold m_deletes_41 m_deletes_60 at hM41
  rw [isIn_s, Option.bind_some, z64] at hM41
  by_cases hin : 0 ≤ (valW S2 w1).toInt ∧ (valW S2 w1).toInt ≤ E.toInt
  · obtain ⟨s, hs⟩ : ∃ m : Nat, (valW S2 w1).toInt = (m : Int) := ⟨(valW S2 w1).toInt.toNat, by omega⟩
    obtain ⟨d, hd⟩ : ∃ m : Nat, E.toInt = ((s + m : Nat) : Int) := ⟨(E.toInt - (valW S2 w1).toInt).toNat, by omega⟩
    have hz : z = nI s := Int32.toInt_inj.mp (by rw [z2, nI_toInt (by omega)]; omega)
    have hx : x9 = nI (s + d) := Int32.toInt_inj.mp (by rw [hmin, nI_toInt (by omega)]; omega)
    subst hz hx
    have hsd : s + d ≤ lb.length := by omega
    obtain ⟨S3, c1, c2, c3⟩ := R_remove (g := g) b1 (show s ≤ s + d by omega) hsd
    have e1 : (E - valW S2 w1).toInt32 = nI d := by
      apply j32
      · rw [Int64.toInt_sub, hd, hs, Int.bmod_eq_of_le (by omega) (by omega)]
        omega
      · omega
    obtain ⟨T3, v1, v2, v4, v5, v6⟩ := del_l (g := g) (N := lb.length) hb hlb e1 (lb.length - (s + d)) g (s + d) (sI S2 0 57 0) (by omega) (by omega) (by omega) hm'
    have hln : (lb.take s ++ lb.drop (s + d)).length = lb.length - d := by
      rw [List.length_append, List.length_take, List.length_drop]
      omega
    have hget : ∀ j, j < lb.length - d → (lb.take s ++ lb.drop (s + d)).getD j 0 = if j < s then lb.getD j 0 else lb.getD (j + d) 0 := by
      intro j hj
      rw [List.getD_eq_getElem?_getD]
      by_cases h : j < s
      · rw [if_pos h, List.getElem?_append_left (by rw [List.length_take]; omega), List.getElem?_take_of_lt h, List.getD_eq_getElem?_getD]
      · rw [if_neg h, List.getElem?_append_right (by rw [List.length_take]; omega), List.getElem?_drop, List.length_take, Nat.min_eq_left (by omega), show s + d + (j - s) = j + d by omega, List.getD_eq_getElem?_getD]
    refine ⟨S3, sF T3 28 bi (nI (lb.length - d)), 0, ?_, ?_, fin_b hb r bd fc s4 f1 h0' (FBc.fr hb c2) (v2.tr FBm.s28) (BRb.mk c3 b2 ((c2.2.2.2.1 77 (by omega)).2 bi ▸ b3) (by rw [gF_ne (by decide), v4]; exact b4) (by rw [hln]; exact gF_sF) (by omega) ?_ ?_)⟩
    · rw [hC, if_neg (nI_pos (by omega)), if_pos (nI_le (by omega) (by omega)), c1]
      rfl
    · rw [hM41, c01_t hin, if_neg (by decide), M_ref0, Option.bind_some, if_pos h0', lt_d, j32 hd (by omega), v1]
    · intro j hj
      rw [hln] at hj
      rw [hget j hj]
      split
      · exact b6 j (by omega)
      · exact b6 (j + d) (by omega)
    · intro j hj
      rw [hln] at hj
      rw [hget j hj, gF_ne (by decide)]
      by_cases h : j < s
      · rw [if_pos h, v6 j (by omega)]
        exact b5.2.2 j (by omega)
      · rw [if_neg h, v5 j (by omega) (by omega)]
        exact b5.2.2 (j + d) (by omega)
  · refine ⟨S1, sI (sI S2 0 57 0) 0 58 1, 1, ?_, ?_, fin_no r bd fc s4 f3 sI_58 (by decide)⟩
    · rw [hC]
      by_cases h1 : z < 0
      · rw [if_pos h1]
        rfl
      · rw [if_neg h1, if_neg (fun h2 => by
          rw [Int32.lt_iff_toInt_lt, show (0 : Int32).toInt = 0 from rfl] at h1
          rw [Int32.le_iff_toInt_le, hmin] at h2
          omega)]
        rfl
    · rw [hM41, c01_f hin, if_pos rfl, M_ref1 h0', Option.bind_some, if_neg (by rw [sI_58]; decide)]
theorem St41 : StOKb 41 := by
  intro g U k S S2 ws a hg hk hR c cm hW hO h0
  obtain ⟨φ, cs, ts, u, pl, pm, ps, qs, r, bd⟩ := hR
  obtain ⟨q1, q2, q3⟩ := hW
  have q1 : 2 ≤ ws.length := q1
  have q2 : ws.length ≤ 2 := q2
  obtain ⟨w0, w1, rfl⟩ := ls2 (show ws.length = 2 by omega)
  change ∃ S' S2' kd, doC g S 41 = some (S', nI kd) ∧ m_does g S2 (nI 41) (nI a) (nI 2) = some S2' ∧ gI S2' 0 58 = nI kd ∧ kd ≤ 5 ∧ RSx U (k + 1) S' S2' ∧ FC S S' ∧ FS S2 S2'
  have hl := r.2.1
  have hm := r.2.2.1
  have hT := r.2.2.2.1
  have hx := r.2.2.2.2.2.2.2.2.2.2.2.2.2
  have f1 : F0M S2 (sI S2 0 57 0) := F0M_sI (Or.inl rfl)
  have f2 : F0M S2 (sI (sI S2 0 57 0) 0 58 4) := f1.tr (F0M_sI (Or.inr (Or.inl rfl)))
  have f3 : F0M S2 (sI (sI S2 0 57 0) 0 58 1) := f1.tr (F0M_sI (Or.inr (Or.inl rfl)))
  have h0' : gI (sI S2 0 57 0) 0 58 = 0 := by rw [gI_ne (by decide)]; exact h0
  have cm' := cm.fs (FS.f0 f1)
  have hm' := hm.fs (FS.f0 f1)
  have T2 := hT.2.1.f0 f1
  have o1 : okW w1 := okL_W (show okL U 87 w1 from q3 1 w1 rfl)
  have m1 : m_value g (sI S2 0 57 0) (nI a + (1 : Int32)) = some (valW S2 w1) := by rw [show (1 : Int32) = nI 1 from rfl, nI_add]; exact M_value (g := g) (j := 1) (w := w1) cm' hm' rfl o1
  obtain ⟨kb, bi, hb, hbv⟩ := okL_b (show okL U 98 w0 from q3 0 w0 rfl) (Or.inl rfl)
  have hbld : m_Bn_builderAt g S 0 = some (nI bi) := B_bld (j := 0) (w := w0) c hl rfl hb hbv
  have ea : aJ (sI S2 0 57 0) 10 (nI a) = some w0.2.1 := (M_word (j := 0) (w := w0) cm' hm' rfl).2
  have hM := dM_41 (g := g) (S := S2) (x2 := nI a) (x3 := nI 2)
  rw [dM2_41 ea, bS, bS, j32 hbv (by omega)] at hM
  obtain ⟨S1, s1, s2, s3, s4⟩ := clr (g := g) hx
  have fc := F0C.fr s2 (Or.inl rfl)
  have rc := RS_0 r fc s4 f1
  have cS := c.fc (FC.f0 fc)
  have hlS := rc.2.1
  have hTc := rc.2.2.2.1
  have hWR : WR S1 (sI S2 0 57 0) := rc.2.2.2.2.2.2.2.2.1
  have hBR : BR S1 (sI S2 0 57 0) := rc.2.2.2.2.2.2.2.2.2.1
  have h77 : gN S1 77 = 6 := hlS 77 (by decide)
  have hop : ¬ gF S1 77 bi = -1 := by
    rw [(fc.2.2.2.1 77 (by decide) (by decide) (by decide)).2 bi]
    exact hO 0 w0 bi rfl kb (by decide +kernel) hbv
  obtain ⟨lb, ov, rm, b1, b2, b3, b4, b5, b6⟩ := hBR.op hb hop
  have hlb := b5.2.1
  have b5z := b5.sz hm' hb
  have hlk := lacks0 (s := 41) hg c (show ∀ j, j < 2 → ¬ lett 41 (nI j) = 84 from by decide +kernel)
  have hC := doC_B hlk (by decide +kernel)
  rw [dC_41 hbld (bR_at hl hb) s1] at hC
  unfold m_BS_change_167 m_BS_resize at hC
  rw [bS2, bR_at hlS hb, Option.bind_some, show m_Bn_wholeAt g S1 1 = some (valW S2 w1) from B_whole (S2 := sI S2 0 57 0) (j := 1) (w := w1) cS hlS rfl o1 hWR, Option.bind_some] at hC
  unfold m_sizes m_sizes_20 at hM
  rw [m1, Option.bind_some] at hM
  have h4I : ((400 : Int64) < valW S2 w1) ↔ 400 < (valW S2 w1).toInt := by rw [Int64.lt_iff_toInt_lt, show (400 : Int64).toInt = 400 from by decide +kernel]
  by_cases hneg : valW S2 w1 < 0
  · rw [if_pos hneg] at hC hM
    have h4 : ¬ gI (sI (sI S2 0 57 0) 0 58 1) 0 58 = 0 := by rw [sI_58]; decide
    refine ⟨S1, sI (sI S2 0 57 0) 0 58 1, 1, hC, ?_, fin_no r bd fc s4 f3 sI_58 (by decide)⟩
    rw [hM, M_ref1 h0', Option.bind_some]
    unfold m_sizes_38
    rw [M_ref0, M_ref1n h4, Option.bind_some, if_neg h4]
    exact ifo rfl rfl
  rw [if_neg hneg] at hC hM
  rw [M_ref0, Option.bind_some] at hM
  by_cases hbig : (400 : Int64) < valW S2 w1
  · rw [if_pos hbig] at hC hM
    refine ⟨S1, sI (sI S2 0 57 0) 0 58 5, 5, hC, ?_, fin_no r bd fc s4 (f1.tr (F0M_sI (Or.inr (Or.inl rfl)))) sI_58 (by decide)⟩
    rw [hM]
    unfold m_sizes_38
    rw [M_ref1 h0', Option.bind_some, if_neg (by rw [sI_58]; decide)]
  rw [if_neg hbig] at hC hM
  rw [neg64] at hneg
  rw [h4I] at hbig
  obtain ⟨V, hV⟩ : ∃ m : Nat, (valW S2 w1).toInt = (m : Int) := ⟨(valW S2 w1).toInt.toNat, by omega⟩
  rw [j32 hV (by omega)] at hC
  obtain ⟨S3, c1, c2, c3⟩ := R_shorten (g := g) (n := V) b1 (by omega)
  have hlt : (lb.take V).length = min V lb.length := List.length_take
  have hk3 : gOK S3 := rc.1.fr c2
  obtain ⟨S4, d1, d2, d3⟩ := sizC_l (g := g) (x := valW S2 w1) hb hV (by omega) (V - min V lb.length) g (min V lb.length) S3 (lb.take V) ov (by omega) (by omega) hlt hk3 c3
  have hln : (lb.take V ++ List.replicate (V - min V lb.length) 0).length = V := by
    rw [List.length_append, hlt, List.length_replicate]
    omega
  have fcb : FBc bi S1 S4 := (FBc.fr hb c2).tr (FBc.fr hb d2)
  have hl4 : LC S4 := hlS.fbc hb fcb
  have h774 : gF S4 77 bi = nI rm := ((d2.2.2.2.1 77 (by omega)).2 bi).trans (((c2.2.2.2.1 77 (by omega)).2 bi).trans b3)
  obtain ⟨S5, e1, e2, e3, e4⟩ := C_mkRoom (g := g) hb hl4 d3 h774 b2 (by omega)
  rw [hln] at e3
  unfold m_sizes_38 at hM
  rw [M_ref0, Option.bind_some, if_pos h0', j32 hV (by omega)] at hM
  obtain ⟨T3, g1, g2, g3, g4, g5⟩ := M_grows (g := g) (V := V) hb hm' b4 b2 (by omega)
  have hm3 := hm'.fbm g2
  rw [g1, Option.bind_some, (b28 hm3 hb).1, Option.bind_some, g4, b5.1] at hM
  obtain ⟨T4, v1, v2, v4, v5, v6⟩ := siz_l (g := g) (x := valW S2 w1) hb hV (by omega) (V - lb.length) g lb.length T3 (by omega) (by omega) (by omega) hm3
  have hget : ∀ j, j < V → (lb.take V ++ List.replicate (V - min V lb.length) 0).getD j 0 = if j < lb.length then lb.getD j 0 else 0 := by
    intro j hj
    rw [List.getD_eq_getElem?_getD]
    by_cases h : j < lb.length
    · rw [if_pos h, List.getElem?_append_left (by omega), List.getElem?_take_of_lt hj, List.getD_eq_getElem?_getD]
    · rw [if_neg h, List.getElem?_append_right (by omega), List.getElem?_replicate]
      split <;> rfl
  refine ⟨S5, sF T4 28 bi (nI V), 0, ?_, ?_, fin_b hb r bd fc s4 f1 h0' (fcb.tr e2) ((g2.tr v2).tr FBm.s28) (BRb.mk e4 (rm := rmF rm V) (rmF_b b2 (by omega)) e3 (by rw [gF_ne (by decide), v4]; exact g3) (by rw [hln]; exact gF_sF) (by omega) ?_ ?_)⟩
  · rw [hC, c1, Option.bind_some, lt_d, c3.2.2.1, hlt, d1, e1]
    rfl
  · rw [hM, v1]
  · intro j hj
    rw [hln] at hj
    rw [hget j hj]
    split
    · exact b6 j (by omega)
    · exact ⟨0, by omega, rfl⟩
  · intro j hj
    rw [hln] at hj
    rw [hget j hj, gF_ne (by decide)]
    by_cases h : j < lb.length
    · rw [if_pos h, v6 j h, g5]
      exact b5.2.2 j h
    · rw [if_neg h]
      exact v5 j (by omega) hj
