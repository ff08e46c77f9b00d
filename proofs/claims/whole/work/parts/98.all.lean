/-! every STEP; a builder that is made -/
theorem StAll : ∀ s, s < 56 → s ≠ 53 → s ≠ 54 → StOKb s := by
  intro s h1 h2 h3
  by_cases e0 : s = 0
  · subst e0; exact St0.b
  by_cases e1 : s = 1
  · subst e1; exact St1.b
  by_cases e2 : s = 2
  · subst e2; exact St2.b
  by_cases e3 : s = 3
  · subst e3; exact St3.b
  by_cases e4 : s = 4
  · subst e4; exact St4
  by_cases e5 : s = 5
  · subst e5; exact St5.b
  by_cases e6 : s = 6
  · subst e6; exact St6.b
  by_cases e7 : s = 7
  · subst e7; exact St7.b
  by_cases e8 : s = 8
  · subst e8; exact St8.b
  by_cases e9 : s = 9
  · subst e9; exact St9.b
  by_cases e10 : s = 10
  · subst e10; exact St10.b
  by_cases e11 : s = 11
  · subst e11; exact St11.b
  by_cases e12 : s = 12
  · subst e12; exact St12.b
  by_cases e13 : s = 13
  · subst e13; exact St13.b
  by_cases e14 : s = 14
  · subst e14; exact St14.b
  by_cases e15 : s = 15
  · subst e15; exact St15.b
  by_cases e16 : s = 16
  · subst e16; exact St16.b
  by_cases e17 : s = 17
  · subst e17; exact St17.b
  by_cases e18 : s = 18
  · subst e18; exact St18.b
  by_cases e19 : s = 19
  · subst e19; exact St19.b
  by_cases e20 : s = 20
  · subst e20; exact St20.b
  by_cases e21 : s = 21
  · subst e21; exact St21.b
  by_cases e22 : s = 22
  · subst e22; exact St22.b
  by_cases e23 : s = 23
  · subst e23; exact St23.b
  by_cases e24 : s = 24
  · subst e24; exact St24.b
  by_cases e25 : s = 25
  · subst e25; exact St25.b
  by_cases e26 : s = 26
  · subst e26; exact St26.b
  by_cases e27 : s = 27
  · subst e27; exact St27.b
  by_cases e28 : s = 28
  · subst e28; exact St28.b
  by_cases e29 : s = 29
  · subst e29; exact St29.b
  by_cases e30 : s = 30
  · subst e30; exact St30.b
  by_cases e31 : s = 31
  · subst e31; exact St31.b
  by_cases e32 : s = 32
  · subst e32; exact St32.b
  by_cases e33 : s = 33
  · subst e33; exact St33.b
  by_cases e34 : s = 34
  · subst e34; exact St34.b
  by_cases e35 : s = 35
  · subst e35; exact St35.b
  by_cases e36 : s = 36
  · subst e36; exact St36
  by_cases e37 : s = 37
  · subst e37; exact St37
  by_cases e38 : s = 38
  · subst e38; exact St38
  by_cases e39 : s = 39
  · subst e39; exact St39
  by_cases e40 : s = 40
  · subst e40; exact St40
  by_cases e41 : s = 41
  · subst e41; exact St41
  by_cases e42 : s = 42
  · subst e42; exact St42
  by_cases e43 : s = 43
  · subst e43; exact St43
  by_cases e44 : s = 44
  · subst e44; exact St44
  by_cases e45 : s = 45
  · subst e45; exact St45.b
  by_cases e46 : s = 46
  · subst e46; exact St46.b
  by_cases e47 : s = 47
  · subst e47; exact St47.b
  by_cases e48 : s = 48
  · subst e48; exact St48.b
  by_cases e49 : s = 49
  · subst e49; exact St49.b
  by_cases e50 : s = 50
  · subst e50; exact St50.b
  by_cases e51 : s = 51
  · subst e51; exact St51.b
  by_cases e52 : s = 52
  · subst e52; exact St52.b
  by_cases e53 : s = 53
  · exact absurd e53 h2
  by_cases e54 : s = 54
  · exact absurd e54 h3
  by_cases e55 : s = 55
  · subst e55; exact St55.b
  omega
/-- the STEP makes its builder, if it is done -/
def OpnS (s : Nat) : Prop := ∀ (g : Nat) (U : Nat → Prop) (k : Nat) (S S2 : St) (ws : List Wd) (a : Nat), 100000 ≤ g → k < 60 → RSx U k S S2 → CurC S ws → CurM S2 a ws → WOK U s ws → gI S2 0 58 = 0 → ∀ S', doC g S s = some (S', 0) → ∀ w b, ws[0]? = some w → w.2.1.toInt = ((b : Nat) : Int) → ¬ gF S' 77 b = -1
theorem Opn34 : OpnS 34 := by
  intro g U k S S2 ws a hg hk hR c cm hW h0
  obtain ⟨φ, cs, ts, u, pl, pm, ps, qs, r, bd⟩ := hR
  obtain ⟨q1, q2, q3⟩ := hW
  have q1 : 2 ≤ ws.length := q1
  have q2 : ws.length ≤ 2 := q2
  obtain ⟨w0, w1, rfl⟩ := ls2 (show ws.length = 2 by omega)
  intro S' hS' w b0 hw0 hwb
  have hl := r.2.1
  have hm := r.2.2.1
  have hT := r.2.2.2.1
  have hx := r.2.2.2.2.2.2.2.2.2.2.2.2.2
  have f1 : F0M S2 (sI S2 0 57 0) := F0M_sI (Or.inl rfl)
  have f2 : F0M S2 (sI (sI S2 0 57 0) 0 58 4) := f1.tr (F0M_sI (Or.inr (Or.inl rfl)))
  have f3 : F0M S2 (sI (sI S2 0 57 0) 0 58 1) := f1.tr (F0M_sI (Or.inr (Or.inl rfl)))
  have h0' : gI (sI S2 0 57 0) 0 58 = 0 := by rw [gI_ne (by decide)]; exact h0
  have cm' := cm.fs (FS.f0 f1)
  have hm' := hm.fs (FS.f0 f1)
  have T2 := hT.2.1.f0 f1
  have o1 : okW w1 := okL_W (show okL U 87 w1 from q3 1 w1 rfl)
  have m1 : m_value g (sI S2 0 57 0) (nI a + (1 : Int32)) = some (valW S2 w1) := by rw [show (1 : Int32) = nI 1 from rfl, nI_add]; exact M_value (g := g) (j := 1) (w := w1) cm' hm' rfl o1
  obtain ⟨kb, bi, hb, hbv⟩ := okL_b (show okL U 66 w0 from q3 0 w0 rfl) (Or.inr rfl)
  have hbld : m_Bn_builderAt g S 0 = some (nI bi) := B_bld (j := 0) (w := w0) c hl rfl hb hbv
  have ea : aJ (sI S2 0 57 0) 10 (nI a) = some w0.2.1 := (M_word (j := 0) (w := w0) cm' hm' rfl).2
  have hM := dM_34 (g := g) (S := S2) (x2 := nI a) (x3 := nI 2)
  rw [dM2_34 ea, bS, bS, j32 hbv (by omega)] at hM
  obtain ⟨S1, s1, s2, s3, s4⟩ := clr (g := g) hx
  have fc := F0C.fr s2 (Or.inl rfl)
  have rc := RS_0 r fc s4 f1
  have cS := c.fc (FC.f0 fc)
  have hlS := rc.2.1
  have hTc := rc.2.2.2.1
  have hWR : WR S1 (sI S2 0 57 0) := rc.2.2.2.2.2.2.2.2.1
  have hBR : BR S1 (sI S2 0 57 0) := rc.2.2.2.2.2.2.2.2.2.1
  have h77 : gN S1 77 = 6 := hlS 77 (by decide)
  have hw0 : w0 = w := Option.some.inj hw0
  subst hw0
  have hbb : b0 = bi := by omega
  subst hbb
  have hlk := lacks0 (s := 34) hg c (show ∀ j, j < 2 → ¬ lett 34 (nI j) = 84 from by decide +kernel)
  have hC := doC_B hlk (by decide +kernel)
  rw [dC_34 hbld (bR_at hl hb) s1] at hC
  rw [bS2] at hC
  unfold m_BS_makeFresh at hC
  rw [show m_Bn_wholeAt g S1 1 = some (valW S2 w1) from B_whole (S2 := sI S2 0 57 0) (j := 1) (w := w1) cS hlS rfl o1 hWR, Option.bind_some, bR_at hlS hb, Option.bind_some, hS'] at hC
  by_cases h1 : valW S2 w1 < 0
  · rw [if_pos h1] at hC
    have : (0 : Int32) = 3 := congrArg Prod.snd (Option.some.inj hC)
    exact absurd this (by decide)
  rw [if_neg h1] at hC
  by_cases h2 : (400 : Int64) < valW S2 w1
  · rw [if_pos h2] at hC
    have : (0 : Int32) = 3 := congrArg Prod.snd (Option.some.inj hC)
    exact absurd this (by decide)
  rw [if_neg h2] at hC
  rw [neg64] at h1
  rw [Int64.lt_iff_toInt_lt, show (400 : Int64).toInt = 400 from by decide +kernel] at h2
  obtain ⟨R, hR⟩ : ∃ R : Nat, (valW S2 w1).toInt = (R : Int) := ⟨(valW S2 w1).toInt.toNat, by omega⟩
  obtain ⟨lb0, ov0, wb, -⟩ := hBR b0 hb
  obtain ⟨S3, c1, c2, c3⟩ := R_clear (g := g) wb
  have h773 : gN S3 77 = 6 := (c2.2.2.2.1 77 (by omega)).1.trans h77
  rw [c1, Option.bind_some, j32 hR (by omega), tI_at (by omega) (by omega), Option.bind_some] at hC
  have : S' = sF S3 77 b0 (nI R) := congrArg Prod.fst (Option.some.inj hC)
  rw [this, gF_sF]
  exact m1_ne (by omega)
theorem Opn35 : OpnS 35 := by
  intro g U k S S2 ws a hg hk hR c cm hW h0
  obtain ⟨φ, cs, ts, u, pl, pm, ps, qs, r, bd⟩ := hR
  obtain ⟨q1, q2, q3⟩ := hW
  have q1 : 2 ≤ ws.length := q1
  have q2 : ws.length ≤ 2 := q2
  obtain ⟨w0, w1, rfl⟩ := ls2 (show ws.length = 2 by omega)
  intro S' hS' w b0 hw0 hwb
  have hl := r.2.1
  have hm := r.2.2.1
  have hT := r.2.2.2.1
  have hx := r.2.2.2.2.2.2.2.2.2.2.2.2.2
  have f1 : F0M S2 (sI S2 0 57 0) := F0M_sI (Or.inl rfl)
  have f2 : F0M S2 (sI (sI S2 0 57 0) 0 58 4) := f1.tr (F0M_sI (Or.inr (Or.inl rfl)))
  have f3 : F0M S2 (sI (sI S2 0 57 0) 0 58 1) := f1.tr (F0M_sI (Or.inr (Or.inl rfl)))
  have h0' : gI (sI S2 0 57 0) 0 58 = 0 := by rw [gI_ne (by decide)]; exact h0
  have cm' := cm.fs (FS.f0 f1)
  have hm' := hm.fs (FS.f0 f1)
  have T2 := hT.2.1.f0 f1
  obtain ⟨x, y, e1, e2, e3, e4⟩ := getT (g := g) (j := 1) (w := w1) r c cm rfl (show okL U 84 w1 from q3 1 w1 rfl) (by decide)
  obtain ⟨kb, bi, hb, hbv⟩ := okL_b (show okL U 66 w0 from q3 0 w0 rfl) (Or.inr rfl)
  have hbld : m_Bn_builderAt g S 0 = some (nI bi) := B_bld (j := 0) (w := w0) c hl rfl hb hbv
  have ea : aJ (sI S2 0 57 0) 10 (nI a) = some w0.2.1 := (M_word (j := 0) (w := w0) cm' hm' rfl).2
  have hM := dM_35 (g := g) (S := S2) (x2 := nI a) (x3 := nI 2)
  rw [dM2_35 ea, bS, bS, j32 hbv (by omega)] at hM
  obtain ⟨S1, s1, s2, s3, s4⟩ := clr (g := g) hx
  have fc := F0C.fr s2 (Or.inl rfl)
  have rc := RS_0 r fc s4 f1
  have cS := c.fc (FC.f0 fc)
  have hlS := rc.2.1
  have hTc := rc.2.2.2.1
  have hWR : WR S1 (sI S2 0 57 0) := rc.2.2.2.2.2.2.2.2.1
  have hBR : BR S1 (sI S2 0 57 0) := rc.2.2.2.2.2.2.2.2.2.1
  have h77 : gN S1 77 = 6 := hlS 77 (by decide)
  have hlk := lacks1 (s := 35) (j0 := 1) hg c (show 1 < 2 by decide) (show ∀ j, j < 2 → j ≠ 1 → ¬ lett 35 (nI j) = 84 from by decide +kernel) (by decide +kernel) e1
  have hw0 : w0 = w := Option.some.inj hw0
  subst hw0
  have hbb : b0 = bi := by omega
  subst hbb
  rcases e4 with ⟨rfl, rfl⟩ | ⟨p, q, l, rfl, rfl, hpq, hp, hq, l1, l2, l3, l4⟩
  · rw [c01_t rfl] at hlk
    have : (0 : Int32) = nI 4 := congrArg Prod.snd (Option.some.inj (hS'.symm.trans (doC_no hlk)))
    exact absurd this (by decide)
  · rw [c01_f (m1_ne (by omega))] at hlk
    have hC := doC_B hlk (by decide +kernel)
    rw [dC_35 hbld (bR_at hl hb) s1] at hC
    unfold m_BS_change_91 m_BS_open m_BS_open_15 m_BS_open_46 at hC
    rw [bS2, show m_Bn_textAt g S1 1 = some (nI p) from tA_F0 (g := g) (j := 1) (w := w1) r c cm rfl (show okL U 84 w1 from q3 1 w1 rfl) (by decide) e1 fc s4, Option.bind_some, hS'] at hC
    obtain ⟨S3, v1, v2, v3⟩ := C_addText (g := g) hTc.1 s3 rc.1 l1 (by simpa using l3)
    rw [List.nil_append] at v3
    have fc3 := fc.tr (F0C.fr v2 (Or.inl rfl))
    have hl23 : limC 23 = 400 := by decide +kernel
    have x3 : XR S3 := s4.scr (v := l) v2 (Or.inl ⟨by omega, v3⟩)
    have r3 := RS_0 r fc3 x3 f1
    obtain ⟨lb0, ov0, wb, -⟩ : BRb S3 (sI S2 0 57 0) b0 := (show BR S3 (sI S2 0 57 0) from r3.2.2.2.2.2.2.2.2.2.1) b0 hb
    obtain ⟨S4, c1, c2, c3⟩ := R_clear (g := g) wb
    have v4 : Rw S4 23 l 0 := v3.fr c2 (by omega)
    have hk4 : gOK S4 := r3.1.fr c2
    have hlim : limC (24 + b0) = 400 := (show ∀ b, b < 6 → limC (24 + b) = 400 from by decide +kernel) b0 hb
    obtain ⟨S5, d1, d2, d3⟩ := R_insert (g := g) (p := 0) (s := 0) (n := l.length) c3 v4 (by omega) hk4 (by simp) (by omega)
    rw [List.length_nil, Nat.zero_add, if_pos (by omega), if_pos (by omega), seg_all, List.take_nil, List.drop_nil, List.append_nil, List.nil_append] at d3
    rw [Nat.zero_add] at d1
    have h775 : gN S5 77 = 6 := ((d2.2.2.2.1 77 (by omega)).1.trans (c2.2.2.2.1 77 (by omega)).1).trans ((v2.2.2.2.1 77 (by omega)).1.trans h77)
    rw [v1, Option.bind_some, bR_at r3.2.1 hb, Option.bind_some, c1, Option.bind_some, v4.2.2.1, show m_Row_insert g S4 (24 + b0) 0 23 0 (nI l.length) = some S5 from d1, Option.bind_some, d3.2.2.1, show (16 : Int32) = nI 16 from rfl, nI_add, tI_at (by omega) (by omega), Option.bind_some] at hC
    have : S' = sF S5 77 b0 (nI (l.length + 16)) := congrArg Prod.fst (Option.some.inj hC)
    rw [this, gF_sF]
    exact m1_ne (by omega)
