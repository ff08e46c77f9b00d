/-! compile, whole -/
section CMW
variable {g p d : Nat} {S S2 : St} {tp : List Int32} {P0 : Prg} {lits0 : List (List Int32)}
theorem RunE.beg {P : Prg} {lits : List (List Int32)} {S' T' : St} (b : BegC S' p lits P) (m : BegM T' lits P) (h : RSx (UP P) 0 S' T') (t : Tal S' T') : RunE (UP P) S' T' := by
  obtain ⟨-, -, -, b32, b33, -, -, -, -, -, b79, b79j, -⟩ := b
  obtain ⟨-, -, -, -, -, -, -, -, m52, m53, -⟩ := m
  exact ⟨h.le (by omega), t, by rw [b79, m52], by rw [b79j 1 (Or.inl rfl), m53], Or.inl ⟨m52, m53⟩, [], b32, b33⟩
theorem FZm.q0 {S S' : St} (h : FRq S S') : FZm S S' := FZm.rq h
/-- a compile that succeeds, behind the judge -/
theorem cmp_ok {S7 T7 : St} {P : Prg} {lits : List (List Int32)} (hg : 100000 ≤ g) (r : RelD S S2 tp p d P0 lits0) (hc : FZc p S S7) (h3 : gR S7 3 2 < 3) (w10 : Rw S7 10 tp 0) (hr : RwP S7) (pc : PrC S7 d P) (lc : LitsC S7 d lits) (pm : PrM T7 1 P) (lm : LitsM T7 lits) (hm : LM T7) (tb : TabM T7) (rp : RdP tp P lits 3000) (jk : JdgOK P) : ∃ S18 T18, m_TL_compile_25 g S7 (-1) = some (S18, nI P.length) ∧ m_compile_111 g T7 (-1) = some (T18, nI P.length) ∧ RelD S18 T18 [] d p P lits := by
  obtain ⟨⟨⟨h1, -, hld, -, -, -, -⟩, -, hl, hk, rx, -, -, r4, r5, hd, hne⟩, -, -, -, -, -⟩ := r
  have hp := h1.1
  have hlo := rp.2.2.1
  have R := hc.2.2.2.2.1
  have k7 : gOK S7 := ⟨by rw [R 0 4 (by omega)]; exact hk.1, by rw [R 0 5 (by omega)]; exact hk.2.1, h3, by rw [R 4 9 (by omega)]; exact hk.2.2.2⟩
  obtain ⟨S8, a1, a2, a3⟩ := R_clear (g := g) w10
  have R8 : ∀ o k, gR S8 o k = gR S7 o k := fun o k => by unfold gR; rw [a2.2.2.1]
  have q4 : gR S8 0 4 = p := by rw [R8, R 0 4 (by omega)]; exact r4
  have q5 : gR S8 0 5 = d := by rw [R8, R 0 5 (by omega)]; exact r5
  -- the swap
  obtain ⟨S12, hS12⟩ : ∃ X, X = sI (sR (sR S8 0 4 d) 0 5 p) 0 6 (1 : Int32) := ⟨_, rfl⟩
  have I12 : ∀ o k, ¬ (o = 0 ∧ k = 6) → gI S12 o k = gI S8 o k := fun o k h => by rw [hS12]; exact gI_ne h
  have N12 : ∀ a, gN S12 a = gN S8 a := fun a => by rw [hS12]; rfl
  have F12 : ∀ a i, gF S12 a i = gF S8 a i := fun a i => by rw [hS12]; rfl
  have G12 : ∀ a i, gG S12 a i = gG S8 a i := fun a i => by rw [hS12]; rfl
  have R12 : ∀ o k, ¬ (o = 0 ∧ k = 4) → ¬ (o = 0 ∧ k = 5) → gR S12 o k = gR S8 o k := fun o k x y => by
    rw [hS12]
    show gR (sR (sR S8 0 4 d) 0 5 p) o k = _
    rw [gR_ne y, gR_ne x]
  have R124 : gR S12 0 4 = d := by
    rw [hS12]
    show gR (sR (sR S8 0 4 d) 0 5 p) 0 4 = _
    rw [gR_ne (by decide), sR_g]
  have R125 : gR S12 0 5 = p := by
    rw [hS12]
    show gR (sR (sR S8 0 4 d) 0 5 p) 0 5 = _
    rw [sR_g]
  have w12 : ∀ x l ov, Rw S8 x l ov → Rw S12 x l ov := fun x l ov w => by
    obtain ⟨w0, w1, w2, w3, w4, w5, w6, w7, w8⟩ := w
    unfold Rw
    rw [I12 x 0 (by omega), I12 x 2 (by omega), I12 x 3 (by omega), N12]
    exact ⟨w0, w1, w2, w3, w4, w5, w6, w7, fun i hi => by rw [F12]; exact w8 i hi⟩
  have k12 : gOK S12 := ⟨by rw [R124]; omega, by rw [R125]; omega, by rw [R12 3 2 (by omega) (by omega), R8]; exact h3, by rw [R12 4 9 (by omega) (by omega), R8, R 4 9 (by omega)]; exact hk.2.2.2⟩
  have lc12 : LitsC S12 d lits := ⟨w12 _ _ _ (lc.1.fr a2 (by omega)), w12 _ _ _ (lc.2.fr a2 (by omega))⟩
  have up : ∀ x l ov, 18 ≤ x → Rw S x l ov → Rw S12 x l ov := fun x l ov hx w => w12 _ _ _ ((w.z hc (Or.inl hx)).fr a2 (by omega))
  obtain ⟨S15, b1, b2, b3⟩ := C_load (g := g) (S := S12) hg hd hlo.1 hlo.2.1 lc12 k12 (by
    obtain ⟨-, -, ⟨r, w⟩, -⟩ := hld
    exact ⟨_, _, up 18 _ _ (by omega) w⟩) (by
    obtain ⟨-, -, -, r, w⟩ := hld
    exact ⟨_, _, up 19 _ _ (by omega) w⟩) ⟨_, _, up 21 _ _ (by omega) hld.1⟩
  have l12 : LC S12 := fun a ha => (N12 a).trans (((a2.2.2.2.1 a (by omega)).1).trans ((hl.z hc) a ha))
  have l15 : LC S15 := fun a ha => ((b2.2.2.2.1 a (by omega) (by omega) (by omega)).1).trans (l12 a ha)
  have k15 := k12.ld b2
  have pc15 : PrC S15 d P := by
    refine pc.of ?_ (fun a i h _ => ?_) (fun a i h _ => ?_)
    · rw [b2.1 d 8 (by omega) (by omega) (by omega) (by omega), I12 d 8 (by omega), a2.1 d 8 (by omega)]
    · rw [(b2.2.2.2.1 a (by omega) (by omega) (by omega)).2, F12, (a2.2.2.2.1 a (by omega)).2]
    · rw [show gG S15 a i = gG S12 a i from by unfold gG; rw [b2.2.2.2.2], G12, show gG S8 a i = gG S7 a i from by unfold gG; rw [a2.2.2.2.2]]
  have rx15 : RwX S15 := by
    have e : ∀ x l ov, 18 ≤ x → x ≠ 18 → x ≠ 19 → x ≠ 21 → Rw S x l ov → Rw S15 x l ov := fun x l ov h1 h2 h3 h4 w => (up x l ov h1 w).ld b2 h2 h3 h4
    obtain ⟨⟨c1, d1, e1⟩, ⟨c2, d2, e2⟩, ⟨⟨c3, d3, e3⟩, ⟨c4, d4, e4⟩, c5, d5, e5⟩, w4, ⟨c6, d6, e6⟩, c7, d7, e7⟩ := rx
    exact ⟨⟨c1, d1, e _ _ _ (by omega) (by omega) (by omega) (by omega) e1⟩, ⟨c2, d2, e _ _ _ (by omega) (by omega) (by omega) (by omega) e2⟩, ⟨⟨c3, d3, e _ _ _ (by omega) (by omega) (by omega) (by omega) e3⟩, ⟨c4, d4, e _ _ _ (by omega) (by omega) (by omega) (by omega) e4⟩, c5, d5, e _ _ _ (by omega) (by omega) (by omega) (by omega) e5⟩, fun b hb => by
      obtain ⟨l, ov, w⟩ := w4 b hb
      exact ⟨l, ov, e _ _ _ (by omega) (by omega) (by omega) (by omega) w⟩, ⟨c6, d6, e _ _ _ (by omega) (by omega) (by omega) (by omega) e6⟩, c7, d7, e _ _ _ (by omega) (by omega) (by omega) (by omega) e7⟩
  -- the reference
  obtain ⟨T9, hT9⟩ : ∃ X, X = sI (sI T7 0 19 (-1 : Int32)) 0 5 (0 : Int32) := ⟨_, rfl⟩
  have fT9 : Fi 0 (fun k => k = 19 ∨ k = 5) T7 T9 := by rw [hT9]; exact (Fi.sI (Or.inl rfl)).tr (Fi.sI (Or.inr rfl))
  have t19 : gI T9 0 19 = -1 := by rw [hT9, gI_ne (by omega), sI_g]
  obtain ⟨U, u1, u2, u3, u4, u5, u6, u7⟩ := M_copyL (g := g) (T := T9) hg (pm.of (fun a i _ _ => fT9.F a i) (fun i => fT9.G 10 i)) (lm.of (fun a i _ _ => fT9.F a i)) (hm.fi fT9) ⟨fun i => (fT9.F 3 i).trans (tb.1 i), fun i => (fT9.F 4 i).trans (tb.2.1 i), fun i => (fT9.G 1 i).trans (tb.2.2.1 i), fun i => (fT9.G 2 i).trans (tb.2.2.2 i)⟩ (by rw [hT9, sI_g]; rfl) (by rw [t19]; decide) hlo.1 hlo.2.1 (fun l hl => (hlo.2.2 l hl).2)
  have hP : HasP S15 U d 0 P lits := ⟨pc15, u2, b3, u3, fun l hl => (hlo.2.2 l hl).1, rp.1, jk⟩
  obtain ⟨S18, T18, e1, e2, e3, e4, e5, e6, e7, e8, e9⟩ := beg_all (g := g) hg hP l15 k15 rx15 u4
  have e2 : m_begin g U 0 = some T18 := e2
  have R15 : ∀ o k, gR S15 o k = gR S12 o k := fun o k => by unfold gR; rw [b2.2.2.1]
  have R18 : ∀ o k, ¬ (o = 4 ∧ k = 9) → gR S18 o k = gR S12 o k := fun o k h => (e7.2.2.2.1 o k h).trans (R15 o k)
  have lowR : ∀ x l ov, x < 18 → Rw S7 x l ov → x ≠ 10 → Rw S18 x l ov := fun x l ov hx w h10 => by
    have w := (w12 _ _ _ (w.fr a2 h10)).ld b2 (by omega) (by omega) (by omega)
    have hb := w.1
    obtain ⟨z1, z2, z3⟩ := e7.2.1 x hb.1 (by omega) (by unfold stpRow; omega) (by omega) (by omega)
    obtain ⟨w0, w1, w2, w3, w4, w5, w6, w7, w8⟩ := w
    unfold Rw
    rw [z1, z1, z1, z2]
    exact ⟨w0, w1, w2, w3, w4, w5, w6, w7, fun i hi => by rw [z3]; exact w8 i hi⟩
  have w10' : Rw S18 10 [] 0 := by
    have w := (w12 _ _ _ a3).ld b2 (by omega) (by omega) (by omega)
    obtain ⟨z1, z2, z3⟩ := e7.2.1 10 (by omega) (by omega) (by unfold stpRow; omega) (by omega) (by omega)
    obtain ⟨w0, w1, w2, w3, w4, w5, w6, w7, w8⟩ := w
    unfold Rw
    rw [z1, z1, z1, z2]
    exact ⟨w0, w1, w2, w3, w4, w5, w6, w7, fun i hi => by rw [z3]; exact w8 i hi⟩
  have g11 : gN T18 11 = 3 := LMn (u4.fb e8) 11
  refine ⟨S18, T18, ?_, ?_, ⟨e9, ⟨rp.2.1, rp.2.2.2.2⟩, e3.2.2.2.2.2.2.2.2.2.2.2.2.2.2.2.1, e3.2.2.2.2.2.2.2.2.2.2.2.2.2.2.2.2, e3.2.2.2.2.2.2.2.2.2.2.2.2.2.2.1, u4.fb e8, u5.fx (FX.b e8), by rw [R18 0 4 (by omega)]; exact R124, by rw [R18 0 5 (by omega)]; exact R125, hp, fun z => hne z.symm⟩, ⟨w10', by rw [e8.1 5 (by unfold stpSl; omega) (by omega) (by omega) (by omega) (by omega)]; exact u7, by simp, fun i hi => by simp at hi, fun x hx => by cases hx⟩, RunE.beg e3 e4 e5 e6, ⟨lowR _ _ _ (by omega) lc.1 (by omega), lowR _ _ _ (by omega) lc.2 (by omega)⟩, hr.of (fun x l ov h1 h2 w => lowR x l ov (by omega) w (by omega)), Or.inr ⟨?_, ?_⟩⟩
  · unfold m_TL_compile_25
    have s8 : sI (sR (sR S8 0 4 d) 0 5 p) 0 6 (1 : Int32) = S12 := hS12.symm
    rw [a1, Option.bind_some, if_pos rfl, q4, if_pos hp, lt_d, q5, if_pos hd, lt_d, lt_d, lt_d, lt_d, s8, R124, if_pos hd, lt_d, b1, Option.bind_some]
    unfold m_TL_compile_78
    rw [R15, R124, if_pos hd, lt_d, e1, Option.bind_some]
    unfold m_TL_compile_89
    rw [R18 0 4 (by omega), R124, if_pos hd, lt_d, e9.1.2.2.2.1]
  · unfold m_compile_111 m_compile_114
    rw [lt_d, lt_d, ← hT9, if_pos (by rw [t19]; decide), u1, e2, Option.bind_some, show (0 : Int32) = nI 0 from rfl, aI_at (S := T18) (a := 11) (by omega) (by omega), Option.bind_some, e9.2.1.2.2.1]
  · rw [e7.1 0 6 (by omega) (by omega), b2.1 0 6 (by omega) (by omega) (by omega) (by omega), hS12, sI_g]
  · rw [e8.1 12 (by unfold stpSl; omega) (by omega) (by omega) (by omega) (by omega)]
    exact u6
theorem c_compile (hg : 100000 ≤ g) (r : RelD S S2 tp p d P0 lits0) : ∃ S' S2' x p' d' P lits, m_TL_compile g S = some (S', x) ∧ m_compile g S2 = some (S2', x) ∧ RelD S' S2' [] p' d' P lits := by
  obtain ⟨⟨⟨h1, -, hld, -, -, -, -⟩, -, hl, hk, rx, hm, tb, r4, r5, hd, hne⟩, tR, -, -, rw, -⟩ := id r
  have hp := h1.1
  -- the class begins to read
  have w1 : ∀ x l ov, Rw S x l ov → Rw (sR S 3 2 d) x l ov := fun x l ov w => w
  have l1 : LC (sR S 3 2 d) := hl
  obtain ⟨S4, a1, a2, a3, a4, a5⟩ := C_clr (g := g) (d := d) (S := sR S 3 2 d) l1 hd (rw _ (by omega) (by omega)) (rw _ (by omega) (by omega))
  have k1 : gOK (sR S 3 2 d) := ⟨by rw [gR_ne (by omega)]; exact hk.1, by rw [gR_ne (by omega)]; exact hk.2.1, by rw [sR_g]; omega, by rw [gR_ne (by omega)]; exact hk.2.2.2⟩
  have g4 : gR S4 3 2 = d := by unfold gR; rw [a2.2.2.1]; exact sR_g
  obtain ⟨l17, o17, w17⟩ := rw 17 (by omega) (by omega)
  have c4 : RdC S4 d tp [] [] := ⟨a5 10 _ _ (by omega) (by omega) tR.1, k1.rd a2, l1.rd a2 hd, a3, a4, g4, l17, o17, a5 17 _ _ (by omega) (by omega) w17⟩
  have eC : m_TL_compile g S = (m_Rd_read_14 g g S4 (nI 0)).bind fun (S_3, v_4) => m_TL_compile_11 g S_3 v_4 := by
    unfold m_TL_compile m_Rd_read
    rw [r5, if_pos hd, lt_d, lt_d, sR_g, if_pos hd, lt_d, a1, Option.bind_some]
    rfl
  -- the reference begins to read
  have g11 : gN S2 11 = 3 := LMn hm 11
  have g15 : gN S2 15 = 2 := LMn hm 15
  obtain ⟨T0, hT0⟩ : ∃ X, X = sI (sI (sF (sF S2 11 1 (0 : Int32)) 15 1 (0 : Int32)) 0 19 (-1 : Int32)) 0 18 (0 : Int32) := ⟨_, rfl⟩
  have fT : FRq S2 T0 := by
    rw [hT0]
    exact (((FRq.sF (by unfold rdA; omega)).tr (FRq.sF (by unfold rdA; omega))).tr (FRq.sI (by omega))).tr (FRq.sI (by omega))
  have eM : m_compile g S2 = m_compile_24 g g T0 := by
    unfold m_compile
    rw [show (1 : Int32) = nI 1 from rfl, tI_at (S := S2) (a := 11) (by omega) (by omega), Option.bind_some, tI_at (S := sF S2 11 1 0) (a := 15) (by show 1 < gN S2 15; omega) (by show gN S2 15 < _; omega), Option.bind_some, lt_d, lt_d, hT0]
    rfl
  have m0 : RdM T0 tp [] [] := by
    refine ⟨TpM.rq (tp := tp) tR.2 fT, hm.rq fT, tb.rq fT, ⟨by omega, Nat.zero_le _, ?_, fun i s ws h => by cases h⟩, ⟨?_, fun n l h => by cases h⟩, ?_⟩
    · rw [hT0]
      show gF (sF (sF S2 11 1 0) 15 1 0) 11 1 = _
      rw [gF_ne (by decide), gF_sF]
      rfl
    · rw [hT0]
      show gF (sF (sF S2 11 1 0) 15 1 0) 15 1 = _
      rw [gF_sF]
      rfl
    · rw [hT0, gI_ne (by omega), sI_g]
  have rd := B_lines (g := g) (d := d) (tp := tp) hg 3001 g g 0 [] [] S4 T0 (by omega) (by omega) (by omega) (by omega) c4 m0 (by rw [hT0, sI_g]; rfl) ⟨fun i s ws h => (by cases h), fun i s ws j w h => (by cases h), ⟨by simp, by simp, fun l h => (by cases h)⟩, Nat.zero_le _, fun i s ws h => (by cases h)⟩
  have fz0 : FZc p S S4 := FZc.r32.tr (FZc.rd a2 hp hd hne)
  have rw4 : RwP S4 := (show RwP (sR S 3 2 d) from rw).rd a2 hd c4.rr
  rcases rd with ⟨S', T', P, lits, y1, y2, y3, y4, y5, y6, y7⟩ | ⟨S', T', pl, y0, y1, y2, y3, yr, y4, y5⟩
  · rw [y1, Option.bind_some] at eC
    have gR' : ∀ o k, gR S' o k = gR S4 o k := fun o k => by unfold gR; rw [y4.2.2.1]
    have g5 : gR S' 0 5 = d := by
      rw [gR', show gR S4 0 5 = gR (sR S 3 2 d) 0 5 from by unfold gR; rw [a2.2.2.1], gR_ne (by omega)]
      exact r5
    obtain ⟨S7, T7, x, x2, j1, j2, j3, j4, j5⟩ := jdg_all (g := g) (p := d) (q := 1) hg y7.1 y3.2.2.2.1 y3.2.2.1 y5.2.2.2.1 y5.2.1 y5.2.2.1
    have j2 : m_judge g T' (1 : Int32) = some (T7, x2) := j2
    have eC : m_TL_compile g S = m_TL_compile_25 g S7 x := by
      rw [eC]
      show m_TL_compile_11 g S' (-1) = _
      unfold m_TL_compile_11
      rw [if_pos rfl, g5, if_pos hd, lt_d, j1, Option.bind_some]
      rfl
    have eM : m_compile g S2 = (if 0 ≤ x2 then (aI T7 9 x2).bind (fun v_7 => m_compile_111 g T7 v_7) else m_compile_111 g T7 (-1)) := by
      rw [eM, y2]
      unfold m_compile_83
      rw [if_neg (show ¬ (0 : Int32) ≤ gI T' 0 19 from by rw [y5.2.2.2.2.2]; decide), j2, Option.bind_some]
    have fz7 : FZc p S S7 := (fz0.tr (FZc.rd y4 hp hd hne)).tr (FZc.j j3 hp hd hne)
    have fm7 : FZm S2 T7 := (FZm.rq (fT.tr y6)).tr (FZm.j j4)
    have rw7 : RwP S7 := (rw4.rd y4 hd y3.rr).of (fun x l ov h1 h2 w => w.fj j3 hd)
    have g7 : gR S7 3 2 < 3 := by
      rw [show gR S7 3 2 = gR S' 3 2 from by unfold gR; rw [j3.2.2.1], gR', g4]
      omega
    rcases j5 with ⟨e1, e2, e3⟩ | ⟨i, s, ws, j, w, e1, e2, e3, e4⟩
    · subst e1 e2
      rw [if_neg (by decide)] at eM
      obtain ⟨S18, T18, z1, z2, z3⟩ := cmp_ok (g := g) (P := P) (lits := lits) hg r fz7 g7 (y3.1.fj j3 hd) rw7 (y3.2.2.2.1.fj j3) ⟨y3.2.2.2.2.1.1.fj j3 hd, y3.2.2.2.2.1.2.fj j3 hd⟩ (y5.2.2.2.1.fj j4) (y5.2.2.2.2.1.of (fun a i h1 h2 => j4.2.2.2.2.1 a (by omega) (by omega) (by omega) (by omega) i)) (y5.2.1.fj j4) (y5.2.2.1.fj j4) y7 e3
      exact ⟨S18, T18, _, d, p, P, lits, eC.trans z1, eM.trans z2, z3⟩
    · obtain ⟨n, n1, n2⟩ := y7.2.1 i s ws j w e1 e2
      have hil := (List.getElem?_eq_some_iff.mp e1).1
      have hP60 := y5.2.2.2.1.2.1
      obtain ⟨q1, -, -, q4⟩ := y5.2.2.2.1.2.2.2 i s ws e1
      have hjl := (List.getElem?_eq_some_iff.mp e2).1
      have g9 : gN T7 9 = 1800 := LMn (y5.2.1.fj j4) 9
      have hx2 : x2 = nI (10 * (60 + i) + j) := by rw [e4, Nat.mul_one]
      have e9 : aI T7 9 x2 = some (nI n) := by
        rw [hx2, aI_at (by omega) (by omega), j4.2.2.2.2.1 9 (by decide) (by decide) (by decide) (by decide)]
        have := (q4 j w e2).2.2
        rw [Nat.mul_one] at this
        rw [this, n2]
      rw [if_pos (by rw [hx2]; exact nI_pos' (by omega)), e9, Option.bind_some] at eM
      have e111 : m_compile_111 g T7 (nI n) = m_compile_114 g (sI T7 0 19 (nI n)) := by
        unfold m_compile_111
        rw [lt_d]
      rw [e111] at eM
      have hx : x = nI n := e3.trans n2
      rw [hx] at eC
      obtain ⟨S5, z1, z2, z3⟩ := cmp_bad (g := g) (x := nI n) (S' := S7) (T' := sI T7 0 19 (nI n)) r fz7 (fm7.tr (FZm.sI (by omega))) g7 (y3.1.fj j3 hd) rw7 (nI_m1 (by omega)) (nI_pos (by omega)) sI_g
      exact ⟨S5, _, _, p, d, P0, lits0, eC.trans z1, eM.trans z2, z3⟩
  · rw [y1, Option.bind_some] at eC
    have eC : m_TL_compile g S = m_TL_compile_25 g S' (nI pl) := eC.trans (if_neg (nI_m1 (by omega)))
    have eM : m_compile g S2 = m_compile_114 g T' := by
      rw [eM, y2]
      unfold m_compile_83
      rw [if_pos (show (0 : Int32) ≤ gI T' 0 19 from by rw [y5]; exact nI_pos' (by omega))]
    obtain ⟨S5, z1, z2, z3⟩ := cmp_bad (g := g) (x := nI pl) (S' := S') (T' := T') r (fz0.tr (FZc.rd y3 hp hd hne)) (FZm.rq (fT.tr y4)) (by rw [show gR S' 3 2 = gR S4 3 2 from by unfold gR; rw [y3.2.2.1], g4]; omega) (c4.1.rd y3 hd (by omega) (by omega) (by omega)) (rw4.rd y3 hd yr) (nI_m1 (by omega)) (nI_pos (by omega)) y5
    exact ⟨S5, _, _, p, d, P0, lits0, eC.trans z1, eM.trans z2, z3⟩
end CMW
