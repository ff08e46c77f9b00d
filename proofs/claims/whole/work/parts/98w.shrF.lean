/-! shrink, whole -/
section SHW
variable {g p d : Nat} {lits : List (List Int32)}
theorem shr_2 {k28 : St → Int32 → Int32 → Int32 → Option (St × Int32)} {k24 : St → Int32 → Int32 → Option (St × Int32)} {x3 : Int32} {kd : Nat} (hg : 100000 ≤ g) (hkd : kd ≠ 0 ∧ kd ≤ 5) : ∀ (c n m : Nat) (S S2 : St) (P : Prg) (x2 : Int32), c < n → c < m → c ≤ P.length → ShI S S2 p d P lits → ∃ S' S2' P' x2', m_TL_shrink_51 g k28 n S (nI kd) x2 x3 (nI c + (-1 : Int32)) = k28 S' (nI kd) x2' (x3 + 1) ∧ m_shrink_39 g k24 m S2 (nI kd) x2 (nI c + (-1 : Int32)) = k24 S2' (nI kd) x2' ∧ ShI S' S2' p d P' lits ∧ FSh S S' ∧ FSm S2 S2' ∧ ((x2' = x2 ∧ P' = P) ∨ (x2' = 1 ∧ P'.length < P.length)) := by
  intro c
  induction c with
  | zero =>
    intro n m S S2 P x2 hn hm _ h
    obtain ⟨n, rfl⟩ : ∃ z, n = z + 1 := ⟨n - 1, by omega⟩
    obtain ⟨m, rfl⟩ : ∃ z, m = z + 1 := ⟨m - 1, by omega⟩
    refine ⟨S, S2, P, x2, ?_, ?_, h, FSh.rf, FSm.rf, Or.inl ⟨rfl, rfl⟩⟩
    · show b_TL_shrink_51 g k28 (m_TL_shrink_51 g k28 n) S (nI kd) x2 x3 (nI 0 + (-1 : Int32)) = _
      unfold b_TL_shrink_51
      rw [if_pos (by decide), lt_d]
    · show b_shrink_39 g k24 (m_shrink_39 g k24 m) S2 (nI kd) x2 (nI 0 + (-1 : Int32)) = _
      unfold b_shrink_39
      rw [if_pos (by decide)]
  | succ c ih =>
    intro n m S S2 P x2 hn hm hc h
    obtain ⟨n, rfl⟩ : ∃ z, n = z + 1 := ⟨n - 1, by omega⟩
    obtain ⟨m, rfl⟩ : ∃ z, m = z + 1 := ⟨m - 1, by omega⟩
    rw [nI_dn]
    obtain ⟨S1, T1, P1, y, a1, a2, a3, a4, a5, a6⟩ := shr_1 (g := g) (k28 := k28) (k24 := k24) (x2 := x2) (x3 := x3) (k := c) (n := n) (m := m) hg h (by omega) hkd
    have hP1 : c ≤ P1.length ∧ P1.length ≤ P.length ∧ ((y = x2 ∧ P1 = P) ∨ (y = 1 ∧ P1.length < P.length)) := by
      rcases a6 with ⟨e1, e2⟩ | ⟨e1, e2⟩
      · subst e2
        exact ⟨by omega, Nat.le_refl _, Or.inl ⟨e1, rfl⟩⟩
      · have hl := wout_len (P := P) (k := c) (by omega)
        rw [← e2] at hl
        exact ⟨by omega, by omega, Or.inr ⟨e1, by omega⟩⟩
    obtain ⟨S', S2', P', z, b1, b2, b3, b4, b5, b6⟩ := ih n m S1 T1 P1 y (by omega) (by omega) hP1.1 a3
    refine ⟨S', S2', P', z, a1.trans b1, a2.trans b2, b3, a4.tr b4, a5.tr b5, ?_⟩
    rcases b6 with ⟨e1, e2⟩ | ⟨e1, e2⟩
    · rcases hP1.2.2 with ⟨f1, f2⟩ | ⟨f1, f2⟩
      · exact Or.inl ⟨e1.trans f1, e2.trans f2⟩
      · exact Or.inr ⟨e1.trans f1, by rw [e2]; exact f2⟩
    · exact Or.inr ⟨e1, by omega⟩
/-- the last run -/
theorem shr_e {S S2 : St} {P : Prg} (hg : 100000 ≤ g) (h : ShI S S2 p d P lits) : ∃ S' S2', m_TL_shrink_125 g S = some (S', nI P.length) ∧ ((m_runs g S2 (0 : Int32)).bind fun z => (aI z.1 11 (0 : Int32)).bind fun v_4 => some (z.1, v_4)) = some (S2', nI P.length) ∧ ShI S' S2' p d P lits ∧ RunE (UP P) S' S2' ∧ FSh S S' ∧ FSm S2 S2' := by
  obtain ⟨hp, pl, hl, hk0, rx, hm, tb, r4, r5, hd, hne⟩ := h
  obtain ⟨S5, T5, i1, i2, i3, i4, i5, i6, i7⟩ := run_all (g := g) hg hp hl hk0 rx hm
  have rS5 : ∀ o k, ¬ (o = 4 ∧ k = 9) → gR S5 o k = gR S o k := fun o k h => i4.2.2.2.1 o k h
  have hk5 : gOK S5 := by
    obtain ⟨φ, cs, ts, u, pl, pm, ps, qs, r, -⟩ := i3.1
    exact r.1
  have q4 : gR S 0 4 = 1 ∨ gR S 0 4 = 2 := by rw [r4]; exact hp.1.1
  have hm5 := hm.fx i5
  have g11 : gN T5 11 = 3 := LMn hm5 11
  refine ⟨S5, T5, ?_, ?_, ⟨i6, pl, hl.fg i4, hk5, i7, hm5, tb.fx i5, (rS5 0 4 (by decide)).trans r4, (rS5 0 5 (by decide)).trans r5, hd, hne⟩, i3, FSh.g i4, FSm.x i5⟩
  · unfold m_TL_shrink_125
    rw [if_pos q4, lt_d, r4, i1, Option.bind_some]
    show m_TL_shrink_136 g S5 (gF S5 79 1) = _
    unfold m_TL_shrink_136
    rw [if_pos (by rw [rS5 0 4 (by decide)]; exact q4), lt_d, rS5 0 4 (by decide), r4, i6.1.2.2.2.1]
  · rw [show m_runs g S2 (0 : Int32) = some (T5, gI T5 0 52) from i2, Option.bind_some]
    show (aI T5 11 (0 : Int32)).bind _ = _
    rw [show aI T5 11 (0 : Int32) = some (gF T5 11 0) from aI_at (i := 0) (by omega) (by omega), i6.2.1.2.2.1, Option.bind_some]
theorem shr_3 {kd : Nat} (hg : 100000 ≤ g) (hkd : kd ≠ 0 ∧ kd ≤ 5) : ∀ (L n m x3 : Nat) (S S2 : St) (P : Prg), P.length ≤ L → L + 1 < n → L + 1 < m → P.length + x3 ≤ 60 → ShI S S2 p d P lits → ∃ S' S2' P', m_TL_shrink_28 g n S (nI kd) 1 (nI x3) = some (S', nI P'.length) ∧ m_shrink_24 g m S2 (nI kd) 1 = some (S2', nI P'.length) ∧ ShI S' S2' p d P' lits ∧ RunE (UP P') S' S2' ∧ FSh S S' ∧ FSm S2 S2' := by
  intro L
  induction L with
  | zero =>
    intro n m x3 S S2 P hL hn hm h60 h
    obtain ⟨n, rfl⟩ : ∃ z, n = z + 1 := ⟨n - 1, by omega⟩
    obtain ⟨m, rfl⟩ : ∃ z, m = z + 1 := ⟨m - 1, by omega⟩
    obtain ⟨n, rfl⟩ : ∃ z, n = z + 1 := ⟨n - 1, by omega⟩
    obtain ⟨m, rfl⟩ : ∃ z, m = z + 1 := ⟨m - 1, by omega⟩
    have hh := h
    obtain ⟨hp, pl, hl, hk0, rx, hm', tb, r4, r5, hd, hne⟩ := hh
    have q4 : gR S 0 4 = 1 ∨ gR S 0 4 = 2 := by rw [r4]; exact hp.1.1
    have g11 : gN S2 11 = 3 := LMn hm' 11
    obtain ⟨S1, T1, P1, y, a1, a2, a3, a4, a5, a6⟩ := shr_2 (g := g) (k28 := m_TL_shrink_28 g (n + 1)) (k24 := m_shrink_24 g (m + 1)) (x3 := nI x3) hg hkd P.length g g S S2 P 0 (by omega) (by omega) (Nat.le_refl _) h
    have ey : y = 0 ∧ P1 = P := by
      rcases a6 with h | h
      · exact h
      · omega
    obtain ⟨S5, T5, b1, b2, b3, b4, b5, b6⟩ := shr_e (g := g) hg a3
    refine ⟨S5, T5, P1, ?_, ?_, b3, b4, a4.tr b5, a5.tr b6⟩
    · show b_TL_shrink_28 g (m_TL_shrink_28 g (n + 1)) S (nI kd) 1 (nI x3) = _
      unfold b_TL_shrink_28
      rw [if_neg (show ¬ (60 : Int32) < nI x3 from nI_nlt (a := 60) (by omega) (by omega)), if_neg (by decide), if_pos q4, lt_d, lt_d, r4, hp.1.2.2.2.1, Int32.sub_eq_add_neg]
      refine a1.trans ?_
      rw [ey.1]
      show b_TL_shrink_28 g (m_TL_shrink_28 g n) S1 (nI kd) 0 (nI x3 + 1) = _
      unfold b_TL_shrink_28
      rw [if_pos (show (0 : Int32) = 0 from rfl), b1]
      exact ifo rfl rfl
    · show b_shrink_24 g (m_shrink_24 g (m + 1)) S2 (nI kd) 1 = _
      unfold b_shrink_24
      rw [if_neg (by decide), show aI S2 11 (0 : Int32) = some (gF S2 11 0) from aI_at (i := 0) (by omega) (by omega), hp.2.1.2.2.1, Option.bind_some, lt_d, Int32.sub_eq_add_neg]
      refine a2.trans ?_
      rw [ey.1]
      show b_shrink_24 g (m_shrink_24 g m) T1 (nI kd) 0 = _
      unfold b_shrink_24
      rw [if_pos rfl]
      exact b2
  | succ L ih =>
    intro n m x3 S S2 P hL hn hm h60 h
    obtain ⟨n, rfl⟩ : ∃ z, n = z + 1 := ⟨n - 1, by omega⟩
    obtain ⟨m, rfl⟩ : ∃ z, m = z + 1 := ⟨m - 1, by omega⟩
    have hh := h
    obtain ⟨hp, pl, hl, hk0, rx, hm', tb, r4, r5, hd, hne⟩ := hh
    have q4 : gR S 0 4 = 1 ∨ gR S 0 4 = 2 := by rw [r4]; exact hp.1.1
    have g11 : gN S2 11 = 3 := LMn hm' 11
    obtain ⟨S1, T1, P1, y, a1, a2, a3, a4, a5, a6⟩ := shr_2 (g := g) (k28 := m_TL_shrink_28 g n) (k24 := m_shrink_24 g m) (x3 := nI x3) hg hkd P.length g g S S2 P 0 (by omega) (by omega) (Nat.le_refl _) h
    have EC : m_TL_shrink_28 g (n + 1) S (nI kd) 1 (nI x3) = m_TL_shrink_28 g n S1 (nI kd) y (nI (x3 + 1)) := by
      show b_TL_shrink_28 g (m_TL_shrink_28 g n) S (nI kd) 1 (nI x3) = _
      unfold b_TL_shrink_28
      rw [if_neg (show ¬ (60 : Int32) < nI x3 from nI_nlt (a := 60) (by omega) (by omega)), if_neg (by decide), if_pos q4, lt_d, lt_d, r4, hp.1.2.2.2.1, Int32.sub_eq_add_neg]
      refine a1.trans ?_
      rw [nI_1]
    have EM : m_shrink_24 g (m + 1) S2 (nI kd) 1 = m_shrink_24 g m T1 (nI kd) y := by
      show b_shrink_24 g (m_shrink_24 g m) S2 (nI kd) 1 = _
      unfold b_shrink_24
      rw [if_neg (by decide), show aI S2 11 (0 : Int32) = some (gF S2 11 0) from aI_at (i := 0) (by omega) (by omega), hp.2.1.2.2.1, Option.bind_some, lt_d, Int32.sub_eq_add_neg]
      exact a2
    rcases a6 with ⟨e1, e2⟩ | ⟨e1, e2⟩
    · obtain ⟨n, rfl⟩ : ∃ z, n = z + 1 := ⟨n - 1, by omega⟩
      obtain ⟨m, rfl⟩ : ∃ z, m = z + 1 := ⟨m - 1, by omega⟩
      obtain ⟨S5, T5, b1, b2, b3, b4, b5, b6⟩ := shr_e (g := g) hg a3
      refine ⟨S5, T5, P1, ?_, ?_, b3, b4, a4.tr b5, a5.tr b6⟩
      · rw [EC, e1]
        show b_TL_shrink_28 g (m_TL_shrink_28 g n) S1 (nI kd) 0 (nI (x3 + 1)) = _
        unfold b_TL_shrink_28
        rw [if_pos (show (0 : Int32) = 0 from rfl), b1]
        exact ifo rfl rfl
      · rw [EM, e1]
        show b_shrink_24 g (m_shrink_24 g m) T1 (nI kd) 0 = _
        unfold b_shrink_24
        rw [if_pos rfl]
        exact b2
    · obtain ⟨S', S2', P', b1, b2, b3, b4, b5, b6⟩ := ih n m (x3 + 1) S1 T1 P1 (by omega) (by omega) (by omega) (by omega) a3
      refine ⟨S', S2', P', ?_, ?_, b3, b4, a4.tr b5, a5.tr b6⟩
      · rw [EC, e1, b1]
      · rw [EM, e1, b2]
end SHW
