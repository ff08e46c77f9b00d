/-! what is asked: builders, parts, STEPS -/
section QRZ
variable {g : Nat} {S S2 : St} {U : Nat → Prop}
theorem q_hasb {x : Int32} (hl : LC S) (hm : LM S2) (br : BR S S2) : (m_Bn_hasBuilder g S x = some 0 ∧ (m_isIn g x.toInt64 0 5 = some 0 ∨ ∃ b : Nat, b < 6 ∧ x = nI b ∧ m_isIn g x.toInt64 0 5 = some 1 ∧ gF S2 28 b = -1)) ∨ ∃ (b : Nat) (lb : List Int32) (ov : Int32) (r : Nat), b < 6 ∧ x = nI b ∧ m_Bn_hasBuilder g S x = some 1 ∧ m_isIn g x.toInt64 0 5 = some 1 ∧ Rw S (24 + b) lb ov ∧ r ≤ 1000 ∧ gF S 77 b = nI r ∧ gF S2 29 b = nI r ∧ gF S2 28 b = nI lb.length ∧ lb.length ≤ 400 ∧ ∀ i, i < lb.length → gF S2 30 (400 * b + i) = lb.getD i 0 := by
  have h77 : gN S 77 = 6 := hl 77 (by decide)
  unfold m_Bn_hasBuilder
  rcases i_or x with hx | ⟨n, hn, rfl⟩
  · exact Or.inl ⟨by rw [if_pos hx], Or.inl (in_neg hx)⟩
  · rw [if_neg (nI_pos hn), in_lit (b := 5) hn (by decide +kernel)]
    by_cases h6 : n < 6
    · rw [if_neg (show ¬ (6 : Int32) ≤ nI n from nI_ge (b := 6) (by omega) (by omega)), aI_at (by omega) (by omega), Option.bind_some, c01_t (by omega)]
      obtain ⟨lb, ov, w, ⟨b1, b2⟩ | ⟨r, b1, b2, b3, b4, b5, b6, b7⟩⟩ := br n h6
      · exact Or.inl ⟨by rw [if_pos b1], Or.inr ⟨n, h6, rfl, rfl, b2⟩⟩
      · refine Or.inr ⟨n, lb, ov, r, h6, rfl, ?_, rfl, w, b1, b2, b3, b4, b5, b7⟩
        rw [if_neg (by rw [b2]; exact nI_m1 (by omega))]
    · rw [if_pos (show (6 : Int32) ≤ nI n from nI_le (a := 6) (by omega) (by omega)), c01_f (by omega)]
      exact Or.inl ⟨rfl, Or.inl rfl⟩
theorem q_builder (h : RSx U 60 S S2) (x y : Int32) : ∃ r, m_TL_builder g S x y = some r ∧ m_builder g S2 x y = some r := by
  obtain ⟨φ, cs, ts, u, pl, pm, ps, qs, ⟨r1, r2, r3, r4, r5, r6, r7, r8, r9, r10, r11, r12, r13, r14⟩, -⟩ := h
  have h77 : gN S 77 = 6 := r2 77 (by decide)
  have h28 : gN S2 28 = 6 := LMn r3 28
  have h29 : gN S2 29 = 6 := LMn r3 29
  unfold m_TL_builder m_builder
  rcases q_hasb (g := g) (x := x) r2 r3 r10 with ⟨a1, a2 | ⟨b, a2, a3, a4, a5⟩⟩ | ⟨b, lb, ov, r, a1, a2, a3, a4, a5, a6, a7, a8, a9, a10, a11⟩
  · rw [a1, a2, Option.bind_some, Option.bind_some, if_pos rfl, if_pos rfl]
    exact ⟨_, rfl, rfl⟩
  · rw [a1, a4, a3, Option.bind_some, Option.bind_some, if_pos rfl, if_neg (by decide), aI_at (by omega) (by omega), a5, Option.bind_some, if_pos (by decide)]
    exact ⟨_, rfl, rfl⟩
  · rw [a3, a4, a2, Option.bind_some, Option.bind_some, if_neg (show ¬ (1 : Int32) = 0 by decide), if_neg (show ¬ (1 : Int32) = 0 by decide), aI_at (S := S2) (a := 28) (i := b) (by omega) (by omega), a9, Option.bind_some, if_neg (nI_pos (by omega))]
    rcases i_or y with hy | ⟨n, hn, rfl⟩
    · rw [in_neg hy, Option.bind_some, if_pos rfl, if_neg (fun e => by rw [e] at hy; exact absurd hy (by decide)), if_neg (fun e => by rw [e] at hy; exact absurd hy (by decide))]
      exact ⟨_, rfl, rfl⟩
    · rw [in_lit (b := 1) hn (by decide +kernel), Option.bind_some]
      rcases (by omega : n = 0 ∨ n = 1 ∨ 2 ≤ n) with e | e | e
      · subst e
        rw [c0t (by omega), if_pos (show nI 0 = 0 from rfl), if_pos (show nI 0 = 0 from rfl), bR_at r2 a1, Option.bind_some, a5.2.2.1]
        exact ⟨_, rfl, rfl⟩
      · subst e
        rw [c0t (by omega), if_neg (show ¬ nI 1 = 0 by decide), if_neg (show ¬ nI 1 = 0 by decide), if_pos (show nI 1 = 1 from rfl), aI_at (S := S) (a := 77) (i := b) (by omega) (by omega), aI_at (S := S2) (a := 29) (i := b) (by omega) (by omega), a7, a8]
        exact ⟨_, rfl, rfl⟩
      · rw [c0f (by omega), if_neg (show ¬ nI n = 0 from i_lit (b := 0) (by omega) (by omega) (by omega)), if_neg (show ¬ nI n = 1 from i_lit (b := 1) (by omega) (by omega) (by omega))]
        exact ⟨_, rfl, rfl⟩
theorem q_builderUnit (h : RSx U 60 S S2) (x y : Int32) : ∃ r, m_TL_builderUnit g S x y = some r ∧ m_builderUnit g S2 x y = some r := by
  obtain ⟨φ, cs, ts, u, pl, pm, ps, qs, ⟨r1, r2, r3, r4, r5, r6, r7, r8, r9, r10, r11, r12, r13, r14⟩, -⟩ := h
  have h28 : gN S2 28 = 6 := LMn r3 28
  have h30 : gN S2 30 = 2400 := LMn r3 30
  unfold m_TL_builderUnit m_builderUnit
  rcases q_hasb (g := g) (x := x) r2 r3 r10 with ⟨a1, a2 | ⟨b, a2, a3, a4, a5⟩⟩ | ⟨b, lb, ov, r, a1, a2, a3, a4, a5, a6, a7, a8, a9, a10, a11⟩
  · rw [a1, a2, Option.bind_some, Option.bind_some, if_pos rfl, if_pos rfl]
    exact ⟨_, rfl, rfl⟩
  · rw [a1, a4, a3, Option.bind_some, Option.bind_some, if_pos rfl, if_neg (by decide), aI_at (by omega) (by omega), a5, Option.bind_some, isIn_s, z64, show (((-1 : Int32) - (1 : Int32)).toInt64).toInt = -2 from by decide +kernel, c01_f (by omega), Option.bind_some, if_pos rfl]
    exact ⟨_, rfl, rfl⟩
  · rw [a3, a4, a2, Option.bind_some, Option.bind_some, if_neg (by decide), if_neg (by decide), aI_at (by omega) (by omega), a9, Option.bind_some, bR_at r2 a1, Option.bind_some, R_at a5, Option.bind_some]
    rcases i_or y with hy | ⟨n, hn, rfl⟩
    · rw [in_neg hy, Option.bind_some, if_pos rfl]
      unfold atR
      rw [if_pos hy]
      exact ⟨_, rfl, rfl⟩
    · rw [in_m1 hn (by omega), Option.bind_some, atR_nI hn]
      by_cases hl : n < lb.length
      · rw [c0t hl, show ((400 : Int32) * nI b) + nI n = nI (400 * b + n) from by rw [show (400 : Int32) = nI 400 from rfl, nI_mulE, nI_add], aI_at (by omega) (by omega), a11 n hl, Option.bind_some, getD_lt (d' := 0) hl]
        exact ⟨_, rfl, rfl⟩
      · rw [c0f hl, List.getD_eq_getElem?_getD, List.getElem?_eq_none (by omega)]
        exact ⟨_, rfl, rfl⟩
/-- a part, on both sides -/
theorem q_part {φ : Nat → Option Nat} {ps qs : List Nat} {cs ts : List (List Int32)} {u : Nat} {x : Int32} (hm : LM S2) (tr : TR S S2 φ cs ts u) (pr : PR S S2 φ ps qs) : (m_Row_at g S 22 x = some (-1) ∧ m_isIn g x.toInt64 0 ((gI S2 0 50 - (1 : Int32)).toInt64) = some 0) ∨ ∃ p q, φ p = some q ∧ p < 1465 ∧ q < 1700 ∧ m_Row_at g S 22 x = some (nI p) ∧ m_isIn g x.toInt64 0 ((gI S2 0 50 - (1 : Int32)).toInt64) = some 1 ∧ aI S2 27 x = some (nI q) := by
  obtain ⟨p1, p2, p3, p4, p5⟩ := pr
  have h27 : gN S2 27 = 24 := LMn hm 27
  have hll : ps.length = qs.length := by
    have := congrArg List.length p5
    rwa [List.length_map, List.length_map] at this
  rw [R_at p1, p2]
  rcases i_or x with hx | ⟨n, hn, rfl⟩
  · refine Or.inl ⟨?_, in_neg hx⟩
    unfold atR
    rw [if_pos hx]
  · rw [in_m1 hn (by omega), atR_nI hn]
    by_cases hl : n < qs.length
    · refine Or.inr ?_
      have hps : ps[n]? = some ps[n] := List.getElem?_eq_getElem (by omega)
      have hqs : qs[n]? = some qs[n] := List.getElem?_eq_getElem hl
      generalize ps[n] = p at hps
      generalize qs[n] = q at hqs
      have e : φ p = some q := by
        have := congrArg (fun l => l[n]?) p5
        simp only [List.getElem?_map, hps, hqs, Option.map_some] at this
        exact Option.some.inj this
      obtain ⟨l, l1, l2, -⟩ := tr.2.2.1 p q e
      have b1 := (C_bounds tr.1 l1).1
      have b2 := (C_bounds tr.1 l1).2.1
      have b3 := (List.getElem?_eq_some_iff.mp l2).1
      have b4 := tr.2.1.2.1
      refine ⟨p, q, e, by omega, by omega, ?_, by rw [c01_t hl], ?_⟩
      · rw [List.getD_eq_getElem?_getD, List.getElem?_map, hps]
        rfl
      · rw [aI_at (by omega) (by omega), p4 n hl, List.getD_eq_getElem?_getD, hqs]
        rfl
    · refine Or.inl ⟨?_, by rw [c01_f hl]⟩
      rw [List.getD_eq_getElem?_getD, List.getElem?_eq_none (by rw [List.length_map]; omega)]
      rfl
theorem q_partUnit (h : RSx U 60 S S2) (x y : Int32) : ∃ r, m_TL_partUnit g S x y = some r ∧ m_partUnit g S2 x y = some r := by
  obtain ⟨φ, cs, ts, u, pl, pm, ps, qs, ⟨r1, r2, r3, r4, r5, r6, r7, r8, r9, r10, r11, r12, r13, r14⟩, -⟩ := h
  unfold m_TL_partUnit m_partUnit
  rcases q_part (g := g) (x := x) r3 r4 r11 with ⟨a1, a2⟩ | ⟨p, q, a1, a2, a3, a4, a5, a6⟩
  · rw [a1, a2, Option.bind_some, Option.bind_some, C_unit_no, if_pos rfl]
    exact ⟨_, rfl, rfl⟩
  · obtain ⟨l, l1, l2, l3⟩ := q_uo (g := g) (x := y) r3 r4 a1
    rw [a4, a5, a6, Option.bind_some, Option.bind_some, Option.bind_some, l1, Option.bind_some, if_neg (by decide), l2, Option.bind_some, l3]
    exact ⟨_, rfl, rfl⟩
theorem ptf_l {φ : Nat → Option Nat} {p q : Nat} {x : Int32} (hl : LC S) (hm : LM S2) (vr : VR φ S S2) (hinj : ∀ p p' q, φ p = some q → φ p' = some q → p = p') (h : φ p = some q) (hp : p < 1465) (hq : q < 1700) (h27 : aI S2 27 x = some (nI q)) : ∀ (k n1 n2 i : Nat), i + k = 20 → k < n1 → k < n2 → ∃ r, m_TL_partOf_21 g S n1 (nI p) (nI i) = some r ∧ m_partOf_20 g S2 n2 x (nI i) = some r := by
  have h74 : gN S 74 = 20 := hl 74 (by decide)
  have h26 : gN S2 26 = 20 := LMn hm 26
  intro k
  induction k with
  | zero =>
    intro n1 n2 i hi h1 h2
    obtain ⟨n1, rfl⟩ : ∃ m, n1 = m + 1 := ⟨n1 - 1, by omega⟩
    obtain ⟨n2, rfl⟩ : ∃ m, n2 = m + 1 := ⟨n2 - 1, by omega⟩
    refine ⟨-1, ?_, ?_⟩
    · show b_TL_partOf_21 g S (m_TL_partOf_21 g S n1) _ _ = _
      unfold b_TL_partOf_21
      rw [if_pos (show (20 : Int32) ≤ nI i from nI_le (a := 20) (by omega) (by omega))]
    · show b_partOf_20 g S2 (m_partOf_20 g S2 n2) _ _ = _
      unfold b_partOf_20
      rw [if_pos (show (20 : Int32) ≤ nI i from nI_le (a := 20) (by omega) (by omega))]
  | succ k ih =>
    intro n1 n2 i hi h1 h2
    obtain ⟨n1, rfl⟩ : ∃ m, n1 = m + 1 := ⟨n1 - 1, by omega⟩
    obtain ⟨n2, rfl⟩ : ∃ m, n2 = m + 1 := ⟨n2 - 1, by omega⟩
    have eT : m_Bn_textOf g S (nI i) = some (gF S 74 i) := by
      unfold m_Bn_textOf
      rw [if_neg (nI_pos (by omega)), if_pos (show nI i < (20 : Int32) from nI_lt (b := 20) (by omega) (by omega)), aI_at (by omega) (by omega)]
      rfl
    have v1 := vr i (by omega)
    have v2 : tRel φ (nI p) (nI q) := Or.inr ⟨p, q, rfl, rfl, h, hp, hq⟩
    have key : gF S 74 i = nI p ↔ gF S2 26 i = nI q := by
      constructor
      · intro e
        rw [e] at v1
        exact tRel_det v1 v2
      · intro e
        rw [e] at v1
        exact tRel_inj hinj v1 v2
    have eC : m_TL_partOf_21 g S (n1 + 1) (nI p) (nI i) = if gF S 74 i = nI p then some (nI i) else m_TL_partOf_21 g S n1 (nI p) (nI (i + 1)) := by
      show b_TL_partOf_21 g S (m_TL_partOf_21 g S n1) _ _ = _
      unfold b_TL_partOf_21
      rw [if_neg (show ¬ (20 : Int32) ≤ nI i from nI_ge (b := 20) (by omega) (by omega)), eT, Option.bind_some, lt_d, nI_1]
    have eM : m_partOf_20 g S2 (n2 + 1) x (nI i) = if gF S2 26 i = nI q then some (nI i) else m_partOf_20 g S2 n2 x (nI (i + 1)) := by
      show b_partOf_20 g S2 (m_partOf_20 g S2 n2) _ _ = _
      unfold b_partOf_20
      rw [if_neg (show ¬ (20 : Int32) ≤ nI i from nI_ge (b := 20) (by omega) (by omega)), aI_at (by omega) (by omega), h27, Option.bind_some, Option.bind_some, lt_d, nI_1]
    rw [eC, eM]
    by_cases e : gF S 74 i = nI p
    · rw [if_pos e, if_pos (key.mp e)]
      exact ⟨_, rfl, rfl⟩
    · rw [if_neg e, if_neg (fun h => e (key.mpr h))]
      exact ih n1 n2 (i + 1) (by omega) (by omega) (by omega)
theorem q_partOf (hg : 100000 ≤ g) (h : RSx U 60 S S2) (x : Int32) : ∃ r, m_TL_partOf g S x = some r ∧ m_partOf g S2 x = some r := by
  obtain ⟨φ, cs, ts, u, pl, pm, ps, qs, ⟨r1, r2, r3, r4, r5, r6, r7, r8, r9, r10, r11, r12, r13, r14⟩, -⟩ := h
  unfold m_TL_partOf m_partOf
  rcases q_part (g := g) (x := x) r3 r4 r11 with ⟨a1, a2⟩ | ⟨p, q, a1, a2, a3, a4, a5, a6⟩
  · rw [a1, a2, Option.bind_some, Option.bind_some, if_pos rfl, if_pos rfl]
    exact ⟨_, rfl, rfl⟩
  · rw [a4, a5, Option.bind_some, Option.bind_some, if_neg (nI_m1 (by omega)), if_neg (by decide)]
    exact ptf_l r2 r3 r8 r4.2.2.2.1 a1 a2 a3 a6 20 g g 0 (by omega) (by omega) (by omega)
/-- a STEP is asked for; there is no program -/
theorem q_step0 {p : Nat} (hp : p = 1 ∨ p = 2) (h4 : gR S 0 4 = p) (h8 : gI S p 8 = nI 0) (h12 : gI S2 0 12 = 0) (x y : Int32) : ∃ r, m_TL_step g S x y = some r ∧ m_step g S2 x y = some r := by
  unfold m_TL_step m_step m_isStep
  refine ⟨-1, ?_, by rw [if_pos h12, Option.bind_some, if_pos rfl]⟩
  rcases i_or x with hx | ⟨n, hn, rfl⟩
  · rw [if_pos hx]
  · rw [if_neg (nI_pos hn), if_pos (by rw [h4]; exact hp), lt_d, h4, h8, if_neg (nI_nlt (by omega) (by omega))]
theorem q_step {p : Nat} {P : Prg} (pc : PrC S p P) (hl : LC S) (pm : PrM S2 0 P) (hm : LM S2) (h4 : gR S 0 4 = p) (h12 : gI S2 0 12 = 1) (x y : Int32) : ∃ r, m_TL_step g S x y = some r ∧ m_step g S2 x y = some r := by
  have hp := pc.1
  have h60 := pc.2.1
  obtain ⟨n0, n1, -⟩ := LCp hl hp
  have g11 : gN S2 11 = 3 := LMn hm 11
  have g6 : gN S2 6 = 180 := LMn hm 6
  have g7 : gN S2 7 = 180 := LMn hm 7
  have q4 : gR S 0 4 = 1 ∨ gR S 0 4 = 2 := by rw [h4]; exact hp
  unfold m_TL_step m_step m_isStep
  rw [if_neg (show ¬ gI S2 0 12 = 0 by rw [h12]; decide), show aI S2 11 (0 : Int32) = some (gF S2 11 0) from aI_at (i := 0) (by omega) (by omega), pm.2.2.1, Option.bind_some]
  rcases i_or x with hx | ⟨n, hn, rfl⟩
  · rw [if_pos hx, in_neg hx, Option.bind_some, if_pos rfl, Option.bind_some, if_pos rfl]
    exact ⟨_, rfl, rfl⟩
  · rw [if_neg (nI_pos hn), in_m1 hn (by omega), Option.bind_some, if_pos q4]
    simp only [lt_d, if_pos q4]
    rw [h4, pc.2.2.2.1]
    by_cases hl' : n < P.length
    · have hiP : P[n]? = some (P[n].1, P[n].2) := List.getElem?_eq_getElem hl'
      generalize P[n].1 = s at hiP
      generalize P[n].2 = ws at hiP
      have st : StM S2 n s ws := by
        have := pm.st hiP
        rwa [Nat.mul_zero, Nat.zero_add] at this
      rw [c0t hl', if_pos (nI_lt hl' (by omega)), Option.bind_some, if_neg (show ¬ (1 : Int32) = 0 by decide)]
      rcases i_or y with hy | ⟨m, hm', rfl⟩
      · rw [in_neg hy, Option.bind_some, if_pos rfl, if_neg (fun e => by rw [e] at hy; exact absurd hy (by decide)), if_neg (fun e => by rw [e] at hy; exact absurd hy (by decide))]
        exact ⟨_, rfl, rfl⟩
      · rw [in_lit (b := 1) hm' (by decide +kernel), Option.bind_some]
        rcases (by omega : m = 0 ∨ m = 1 ∨ 2 ≤ m) with e | e | e
        · subst e
          rw [c0t (by omega), if_pos (show nI 0 = 0 from rfl), if_pos (show nI 0 = 0 from rfl), aI_at (S := S) (a := 50 + 8 * p + 0) (i := n) (by omega) (by omega), aI_at (S := S2) (a := 6) (i := n) (by omega) (by omega), (pc.2.2.2.2.2 n s ws hiP).1, st.2.1]
          exact ⟨_, rfl, rfl⟩
        · subst e
          have hf := fsP_s hiP
          rw [c0t (by omega), if_neg (show ¬ nI 1 = 0 by decide), if_neg (show ¬ nI 1 = 0 by decide), if_pos (show nI 1 = 1 from rfl), nI_1, aI_at (S := S) (a := 50 + 8 * p + 1) (i := n + 1) (by omega) (by omega), aI_at (S := S) (a := 50 + 8 * p + 1) (i := n) (by omega) (by omega), aI_at (S := S2) (a := 7) (i := n) (by omega) (by omega), pc.2.2.2.2.1 n (by omega), pc.2.2.2.2.1 (n + 1) (by omega), st.2.2.1, Option.bind_some, Option.bind_some, Option.bind_some, nI_sub (by omega)]
          exact ⟨_, rfl, by rw [show fsP P (n + 1) - fsP P n = ws.length by omega]⟩
        · rw [c0f (by omega), if_neg (show ¬ nI m = 0 from i_lit (b := 0) (by omega) (by omega) (by omega)), if_neg (show ¬ nI m = 1 from i_lit (b := 1) (by omega) (by omega) (by omega))]
          exact ⟨_, rfl, rfl⟩
    · rw [c0f hl', if_neg (nI_nlt (by omega) (by omega)), Option.bind_some, if_pos rfl]
      exact ⟨_, rfl, rfl⟩
end QRZ
