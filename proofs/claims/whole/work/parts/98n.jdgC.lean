/-! the judge: words, what a STEP gives -/
/-- the first STEP behind the innermost open RANGE -/
def topE (st : List JT) (N : Nat) : Nat := match st.getLast? with
  | some t => t.1
  | none => N
/-- a word is no fault -/
def okJ (P : Prg) (i s : Nat) (G : Nat → Bool) (e j : Nat) (w : Wd) : Prop := (lett s (nI j) = 78 → rgP P i ≤ e) ∧ (¬ lett s (nI j) = 78 → ¬ lett s (nI j) = 118 → ¬ lett s (nI j) = 119 → ¬ lett s (nI j) = 66 → ∀ m, gbit w = some m → G m = true)
theorem n78a : ∀ s, s < 56 → ∀ j, j < (byT.getD (wdT.getD s 0) []).length → (lett s (nI j) ≠ 78 ∨ (s = 53 ∧ j = 1) ∨ (s = 54 ∧ j = 1)) := by decide +kernel
theorem topE_nil {N : Nat} : topE [] N = N := rfl
theorem topE_app {st : List JT} {t : JT} {N : Nat} : topE (st ++ [t]) N = t.1 := by
  unfold topE
  rw [List.getLast?_append]
  rfl
section WRD
variable {g p q i s j : Nat} {P : Prg} {ws : List Wd} {w : Wd} {U : Nat → Prop} {G : Nat → Bool} {st : List JT} {S S2 : St}
theorem C_top {f : Int32 → Option (St × Int32)} (jc : JC S p G st) (hl : LC S) (hp : p = 1 ∨ p = 2) (hst : st.length ≤ 60) (h8 : gI S p 8 = nI P.length) : (if gI S p 11 ≤ 0 then f (gI S p 8) else (aI S (50 + 8 * p + 6) (gI S p 11 - (1 : Int32))).bind f) = f (nI (topE st P.length)) := by
  obtain ⟨-, -, -, -, -, -, l6, -⟩ := LCp hl hp
  rw [jc.2.1]
  by_cases hem : st = []
  · subst hem
    rw [if_pos (by decide), h8, topE_nil]
  · obtain ⟨st0, t, rfl⟩ : ∃ st0 t, st = st0 ++ [t] := ⟨st.dropLast, st.getLast hem, (List.dropLast_concat_getLast hem).symm⟩
    rw [List.length_append, List.length_singleton] at hst ⊢
    have := (jc.2.2 st0.length t (by simp)).1
    rw [if_neg (show ¬ nI (st0.length + 1) ≤ 0 from nI_ge (a := 0) (by omega) (by omega)), show nI (st0.length + 1) - (1 : Int32) = nI st0.length from nI_pred _, aI_at (by omega) (by omega), this, Option.bind_some, topE_app]
theorem M_top {f : Int32 → Option (St × Int32)} (jm : JM S2 G st) (hm : LM S2) (hst : st.length ≤ 60) (pm : PrM S2 q P) : (if gI S2 0 30 ≤ 0 then (aI S2 11 (nI q)).bind f else (aI S2 18 (gI S2 0 30 - (1 : Int32))).bind f) = f (nI (topE st P.length)) := by
  have h11 : gN S2 11 = 3 := LMn hm 11
  have h18 : gN S2 18 = 61 := LMn hm 18
  have hq := pm.1
  rw [jm.2.1]
  by_cases hem : st = []
  · subst hem
    rw [if_pos (by decide), aI_at (by omega) (by omega), pm.2.2.1, Option.bind_some, topE_nil]
  · obtain ⟨st0, t, rfl⟩ : ∃ st0 t, st = st0 ++ [t] := ⟨st.dropLast, st.getLast hem, (List.dropLast_concat_getLast hem).symm⟩
    rw [List.length_append, List.length_singleton] at hst ⊢
    have := (jm.2.2 st0.length t (by simp)).1
    rw [if_neg (show ¬ nI (st0.length + 1) ≤ 0 from nI_ge (a := 0) (by omega) (by omega)), show nI (st0.length + 1) - (1 : Int32) = nI st0.length from nI_pred _, aI_at (by omega) (by omega), this, Option.bind_some, topE_app]
/-- where a RANGE ends, by its words -/
theorem rg_w (pk : PrgOK U P) (hi : P[i]? = some (s, ws)) (hs : s = 53 ∨ s = 54) : ∃ w n, ws[1]? = some w ∧ n ≤ 1000 ∧ w.2.1.toInt = ((n : Nat) : Int) ∧ rgP P i = i + 1 + n := by
  obtain ⟨-, -, h⟩ := pk i s ws hi
  obtain ⟨w, n, h1, h2, h3⟩ := h hs
  refine ⟨w, n, h1, h2, h3, ?_⟩
  rw [rgP_e hi]
  unfold nOf
  rw [h1]
  show i + 1 + w.2.1.toInt.toNat = _
  omega
theorem C_flt (pk : PrgOK U P) (pc : PrC S p P) (hl : LC S) (hi : P[i]? = some (s, ws)) (hw : ws[j]? = some w) (jc : JC S p G st) (hst : st.length ≤ 60) (htop : topE st P.length ≤ 2000) : (okJ P i s G (topE st P.length) j w → m_Pg_isFault g S p (nI i) (nI (fsP P i + j)) = some (S, 0)) ∧ (¬ okJ P i s G (topE st P.length) j w → m_Pg_isFault g S p (nI i) (nI (fsP P i + j)) = some (S, 1)) := by
  obtain ⟨hs, hW, hR⟩ := pk i s ws hi
  have hjl := (List.getElem?_eq_some_iff.mp hw).1
  have hil := (List.getElem?_eq_some_iff.mp hi).1
  have hjb : j < (byT.getD (wdT.getD s 0) []).length := by have := hW.2.1; omega
  have nm := okL_nm (hW.2.2 j w hw)
  obtain ⟨n0, n1, -⟩ := LCp hl pc.1
  obtain ⟨F, hF⟩ : ∃ F, m_Pg_isFault g S p (nI i) (nI (fsP P i + j)) = F := ⟨_, rfl⟩
  rw [hF]
  have e0 := hF
  have hp60 := pc.2.1
  unfold m_Pg_isFault at e0
  rw [sOf pc hl hi hs, Option.bind_some, aI_at (by omega) (by omega), pc.2.2.2.2.1 i (by omega), Option.bind_some, show nI (fsP P i + j) - nI (fsP P i) = nI j from by rw [nI_sub (by omega)]; congr 1; omega, lt_d] at e0
  have rl := rol_lt hs hjb
  have n78 := n78a s hs j hjb
  unfold okJ
  generalize hc : lett s (nI j) = c at *
  by_cases h78 : c = 78
  · have hs5 : (s = 53 ∨ s = 54) ∧ j = 1 := by
      rcases n78 with h | h | h
      · exact absurd h78 h
      · omega
      · omega
    obtain ⟨w1, n, a1, a2, a3, a4⟩ := rg_w pk hi hs5.1
    rw [if_pos h78, C_rgE pc hl hi a1 a2 a3, Option.bind_some, C_top (f := fun v => m_Pg_isFault_53 g S (nI (rgP P i)) v) jc hl pc.1 hst pc.2.2.2.1] at e0
    unfold m_Pg_isFault_53 at e0
    refine ⟨fun ok => ?_, fun no => ?_⟩
    · rw [← e0, if_pos (nI_le (ok.1 h78) (by omega))]
    · rw [← e0, if_neg (nI_ge (show topE st P.length < rgP P i from Nat.lt_of_not_le fun h => no ⟨fun _ => h, fun x => absurd h78 x⟩) (by omega))]
  · rw [if_neg h78] at e0
    by_cases h118 : c = 118
    · rw [if_pos h118] at e0
      exact ⟨fun _ => e0.symm, fun no => absurd ⟨fun x => absurd x h78, fun _ x => absurd h118 x⟩ no⟩
    · rw [if_neg h118] at e0
      by_cases h119 : c = 119
      · rw [if_pos h119] at e0
        exact ⟨fun _ => e0.symm, fun no => absurd ⟨fun x => absurd x h78, fun _ _ x => absurd h119 x⟩ no⟩
      · rw [if_neg h119] at e0
        by_cases h66 : c = 66
        · rw [if_pos h66] at e0
          exact ⟨fun _ => e0.symm, fun no => absurd ⟨fun x => absurd x h78, fun _ _ _ x => absurd h66 x⟩ no⟩
        · rw [if_neg h66] at e0
          obtain ⟨x, x1, x2⟩ := C_bit (g := g) pc hl hi hw nm
          rw [x1, Option.bind_some] at e0
          rcases x2 with ⟨y1, y2⟩ | ⟨m, y1, y2, y3⟩
          · refine ⟨fun _ => ?_, fun no => absurd ⟨fun x => absurd x h78, fun _ _ _ _ m hm => ?_⟩ no⟩
            · rw [← e0, if_pos (by rw [y2]; simp)]
            · rw [y1] at hm; exact absurd hm (by simp)
          · have key := bL_and (L := gL S p 12) y3
            rw [jc.1 m y1] at key
            refine ⟨fun ok => ?_, fun no => ?_⟩
            · rw [← e0, if_pos (key.mpr (ok.2 h78 h118 h119 h66 m y2))]
            · rw [← e0, if_neg (fun h => no ⟨fun x => absurd x h78, fun _ _ _ _ m' hm' => by
                rw [y2] at hm'
                rw [← Option.some.inj hm']
                exact key.mp h⟩)]
theorem lt_rg {e n : Nat} {v : Int64} (he : e ≤ 2000) (hi : i ≤ 60) (hn : n ≤ 1000) (hv : v.toInt = (n : Int)) : ((nI e).toInt64 < ((nI i + (1 : Int32)).toInt64 + v)) ↔ e < i + 1 + n := by
  rw [nI_1, Int64.lt_iff_toInt_lt, Int64.toInt_add, Int32.toInt_toInt64, Int32.toInt_toInt64, nI_toInt (by omega), nI_toInt (by omega), hv, bm64 (by omega) (by omega)]
  omega
theorem M_flt {k22 : St → Int32 → Int32 → Option (St × Int32)} {n : Nat} (hg : 100000 ≤ g) (tb : TabM S2) (pk : PrgOK U P) (pm : PrM S2 q P) (hm : LM S2) (hi : P[i]? = some (s, ws)) (hw : ws[j]? = some w) (jm : JM S2 G st) (hst : st.length ≤ 60) (htop : topE st P.length ≤ 2000) : (okJ P i s G (topE st P.length) j w → m_judge_79 g k22 (n + 1) S2 (nI q) (nI i) (nI (60 * q + i)) (nI s) (nI j) = m_judge_79 g k22 n S2 (nI q) (nI i) (nI (60 * q + i)) (nI s) (nI (j + 1))) ∧ (¬ okJ P i s G (topE st P.length) j w → m_judge_79 g k22 (n + 1) S2 (nI q) (nI i) (nI (60 * q + i)) (nI s) (nI j) = some (S2, nI (10 * (60 * q + i) + j))) := by
  obtain ⟨hs, hW, hR⟩ := pk i s ws hi
  have hjl := (List.getElem?_eq_some_iff.mp hw).1
  have hil := (List.getElem?_eq_some_iff.mp hi).1
  have hjb : j < (byT.getD (wdT.getD s 0) []).length := by have := hW.2.1; omega
  have h9 := byT9 s hs
  have nm := okL_nm (hW.2.2 j w hw)
  have hq := pm.1
  have h60 := pm.2.1
  obtain ⟨y1, y2, y3, y4⟩ := pm.2.2.2 i s ws hi
  obtain ⟨z1, z2, z3⟩ := y4 j w hw
  have h7 : gN S2 7 = 180 := LMn hm 7
  have h8 : gN S2 8 = 1800 := LMn hm 8
  have h10 : gN S2 10 = 1800 := LMn hm 10
  have e0 : m_judge_79 g k22 (n + 1) S2 (nI q) (nI i) (nI (60 * q + i)) (nI s) (nI j) = b_judge_79 g k22 (m_judge_79 g k22 n) S2 (nI q) (nI i) (nI (60 * q + i)) (nI s) (nI j) := rfl
  unfold b_judge_79 at e0
  rw [aI_at (by omega) (by omega), y3, Option.bind_some, if_neg (nI_ge (by omega) (by omega)), lt_d, show ((10 : Int32) * nI (60 * q + i)) + nI j = nI (10 * (60 * q + i) + j) from by rw [show (10 : Int32) = nI 10 from rfl, nI_mulE, nI_add], M_role hg hm tb hs (by omega), Option.bind_some, M_top (f := fun v => m_judge_136 g k22 (m_judge_79 g k22 n) S2 (nI q) (nI i) (nI (60 * q + i)) (nI s) (nI j) (nI (10 * (60 * q + i) + j)) (rolF s j) v) jm hm hst pm] at e0
  have rl := rol_lt hs hjb
  have n78 := n78a s hs j hjb
  unfold okJ
  generalize lett s (nI j) = c at *
  generalize rolF s j = r at *
  have eS : ∀ r : Int32, r = 1 ∨ r = 2 ∨ r = 3 ∨ r = 8 → m_judge_167 g k22 (m_judge_79 g k22 n) S2 (nI q) (nI i) (nI (60 * q + i)) (nI s) (nI j) (nI (10 * (60 * q + i) + j)) r = m_judge_79 g k22 n S2 (nI q) (nI i) (nI (60 * q + i)) (nI s) (nI (j + 1)) := by
    intro r hr
    unfold m_judge_167
    rcases hr with h | h | h | h <;> rw [h]
    · rw [if_pos (by decide), lt_d, nI_1]
    · rw [if_pos (by decide), lt_d, nI_1]
    · rw [if_pos (by decide), lt_d, nI_1]
    · rw [if_neg (by decide), if_pos (by decide), lt_d, nI_1]
  have eG : ∀ r : Int32, r = 4 ∨ r = 5 ∨ r = 6 ∨ r = 7 → m_judge_167 g k22 (m_judge_79 g k22 n) S2 (nI q) (nI i) (nI (60 * q + i)) (nI s) (nI j) (nI (10 * (60 * q + i) + j)) r = (match gbit w with | none => m_judge_79 g k22 n S2 (nI q) (nI i) (nI (60 * q + i)) (nI s) (nI (j + 1)) | some m => if G m then m_judge_79 g k22 n S2 (nI q) (nI i) (nI (60 * q + i)) (nI s) (nI (j + 1)) else some (S2, nI (10 * (60 * q + i) + j))) := by
    intro r hr
    unfold m_judge_167
    rw [if_neg (show ¬ r ≤ 3 by rcases hr with h | h | h | h <;> rw [h] <;> decide), if_neg (show ¬ (8 : Int32) ≤ r by rcases hr with h | h | h | h <;> rw [h] <;> decide), aI_at (by omega) (by omega), z1, Option.bind_some, aJ_at (by omega) (by omega), z2, Option.bind_some, M_isG jm.1 nm, Option.bind_some, lt_d, nI_1]
    cases gbit w with
    | none => rfl
    | some m =>
      show (if (if G m then (1 : Int32) else 0) = 0 then _ else _) = (if G m then _ else _)
      by_cases hG : G m = true
      · rw [if_pos hG, if_neg (by decide), if_pos hG]
      · rw [if_neg hG, if_pos rfl, if_neg hG]
  unfold m_judge_136 at e0
  by_cases h78 : c = 78
  · have hr8 : r = 8 := by
      unfold rlL at rl
      rw [h78] at rl
      rcases rl with h | h | h | ⟨-, h | h⟩ | h | h | h | h
      · exact absurd h.2 (by decide)
      · exact absurd h.2 (by decide)
      · exact absurd h.2 (by decide)
      · exact absurd h (by decide)
      · exact absurd h (by decide)
      · exact absurd h.2 (by decide)
      · exact absurd h.2 (by decide)
      · exact absurd h.2 (by decide)
      · exact h.1
    have hs5 : (s = 53 ∨ s = 54) ∧ j = 1 := by
      rcases n78 with h | h | h
      · exact absurd h78 h
      · omega
      · omega
    obtain ⟨w1, m, a1, a2, a3, a4⟩ := rg_w pk hi hs5.1
    rw [hs5.2, a1] at hw
    have ew : w1 = w := Option.some.inj hw
    rw [ew] at a3
    rw [if_pos hr8, aJ_at (by omega) (by omega), z2, Option.bind_some, eS r (Or.inr (Or.inr (Or.inr hr8)))] at e0
    have key := lt_rg (i := i) (e := topE st P.length) htop (by omega) a2 a3
    rw [← a4] at key
    refine ⟨fun ok => ?_, fun no => ?_⟩
    · rw [e0, if_neg (fun h => absurd (key.mp h) (by have := ok.1 h78; omega))]
    · rw [e0, if_pos (key.mpr (Nat.lt_of_not_le fun h => no ⟨fun _ => h, fun x => absurd h78 x⟩))]
  · have hr8 : ¬ r = 8 := by
      unfold rlL at rl
      intro hr
      rw [hr] at rl
      rcases rl with h | h | h | h | h | h | h | h
      · exact absurd h.1 (by decide)
      · exact absurd h.1 (by decide)
      · exact absurd h.1 (by decide)
      · exact absurd h.1 (by decide)
      · exact absurd h.1 (by decide)
      · exact absurd h.1 (by decide)
      · exact absurd h.1 (by decide)
      · exact h78 h.2
    rw [if_neg hr8] at e0
    by_cases h3 : c = 118 ∨ c = 119 ∨ c = 66
    · have hr3 : r = 1 ∨ r = 2 ∨ r = 3 ∨ r = 8 := by
        unfold rlL at rl
        rcases rl with h | h | h | ⟨-, h | h⟩ | h | h | h | h
        · exact Or.inl h.1
        · exact Or.inr (Or.inl h.1)
        · exact Or.inr (Or.inr (Or.inl h.1))
        · rw [h] at h3; exact absurd h3 (by decide)
        · rw [h] at h3; exact absurd h3 (by decide)
        · rw [h.2] at h3; exact absurd h3 (by decide)
        · rw [h.2] at h3; exact absurd h3 (by decide)
        · rw [h.2] at h3; exact absurd h3 (by decide)
        · exact Or.inr (Or.inr (Or.inr h.1))
      rw [eS r hr3] at e0
      refine ⟨fun _ => e0, fun no => absurd ⟨fun x => absurd x h78, fun _ x1 x2 x3 => ?_⟩ no⟩
      rcases h3 with h | h | h
      · exact absurd h x1
      · exact absurd h x2
      · exact absurd h x3
    · have hr4 : r = 4 ∨ r = 5 ∨ r = 6 ∨ r = 7 := by
        unfold rlL at rl
        rcases rl with h | h | h | h | h | h | h | h
        · exact absurd (Or.inl h.2) h3
        · exact absurd (Or.inr (Or.inl h.2)) h3
        · exact absurd (Or.inr (Or.inr h.2)) h3
        · exact Or.inl h.1
        · exact Or.inr (Or.inl h.1)
        · exact Or.inr (Or.inr (Or.inl h.1))
        · exact Or.inr (Or.inr (Or.inr h.1))
        · exact absurd h.1 hr8
      rw [eG r hr4] at e0
      have x1 : ¬ c = 118 := fun h => h3 (Or.inl h)
      have x2 : ¬ c = 119 := fun h => h3 (Or.inr (Or.inl h))
      have x3 : ¬ c = 66 := fun h => h3 (Or.inr (Or.inr h))
      cases hb : gbit w with
      | none =>
        rw [hb] at e0
        exact ⟨fun _ => e0, fun no => absurd ⟨fun x => absurd x h78, fun _ _ _ _ m hm => absurd hm (by simp)⟩ no⟩
      | some m =>
        rw [hb] at e0
        have e1 : m_judge_79 g k22 (n + 1) S2 (nI q) (nI i) (nI (60 * q + i)) (nI s) (nI j) = if G m then m_judge_79 g k22 n S2 (nI q) (nI i) (nI (60 * q + i)) (nI s) (nI (j + 1)) else some (S2, nI (10 * (60 * q + i) + j)) := e0
        refine ⟨fun ok => ?_, fun no => ?_⟩
        · rw [e1, if_pos (ok.2 h78 x1 x2 x3 m rfl)]
        · rw [e1, if_neg (fun h => no ⟨fun x => absurd x h78, fun _ _ _ _ m' hm' => by rw [← Option.some.inj hm']; exact h⟩)]
/-- all words of a STEP -/
theorem words_l {k12 : St → Nat → Int32 → Option (St × Int32)} {k22 : St → Int32 → Int32 → Option (St × Int32)} (hg : 100000 ≤ g) (tb : TabM S2) (pk : PrgOK U P) (pc : PrC S p P) (hl : LC S) (pm : PrM S2 q P) (hm : LM S2) (hi : P[i]? = some (s, ws)) (jc : JC S p G st) (jm : JM S2 G st) (hst : st.length ≤ 60) (htop : topE st P.length ≤ 2000) : ∀ (k n1 n2 j : Nat), j + k = ws.length → k < n1 → k < n2 → (∃ j' w, ws[j']? = some w ∧ m_Pg_judged_74 g k12 n1 S p (nI i) (nI (fsP P i + j)) = some (S, w.2.2) ∧ m_judge_79 g k22 n2 S2 (nI q) (nI i) (nI (60 * q + i)) (nI s) (nI j) = some (S2, nI (10 * (60 * q + i) + j'))) ∨ ((m_Pg_judged_74 g k12 n1 S p (nI i) (nI (fsP P i + j)) = ((m_Pg_passStep g S p (nI i)).bind fun S6 => k12 S6 p (nI (i + 1)))) ∧ (m_judge_79 g k22 n2 S2 (nI q) (nI i) (nI (60 * q + i)) (nI s) (nI j) = ((m_gives g S2 (nI (60 * q + i))).bind fun S9 => if nI s = 53 then m_judge_229 g k22 S9 (nI q) (nI i) (nI (60 * q + i)) else if nI s = 54 then m_judge_229 g k22 S9 (nI q) (nI i) (nI (60 * q + i)) else k22 S9 (nI q) (nI (i + 1)))) ∧ ∀ j' w, j ≤ j' → ws[j']? = some w → okJ P i s G (topE st P.length) j' w) := by
  obtain ⟨n0, n1', n2', n3', n4', n5', -⟩ := LCp hl pc.1
  have hil := (List.getElem?_eq_some_iff.mp hi).1
  have hf := fsP_s hi
  have hle := fsP_le (P := P) (i := i + 1)
  have hp60 := pc.2.1
  have hp540 := pc.2.2.1
  intro k
  induction k with
  | zero =>
    intro n1 n2 j hj h1 h2
    obtain ⟨n1, rfl⟩ : ∃ z, n1 = z + 1 := ⟨n1 - 1, by omega⟩
    obtain ⟨n2, rfl⟩ : ∃ z, n2 = z + 1 := ⟨n2 - 1, by omega⟩
    refine Or.inr ⟨?_, ?_, fun j' w h hw => absurd (List.getElem?_eq_some_iff.mp hw).1 (by omega)⟩
    · show b_Pg_judged_74 g k12 (m_Pg_judged_74 g k12 n1) S p (nI i) (nI (fsP P i + j)) = _
      unfold b_Pg_judged_74 m_Pg_judged_113
      rw [nI_1, aI_at (by omega) (by omega), pc.2.2.2.2.1 (i + 1) (by omega), Option.bind_some, if_pos (nI_le (by omega) (by omega))]
      simp only [lt_d, nI_1]
    · have hq := pm.1
      have h7 : gN S2 7 = 180 := LMn hm 7
      show b_judge_79 g k22 (m_judge_79 g k22 n2) S2 (nI q) (nI i) (nI (60 * q + i)) (nI s) (nI j) = _
      unfold b_judge_79
      rw [aI_at (by omega) (by omega), (pm.2.2.2 i s ws hi).2.2.1, Option.bind_some, if_pos (nI_le (by omega) (by have := (pm.2.2.2 i s ws hi).1; omega))]
      simp only [lt_d, nI_1]
  | succ k ih =>
    intro n1 n2 j hj h1 h2
    obtain ⟨n1, rfl⟩ : ∃ z, n1 = z + 1 := ⟨n1 - 1, by omega⟩
    obtain ⟨n2, rfl⟩ : ∃ z, n2 = z + 1 := ⟨n2 - 1, by omega⟩
    have hw : ws[j]? = some ws[j] := List.getElem?_eq_getElem (by omega)
    generalize ws[j] = w at hw
    have cf := C_flt (g := g) pk pc hl hi hw jc hst htop
    have mf := M_flt (g := g) (k22 := k22) (n := n2) hg tb pk pm hm hi hw jm hst htop
    have eC : m_Pg_judged_74 g k12 (n1 + 1) S p (nI i) (nI (fsP P i + j)) = b_Pg_judged_74 g k12 (m_Pg_judged_74 g k12 n1) S p (nI i) (nI (fsP P i + j)) := rfl
    unfold b_Pg_judged_74 at eC
    rw [nI_1, aI_at (by omega) (by omega), pc.2.2.2.2.1 (i + 1) (by omega), Option.bind_some, if_neg (nI_ge (by omega) (by omega))] at eC
    by_cases ok : okJ P i s G (topE st P.length) j w
    · rw [cf.1 ok, Option.bind_some] at eC
      have eC2 : m_Pg_judged_74 g k12 (n1 + 1) S p (nI i) (nI (fsP P i + j)) = m_Pg_judged_74 g k12 n1 S p (nI i) (nI (fsP P i + (j + 1))) := by
        rw [eC]
        show m_Pg_judged_92 g k12 (m_Pg_judged_74 g k12 n1) S p (nI i) (nI (fsP P i + j)) 0 = _
        unfold m_Pg_judged_92
        rw [if_pos rfl, lt_d, nI_1]
        rfl
      rw [eC2, mf.1 ok]
      rcases ih n1 n2 (j + 1) (by omega) (by omega) (by omega) with h | ⟨a, b, c⟩
      · exact Or.inl h
      · refine Or.inr ⟨a, b, fun j' w' hj' hw' => ?_⟩
        by_cases e : j' = j
        · subst e
          rw [hw] at hw'
          rw [← Option.some.inj hw']
          exact ok
        · exact c j' w' (by omega) hw'
    · refine Or.inl ⟨j, w, hw, ?_, mf.2 ok⟩
      rw [eC, cf.2 ok, Option.bind_some]
      show m_Pg_judged_92 g k12 (m_Pg_judged_74 g k12 n1) S p (nI i) (nI (fsP P i + j)) 1 = _
      unfold m_Pg_judged_92
      rw [if_neg (by decide), aI_at (by omega) (by omega), ((pc.2.2.2.2.2 i s ws hi).2 j w hw).2.2.2, Option.bind_some]
end WRD
