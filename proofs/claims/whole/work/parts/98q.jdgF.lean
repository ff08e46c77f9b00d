/-! the judge, whole -/
def JI2 (P : Prg) (i : Nat) (st : List JT) : Prop := ∀ j, j < i → opP P j → i < rgP P j → ∃ t ∈ st, t.2.2 = j
def JI3 (P : Prg) (i : Nat) (st : List JT) (G : Nat → Bool) : Prop := ∀ b, b < 6 → G (32 + b) = true → ∃ k, k < i ∧ gvB P k b ∧ ∀ j, j < k → opP P j → k < rgP P j → ∃ t ∈ st, t.2.2 = j
def JD1 (P : Prg) (i : Nat) : Prop := ∀ i', i' < i → opP P i' → rgP P i' ≤ P.length ∧ ∀ i0, i0 < i' → opP P i0 → i' < rgP P i0 → rgP P i' ≤ rgP P i0
def JD2 (P : Prg) (i : Nat) : Prop := ∀ (i' s : Nat) (ws : List Wd) (j : Nat) (w : Wd) (b : Nat), i' < i → P[i']? = some (s, ws) → ws[j]? = some w → w.1 = 2 → ¬ lett s (nI j) = 66 → w.2.1.toInt = ((b : Nat) : Int) → GB P i' b
/-- what the judge knows at STEP i -/
def JInv (P : Prg) (i : Nat) (st : List JT) (G : Nat → Bool) : Prop := (∀ t ∈ st, i ≤ t.1 ∧ t.2.2 < i ∧ opP P t.2.2 ∧ t.1 = rgP P t.2.2 ∧ t.1 ≤ P.length) ∧ st.Pairwise (fun a b => b.1 ≤ a.1) ∧ st.length ≤ i ∧ JI2 P i st ∧ JI3 P i st G ∧ (∀ (m : Nat) (t : JT), st[m]? = some t → JI3 P t.2.2 (st.take m) t.2.1) ∧ JD1 P i ∧ JD2 P i
section JLP
variable {g p q i s : Nat} {P : Prg} {ws : List Wd} {U : Nat → Prop} {G G' Gs : Nat → Bool} {st st' r : List JT} {S S2 : St}
theorem JInv.shut (h : JInv P i st G) (e : st = st' ++ r) (h1 : ∀ t ∈ st', i < t.1) (h2 : ∀ t ∈ r, t.1 = i) (h3 : (r = [] ∧ G' = G) ∨ ∃ t r', r = t :: r' ∧ G' = t.2.1) : JInv P i st' G' := by
  obtain ⟨a1, a2, a3, a4, a5, a6, a7, a8⟩ := h
  subst e
  refine ⟨fun t ht => a1 t (List.mem_append.mpr (Or.inl ht)), (List.pairwise_append.mp a2).1, by rw [List.length_append] at a3; omega, fun j h4 h5 h6 => ?_, fun b hb hG => ?_, fun m t ht => ?_, a7, a8⟩
  · obtain ⟨t, ht, htj⟩ := a4 j h4 h5 h6
    rcases List.mem_append.mp ht with h | h
    · exact ⟨t, h, htj⟩
    · have := h2 t h
      have := (a1 t ht).2.2.2.1
      rw [htj] at this
      omega
  · rcases h3 with ⟨e1, e2⟩ | ⟨t, r', e1, e2⟩
    · subst e1
      subst e2
      obtain ⟨k, k1, k2, k3⟩ := a5 b hb hG
      rw [List.append_nil] at k3
      exact ⟨k, k1, k2, k3⟩
    · subst e1
      rw [e2] at hG
      have ht : (st' ++ t :: r')[st'.length]? = some t := by simp
      obtain ⟨k, k1, k2, k3⟩ := a6 st'.length t ht b hb hG
      rw [List.take_left' rfl] at k3
      have := (a1 t (List.mem_of_getElem? ht)).2.1
      exact ⟨k, by omega, k2, k3⟩
  · have hm := (List.getElem?_eq_some_iff.mp ht).1
    have := a6 m t (by rw [List.getElem?_append_left hm]; exact ht)
    rw [List.take_append_of_le_length (by omega)] at this
    exact this
theorem JInv.gb (h : JInv P i st G) (h1 : ∀ t ∈ st, i < t.1) {b : Nat} (hb : b < 6) (hG : G (32 + b) = true) : GB P i b := by
  obtain ⟨a1, a2, a3, a4, a5, a6, a7, a8⟩ := h
  obtain ⟨k, k1, k2, k3⟩ := a5 b hb hG
  refine ⟨k, k1, k2, fun j j1 j2 j3 => ?_⟩
  obtain ⟨t, ht, htj⟩ := k3 j j1 j2 j3
  have := h1 t ht
  have := (a1 t ht).2.2.2.1
  rw [htj] at this
  omega
theorem JInv.top (h : JInv P i st G) (h1 : ∀ t ∈ st, i < t.1) : topE st P.length ≤ P.length ∧ ∀ j, j < i → opP P j → i < rgP P j → topE st P.length ≤ rgP P j := by
  obtain ⟨a1, a2, a3, a4, a5, a6, a7, a8⟩ := h
  by_cases hem : st = []
  · subst hem
    refine ⟨Nat.le_refl _, fun j h4 h5 h6 => ?_⟩
    obtain ⟨t, ht, -⟩ := a4 j h4 h5 h6
    exact absurd ht (by simp)
  · obtain ⟨st0, t, rfl⟩ : ∃ st0 t, st = st0 ++ [t] := ⟨st.dropLast, st.getLast hem, (List.dropLast_concat_getLast hem).symm⟩
    rw [topE_app]
    refine ⟨(a1 t (by simp)).2.2.2.2, fun j h4 h5 h6 => ?_⟩
    obtain ⟨t', ht', htj⟩ := a4 j h4 h5 h6
    have e := (a1 t' ht').2.2.2.1
    rw [htj] at e
    rcases List.mem_append.mp ht' with h | h
    · have := (List.pairwise_append.mp a2).2.2 t' h t (by simp)
      omega
    · rw [List.mem_singleton] at h
      rw [h] at e
      omega
theorem JInv.d2 (h : JInv P i st G) (h1 : ∀ t ∈ st, i < t.1) (pk : PrgOK U P) (hi : P[i]? = some (s, ws)) (ok : ∀ j' w, 0 ≤ j' → ws[j']? = some w → okJ P i s G (topE st P.length) j' w) : JD2 P (i + 1) := by
  intro i' s' ws' j w b hi' hP hw h2 h66 hb
  by_cases e : i' = i
  · subst e
    rw [hi] at hP
    have e2 := Option.some.inj hP
    have es : s = s' := congrArg Prod.fst e2
    have ews : ws = ws' := congrArg Prod.snd e2
    subst es
    subst ews
    have okl := (pk i' s ws hi).2.1.2.2 j w hw
    have nm := okL_nm okl
    obtain ⟨q1, q2⟩ := argN_n (nm.2.2.2 h2)
    have hb6 : b < 6 := by omega
    have hgb : gbit w = some (32 + b) := by
      unfold gbit
      rw [if_neg (by omega), if_neg (by omega), if_pos h2]
      congr 1
      omega
    have hno : ¬ lett s (nI j) = 78 ∧ ¬ lett s (nI j) = 118 ∧ ¬ lett s (nI j) = 119 := by
      generalize lett s (nI j) = c at *
      refine ⟨fun h => ?_, fun h => ?_, fun h => ?_⟩
      · subst h
        unfold okL at okl
        rcases okl with ⟨h, -⟩ | ⟨h, -⟩ | ⟨h | h, -⟩ | ⟨h | h, -⟩ | ⟨h, -⟩ | ⟨h, -⟩ | ⟨-, h⟩
        · exact absurd h (by decide)
        · exact absurd h (by decide)
        · exact absurd h (by decide)
        · exact absurd h (by decide)
        · exact absurd h (by decide)
        · exact absurd h (by decide)
        · exact absurd h (by decide)
        · exact absurd h (by decide)
        · omega
      · subst h
        have := (okL_v okl).1
        omega
      · subst h
        have := (okL_w okl).1
        omega
    exact h.gb h1 hb6 ((ok j w (Nat.zero_le _) hw).2 hno.1 hno.2.1 hno.2.2 h66 (32 + b) hgb)
  · exact h.2.2.2.2.2.2.2 i' s' ws' j w b (by omega) hP hw h2 h66 hb
theorem opP_s (hi : P[i]? = some (s, ws)) : opP P i ↔ (s = 53 ∨ s = 54) := by
  constructor
  · rintro ⟨s', ws', h1, h2⟩
    rw [hi] at h1
    have : s = s' := congrArg Prod.fst (Option.some.inj h1)
    omega
  · intro h
    exact ⟨s, ws, hi, h⟩
theorem JInv.step_n (h : JInv P i st G) (h1 : ∀ t ∈ st, i < t.1) (pk : PrgOK U P) (hi : P[i]? = some (s, ws)) (hn : ¬ (s = 53 ∨ s = 54)) (ok : ∀ j' w, 0 ≤ j' → ws[j']? = some w → okJ P i s G (topE st P.length) j' w) (hG : ∀ b, b < 6 → G' (32 + b) = true → G (32 + b) = true ∨ gvB P i b) : JInv P (i + 1) st G' := by
  have d2 := h.d2 h1 pk hi ok
  obtain ⟨a1, a2, a3, a4, a5, a6, a7, a8⟩ := h
  have hno : ¬ opP P i := fun h => hn ((opP_s hi).mp h)
  refine ⟨fun t ht => ?_, a2, by omega, fun j h4 h5 h6 => ?_, fun b hb hg => ?_, a6, fun i' h4 h5 => ?_, d2⟩
  · have := h1 t ht
    obtain ⟨b1, b2, b3⟩ := a1 t ht
    exact ⟨by omega, by omega, b3⟩
  · by_cases e : j = i
    · subst e; exact absurd h5 hno
    · exact a4 j (by omega) h5 (by omega)
  · rcases hG b hb hg with h | h
    · obtain ⟨k, k1, k2⟩ := a5 b hb h
      exact ⟨k, by omega, k2⟩
    · exact ⟨i, by omega, h, fun j j1 j2 j3 => a4 j j1 j2 j3⟩
  · by_cases e : i' = i
    · subst e; exact absurd h5 hno
    · exact a7 i' (by omega) h5
theorem JInv.step_o (h : JInv P i st G) (h1 : ∀ t ∈ st, i < t.1) (pk : PrgOK U P) (hi : P[i]? = some (s, ws)) (hs5 : s = 53 ∨ s = 54) (ok : ∀ j' w, 0 ≤ j' → ws[j']? = some w → okJ P i s G (topE st P.length) j' w) (hG : ∀ b, b < 6 → Gs (32 + b) = G (32 + b)) : JInv P (i + 1) (st ++ [(rgP P i, Gs, i)]) G := by
  have d2 := h.d2 h1 pk hi ok
  have htop := h.top h1
  obtain ⟨a1, a2, a3, a4, a5, a6, a7, a8⟩ := h
  have ho : opP P i := (opP_s hi).mpr hs5
  obtain ⟨w1, n, b1, b2, b3, b4⟩ := rg_w pk hi hs5
  have h78 : lett s (nI 1) = 78 := by
    rcases hs5 with h | h <;> subst h <;> decide +kernel
  have hrg : rgP P i ≤ topE st P.length := (ok 1 w1 (by omega) b1).1 h78
  have up : ∀ {j : Nat}, (∃ t ∈ st, t.2.2 = j) → ∃ t ∈ st ++ [(rgP P i, Gs, i)], t.2.2 = j := fun ⟨t, x, y⟩ => ⟨t, List.mem_append.mpr (Or.inl x), y⟩
  refine ⟨fun t ht => ?_, ?_, by rw [List.length_append, List.length_singleton]; omega, fun j h4 h5 h6 => ?_, fun b hb hg => ?_, fun m t ht => ?_, fun i' h4 h5 => ?_, d2⟩
  · rcases List.mem_append.mp ht with h | h
    · have := h1 t h
      obtain ⟨c1, c2, c3⟩ := a1 t h
      exact ⟨by omega, by omega, c3⟩
    · rw [List.mem_singleton] at h
      subst h
      exact ⟨by show i + 1 ≤ rgP P i; omega, Nat.lt_succ_self i, ho, rfl, by show rgP P i ≤ P.length; omega⟩
  · refine List.pairwise_append.mpr ⟨a2, by simp, fun t ht t' ht' => ?_⟩
    rw [List.mem_singleton] at ht'
    subst ht'
    have e := (a1 t ht).2.2.2.1
    have := htop.2 t.2.2 (a1 t ht).2.1 (a1 t ht).2.2.1 (by have := h1 t ht; omega)
    show rgP P i ≤ t.1
    omega
  · by_cases e : j = i
    · subst e
      exact ⟨_, List.mem_append.mpr (Or.inr (List.mem_singleton.mpr rfl)), rfl⟩
    · exact up (a4 j (by omega) h5 (by omega))
  · obtain ⟨k, k1, k2, k3⟩ := a5 b hb hg
    exact ⟨k, by omega, k2, fun j j1 j2 j3 => up (k3 j j1 j2 j3)⟩
  · rcases snocL ht with ⟨c1, c2⟩ | ⟨c1, c2⟩
    · rw [List.take_append_of_le_length (by omega)]
      exact a6 m t c2
    · subst c1
      rw [List.take_left' rfl, ← c2]
      intro b hb hg
      have hg' : G (32 + b) = true := by rw [← hG b hb]; exact hg
      exact a5 b hb hg'
  · by_cases e : i' = i
    · subst e
      exact ⟨by omega, fun i0 j1 j2 j3 => by have := htop.2 i0 j1 j2 j3; omega⟩
    · exact a7 i' (by omega) h5
/-- how the judge ends -/
def JEnd (P : Prg) (q : Nat) (r r2 : Int32) : Prop := (r = -1 ∧ r2 = -1 ∧ JdgOK P) ∨ ∃ (i s : Nat) (ws : List Wd) (j : Nat) (w : Wd), P[i]? = some (s, ws) ∧ ws[j]? = some w ∧ r = w.2.2 ∧ r2 = nI (10 * (60 * q + i) + j)
theorem jdg_l (hg : 100000 ≤ g) (pk : PrgOK U P) : ∀ (d n1 n2 i : Nat) (st : List JT) (G : Nat → Bool) (S S2 : St), i + d = P.length → d < n1 → d < n2 → JInv P i st G → JC S p G st → JM S2 G st → PrC S p P → LC S → PrM S2 q P → LM S2 → TabM S2 → ∃ S' S2' r r2, m_Pg_judged_12 g n1 S p (nI i) = some (S', r) ∧ m_judge_22 g n2 S2 (nI q) (nI i) = some (S2', r2) ∧ FJc p S S' ∧ FJm S2 S2' ∧ JEnd P q r r2 := by
  intro d
  induction d with
  | zero =>
    intro n1 n2 i st G S S2 hi h1 h2 jv jc jm pc hl pm hm tb
    obtain ⟨n1, rfl⟩ : ∃ z, n1 = z + 1 := ⟨n1 - 1, by omega⟩
    obtain ⟨n2, rfl⟩ : ∃ z, n2 = z + 1 := ⟨n2 - 1, by omega⟩
    have h60 := pc.2.1
    have hq := pm.1
    have h11 : gN S2 11 = 3 := LMn hm 11
    refine ⟨S, S2, -1, -1, ?_, ?_, FJc.rf, FJm.rf, Or.inl ⟨rfl, rfl, ?_⟩⟩
    · show b_Pg_judged_12 g (m_Pg_judged_12 g n1) S p (nI i) = _
      unfold b_Pg_judged_12
      rw [pc.2.2.2.1, if_pos (nI_le (by omega) (by omega))]
    · show b_judge_22 g (m_judge_22 g n2) S2 (nI q) (nI i) = _
      unfold b_judge_22
      rw [aI_at (by omega) (by omega), pm.2.2.1, Option.bind_some, if_pos (nI_le (by omega) (by omega))]
    · have hlt : ∀ j, opP P j → j < i := fun j ⟨s, ws, h, _⟩ => by have := (List.getElem?_eq_some_iff.mp h).1; omega
      refine ⟨fun j hj => ⟨(jv.2.2.2.2.2.2.1 j (hlt j hj) hj).1, fun k h3 h4 h5 => (jv.2.2.2.2.2.2.1 k (hlt k h5) h5).2 j h3 hj h4⟩, fun i' s ws j w b h3 h4 h5 h6 h7 => jv.2.2.2.2.2.2.2 i' s ws j w b (by have := (List.getElem?_eq_some_iff.mp h3).1; omega) h3 h4 h5 h6 h7⟩
  | succ d ih =>
    intro n1 n2 i st G S S2 hi h1 h2 jv jc jm pc hl pm hm tb
    obtain ⟨n1, rfl⟩ : ∃ z, n1 = z + 1 := ⟨n1 - 1, by omega⟩
    obtain ⟨n2, rfl⟩ : ∃ z, n2 = z + 1 := ⟨n2 - 1, by omega⟩
    have h60 := pc.2.1
    have hq := pm.1
    have h11 : gN S2 11 = 3 := LMn hm 11
    have h6 : gN S2 6 = 180 := LMn hm 6
    have hsl := jv.2.2.1
    have hiP : P[i]? = some (P[i].1, P[i].2) := List.getElem?_eq_getElem (by omega)
    generalize P[i].1 = s at hiP
    generalize P[i].2 = ws at hiP
    have hs := (pk i s ws hiP).1
    have h9 := (pm.2.2.2 i s ws hiP).1
    obtain ⟨S3, T3, st', G', r, a1, a2, a3, a4, a5, a6, a7, a8, a9, a10⟩ := shut_l (g := g) (p := p) (i := i) (k12 := m_Pg_judged_12 g n1) (k22 := m_judge_22 g n2) (x1 := nI q) pc.1 (by omega) st.length g g st S S2 G rfl (by omega) (by omega) (by omega) (fun t ht => ⟨(jv.1 t ht).1, by have := (jv.1 t ht).2.2.2.2; omega⟩) jv.2.1 hl hm jc jm
    have jv' := jv.shut a7 a8 a9 a10
    have pc3 := pc.fj a3
    have hl3 := hl.fj a3
    have pm3 := pm.fj a4
    have hm3 := hm.fj a4
    have tb3 := tb.fj a4
    have hsl' := jv'.2.2.1
    have htop := (jv'.top a8).1
    obtain ⟨n0, n1', -⟩ := LCp hl3 pc3.1
    have eC : m_Pg_judged_12 g (n1 + 1) S p (nI i) = m_Pg_judged_74 g (m_Pg_judged_12 g n1) g S3 p (nI i) (nI (fsP P i)) := by
      show b_Pg_judged_12 g (m_Pg_judged_12 g n1) S p (nI i) = _
      unfold b_Pg_judged_12
      rw [pc.2.2.2.1, if_neg (nI_ge (by omega) (by omega)), lt_d, jc.2.1, a1, aI_at (by omega) (by omega), pc3.2.2.2.2.1 i (by omega), Option.bind_some]
    have eM : m_judge_22 g (n2 + 1) S2 (nI q) (nI i) = m_judge_79 g (m_judge_22 g n2) g T3 (nI q) (nI i) (nI (60 * q + i)) (nI s) 0 := by
      show b_judge_22 g (m_judge_22 g n2) S2 (nI q) (nI i) = _
      unfold b_judge_22
      have g6 : gN T3 6 = 180 := LMn hm3 6
      rw [aI_at (by omega) (by omega), pm.2.2.1, Option.bind_some, if_neg (nI_ge (by omega) (by omega)), a2]
      unfold m_judge_61
      rw [lt_d, show (nI q * (60 : Int32)) + nI i = nI (60 * q + i) from by rw [show (60 : Int32) = nI 60 from rfl, nI_mulE, nI_add, Nat.mul_comm q 60], aI_at (by omega) (by omega), (pm3.2.2.2 i s ws hiP).2.1, Option.bind_some]
    rcases words_l (g := g) (k12 := m_Pg_judged_12 g n1) (k22 := m_judge_22 g n2) hg tb3 pk pc3 hl3 pm3 hm3 hiP a5 a6 (by omega) (by omega) ws.length g g 0 (by omega) (by omega) (by omega) with ⟨j, w, b1, b2, b3⟩ | ⟨b1, b2, b3⟩
    · exact ⟨S3, T3, _, _, eC.trans b2, eM.trans b3, a3, a4, Or.inr ⟨i, s, ws, j, w, hiP, b1, rfl, rfl⟩⟩
    · by_cases h5 : s = 53 ∨ s = 54
      · obtain ⟨S4, T4, Gs, c1, c2, c3, c4, c5, c6, c7, c8⟩ := pass_o (g := g) (k22 := m_judge_22 g n2) hg tb3 pk pc3 hl3 pm3 hm3 hiP h5 a5 a6 (by omega)
        obtain ⟨S', S2', r1, r2, d1, d2, d3, d4, d5⟩ := ih n1 n2 (i + 1) _ G' S4 T4 (by omega) (by omega) (by omega) (jv'.step_o a8 pk hiP h5 b3 c8) c6 c7 (pc3.fj c4) (hl3.fj c4) (pm3.fj c5) (hm3.fj c5) (tb3.fj c5)
        refine ⟨S', S2', r1, r2, ?_, ?_, (a3.tr c4).tr d3, (a4.tr c5).tr d4, d5⟩
        · rw [eC]
          refine b1.trans ?_
          rw [c1, Option.bind_some, d1]
        · rw [eM]
          refine b2.trans ?_
          rw [c2, Option.bind_some]
          have e53 : (if nI s = 53 then m_judge_229 g (m_judge_22 g n2) T3 (nI q) (nI i) (nI (60 * q + i)) else if nI s = 54 then m_judge_229 g (m_judge_22 g n2) T3 (nI q) (nI i) (nI (60 * q + i)) else m_judge_22 g n2 T3 (nI q) (nI (i + 1))) = m_judge_229 g (m_judge_22 g n2) T3 (nI q) (nI i) (nI (60 * q + i)) := by
            rcases h5 with h | h
            · rw [if_pos (show nI s = 53 by rw [h]; rfl)]
            · rw [if_neg (show ¬ nI s = 53 by rw [h]; decide), if_pos (show nI s = 54 by rw [h]; rfl)]
          rw [e53, c3, d2]
      · obtain ⟨S4, T4, G4, c1, c2, c4, c5, c6, c7, c8⟩ := pass_n (g := g) hg tb3 pk pc3 hl3 pm3 hm3 hiP h5 a5 a6
        obtain ⟨S', S2', r1, r2, d1, d2, d3, d4, d5⟩ := ih n1 n2 (i + 1) st' G4 S4 T4 (by omega) (by omega) (by omega) (jv'.step_n a8 pk hiP h5 b3 c8) c6 c7 (pc3.fj c4) (hl3.fj c4) (pm3.fj c5) (hm3.fj c5) (tb3.fj c5)
        refine ⟨S', S2', r1, r2, ?_, ?_, (a3.tr c4).tr d3, (a4.tr c5).tr d4, d5⟩
        · rw [eC]
          refine b1.trans ?_
          rw [c1, Option.bind_some, d1]
        · rw [eM]
          refine b2.trans ?_
          rw [c2, Option.bind_some, if_neg (show ¬ nI s = 53 from fun h => h5 (Or.inl ((nI_eq (b := 53) (by omega) (by omega)).mp h))), if_neg (show ¬ nI s = 54 from fun h => h5 (Or.inr ((nI_eq (b := 54) (by omega) (by omega)).mp h))), d2]
/-- the judge on both sides -/
theorem jdg_all (hg : 100000 ≤ g) (pk : PrgOK U P) (pc : PrC S p P) (hl : LC S) (pm : PrM S2 q P) (hm : LM S2) (tb : TabM S2) : ∃ S' S2' r r2, m_Pg_judged g S p = some (S', r) ∧ m_judge g S2 (nI q) = some (S2', r2) ∧ FJc p S S' ∧ FJm S2 S2' ∧ JEnd P q r r2 := by
  have h60 := pc.2.1
  have fc : FJc p S (sL (sI S p 11 0) p 12 0) := FJc.sI.tr FJc.sL
  have fm : FJm S2 (sI (sI (sI (sI S2 0 27 0) 0 28 0) 0 29 0) 0 30 0) := (((FJm.sI (by omega)).tr (FJm.sI (by omega))).tr (FJm.sI (by omega))).tr (FJm.sI (by omega))
  have b0 : ∀ k, bL 0 k = false := fun k => by unfold bL; simp
  have b1 : ∀ k, bI 0 k = false := fun k => by unfold bI; simp
  obtain ⟨S', S2', r, r2, a1, a2, a3, a4, a5⟩ := jdg_l (g := g) (p := p) (q := q) hg pk P.length g g 0 [] (fun _ => false) (sL (sI S p 11 0) p 12 0) (sI (sI (sI (sI S2 0 27 0) 0 28 0) 0 29 0) 0 30 0) (by omega) (by omega) (by omega) ⟨fun t ht => by simp at ht, List.Pairwise.nil, by simp, fun j h => by omega, fun b hb h => absurd h Bool.false_ne_true, fun m t ht => by simp at ht, fun i' h => by omega, fun i' s ws j w b h => by omega⟩ ⟨fun k hk => by rw [gL_s]; exact b0 k, sI_g, fun m t ht => by simp at ht⟩ ⟨⟨fun n hn => by rw [gI_ne (by decide), gI_ne (by decide), gI_ne (by decide), sI_g]; exact b1 n, fun n hn => by rw [gI_ne (by decide), gI_ne (by decide), sI_g]; exact b1 n, fun n hn => by rw [gI_ne (by decide), sI_g]; exact b1 n⟩, by rw [sI_g]; rfl, fun m t ht => by simp at ht⟩ (pc.fj fc) (hl.fj fc) (pm.fj fm) (hm.fj fm) (tb.fj fm)
  refine ⟨S', S2', r, r2, ?_, ?_, fc.tr a3, fm.tr a4, a5⟩
  · unfold m_Pg_judged
    rw [lt_d, lt_d]
    exact a1
  · unfold m_judge
    rw [lt_d, lt_d, lt_d, lt_d]
    exact a2
end JLP
