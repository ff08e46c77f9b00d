/-! the run loop -/
def RunI (U : Nat → Prop) (P : Prg) (p q i : Nat) (S S2 : St) (st : Stk) : Prop := RSx U i S S2 ∧ PrC S p P ∧ gR S 4 9 = p ∧ PrM S2 q P ∧ CkC S st ∧ CkM S2 st ∧ StI P st i ∧ Tal S S2 ∧ (gI S2 0 52 = -1 ∧ gI S2 0 53 = 0 ∧ gF S 79 0 = -1 ∧ gF S 79 1 = 0) ∧ ∀ b, GB P i b → ¬ gF S 77 b = -1
/-- how a run ended: well, or at a STEP, with a kind -/
def EndK (S2 : St) : Prop := (gI S2 0 52 = -1 ∧ gI S2 0 53 = 0) ∨ ∃ i kd : Nat, i < 60 ∧ gI S2 0 52 = nI i ∧ kd ≤ 5 ∧ kd ≠ 0 ∧ gI S2 0 53 = nI kd
def RunE (U : Nat → Prop) (S S2 : St) : Prop := RSx U 60 S S2 ∧ Tal S S2 ∧ gF S 79 0 = gI S2 0 52 ∧ gF S 79 1 = gI S2 0 53 ∧ EndK S2 ∧ ∃ st, CkC S st
section RLP
variable {U : Nat → Prop} {g p q : Nat} {P : Prg}
theorem GB_next {i e b : Nat} (h : GB P e b) (hie : i < e) (hno : ∀ k, i ≤ k → k < e → gvB P k b → ∃ j, j < k ∧ opP P j ∧ k < rgP P j ∧ ¬ e < rgP P j) : GB P i b := by
  obtain ⟨k, k1, k2, k3⟩ := h
  by_cases hk : k < i
  · exact ⟨k, hk, k2, fun j j1 j2 j3 => by have := k3 j j1 j2 j3; omega⟩
  · obtain ⟨j, j1, j2, j3, j4⟩ := hno k (by omega) k1 k2
    exact absurd (k3 j j1 j2 j3) j4
theorem opP_gv {k b : Nat} (h1 : opP P k) (h2 : gvB P k b) : False := by
  obtain ⟨s, ws, a1, a2⟩ := h1
  obtain ⟨s', ws', w, b1, b2, -⟩ := h2
  have := Option.some.inj (a1.symm.trans b1)
  have : s = s' := congrArg Prod.fst this
  omega
/-- at the end -/
theorem run_e {i x3 n1 n2 : Nat} {S S2 : St} {st : Stk} (hg : 100000 ≤ g) (pk : PrgOK U P) (jk : JdgOK P) (h : RunI U P p q i S S2 st) (hi : i = P.length) (hx : x3 ≤ i) (hE : ∀ t ∈ st, t.1 < 2 ^ 31) : ∃ S' S2' kd, m_Rn_perform_9 g (n1 + 1) S p (nI i) (nI x3) = some (S', kd) ∧ kd = gF S' 79 1 ∧ m_runs_12 g (n2 + 1) S2 (nI q) (nI i) = some (S2', gI S2' 0 52) ∧ RunE U S' S2' ∧ FRc S S' ∧ FRm S2 S2' := by
  obtain ⟨r, pc, hp, pm, kc, km, si, tal, ⟨e1, e2, e3, e4⟩, ob⟩ := h
  have hlen := pc.2.1
  have r0 := r
  obtain ⟨φ, cs, ts, u, pl, pm', ps, qs, rr, -⟩ := r0
  have h11 : gN S2 11 = 3 := LMn rr.2.2.1 11
  obtain ⟨S', S2', st', rx, a1, a2, a3, a4, a5, a6, a7, a8, a9, a10⟩ := lv_l (U := U) (g := g) (k := i) (q := q) (i := i) (P := P) st.length g g st S S2 rfl (by have := si.1; omega) (by have := si.1; omega) (by have := si.1; omega) (by omega) kc km si hE pm r
  have tl := tal.tf a10
  refine ⟨S', S2', 0, ?_, (by rw [a10.1, e4]), ?_, ⟨a7.le (by omega), tl, ?_, ?_, Or.inl ⟨(a10.2.2.1 52 (by decide) (by decide)).trans e1, (a10.2.2.1 53 (by decide) (by decide)).trans e2⟩, st', a3⟩, a8, a9⟩
  · have e281 : m_Rn_perform_281 g S (nI i) = some (S', 0) := by
      unfold m_Rn_perform_281 m_Rn_leaveCatches
      rw [lt_d, kc.1.2.2.1, List.length_map, a1]
      rfl
    show b_Rn_perform_9 g (m_Rn_perform_9 g n1) S p (nI i) (nI x3) = _
    unfold b_Rn_perform_9
    rw [e281, pc.2.2.2.1, if_pos (show nI P.length ≤ nI i from nI_le (by omega) (by omega))]
    exact ifo rfl rfl
  · show b_runs_12 g (m_runs_12 g n2) S2 (nI q) (nI i) = _
    have hq := pm.1
    unfold b_runs_12 m_runs_45 m_leaves
    rw [aI_at (by omega) (by omega), pm.2.2.1, Option.bind_some, if_pos (nI_le (by omega) (by omega)), e1, if_neg (by decide), Option.bind_some, ← hi, a2]
    rfl
  · rw [a10.1, e3, a10.2.2.1 52 (by decide) (by decide), e1]
  · rw [a10.1, e4, a10.2.2.1 53 (by decide) (by decide), e2]
/-- what the class does when the STEP is done -/
theorem C_done {k9 : St → Nat → Int32 → Int32 → Option (St × Int32)} {S : St} {i s x3 : Nat} {ws : List Wd} (pc : PrC S p P) (hl : LC S) (hi : P[i]? = some (s, ws)) (hs : s < 56) : m_Rn_perform_172 g k9 S p (nI i) (nI x3) s 0 = ((m_Rn_nextBehind g (sF (sF S 79 2 (gF S 79 2 + 1)) 80 s (gF S 80 s + 1)) p (nI i) s).bind fun z => k9 z.1 p z.2 (nI (x3 + 1))) := by
  obtain ⟨c1, c2, c3, c4, c5, c6⟩ := pc
  have hil := (List.getElem?_eq_some_iff.mp hi).1
  obtain ⟨n0, -⟩ := LCp hl c1
  have h79 : gN S 79 = 4 := hl 79 (by decide)
  have h80 : gN S 80 = 56 := hl 80 (by decide)
  unfold m_Rn_perform_172
  rw [if_pos rfl, show (2 : Int32) = nI 2 from rfl, aI_at (by omega) (by omega), Option.bind_some, tI_at (by omega) (by omega), Option.bind_some, aI_at (by show i < gN S (50 + 8 * p + 0); omega) (by show gN S (50 + 8 * p + 0) < 2 ^ 31; omega), show gF (sF S 79 2 (gF S 79 2 + 1)) (50 + 8 * p + 0) i = nI s from by rw [gF_ne (by omega)]; exact (c6 i s ws hi).1, Option.bind_some, aI_at (by show s < gN S 80; omega) (by show gN S 80 < 2 ^ 31; omega), show gF (sF S 79 2 (gF S 79 2 + 1)) 80 s = gF S 80 s from gF_ne (by decide), Option.bind_some, tI_at (by show s < gN S 80; omega) (by show gN S 80 < 2 ^ 31; omega), Option.bind_some]
  refine congrArg _ (funext fun z => ?_)
  obtain ⟨z1, z2⟩ := z
  show m_Rn_perform_210 g k9 z1 p (nI x3) z2 = k9 z1 p z2 (nI (x3 + 1))
  unfold m_Rn_perform_210
  rw [lt_d, nI_1]
/-- what the reference does when the STEP is done -/
theorem M_done {S2 : St} {i s : Nat} (hm : LM S2) (h0 : gI S2 0 58 = 0) (hs : s < 56) {x1 x3 : Int32} (h53 : s ≠ 53) : m_steps_98 g S2 x1 (nI i) x3 (nI s) = some (sI (sF S2 31 s (gF S2 31 s + 1)) 0 54 (gI S2 0 54 + 1), nI (i + 1)) := by
  have h31 : gN S2 31 = 56 := LMn hm 31
  unfold m_steps_98
  rw [if_pos h0, aI_at (by omega) (by omega), Option.bind_some, tI_at (by omega) (by omega), Option.bind_some, lt_d, if_neg (show ¬ nI s = (53 : Int32) from i_lit (b := 53) (by omega) (by omega) h53), nI_1]
  rfl
theorem Tal.done {S S2 : St} {s : Nat} (h : Tal S S2) : Tal (sF (sF S 79 2 (gF S 79 2 + 1)) 80 s (gF S 80 s + 1)) (sI (sF S2 31 s (gF S2 31 s + 1)) 0 54 (gI S2 0 54 + 1)) ∨ ¬ s < 56 := by
  by_cases hs : s < 56
  · refine Or.inl ⟨fun z hz => ?_, ?_, ?_⟩
    · show gF (sF (sF S 79 2 (gF S 79 2 + 1)) 80 s (gF S 80 s + 1)) 80 z = gF (sF S2 31 s (gF S2 31 s + 1)) 31 z
      by_cases e : z = s
      · subst e
        rw [gF_sF, gF_sF, h.1 z hz]
      · rw [gF_sFi e, gF_ne (by decide), gF_sFi e]
        exact h.1 z hz
    · rw [gF_ne (by decide), gF_sF, sI_g, h.2.1]
    · rw [gF_ne (by decide), gF_sFi (by decide), gI_ne (by decide)]
      exact h.2.2
  · exact Or.inr hs
end RLP
