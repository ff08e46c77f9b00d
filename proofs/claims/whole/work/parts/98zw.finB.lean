/-! spelled, the call; both sides over all calls -/
section FIW
variable {g p d : Nat} {S S2 : St} {tp : List Int32} {P : Prg} {lits : List (List Int32)}
theorem R_spl {S' S2' : St} (r : RelD S S2 tp p d P lits) (h : Fsy p S S') (hd : ∃ l ov, Rw S' (8 + 3 * p + 2) l ov) (hf : FLy S2 S2') : RelD S' S2' tp p d P lits := by
  have hp := r.1.1.1.1
  have tR := r.2.1
  refine r.z (FZc.sy h hp) (FZm.ly hf) (by unfold gR; rw [h.2.2.1]; exact r.1.2.2.2.1.2.2.1) ⟨tR.1.sy h hp (by omega), by rw [hf.1 5 (by omega) (by omega)]; exact tR.2.1, tR.2.2.1, fun i hi => by rw [hf.2.2.1 5 (by omega) (by omega) (by omega)]; exact tR.2.2.2.1 i hi, tR.2.2.2.2⟩ (fun o h1 h2 => ?_)
  by_cases q : o = 8 + 3 * p + 2
  · rw [q]; exact hd
  · obtain ⟨l, ov, w⟩ := r.2.2.2.2.1 o h1 h2
    exact ⟨l, ov, w.sy h hp q⟩
theorem c_spelled (hg : 100000 ≤ g) (r : RelD S S2 tp p d P lits) (x y : Int32) : ∃ S' S2' z, m_TL_spelled g S x y = some (S', z) ∧ m_spelled g S2 x y = some (S2', z) ∧ RelD S' S2' tp p d P lits := by
  obtain ⟨⟨⟨pc, pm, -, lm, -, pk, -⟩, ⟨-, sp⟩, hl, hk, -, hm, tb, r4, -, -, -⟩, -, -, lc, rw, fl⟩ := id r
  have hp := pc.1
  have h11 : gN S2 11 = 3 := LMn hm 11
  have h6 : gN S2 6 = 180 := LMn hm 6
  have eC : m_TL_spelled g S x y = (m_Pg_spelledByte g S p x y).bind fun (S_3, v_4) => m_TL_spelled_9 g S_3 v_4 := by
    unfold m_TL_spelled
    rw [r4, if_pos hp, lt_d]
  have bad : m_Pg_spelledByte g S p x y = some (S, -1) → m_isStep g S2 x = some 0 → ∃ S' S2' z, m_TL_spelled g S x y = some (S', z) ∧ m_spelled g S2 x y = some (S2', z) ∧ RelD S' S2' tp p d P lits := by
    intro h1 h2
    refine ⟨S, S2, -1, by rw [eC, h1, Option.bind_some]; rfl, ?_, r⟩
    unfold m_spelled
    rw [h2, Option.bind_some, if_pos rfl]
  have isS : ∀ v : Int32, m_isIn g x.toInt64 0 ((nI P.length - (1 : Int32)).toInt64) = some v → (v = 0 ∨ v = 1) → (P = [] → v = 0) → m_isStep g S2 x = some v := by
    intro v h1 h2 h3
    unfold m_isStep
    rcases fl with ⟨-, f2, f3⟩ | ⟨-, f2⟩
    · rw [if_pos f2, h3 f3]
    · rw [if_neg (show ¬ gI S2 0 12 = 0 by rw [f2]; decide), show (0 : Int32) = nI 0 from rfl, aI_at (S := S2) (a := 11) (by omega) (by omega), pm.2.2.1, Option.bind_some, h1, Option.bind_some]
      rcases h2 with rfl | rfl
      · rw [if_pos (show (0 : Int32) = nI 0 from rfl)]
        rfl
      · rw [if_neg (by decide)]
  have hP60 := pc.2.1
  rcases i_or x with hx | ⟨n, n1, rfl⟩
  · refine bad ?_ (isS 0 (in_neg hx) (Or.inl rfl) (fun _ => rfl))
    unfold m_Pg_spelledByte
    rw [if_pos hx]
  by_cases qn : P.length ≤ n
  · have e := in_m1 (g := g) (n := n) (m := P.length) n1 (by omega)
    refine bad ?_ (isS 0 (by rw [e]; exact congrArg some (if_neg (by omega))) (Or.inl rfl) (fun _ => rfl))
    unfold m_Pg_spelledByte
    rw [if_neg (nI_pos n1), pc.2.2.2.1, if_pos (nI_le qn n1)]
  have qn' : n < P.length := by omega
  obtain ⟨⟨s, ws⟩, hi⟩ : ∃ z, P[n]? = some z := ⟨P[n], List.getElem?_eq_getElem qn'⟩
  obtain ⟨hs, hw, -⟩ := pk n s ws hi
  have h9 : ws.length ≤ 9 := by have := byT9 s hs; have := hw.2.1; omega
  have hsum := sp_sum (i := n) (s := s) (ws := ws) pk sp hi
  have hwd : wdK lits ws := fun w hw2 => pk.lit n s ws hi w hw2
  have hln := lnS_len (lits := lits) (ws := ws)
  have h7 := nm_len s hs
  have hst : m_isStep g S2 (nI n) = some 1 := by
    have e := in_m1 (g := g) (n := n) (m := P.length) n1 (by omega)
    refine isS 1 (by rw [e]; exact congrArg some (if_pos qn')) (Or.inr rfl) (fun z => ?_)
    rw [z] at qn'
    simp at qn'
  -- the reference lays the line
  have h0 : LayI (sI S2 0 67 0) [] := ⟨sI_g, fun i hi => by simp at hi⟩
  have f0 : FLy S2 (sI S2 0 67 0) := FLy.sI (by omega)
  have a6 : aI (sI S2 0 67 0) 6 (nI n) = some (nI s) := by
    obtain ⟨-, y2, -⟩ := pm.2.2.2 n s ws hi
    rw [show 60 * 0 + n = n by omega] at y2
    rw [aI_at (by show n < gN S2 6; omega) (by show gN S2 6 < _; omega)]
    exact congrArg some y2
  obtain ⟨T1, b1, b2, b3⟩ := M_nameL (g := g) (S2 := sI S2 0 67 0) hs hg h0 (hm.ly f0) (tb.z (FZm.ly f0))
  have f1 := f0.tr b2
  obtain ⟨T, c1, c2, c3⟩ := M_27 (g := g) (lits := lits) (x2 := y) hg hi hwd ws.length g 0 T1 _ (by omega) (by omega) (pm.z (FZm.ly f1)) (hm.ly f1) (lm.z (FZm.ly f1)) b3 (by rw [List.drop_zero]; omega)
  rw [List.drop_zero] at c3
  have fT := f1.tr c2
  have eM : m_spelled g S2 (nI n) y = ((m_isIn g y.toInt64 0 ((gI T 0 67 - 1).toInt64)).bind fun v_6 => if v_6 = 0 then some (T, (-1 : Int32)) else (aI T 40 y).bind fun v_7 => some (T, v_7)) := by
    unfold m_spelled
    rw [hst, Option.bind_some, if_neg (by decide), lt_d, a6, Option.bind_some, b1, Option.bind_some]
    exact c1
  have h40 : gN T 40 = 6500 := LMn (hm.ly fT) 40
  have eC2 : m_Pg_spelledByte g S p (nI n) y = (if 0 ≤ y then lt (sI S p 13 y) fun S_1 => lt (sI S_1 p 14 (-1 : Int32)) fun S_2 => (m_Pg_sortOf g S_2 p (nI n)).bind fun e_4 => m_Pg_spelledByte_40 g g S_2 p (nI n) (spT.getD e_4 0) (0 : Int32) else some (S, (-1 : Int32))) := by
    unfold m_Pg_spelledByte
    rw [if_neg (nI_pos n1), pc.2.2.2.1, if_neg (nI_ge qn' (by omega))]
  obtain ⟨dl, dov, wd⟩ := rw (8 + 3 * p + 2) (by omega) (by omega)
  rcases i_or y with hy | ⟨m, m1, rfl⟩
  · have ny : ¬ (0 : Int32) ≤ y := fun z => by
      rw [Int32.le_iff_toInt_le] at z
      rw [Int32.lt_iff_toInt_lt] at hy
      omega
    rw [if_neg ny] at eC2
    rw [in_neg hy, Option.bind_some, if_pos rfl] at eM
    exact ⟨S, T, -1, by rw [eC, eC2, Option.bind_some]; rfl, eM, R_spl r Fsy.rf ⟨dl, dov, wd⟩ fT⟩
  · rw [if_pos (nI_pos' m1), lt_d, lt_d] at eC2
    have g1 : Fsa p S (sI (sI S p 13 (nI m)) p 14 (-1 : Int32)) := (Fi.sI (Or.inl rfl)).tr (Fi.sI (Or.inr rfl))
    have s0 : SayI (sI (sI S p 13 (nI m)) p 14 (-1 : Int32)) p m [] := ⟨by rw [gI_ne (by omega), sI_g, nI_toInt m1]; simp, by rw [sI_g]; rfl⟩
    have fs1 := Fsy.fi g1
    have pc1 := pc.z (FZc.sy fs1 hp)
    have so := sOf (g := g) pc1 (hl.sy fs1 hp) hi hs
    rw [so, Option.bind_some] at eC2
    obtain ⟨S3, d1, d2, d3⟩ := C_name40 (g := g) (k := n) (s := s) hs (nmL s).length g 0 _ [] (by omega) (by omega) s0 (by simp; omega)
    rw [List.nil_append, List.drop_zero] at d3
    have fs3 := fs1.tr (Fsy.fi d2)
    obtain ⟨G, hG⟩ : ∃ G, g - (nmL s).length = G + 1 := ⟨g - (nmL s).length - 1, by omega⟩
    rw [hG] at d1
    have pc3 := pc.z (FZc.sy fs3 hp)
    have l3 := hl.sy fs3 hp
    have l1 := (LCp l3 hp).2.1
    have hL : (byT.getD (spT.getD s 0) []).length = (nmL s).length := by unfold nmL; rw [List.length_map]
    have e73 : m_Pg_spelledByte_40 g (G + 1) S3 p (nI n) (spT.getD s 0) (nI (nmL s).length) = m_Pg_spelledByte_73 g g S3 p (nI n) (nI (fsP P n)) := by
      show b_Pg_spelledByte_40 g (m_Pg_spelledByte_40 g G) S3 p (nI n) (spT.getD s 0) (nI (nmL s).length) = _
      unfold b_Pg_spelledByte_40
      rw [show sLen (spT.getD s 0) = nI (nmL s).length from by unfold sLen; rw [hL], if_pos (nI_le (Nat.le_refl _) (by omega)), aI_at (by omega) (by omega), pc3.2.2.2.2.1 n (by omega), Option.bind_some]
    obtain ⟨S', e1, e2, e3, e4⟩ := C_73 (g := g) (x := m) (lits := lits) hg hi hwd lm.2.1 lm.2.2.1 (by omega) ws.length g 0 S3 _ (by omega) (by omega) pc3 l3 (hk.sy fs3) ⟨lc.1.sy fs3 hp (by omega), lc.2.sy fs3 hp (by omega)⟩ ⟨dl, dov, (wd.fi g1 (by omega)).fi d2 (by omega)⟩ d3 (by rw [List.drop_zero]; omega)
    rw [List.drop_zero] at e3
    rw [Nat.add_zero] at e1
    have d1 : m_Pg_spelledByte_40 g g (sI (sI S p 13 (nI m)) p 14 (-1 : Int32)) p (nI n) (spT.getD s 0) (0 : Int32) = _ := d1
    rw [d1, e73, e1] at eC2
    have rel := R_spl r (fs3.tr e2) e4 fT
    refine ⟨S', T, gI S' p 14, by rw [eC, eC2, Option.bind_some]; rfl, ?_, rel⟩
    rw [eM, c3.1, in_m1 m1 (by rw [List.length_append]; omega), Option.bind_some, e3.2]
    by_cases qm : m < (nmL s ++ lnS lits ws).length
    · rw [c0t qm, aI_at (by rw [List.length_append] at qm; omega) (by omega), Option.bind_some, c3.2 m qm, getD_lt qm]
    · rw [c0f qm, List.getD_eq_getElem?_getD, List.getElem?_eq_none (by omega)]
      rfl
end FIW
/-- what both sides hold at any call -/
def RelA (_ : Nat) (S S2 : St) : Prop := ∃ tp p d P lits, RelD S S2 tp p d P lits
theorem both_all {g N : Nat} {SM : St} (hg : 100000 ≤ g) (h0 : RelD SC0 SM [] 1 2 [] []) : Both g N SM RelA := by
  refine ⟨⟨_, _, _, _, _, h0⟩, fun n S S2 ⟨tp, p, d, P, lits, r⟩ => c_kap r, ?_, ?_, ?_, ?_, ?_, ?_, ?_, ?_, ?_, ?_, ?_, ?_, ?_, ?_, ?_, ?_, ?_, ?_, ?_, ?_, ?_, ?_, ?_, fun n S S2 _ r => r⟩
  · intro n S S2 _ ⟨tp, p, d, P, lits, r⟩ x1 x2 x3 x4 x5
    obtain ⟨S', S2', z, tp', a1, a2, a3, a4, a5⟩ := c_feed (g := g) hg r.2.1 r.1.2.2.2.1 r.1.2.2.2.2.2.1 x1 x2 x3 x4 x5
    exact ⟨S', S2', z, a1, a2, _, _, _, _, _, R_tape r a3 a4 a5⟩
  · intro n S S2 _ ⟨tp, p, d, P, lits, r⟩ x1
    obtain ⟨S', S2', z, tp', a1, a2, a3, a4, a5⟩ := c_cut (g := g) r.2.1 x1
    exact ⟨S', S2', z, a1, a2, _, _, _, _, _, R_tape r a3 a4 a5⟩
  · intro n S S2 _ ⟨tp, p, d, P, lits, r⟩
    obtain ⟨S', S2', z, p', d', P', lits', a1, a2, a3⟩ := c_compile (g := g) hg r
    exact ⟨S', S2', z, a1, a2, _, _, _, _, _, a3⟩
  · intro n S S2 _ ⟨tp, p, d, P, lits, r⟩
    obtain ⟨S', S2', z, a1, a2, a3⟩ := c_run (g := g) hg r
    exact ⟨S', S2', z, a1, a2, _, _, _, _, _, a3⟩
  · intro n S S2 _ ⟨tp, p, d, P, lits, r⟩ x1
    obtain ⟨z, a1, a2⟩ := q_ended (g := g) r.2.2.1 x1
    exact ⟨z, a1, a2, _, _, _, _, _, r⟩
  · intro n S S2 _ ⟨tp, p, d, P, lits, r⟩ x1
    obtain ⟨z, a1, a2⟩ := q_done (g := g) r.2.2.1 x1
    exact ⟨z, a1, a2, _, _, _, _, _, r⟩
  · intro n S S2 _ ⟨tp, p, d, P, lits, r⟩ x1 x2
    obtain ⟨z, a1, a2⟩ := c_step (g := g) r x1 x2
    exact ⟨z, a1, a2, _, _, _, _, _, r⟩
  · intro n S S2 _ ⟨tp, p, d, P, lits, r⟩ x1 x2
    obtain ⟨S', S2', z, a1, a2, a3⟩ := c_spelled (g := g) hg r x1 x2
    exact ⟨S', S2', z, a1, a2, _, _, _, _, _, a3⟩
  · intro n S S2 _ ⟨tp, p, d, P, lits, r⟩
    obtain ⟨S', S2', z, P', a1, a2, a3⟩ := c_shrink (g := g) hg r
    exact ⟨S', S2', z, a1, a2, _, _, _, _, _, a3⟩
  · intro n S S2 _ ⟨tp, p, d, P, lits, r⟩ x1
    obtain ⟨z, a1, a2⟩ := q_length (g := g) r.2.2.1.1 x1
    exact ⟨z, a1, a2, _, _, _, _, _, r⟩
  · intro n S S2 _ ⟨tp, p, d, P, lits, r⟩ x1 x2
    obtain ⟨z, a1, a2⟩ := q_unit (g := g) r.2.2.1.1 x1 x2
    exact ⟨z, a1, a2, _, _, _, _, _, r⟩
  · intro n S S2 _ ⟨tp, p, d, P, lits, r⟩ x1
    obtain ⟨z, a1, a2⟩ := q_hash (g := g) hg r.2.2.1.1 x1
    exact ⟨z, a1, a2, _, _, _, _, _, r⟩
  · intro n S S2 _ ⟨tp, p, d, P, lits, r⟩ x1 x2
    obtain ⟨z, a1, a2⟩ := q_same (g := g) r.2.2.1.1 x1 x2
    exact ⟨z, a1, a2, _, _, _, _, _, r⟩
  · intro n S S2 _ ⟨tp, p, d, P, lits, r⟩ x1
    obtain ⟨z, a1, a2⟩ := q_pooled (g := g) hg r.2.2.1.1 x1
    exact ⟨z, a1, a2, _, _, _, _, _, r⟩
  · intro n S S2 _ ⟨tp, p, d, P, lits, r⟩
    obtain ⟨z, a1, a2⟩ := q_pool (g := g) r.2.2.1.1
    exact ⟨z, a1, a2, _, _, _, _, _, r⟩
  · intro n S S2 _ ⟨tp, p, d, P, lits, r⟩ x1
    obtain ⟨z, a1, a2⟩ := q_whole (g := g) r.2.2.1.1 x1
    exact ⟨z, a1, a2, _, _, _, _, _, r⟩
  · intro n S S2 _ ⟨tp, p, d, P, lits, r⟩ x1 x2
    obtain ⟨z, a1, a2⟩ := q_builder (g := g) r.2.2.1.1 x1 x2
    exact ⟨z, a1, a2, _, _, _, _, _, r⟩
  · intro n S S2 _ ⟨tp, p, d, P, lits, r⟩ x1 x2
    obtain ⟨z, a1, a2⟩ := q_builderUnit (g := g) r.2.2.1.1 x1 x2
    exact ⟨z, a1, a2, _, _, _, _, _, r⟩
  · intro n S S2 _ ⟨tp, p, d, P, lits, r⟩
    obtain ⟨z, a1, a2⟩ := q_parts (g := g) r.2.2.1.1
    exact ⟨z, a1, a2, _, _, _, _, _, r⟩
  · intro n S S2 _ ⟨tp, p, d, P, lits, r⟩ x1 x2
    obtain ⟨z, a1, a2⟩ := q_partUnit (g := g) r.2.2.1.1 x1 x2
    exact ⟨z, a1, a2, _, _, _, _, _, r⟩
  · intro n S S2 _ ⟨tp, p, d, P, lits, r⟩ x1
    obtain ⟨z, a1, a2⟩ := q_partOf (g := g) hg r.2.2.1.1 x1
    exact ⟨z, a1, a2, _, _, _, _, _, r⟩
  · intro n S S2 _ ⟨tp, p, d, P, lits, r⟩
    obtain ⟨z, a1, a2⟩ := q_marks (g := g) r.2.2.1.1
    exact ⟨z, a1, a2, _, _, _, _, _, r⟩
  · intro n S S2 _ ⟨tp, p, d, P, lits, r⟩ x1
    obtain ⟨z, a1, a2⟩ := q_mark (g := g) r.2.2.1.1 x1
    exact ⟨z, a1, a2, _, _, _, _, _, r⟩
