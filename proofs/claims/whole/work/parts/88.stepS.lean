/-! what an X gives, on both sides -/
theorem nI_div {a b : Nat} (ha : a < 2 ^ 31) (hb : 0 < b) (hb2 : b < 2 ^ 31) : nI a / nI b = nI (a / b) := by
  have hd := Nat.div_le_self a b
  apply Int32.toInt_inj.mp
  rw [Int32.toInt_div, nI_toInt ha, nI_toInt hb2, nI_toInt (by omega)]
  rw [show ((a : Nat) : Int).tdiv (b : Int) = ((a / b : Nat) : Int) from rfl]
  generalize a / b = d at hd ⊢
  exact Int.bmod_eq_of_le (by omega) (by omega)
theorem isPoint_s {g : Nat} {x : Int64} : m_Lt_isPoint g x = some (c01 (0 ≤ x.toInt ∧ x.toInt ≤ 1114111)) := by
  unfold m_Lt_isPoint
  by_cases h1 : x < 0
  · rw [if_pos h1, c01_f]
    rw [Int64.lt_iff_toInt_lt, z64] at h1
    omega
  · rw [if_neg h1]
    rw [Int64.lt_iff_toInt_lt, z64] at h1
    by_cases h2 : (1114111 : Int64) < x
    · rw [if_pos h2, c01_f]
      rw [Int64.lt_iff_toInt_lt, show (1114111 : Int64).toInt = 1114111 from by decide +kernel] at h2
      omega
    · rw [if_neg h2, c01_t]
      rw [Int64.lt_iff_toInt_lt, show (1114111 : Int64).toInt = 1114111 from by decide +kernel] at h2
      omega
theorem usL_2 {x y : Int32} (hx : isU x) (hy : isU y) : usL [x, y] := usL_1 (v := [x]) (usL_1 (v := []) usL_nil hx) hy
theorem pt_us {n : Nat} (h : n ≤ 1114111) : usL (ptU (nI n)) ∧ (ptU (nI n)).length ≤ 2 := by
  unfold ptU
  by_cases h1 : 65535 < n
  · rw [if_pos (show (65535 : Int32) < nI n from nI_lt (a := 65535) h1 (by omega))]
    refine ⟨usL_2 ⟨55296 + (n - 65536) / 1024, by omega, ?_⟩ ⟨56320 + ((n - 65536) - (n - 65536) / 1024 * 1024), by omega, ?_⟩, by simp⟩
    · rw [show (55296 : Int32) = nI 55296 from rfl, show (65536 : Int32) = nI 65536 from rfl, show (1024 : Int32) = nI 1024 from rfl, nI_sub (by omega), nI_div (by omega) (by omega) (by omega), nI_add]
    · rw [show (56320 : Int32) = nI 56320 from rfl, show (65536 : Int32) = nI 65536 from rfl, show (1024 : Int32) = nI 1024 from rfl, nI_sub (by omega), nI_div (by omega) (by omega) (by omega), nI_mulE, nI_sub (by omega), nI_add]
  · rw [if_neg (show ¬ (65535 : Int32) < nI n from nI_nlt (a := 65535) (by omega) (by omega))]
    exact ⟨usL_1 (v := []) usL_nil ⟨n, by omega, rfl⟩, by simp⟩
theorem num_us {x : Int64} {b : Nat} (hb : 2 ≤ b) (hb2 : b ≤ 36) : usL (numU x b) ∧ (numU x b).length ≤ 65 := by
  have key : ∀ l : List Int32, (∀ y ∈ l, isU y) → usL l := by
    intro l h i hi
    rw [List.getD_eq_getElem?_getD, List.getElem?_eq_getElem hi]
    exact h _ (List.getElem_mem hi)
  unfold numU
  constructor
  · apply key
    intro y hy
    rcases List.mem_append.mp hy with hy | hy
    · split at hy
      · rw [List.mem_singleton] at hy
        exact ⟨45, by omega, hy⟩
      · exact absurd hy (by simp)
    · rw [List.mem_reverse, List.mem_map] at hy
      obtain ⟨d, d1, d2⟩ := hy
      have hd := dgL_lt hb _ _ d d1
      rw [← d2]
      unfold dch
      by_cases h : 10 ≤ d
      · rw [if_pos h]
        exact ⟨97 + d - 10, by omega, by rw [show (97 : Int32) = nI 97 from rfl, show (10 : Int32) = nI 10 from rfl, nI_add, nI_sub (by omega)]⟩
      · rw [if_neg h]
        exact ⟨48 + d, by omega, by rw [show (48 : Int32) = nI 48 from rfl, nI_add]⟩
  · have := dgL_len (b := b) 64 x.toInt.natAbs
    rw [List.length_append, List.length_reverse, List.length_map]
    split
    · simp; omega
    · simp; omega
section OPT
variable {g : Nat} {S S2 : St} {v : List Int32} {x : Int64}
theorem O_point (hm : LM S2) (o : Out S2 v) (h0 : gI S2 0 58 = 0) (hin : 0 ≤ x.toInt ∧ x.toInt ≤ 1114111) (hv : v.length + 2 < 2 ^ 31) : ∃ S', m_emitPoint g S2 x = some S' ∧ FE S2 S' ∧ Out S' (v ++ ptU x.toInt32) := by
  obtain ⟨n, hn⟩ : ∃ n : Nat, x.toInt = (n : Int) := ⟨x.toInt.toNat, by omega⟩
  have e : m_emitPoint g S2 x = m_emitPoint_17 g S2 x 0 := by
    unfold m_emitPoint
    rw [isIn_s, Option.bind_some, z64, show (1114111 : Int64).toInt = 1114111 from by decide +kernel, c01_t hin, if_neg (by decide)]
  unfold m_emitPoint_17 at e
  rw [M_ref0, Option.bind_some, if_pos h0, lt_d, j32 hn (by omega)] at e
  rw [j32 hn (by omega)]
  unfold ptU
  by_cases h1 : 65536 ≤ n
  · rw [if_pos (show (65536 : Int32) ≤ nI n from nI_le (a := 65536) h1 (by omega))] at e
    rw [if_pos (show (65535 : Int32) < nI n from nI_lt (a := 65535) (by omega) (by omega))]
    obtain ⟨T1, a1, a2, a3⟩ := O_add (g := g) (u := (55296 : Int32) + ((nI n - (65536 : Int32)) / (1024 : Int32))) o hm (by omega)
    obtain ⟨T2, b1, b2, b3⟩ := O_add (g := g) (u := (56320 : Int32) + ((nI n - (65536 : Int32)) - (nI n - (65536 : Int32)) / (1024 : Int32) * (1024 : Int32))) a3 (hm.fe a2) (by rw [List.length_append, List.length_singleton]; omega)
    rw [a1, Option.bind_some, b1, Option.bind_some] at e
    rw [List.append_assoc] at b3
    exact ⟨T2, e, a2.tr b2, b3⟩
  · rw [if_neg (show ¬ (65536 : Int32) ≤ nI n from nI_ge (b := 65536) (by omega) (by omega))] at e
    rw [if_neg (show ¬ (65535 : Int32) < nI n from nI_nlt (a := 65535) (by omega) (by omega))]
    obtain ⟨T1, a1, a2, a3⟩ := O_add (g := g) (u := nI n) o hm (by omega)
    rw [a1, Option.bind_some] at e
    exact ⟨T1, e, a2, a3⟩
theorem O_pointR (h0 : gI S2 0 58 = 0) (hin : ¬ (0 ≤ x.toInt ∧ x.toInt ≤ 1114111)) : m_emitPoint g S2 x = some (sI S2 0 58 3) := by
  unfold m_emitPoint m_emitPoint_17
  rw [isIn_s, Option.bind_some, z64, show (1114111 : Int64).toInt = 1114111 from by decide +kernel, c01_f hin, if_pos rfl, M_ref1 h0, Option.bind_some, if_neg (by rw [sI_58]; decide)]
theorem O_pointN (h0 : ¬ gI S2 0 58 = 0) : m_emitPoint g S2 x = some S2 := by
  unfold m_emitPoint m_emitPoint_17
  rw [isIn_s, Option.bind_some, M_ref0, M_ref1n h0, Option.bind_some, if_neg h0]
  exact ifo rfl rfl
def truU (b : Int32) : List Int32 := if b = 0 then [102, 97, 108, 115, 101] else [116, 114, 117, 101]
theorem O_truth {b : Int32} (hm : LM S2) (o : Out S2 v) (hv : v.length + 10 < 2 ^ 31) : ∃ T, m_emitTruth g S2 b = some T ∧ FE S2 T ∧ Out T (v ++ truU b) := by
  unfold truU
  by_cases hb : b = 0
  · subst hb
    obtain ⟨T1, a1, a2, a3⟩ := O_add (g := g) (u := 102) o hm (by omega)
    obtain ⟨T2, b1, b2, b3⟩ := O_add (g := g) (u := 97) a3 (hm.fe a2) (by simp; omega)
    obtain ⟨T3, c1, c2, c3⟩ := O_add (g := g) (u := 108) b3 ((hm.fe a2).fe b2) (by simp; omega)
    obtain ⟨T4, d1, d2, d3⟩ := O_add (g := g) (u := 115) c3 (((hm.fe a2).fe b2).fe c2) (by simp; omega)
    obtain ⟨T5, f1, f2, f3⟩ := O_add (g := g) (u := 101) d3 ((((hm.fe a2).fe b2).fe c2).fe d2) (by simp; omega)
    refine ⟨T5, ?_, (((a2.tr b2).tr c2).tr d2).tr f2, ?_⟩
    · unfold m_emitTruth m_emitTruth_12 m_emitTruth_27 m_emitTruth_42 m_emitTruth_57
      rw [if_pos rfl, a1, Option.bind_some, if_pos rfl, b1, Option.bind_some, if_pos rfl, c1, Option.bind_some, if_pos rfl, d1, Option.bind_some, if_pos rfl, f1]
      rfl
    · rw [if_pos rfl]
      simpa using f3
  · obtain ⟨T1, a1, a2, a3⟩ := O_add (g := g) (u := 116) o hm (by omega)
    obtain ⟨T2, b1, b2, b3⟩ := O_add (g := g) (u := 114) a3 (hm.fe a2) (by simp; omega)
    obtain ⟨T3, c1, c2, c3⟩ := O_add (g := g) (u := 117) b3 ((hm.fe a2).fe b2) (by simp; omega)
    obtain ⟨T4, d1, d2, d3⟩ := O_add (g := g) (u := 101) c3 (((hm.fe a2).fe b2).fe c2) (by simp; omega)
    refine ⟨T4, ?_, ((a2.tr b2).tr c2).tr d2, ?_⟩
    · unfold m_emitTruth m_emitTruth_12 m_emitTruth_27 m_emitTruth_42 m_emitTruth_57
      rw [if_neg hb, a1, Option.bind_some, if_neg hb, b1, Option.bind_some, if_neg hb, c1, Option.bind_some, if_neg hb, d1, Option.bind_some, if_neg hb]
    · rw [if_neg hb]
      simpa using d3
theorem O_null (hm : LM S2) (o : Out S2 v) (hv : v.length + 10 < 2 ^ 31) : ∃ T1 T2 T3 T, m_emit g S2 110 = some T1 ∧ m_emit g T1 117 = some T2 ∧ m_emit g T2 108 = some T3 ∧ m_emit g T3 108 = some T ∧ FE S2 T ∧ Out T (v ++ [110, 117, 108, 108]) := by
  obtain ⟨T1, a1, a2, a3⟩ := O_add (g := g) (u := 110) o hm (by omega)
  obtain ⟨T2, b1, b2, b3⟩ := O_add (g := g) (u := 117) a3 (hm.fe a2) (by simp; omega)
  obtain ⟨T3, c1, c2, c3⟩ := O_add (g := g) (u := 108) b3 ((hm.fe a2).fe b2) (by simp; omega)
  obtain ⟨T4, d1, d2, d3⟩ := O_add (g := g) (u := 108) c3 (((hm.fe a2).fe b2).fe c2) (by simp; omega)
  exact ⟨T1, T2, T3, T4, a1, b1, c1, d1, ((a2.tr b2).tr c2).tr d2, by simpa using d3⟩
theorem BQ.fe {b : Nat} {lb : List Int32} {S' : St} (q : BQ S2 b lb) (h : FE S2 S') : BQ S' b lb := by
  obtain ⟨q1, q2, q3⟩ := q
  exact ⟨(h.2.2.2.2.1 28 (by decide) (by decide) b).trans q1, q2, fun i hi => (h.2.2.2.2.1 30 (by decide) (by decide) _).trans (q3 i hi)⟩
theorem O_bldX {b : Nat} {lb : List Int32} (hb : b < 6) : ∀ (k n i : Nat) (S2 : St) (v : List Int32), i + k = lb.length → k < n → LM S2 → BQ S2 b lb → Out S2 v → v.length + k < 2 ^ 31 → ∃ S', m_emitX_141 g n S2 (nI b) (nI i) = some S' ∧ FE S2 S' ∧ Out S' (v ++ seg lb i k) := by
  intro k
  induction k with
  | zero =>
    intro n i S2 v hi hn hm q o hv
    obtain ⟨n, rfl⟩ : ∃ m, n = m + 1 := ⟨n - 1, by omega⟩
    refine ⟨S2, ?_, FE.rf, by rw [seg_0, List.append_nil]; exact o⟩
    show b_emitX_141 g (m_emitX_141 g n) S2 (nI b) (nI i) = _
    unfold b_emitX_141
    have := q.2.1
    rw [q.sz hm hb, Option.bind_some, if_pos (nI_le (by omega) (by omega))]
  | succ k ih =>
    intro n i S2 v hi hn hm q o hv
    obtain ⟨n, rfl⟩ : ∃ m, n = m + 1 := ⟨n - 1, by omega⟩
    obtain ⟨T1, a1, a2, a3⟩ := O_add (g := g) (u := lb.getD i 0) o hm (by omega)
    obtain ⟨S', c1, c2, c3⟩ := ih n (i + 1) T1 _ (by omega) (by omega) (hm.fe a2) (q.fe a2) a3 (by rw [List.length_append, List.length_singleton]; omega)
    refine ⟨S', ?_, a2.tr c2, ?_⟩
    · show b_emitX_141 g (m_emitX_141 g n) S2 (nI b) (nI i) = _
      unfold b_emitX_141
      have := q.2.1
      rw [q.sz hm hb, Option.bind_some, if_neg (nI_ge (by omega) (by omega)), q.un hm hb (by omega), Option.bind_some, a1, Option.bind_some, lt_d, nI_1, c1]
    · rw [seg_cons (by omega)]
      rw [List.append_assoc] at c3
      exact c3
theorem O_bldE {b : Nat} {lb : List Int32} (hb : b < 6) : ∀ (k n i : Nat) (S2 : St) (v : List Int32), i + k = lb.length → k < n → LM S2 → BQ S2 b lb → Out S2 v → v.length + k < 2 ^ 31 → ∃ S', m_emitBuilder_3 g n S2 (nI b) (nI lb.length) (nI i) = some S' ∧ FE S2 S' ∧ Out S' (v ++ seg lb i k) := by
  intro k
  induction k with
  | zero =>
    intro n i S2 v hi hn hm q o hv
    obtain ⟨n, rfl⟩ : ∃ m, n = m + 1 := ⟨n - 1, by omega⟩
    refine ⟨S2, ?_, FE.rf, by rw [seg_0, List.append_nil]; exact o⟩
    show b_emitBuilder_3 g (m_emitBuilder_3 g n) S2 (nI b) _ (nI i) = _
    unfold b_emitBuilder_3
    have := q.2.1
    rw [if_pos (nI_le (by omega) (by omega))]
  | succ k ih =>
    intro n i S2 v hi hn hm q o hv
    obtain ⟨n, rfl⟩ : ∃ m, n = m + 1 := ⟨n - 1, by omega⟩
    obtain ⟨T1, a1, a2, a3⟩ := O_add (g := g) (u := lb.getD i 0) o hm (by omega)
    obtain ⟨S', c1, c2, c3⟩ := ih n (i + 1) T1 _ (by omega) (by omega) (hm.fe a2) (q.fe a2) a3 (by rw [List.length_append, List.length_singleton]; omega)
    refine ⟨S', ?_, a2.tr c2, ?_⟩
    · show b_emitBuilder_3 g (m_emitBuilder_3 g n) S2 (nI b) _ (nI i) = _
      unfold b_emitBuilder_3
      have := q.2.1
      rw [if_neg (nI_ge (by omega) (by omega)), q.un hm hb (by omega), Option.bind_some, a1, Option.bind_some, lt_d, nI_1, c1]
    · rw [seg_cons (by omega)]
      rw [List.append_assoc] at c3
      exact c3
theorem eX_1 {x : Int32} (e : aI S2 8 x = some (nI 1)) : m_emitX g S2 x = m_emitX_88 g S2 x := by
  unfold m_emitX m_emitX_46
  rw [e, Option.bind_some, if_neg (show ¬ nI 1 = (0 : Int32) by decide), if_neg (show ¬ nI 1 = (0 : Int32) by decide), if_neg (show ¬ nI 1 = (3 : Int32) by decide), if_pos (show nI 1 = (1 : Int32) from rfl)]
theorem eX_2 {x : Int32} (e : aI S2 8 x = some (nI 2)) : m_emitX g S2 x = ((aJ S2 10 x).bind fun v_3 => m_emitX_141 g g S2 v_3.toInt32 0) := by
  unfold m_emitX m_emitX_46
  rw [e, Option.bind_some, if_neg (show ¬ nI 2 = (0 : Int32) by decide), if_neg (show ¬ nI 2 = (0 : Int32) by decide), if_neg (show ¬ nI 2 = (3 : Int32) by decide), if_neg (show ¬ nI 2 = (1 : Int32) by decide), if_neg (show ¬ nI 2 = (4 : Int32) by decide), if_neg (show ¬ nI 2 = (5 : Int32) by decide), if_neg (show ¬ nI 2 = (6 : Int32) by decide), if_pos (show nI 2 = (2 : Int32) from rfl)]
  rfl
theorem eX_3 {x : Int32} (e : aI S2 8 x = some (nI 3)) : m_emitX g S2 x = m_emitX_55 g S2 x := by
  unfold m_emitX m_emitX_46
  rw [e, Option.bind_some, if_neg (show ¬ nI 3 = (0 : Int32) by decide), if_neg (show ¬ nI 3 = (0 : Int32) by decide), if_pos (show nI 3 = (3 : Int32) from rfl)]
theorem eX_4 {x : Int32} (e : aI S2 8 x = some (nI 4)) : m_emitX g S2 x = m_emitX_88 g S2 x := by
  unfold m_emitX m_emitX_46
  rw [e, Option.bind_some, if_neg (show ¬ nI 4 = (0 : Int32) by decide), if_neg (show ¬ nI 4 = (0 : Int32) by decide), if_neg (show ¬ nI 4 = (3 : Int32) by decide), if_neg (show ¬ nI 4 = (1 : Int32) by decide), if_pos (show nI 4 = (4 : Int32) from rfl)]
theorem eX_5 {x : Int32} (e : aI S2 8 x = some (nI 5)) : m_emitX g S2 x = m_emitX_113 g S2 x := by
  unfold m_emitX m_emitX_46
  rw [e, Option.bind_some, if_neg (show ¬ nI 5 = (0 : Int32) by decide), if_neg (show ¬ nI 5 = (0 : Int32) by decide), if_neg (show ¬ nI 5 = (3 : Int32) by decide), if_neg (show ¬ nI 5 = (1 : Int32) by decide), if_neg (show ¬ nI 5 = (4 : Int32) by decide), if_pos (show nI 5 = (5 : Int32) from rfl)]
theorem eX_6 {x : Int32} (e : aI S2 8 x = some (nI 6)) : m_emitX g S2 x = m_emitX_113 g S2 x := by
  unfold m_emitX m_emitX_46
  rw [e, Option.bind_some, if_neg (show ¬ nI 6 = (0 : Int32) by decide), if_neg (show ¬ nI 6 = (0 : Int32) by decide), if_neg (show ¬ nI 6 = (3 : Int32) by decide), if_neg (show ¬ nI 6 = (1 : Int32) by decide), if_neg (show ¬ nI 6 = (4 : Int32) by decide), if_neg (show ¬ nI 6 = (5 : Int32) by decide), if_pos (show nI 6 = (6 : Int32) from rfl)]
theorem eX_7 {x : Int32} (e : aI S2 8 x = some (nI 7)) : m_emitX g S2 x = ((m_value g S2 x).bind fun v_2 => if v_2 = (0 : Int64) then m_emitX_194 g S2 0 else m_emitX_194 g S2 1) := by
  unfold m_emitX m_emitX_46
  rw [e, Option.bind_some, if_neg (show ¬ nI 7 = (0 : Int32) by decide), if_neg (show ¬ nI 7 = (0 : Int32) by decide), if_neg (show ¬ nI 7 = (3 : Int32) by decide), if_neg (show ¬ nI 7 = (1 : Int32) by decide), if_neg (show ¬ nI 7 = (4 : Int32) by decide), if_neg (show ¬ nI 7 = (5 : Int32) by decide), if_neg (show ¬ nI 7 = (6 : Int32) by decide), if_neg (show ¬ nI 7 = (2 : Int32) by decide)]
theorem eX_8 {x : Int32} (e : aI S2 8 x = some (nI 8)) : m_emitX g S2 x = ((m_value g S2 x).bind fun v_2 => if v_2 = (0 : Int64) then m_emitX_194 g S2 0 else m_emitX_194 g S2 1) := by
  unfold m_emitX m_emitX_46
  rw [e, Option.bind_some, if_neg (show ¬ nI 8 = (0 : Int32) by decide), if_neg (show ¬ nI 8 = (0 : Int32) by decide), if_neg (show ¬ nI 8 = (3 : Int32) by decide), if_neg (show ¬ nI 8 = (1 : Int32) by decide), if_neg (show ¬ nI 8 = (4 : Int32) by decide), if_neg (show ¬ nI 8 = (5 : Int32) by decide), if_neg (show ¬ nI 8 = (6 : Int32) by decide), if_neg (show ¬ nI 8 = (2 : Int32) by decide)]
end OPT
theorem B_textE {g j : Nat} {S : St} {ws : List Wd} {w : Wd} (c : CurC S ws) (hl : LC S) (hw : ws[j]? = some w) (hk : w.1 ≠ 3) (h10 : w.1 < 10) : ∃ v, m_Bn_textAt g S (nI j) = some v := by
  have h74 : gN S 74 = 20 := hl 74 (by decide)
  have key : ∀ k, k < 10 → k ≠ 3 → ¬ nI (ckW k) = 34 := by decide +kernel
  unfold m_Bn_textAt
  rw [B_val c hl hw, Option.bind_some, lt_d, B_kind c hl hw, Option.bind_some, if_neg (key _ h10 hk)]
  unfold m_Bn_textOf
  by_cases h1 : w.2.1.toInt32 < 0
  · rw [if_pos h1]
    exact ⟨_, rfl⟩
  · rw [if_neg h1]
    by_cases h2 : w.2.1.toInt32 < 20
    · rw [if_pos h2]
      obtain ⟨m, m1, m2⟩ := nI_of h1
      rw [m2] at h2
      have := (nI_ltI (b := 20) m1 (by omega)).mp h2
      rw [m2, aI_at (by omega) (by omega)]
      exact ⟨_, rfl⟩
    · rw [if_neg h2]
      exact ⟨_, rfl⟩
theorem St46 : StOK 46 := by
  intro g U k S S2 ws a hg hk hR c cm hW h0
  obtain ⟨φ, cs, ts, u, pl, pm, ps, qs, r, bd⟩ := hR
  obtain ⟨q1, q2, q3⟩ := hW
  have q1 : 3 ≤ ws.length := q1
  have q2 : ws.length ≤ 3 := q2
  obtain ⟨w0, w1, w2, rfl⟩ := ls3 (show ws.length = 3 by omega)
  change ∃ S' S2' kd, doC g S 46 = some (S', nI kd) ∧ m_does g S2 (nI 46) (nI a) (nI 3) = some S2' ∧ gI S2' 0 58 = nI kd ∧ kd ≤ 5 ∧ RSx U (k + 1) S' S2' ∧ FC S S' ∧ FS S2 S2'
  have hl := r.2.1
  have hm := r.2.2.1
  have hT := r.2.2.2.1
  have hx := r.2.2.2.2.2.2.2.2.2.2.2.2.2
  have f1 : F0M S2 (sI S2 0 57 0) := F0M_sI (Or.inl rfl)
  have f2 : F0M S2 (sI (sI S2 0 57 0) 0 58 4) := f1.tr (F0M_sI (Or.inr (Or.inl rfl)))
  have f3 : F0M S2 (sI (sI S2 0 57 0) 0 58 1) := f1.tr (F0M_sI (Or.inr (Or.inl rfl)))
  have h0' : gI (sI S2 0 57 0) 0 58 = 0 := by rw [gI_ne (by decide)]; exact h0
  have cm' := cm.fs (FS.f0 f1)
  have hm' := hm.fs (FS.f0 f1)
  have T2 := hT.2.1.f0 f1
  obtain ⟨-, n, hn, hv⟩ := okL_v (show okL U 118 w0 from q3 0 w0 rfl)
  have o1 : okW w1 := okL_W (show okL U 87 w1 from q3 1 w1 rfl)
  have m1 : m_value g (sI S2 0 57 0) (nI a + (1 : Int32)) = some (valW S2 w1) := by rw [show (1 : Int32) = nI 1 from rfl, nI_add]; exact M_value (g := g) (j := 1) (w := w1) cm' hm' rfl o1
  have o2 : okW w2 := okL_W (show okL U 87 w2 from q3 2 w2 rfl)
  have m2 : m_value g (sI S2 0 57 0) (nI a + (2 : Int32)) = some (valW S2 w2) := by rw [show (2 : Int32) = nI 2 from rfl, nI_add]; exact M_value (g := g) (j := 2) (w := w2) cm' hm' rfl o2
  obtain ⟨x1, ex⟩ := B_textE (g := g) (j := 1) (w := w1) c hl rfl (by rcases o1 with h | h <;> omega) (by rcases o1 with h | h <;> omega)
  have hlk := lacks0 (s := 46) hg c (show ∀ j, j < 3 → ¬ lett 46 (nI j) = 84 from by decide +kernel)
  obtain ⟨S1, s1, s2, s3, s4⟩ := clr (g := g) hx
  have fc := F0C.fr s2 (Or.inl rfl)
  have rc := RS_0 r fc s4 f1
  have cS := c.fc (FC.f0 fc)
  have hWR : WR S1 (sI S2 0 57 0) := rc.2.2.2.2.2.2.2.2.1
  have hC := doC_T hlk (by decide +kernel)
  rw [dC_46 ex s1, show m_Bn_wholeAt g S1 1 = some (valW S2 w1) from B_whole (S2 := sI S2 0 57 0) (j := 1) (w := w1) cS rc.2.1 rfl o1 hWR, Option.bind_some, show m_Bn_wholeAt g S1 2 = some (valW S2 w2) from B_whole (S2 := sI S2 0 57 0) (j := 2) (w := w2) cS rc.2.1 rfl o2 hWR, Option.bind_some] at hC
  have hM := dM_46 (g := g) (S := S2) (x2 := nI a) (x3 := nI 3)
  rw [dM2_46, m2, Option.bind_some, m1, Option.bind_some, isIn_s, Option.bind_some, bS] at hM
  obtain ⟨S3, t1, t2, t3⟩ := Scr_whole (g := g) (x := valW S2 w1) (x3 := valW S2 w2) hg (Scr.nil s3) rc.1 (by decide) (by decide)
  have hbs := bsN_b (valW S2 w2)
  have e86 : m_does g S2 (nI 46) (nI a) (nI 3) = m_reckons_86 g (sI S2 0 57 0) (nI a) (valW S2 w1) (nI (bsN (valW S2 w2))) := by
    rw [hM, show (2 : Int64).toInt = 2 from by decide +kernel, show (36 : Int64).toInt = 36 from by decide +kernel]
    unfold bsN
    by_cases h1 : valW S2 w2 < 2
    · rw [if_pos h1, c01_f (fun z => by
        rw [Int64.lt_iff_toInt_lt, show (2 : Int64).toInt = 2 from by decide +kernel] at h1
        omega), if_pos rfl]
      rfl
    rw [if_neg h1]
    by_cases h2 : (36 : Int64) < valW S2 w2
    · rw [if_pos h2, c01_f (fun z => by
        rw [Int64.lt_iff_toInt_lt, show (36 : Int64).toInt = 36 from by decide +kernel] at h2
        omega), if_pos rfl]
      rfl
    · rw [Int64.lt_iff_toInt_lt, show (2 : Int64).toInt = 2 from by decide +kernel] at h1
      have h3 := h2
      rw [Int64.lt_iff_toInt_lt, show (36 : Int64).toInt = 36 from by decide +kernel] at h3
      rw [if_neg h2, c01_t (by omega), if_neg (by decide), j32 (n := (valW S2 w2).toInt.toNat) (by omega) (by omega)]
  obtain ⟨T3, v1, v2, v3⟩ := O_number (g := g) (x := valW S2 w1) hg hbs.1 hbs.2 hm' Out_0 (by simp)
  rw [List.nil_append] at t3 v3
  have hu := num_us (x := valW S2 w1) hbs.1 hbs.2
  have fc3 := fc.tr (F0C.fr t2 (Or.inl rfl))
  have fm := f1.tr (F0M.fe v2)
  have h03 : gI T3 0 58 = 0 := (v2.1 58 (by decide)).trans h0'
  obtain ⟨S4, T4, kd, y1, y2, y3⟩ := fin_units (x := -1) hg hk r bd c cm (w0 := w0) rfl hn hv fc3 (s4.scr t2 t3) t3 fm h03 v3 (by omega) (fun _ => hu.1)
  refine ⟨S4, T4, kd, ?_, ?_, y3⟩
  · rw [hC, t1, Option.bind_some]
    unfold m_TS_give_279 m_TS_give_285
    rw [bS2, y1]
  · rw [e86]
    unfold m_reckons_86
    rw [v1, Option.bind_some, y2]
    rfl
theorem St42 : StOKb 42 := by
  intro g U k S S2 ws a hg hk hR c cm hW hO h0
  obtain ⟨φ, cs, ts, u, pl, pm, ps, qs, r, bd⟩ := hR
  obtain ⟨q1, q2, q3⟩ := hW
  have q1 : 2 ≤ ws.length := q1
  have q2 : ws.length ≤ 2 := q2
  obtain ⟨w0, w1, rfl⟩ := ls2 (show ws.length = 2 by omega)
  change ∃ S' S2' kd, doC g S 42 = some (S', nI kd) ∧ m_does g S2 (nI 42) (nI a) (nI 2) = some S2' ∧ gI S2' 0 58 = nI kd ∧ kd ≤ 5 ∧ RSx U (k + 1) S' S2' ∧ FC S S' ∧ FS S2 S2'
  have hl := r.2.1
  have hm := r.2.2.1
  have hT := r.2.2.2.1
  have hx := r.2.2.2.2.2.2.2.2.2.2.2.2.2
  have f1 : F0M S2 (sI S2 0 57 0) := F0M_sI (Or.inl rfl)
  have f2 : F0M S2 (sI (sI S2 0 57 0) 0 58 4) := f1.tr (F0M_sI (Or.inr (Or.inl rfl)))
  have f3 : F0M S2 (sI (sI S2 0 57 0) 0 58 1) := f1.tr (F0M_sI (Or.inr (Or.inl rfl)))
  have h0' : gI (sI S2 0 57 0) 0 58 = 0 := by rw [gI_ne (by decide)]; exact h0
  have cm' := cm.fs (FS.f0 f1)
  have hm' := hm.fs (FS.f0 f1)
  have T2 := hT.2.1.f0 f1
  obtain ⟨-, n, hn, hv⟩ := okL_v (show okL U 118 w0 from q3 0 w0 rfl)
  obtain ⟨k1, bi, hb, hbv⟩ := okL_b (show okL U 98 w1 from q3 1 w1 rfl) (Or.inl rfl)
  obtain ⟨x1, ex⟩ := B_textE (g := g) (j := 1) (w := w1) c hl rfl (by omega) (by omega)
  have hlk := lacks0 (s := 42) hg c (show ∀ j, j < 2 → ¬ lett 42 (nI j) = 84 from by decide +kernel)
  obtain ⟨S1, s1, s2, s3, s4⟩ := clr (g := g) hx
  have fc := F0C.fr s2 (Or.inl rfl)
  have rc := RS_0 r fc s4 f1
  have cS := c.fc (FC.f0 fc)
  have hBR : BR S1 (sI S2 0 57 0) := rc.2.2.2.2.2.2.2.2.2.1
  have hop : ¬ gF S1 77 bi = -1 := by
    rw [(fc.2.2.2.1 77 (by decide) (by decide) (by decide)).2 bi]
    exact hO 1 w1 bi rfl k1 (by decide +kernel) hbv
  obtain ⟨lb, ov, rm, b1, b2, b3, b4, b5, b6⟩ := hBR.op hb hop
  have hC := doC_T hlk (by decide +kernel)
  rw [dC_42 ex s1, show m_Bn_builderAt g S1 1 = some (nI bi) from B_bld (j := 1) (w := w1) cS rc.2.1 rfl hb hbv, Option.bind_some, bR_at rc.2.1 hb, Option.bind_some, b1.2.2.1] at hC
  obtain ⟨S3, t1, t2, t3⟩ := Scr_ins (g := g) (s := 0) (n := lb.length) (Scr.nil s3) b1 (by omega) rc.1 (by omega)
  rw [s3.2.2.1, Nat.zero_add] at t1
  rw [List.nil_append, seg_all] at t3
  have hM := dM_42 (g := g) (S := S2) (x2 := nI a) (x3 := nI 2)
  rw [dM2_42, bS] at hM
  unfold m_builds_12 at hM
  have ew := (M_word (j := 1) (w := w1) cm' hm' rfl).2
  rw [show nI a + (1 : Int32) = nI (a + 1) from nI_1 a, ew, Option.bind_some, lt_d, j32 hbv (by omega), if_neg (by decide), b5.sz hm' hb, Option.bind_some] at hM
  obtain ⟨T3, v1, v2, v3⟩ := O_bldE (g := g) hb lb.length g 0 (sI S2 0 57 0) [] (by omega) (by have := b5.2.1; omega) hm' b5 Out_0 (by have := b5.2.1; simp; omega)
  rw [List.nil_append, seg_all] at v3
  have fc3 := fc.tr (F0C.fr t2 (Or.inl rfl))
  have fm := f1.tr (F0M.fe v2)
  have h03 : gI T3 0 58 = 0 := (v2.1 58 (by decide)).trans h0'
  obtain ⟨S4, T4, kd, y1, y2, y3⟩ := fin_units (x := -1) hg hk r bd c cm (w0 := w0) rfl hn hv fc3 (s4.scr t2 t3) t3 fm h03 v3 (by have := b5.2.1; omega) (fun _ => b6)
  refine ⟨S4, T4, kd, ?_, ?_, y3⟩
  · rw [hC, show m_Row_insert g S1 23 0 (24 + bi) 0 (nI lb.length) = some S3 from t1, Option.bind_some]
    unfold m_TS_give_244 m_TS_give_250
    rw [bS2, y1]
  · rw [hM]
    unfold m_emitBuilder
    rw [nI_0] at v1
    rw [v1, Option.bind_some]
    unfold m_builds_55
    rw [if_pos (show nI 42 = 42 from rfl), y2]
    rfl
