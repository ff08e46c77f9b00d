/-! the STEPS: upper, lower -/
section CAS
variable {g : Nat} {S S2 : St} {cs ts : List (List Int32)} {u p q i n1 n2 : Nat} {l v : List Int32} {sm : Prop}
/-- what follows a unit that is added on both sides -/
def CasS (g : Nat) (S S2 : St) (cs : List (List Int32)) (p q i n1 n2 : Nat) (l v : List Int32) (sm : Prop) (s : Nat) (x2 : Int32) : Prop := ∃ S3 T3 W sm', m_TS_changeCase_22 g (n1 + 1) S (nI p) x2 (c01 (¬ sm)) (nI (stC cs p + l.length)) (nI (stC cs p + i)) = m_TS_changeCase_22 g n1 S3 (nI p) x2 (c01 (¬ sm')) (nI (stC cs p + l.length)) (nI (stC cs p + (i + 1))) ∧ m_cases_5 g (n2 + 1) S2 (nI s) (nI q) (c01 sm) (nI i) = m_cases_5 g n2 T3 (nI s) (nI q) (c01 sm') (nI (i + 1)) ∧ Fr 23 S S3 ∧ FE S2 T3 ∧ Scr S3 23 (v ++ W) ∧ Out T3 (v ++ W) ∧ W.length ≤ 2 ∧ usL W
theorem two_add {x y : Int32} (hk : gOK S) (hm : LM S2) (w : Scr S 23 v) (o : Out S2 v) (hv : v.length + 2 < 2 ^ 31) (hx : isU x) (hy : isU y) : ∃ S3 S4 T3 T4, m_Row_add g S 23 x = some S3 ∧ m_Row_add g S3 23 y = some S4 ∧ m_emit g S2 x = some T3 ∧ m_emit g T3 y = some T4 ∧ Fr 23 S S4 ∧ FE S2 T4 ∧ Scr S4 23 (v ++ [x, y]) ∧ Out T4 (v ++ [x, y]) ∧ usL [x, y] := by
  obtain ⟨S3, a1, a2, a3⟩ := Scr_add (g := g) (u := x) w hk
  obtain ⟨S4, b1, b2, b3⟩ := Scr_add (g := g) (u := y) a3 (hk.fr a2)
  obtain ⟨T3, c1, c2, c3⟩ := O_add (g := g) (u := x) o hm (by omega)
  obtain ⟨T4, d1, d2, d3⟩ := O_add (g := g) (u := y) c3 (hm.fe c2) (by rw [List.length_append, List.length_singleton]; omega)
  rw [List.append_assoc] at b3 d3
  exact ⟨S3, S4, T3, T4, a1, b1, c1, d1, a2.tr b2, c2.tr d2, b3, d3, usL_1 (v := [x]) (usL_1 (v := []) usL_nil hx) hy⟩
theorem cas_s32 (hT : TXc S cs) (hk : gOK S) (hM : TXs S2 ts u) (hm : LM S2) (l1 : cs[p]? = some l) (l2 : ts[q]? = some l) (hl : l.length ≤ 400) (hu : usL l) (hi : i < l.length) (w : Scr S 23 v) (o : Out S2 v) (hv : v.length + 2 < 2 ^ 31) : CasS g S S2 cs p q i n1 n2 l v sm 32 1 := by
  have b := C_bounds hT l1
  have hU := hu i hi
  have eC : ∀ z, m_Lt_upper g (l.getD i 0) = some z → m_TS_changeCase_22 g (n1 + 1) S (nI p) 1 (c01 (¬ sm)) (nI (stC cs p + l.length)) (nI (stC cs p + i)) = m_TS_changeCase_60 g (m_TS_changeCase_22 g n1) S (nI p) 1 (c01 (¬ sm)) (nI (stC cs p + l.length)) (nI (stC cs p + i)) (l.getD i 0) z := by
    intro z hz
    show b_TS_changeCase_22 g (m_TS_changeCase_22 g n1) S (nI p) 1 _ _ _ = _
    unfold b_TS_changeCase_22
    rw [if_neg (nI_ge (by omega) (by omega)), C_at hT l1 hi, Option.bind_some, if_neg (by decide), hz, Option.bind_some]
  have eM : m_cases_5 g (n2 + 1) S2 (nI 32) (nI q) (c01 sm) (nI i) = b_cases_5 g (m_cases_5 g n2) S2 (nI 32) (nI q) (c01 sm) (nI i) := rfl
  unfold b_cases_5 at eM
  rw [(T_size hM hm l2).1, Option.bind_some, if_neg (nI_ge (by omega) (by omega)), T_unit hM hm l2 hi, Option.bind_some, if_pos (by decide +kernel)] at eM
  have fl : ∀ z, (if c01 (¬ sm) = 0 then (if z = l.getD i 0 then (0 : Int32) else 1) else 1) = c01 (¬ (sm ∧ z = l.getD i 0)) := by
    intro z
    by_cases h : sm
    · rw [c01_f (fun q => q h), if_pos rfl]
      by_cases h2 : z = l.getD i 0
      · rw [if_pos h2, c01_f (fun q => q ⟨h, h2⟩)]
      · rw [if_neg h2, c01_t (fun q => h2 q.2)]
    · rw [c01_t h, if_neg (by decide), c01_t (fun q => h q.1)]
  have e105 : ∀ (S3 : St) (z : Int32), m_TS_changeCase_105 g (m_TS_changeCase_22 g n1) S3 (nI p) 1 (c01 (¬ sm)) (nI (stC cs p + l.length)) (nI (stC cs p + i)) (l.getD i 0) z = m_TS_changeCase_22 g n1 S3 (nI p) 1 (c01 (¬ (sm ∧ z = l.getD i 0))) (nI (stC cs p + l.length)) (nI (stC cs p + (i + 1))) := by
    intro S3 z
    rw [← fl z]
    unfold m_TS_changeCase_105
    rw [lt_d, lt_d, nI_1, Nat.add_assoc]
    by_cases h : c01 (¬ sm) = 0
    · rw [if_pos h, if_pos h]
      by_cases h2 : z = l.getD i 0
      · rw [if_pos h2, if_pos h2]
      · rw [if_neg h2, if_neg h2]
    · rw [if_neg h, if_neg h]
  by_cases h223 : l.getD i 0 = 223
  · obtain ⟨S3, S4, T3, T4, g1, g2, g3, g4, g5, g6, g7, g8, g9⟩ := two_add (g := g) (x := 83) (y := 83) hk hm w o hv ⟨83, by omega, rfl⟩ ⟨83, by omega, rfl⟩
    refine ⟨S4, T4, [83, 83], False, ?_, ?_, g5, g6, g7, g8, by simp, g9⟩
    · rw [eC 83 (by rw [h223]; exact (by decide +kernel : m_Lt_upper 0 223 = some 83))]
      unfold m_TS_changeCase_60
      rw [if_neg (by decide), show m_Lt_upperTail g (l.getD i 0) = some 83 from by rw [h223]; rfl, Option.bind_some]
      unfold m_TS_changeCase_79
      rw [g1, Option.bind_some]
      unfold m_TS_changeCase_90
      rw [if_neg (by decide), g2, Option.bind_some, e105, c01_iff (show ¬ (sm ∧ (83 : Int32) = l.getD i 0) ↔ ¬ False from ⟨fun _ => id, fun _ q => absurd (q.2.trans h223) (by decide)⟩)]
    · have e112 : m_cases_111 g (m_cases_5 g n2) S2 (nI 32) (nI q) (nI i) (l.getD i 0) 1 (upU 223) = m_cases_5 g n2 T4 (nI 32) (nI q) (c01 False) (nI (i + 1)) := by
        unfold m_cases_111 m_cases_112 m_emitTwo
        rw [if_neg (by decide), h223, if_neg (show ¬ (223 : Int32) = 304 by decide), if_pos rfl, g3, Option.bind_some, g4, Option.bind_some, Option.bind_some, lt_d, nI_1, c01_f (id : ¬ False)]
      rw [eM]
      rw [if_pos h223]
      unfold m_cases_47
      unfold m_cases_68
      rw [if_pos (by decide +kernel), (U_up (g := g) hU).1, Option.bind_some]
      unfold m_cases_89
      rw [if_neg (show ¬ (1 : Int32) = 0 by decide), ← e112, ifo rfl rfl, h223]
  by_cases h329 : l.getD i 0 = 329
  · obtain ⟨S3, S4, T3, T4, g1, g2, g3, g4, g5, g6, g7, g8, g9⟩ := two_add (g := g) (x := 700) (y := 78) hk hm w o hv ⟨700, by omega, rfl⟩ ⟨78, by omega, rfl⟩
    refine ⟨S4, T4, [700, 78], False, ?_, ?_, g5, g6, g7, g8, by simp, g9⟩
    · rw [eC 700 (by rw [h329]; exact (by decide +kernel : m_Lt_upper 0 329 = some 700))]
      unfold m_TS_changeCase_60
      rw [if_neg (by decide), show m_Lt_upperTail g (l.getD i 0) = some 78 from by rw [h329]; rfl, Option.bind_some]
      unfold m_TS_changeCase_79
      rw [g1, Option.bind_some]
      unfold m_TS_changeCase_90
      rw [if_neg (by decide), g2, Option.bind_some, e105, c01_iff (show ¬ (sm ∧ (700 : Int32) = l.getD i 0) ↔ ¬ False from ⟨fun _ => id, fun _ q => absurd (q.2.trans h329) (by decide)⟩)]
    · have e112 : m_cases_111 g (m_cases_5 g n2) S2 (nI 32) (nI q) (nI i) (l.getD i 0) 1 (upU 329) = m_cases_5 g n2 T4 (nI 32) (nI q) (c01 False) (nI (i + 1)) := by
        unfold m_cases_111 m_cases_112 m_emitTwo
        rw [if_neg (by decide), h329, if_neg (show ¬ (329 : Int32) = 304 by decide), if_neg (show ¬ (329 : Int32) = 223 by decide), g3, Option.bind_some, g4, Option.bind_some, Option.bind_some, lt_d, nI_1, c01_f (id : ¬ False)]
      rw [eM]
      rw [if_neg h223, if_pos h329]
      unfold m_cases_47
      unfold m_cases_68
      rw [if_pos (by decide +kernel), (U_up (g := g) hU).1, Option.bind_some]
      unfold m_cases_89
      rw [if_neg (show ¬ (1 : Int32) = 0 by decide), ← e112, ifo rfl rfl, h329]
  obtain ⟨S3, a1, a2, a3⟩ := Scr_add (g := g) (u := upU (l.getD i 0)) w hk
  obtain ⟨T3, b1, b2, b3⟩ := O_add (g := g) (u := upU (l.getD i 0)) o hm (by omega)
  refine ⟨S3, T3, [upU (l.getD i 0)], sm ∧ upU (l.getD i 0) = l.getD i 0, ?_, ?_, a2, b2, a3, b3, by simp, usL_1 (v := []) usL_nil (U_up (g := g) hU).2.2⟩
  · rw [eC (upU (l.getD i 0)) ((U_up (g := g) hU).2.1 h223 h329)]
    unfold m_TS_changeCase_60
    rw [if_neg (by decide), show m_Lt_upperTail g (l.getD i 0) = some (-1) from by
      unfold m_Lt_upperTail
      rw [if_neg h223, if_neg h329], Option.bind_some]
    unfold m_TS_changeCase_79
    rw [a1, Option.bind_some]
    unfold m_TS_changeCase_90
    rw [if_pos rfl, e105]
  · rw [eM, if_neg h223, if_neg h329]
    unfold m_cases_68
    rw [if_pos (by decide +kernel), (U_up (g := g) hU).1, Option.bind_some]
    unfold m_cases_89 m_cases_111 m_cases_112
    rw [if_pos (show (0 : Int32) = 0 from rfl), if_pos (show (0 : Int32) = 0 from rfl), b1, Option.bind_some, lt_d, nI_1]
    by_cases h : sm
    · rw [c01_t h, if_neg (by decide)]
      by_cases h2 : upU (l.getD i 0) = l.getD i 0
      · rw [if_pos h2, c01_t ⟨h, h2⟩]
        rfl
      · rw [if_neg h2, c01_f (fun q => h2 q.2)]
        try rfl
    · rw [c01_f h, if_pos rfl, c01_f (fun q => h q.1)]
      try rfl
theorem cas_s33 (hT : TXc S cs) (hk : gOK S) (hM : TXs S2 ts u) (hm : LM S2) (l1 : cs[p]? = some l) (l2 : ts[q]? = some l) (hl : l.length ≤ 400) (hu : usL l) (hi : i < l.length) (w : Scr S 23 v) (o : Out S2 v) (hv : v.length + 2 < 2 ^ 31) : CasS g S S2 cs p q i n1 n2 l v sm 33 0 := by
  have b := C_bounds hT l1
  have hU := hu i hi
  have eC : ∀ z, m_Lt_lower g (l.getD i 0) = some z → m_TS_changeCase_22 g (n1 + 1) S (nI p) 0 (c01 (¬ sm)) (nI (stC cs p + l.length)) (nI (stC cs p + i)) = m_TS_changeCase_60 g (m_TS_changeCase_22 g n1) S (nI p) 0 (c01 (¬ sm)) (nI (stC cs p + l.length)) (nI (stC cs p + i)) (l.getD i 0) z := by
    intro z hz
    show b_TS_changeCase_22 g (m_TS_changeCase_22 g n1) S (nI p) 0 _ _ _ = _
    unfold b_TS_changeCase_22
    rw [if_neg (nI_ge (by omega) (by omega)), C_at hT l1 hi, Option.bind_some, if_pos rfl, hz, Option.bind_some]
  have eM : m_cases_5 g (n2 + 1) S2 (nI 33) (nI q) (c01 sm) (nI i) = b_cases_5 g (m_cases_5 g n2) S2 (nI 33) (nI q) (c01 sm) (nI i) := rfl
  unfold b_cases_5 at eM
  rw [(T_size hM hm l2).1, Option.bind_some, if_neg (nI_ge (by omega) (by omega)), T_unit hM hm l2 hi, Option.bind_some, if_neg (by decide +kernel)] at eM
  have fl : ∀ z, (if c01 (¬ sm) = 0 then (if z = l.getD i 0 then (0 : Int32) else 1) else 1) = c01 (¬ (sm ∧ z = l.getD i 0)) := by
    intro z
    by_cases h : sm
    · rw [c01_f (fun q => q h), if_pos rfl]
      by_cases h2 : z = l.getD i 0
      · rw [if_pos h2, c01_f (fun q => q ⟨h, h2⟩)]
      · rw [if_neg h2, c01_t (fun q => h2 q.2)]
    · rw [c01_t h, if_neg (by decide), c01_t (fun q => h q.1)]
  have e105 : ∀ (S3 : St) (z : Int32), m_TS_changeCase_105 g (m_TS_changeCase_22 g n1) S3 (nI p) 0 (c01 (¬ sm)) (nI (stC cs p + l.length)) (nI (stC cs p + i)) (l.getD i 0) z = m_TS_changeCase_22 g n1 S3 (nI p) 0 (c01 (¬ (sm ∧ z = l.getD i 0))) (nI (stC cs p + l.length)) (nI (stC cs p + (i + 1))) := by
    intro S3 z
    rw [← fl z]
    unfold m_TS_changeCase_105
    rw [lt_d, lt_d, nI_1, Nat.add_assoc]
    by_cases h : c01 (¬ sm) = 0
    · rw [if_pos h, if_pos h]
      by_cases h2 : z = l.getD i 0
      · rw [if_pos h2, if_pos h2]
      · rw [if_neg h2, if_neg h2]
    · rw [if_neg h, if_neg h]
  by_cases h304 : l.getD i 0 = 304
  · obtain ⟨S3, S4, T3, T4, g1, g2, g3, g4, g5, g6, g7, g8, g9⟩ := two_add (g := g) (x := 105) (y := 775) hk hm w o hv ⟨105, by omega, rfl⟩ ⟨775, by omega, rfl⟩
    refine ⟨S4, T4, [105, 775], False, ?_, ?_, g5, g6, g7, g8, by simp, g9⟩
    · rw [eC 105 (by rw [h304]; exact (by decide +kernel : m_Lt_lower 0 304 = some 105))]
      unfold m_TS_changeCase_60
      rw [if_pos rfl, show m_Lt_lowerTail g (l.getD i 0) = some 775 from by rw [h304]; rfl, Option.bind_some]
      unfold m_TS_changeCase_79
      rw [g1, Option.bind_some]
      unfold m_TS_changeCase_90
      rw [if_neg (by decide), g2, Option.bind_some, e105, c01_iff (show ¬ (sm ∧ (105 : Int32) = l.getD i 0) ↔ ¬ False from ⟨fun _ => id, fun _ q => absurd (q.2.trans h304) (by decide)⟩)]
    · have e112 : m_cases_111 g (m_cases_5 g n2) S2 (nI 33) (nI q) (nI i) (l.getD i 0) 1 (lowU 304) = m_cases_5 g n2 T4 (nI 33) (nI q) (c01 False) (nI (i + 1)) := by
        unfold m_cases_111 m_cases_112 m_emitTwo
        rw [if_neg (by decide), h304, if_pos rfl, g3, Option.bind_some, g4, Option.bind_some, Option.bind_some, lt_d, nI_1, c01_f (id : ¬ False)]
      rw [eM]
      rw [if_pos h304]
      skip
      unfold m_cases_68
      rw [if_neg (by decide +kernel), (U_low (g := g) hU).1, Option.bind_some]
      unfold m_cases_89
      rw [if_neg (show ¬ (1 : Int32) = 0 by decide), ← e112, ifo rfl rfl, h304]
  obtain ⟨S3, a1, a2, a3⟩ := Scr_add (g := g) (u := lowU (l.getD i 0)) w hk
  obtain ⟨T3, b1, b2, b3⟩ := O_add (g := g) (u := lowU (l.getD i 0)) o hm (by omega)
  refine ⟨S3, T3, [lowU (l.getD i 0)], sm ∧ lowU (l.getD i 0) = l.getD i 0, ?_, ?_, a2, b2, a3, b3, by simp, usL_1 (v := []) usL_nil (U_low (g := g) hU).2.2⟩
  · rw [eC (lowU (l.getD i 0)) ((U_low (g := g) hU).2.1)]
    unfold m_TS_changeCase_60
    rw [if_pos rfl, show m_Lt_lowerTail g (l.getD i 0) = some (-1) from by
      unfold m_Lt_lowerTail
      rw [if_neg h304], Option.bind_some]
    unfold m_TS_changeCase_79
    rw [a1, Option.bind_some]
    unfold m_TS_changeCase_90
    rw [if_pos rfl, e105]
  · rw [eM, if_neg h304]
    unfold m_cases_68
    rw [if_neg (by decide +kernel), (U_low (g := g) hU).1, Option.bind_some]
    unfold m_cases_89 m_cases_111 m_cases_112
    rw [if_pos (show (0 : Int32) = 0 from rfl), if_pos (show (0 : Int32) = 0 from rfl), b1, Option.bind_some, lt_d, nI_1]
    by_cases h : sm
    · rw [c01_t h, if_neg (by decide)]
      by_cases h2 : lowU (l.getD i 0) = l.getD i 0
      · rw [if_pos h2, c01_t ⟨h, h2⟩]
        rfl
      · rw [if_neg h2, c01_f (fun q => h2 q.2)]
        try rfl
    · rw [c01_f h, if_pos rfl, c01_f (fun q => h q.1)]
      try rfl
end CAS
section CASL
variable {g : Nat} {cs ts : List (List Int32)} {u p q s : Nat} {l : List Int32} {x2 : Int32}
theorem cas_l (l1 : cs[p]? = some l) (l2 : ts[q]? = some l) (hl : l.length ≤ 400) (st : ∀ S S2 i n1 n2 v sm, TXc S cs → gOK S → TXs S2 ts u → LM S2 → i < l.length → Scr S 23 v → Out S2 v → v.length + 2 < 2 ^ 31 → CasS g S S2 cs p q i n1 n2 l v sm s x2) : ∀ (k n1 n2 i : Nat) (S S2 : St) (v : List Int32) (sm : Prop), i + k = l.length → k < n1 → k < n2 → TXc S cs → gOK S → TXs S2 ts u → LM S2 → Scr S 23 v → Out S2 v → v.length + 2 * k < 2 ^ 30 → usL v → ∃ S' T' v' sm', m_TS_changeCase_22 g n1 S (nI p) x2 (c01 (¬ sm)) (nI (stC cs p + l.length)) (nI (stC cs p + i)) = m_TS_become g S' (nI p) (c01 (¬ sm')) ∧ m_cases_5 g n2 S2 (nI s) (nI q) (c01 sm) (nI i) = some (T', c01 sm') ∧ Fr 23 S S' ∧ FE S2 T' ∧ Scr S' 23 v' ∧ Out T' v' ∧ v'.length < 2 ^ 30 ∧ usL v' := by
  intro k
  induction k with
  | zero =>
    intro n1 n2 i S S2 v sm hi h1 h2 hT hk hM hm w o hv hu
    obtain ⟨n1, rfl⟩ : ∃ m, n1 = m + 1 := ⟨n1 - 1, by omega⟩
    obtain ⟨n2, rfl⟩ : ∃ m, n2 = m + 1 := ⟨n2 - 1, by omega⟩
    have b := C_bounds hT l1
    refine ⟨S, S2, v, sm, ?_, ?_, Fr.rf, FE.rf, w, o, by omega, hu⟩
    · show b_TS_changeCase_22 g (m_TS_changeCase_22 g n1) S (nI p) x2 _ _ _ = _
      unfold b_TS_changeCase_22 m_TS_changeCase_134
      rw [if_pos (nI_le (by omega) (by omega)), bS2]
    · show b_cases_5 g (m_cases_5 g n2) S2 (nI s) (nI q) _ _ = _
      unfold b_cases_5
      rw [(T_size hM hm l2).1, Option.bind_some, if_pos (nI_le (by omega) (by omega)), if_pos c01_z]
  | succ k ih =>
    intro n1 n2 i S S2 v sm hi h1 h2 hT hk hM hm w o hv hu
    obtain ⟨n1, rfl⟩ : ∃ m, n1 = m + 1 := ⟨n1 - 1, by omega⟩
    obtain ⟨n2, rfl⟩ : ∃ m, n2 = m + 1 := ⟨n2 - 1, by omega⟩
    obtain ⟨S3, T3, W, sm', e1, e2, a2, b2, a3, b3, hW, hWu⟩ := st S S2 i n1 n2 v sm hT hk hM hm (by omega) w o (by omega)
    obtain ⟨S', T', v', sm2, c1, c2, c3, c4, c5⟩ := ih n1 n2 (i + 1) S3 T3 (v ++ W) sm' (by omega) (by omega) (by omega) (hT.fr23 a2) (hk.fr a2) (hM.fe b2) (hm.fe b2) a3 b3 (by rw [List.length_append]; omega) (usL_app hu hWu)
    exact ⟨S', T', v', sm2, e1.trans c1, e2.trans c2, a2.tr c3, b2.tr c4, c5⟩
end CASL
theorem St32 : StOK 32 := by
  intro g U k S S2 ws a hg hk hR c cm hW h0
  obtain ⟨φ, cs, ts, u, pl, pm, ps, qs, r, bd⟩ := hR
  obtain ⟨q1, q2, q3⟩ := hW
  have q1 : 2 ≤ ws.length := q1
  have q2 : ws.length ≤ 2 := q2
  obtain ⟨w0, w1, rfl⟩ := ls2 (show ws.length = 2 by omega)
  change ∃ S' S2' kd, doC g S 32 = some (S', nI kd) ∧ m_does g S2 (nI 32) (nI a) (nI 2) = some S2' ∧ gI S2' 0 58 = nI kd ∧ kd ≤ 5 ∧ RSx U (k + 1) S' S2' ∧ FC S S' ∧ FS S2 S2'
  have hl := r.2.1
  have hm := r.2.2.1
  have hT := r.2.2.2.1
  have hx := r.2.2.2.2.2.2.2.2.2.2.2.2.2
  have f1 : F0M S2 (sI S2 0 57 0) := F0M_sI (Or.inl rfl)
  have f2 : F0M S2 (sI (sI S2 0 57 0) 0 58 4) := f1.tr (F0M_sI (Or.inr (Or.inl rfl)))
  have f3 : F0M S2 (sI (sI S2 0 57 0) 0 58 1) := f1.tr (F0M_sI (Or.inr (Or.inl rfl)))
  have h0' : gI (sI S2 0 57 0) 0 58 = 0 := by rw [gI_ne (by decide)]; exact h0
  have cm' := cm.fs (FS.f0 f1)
  have hm' := hm.fs (FS.f0 f1)
  have T2 := hT.2.1.f0 f1
  obtain ⟨-, n, hn, hv⟩ := okL_v (show okL U 118 w0 from q3 0 w0 rfl)
  obtain ⟨x, y, e1, e2, e3, e4⟩ := getT (g := g) (j := 1) (w := w1) r c cm rfl (show okL U 84 w1 from q3 1 w1 rfl) (by decide)
  have hlk := lacks1 (s := 32) (j0 := 1) hg c (show 1 < 2 by decide) (show ∀ j, j < 2 → j ≠ 1 → ¬ lett 32 (nI j) = 84 from by decide +kernel) (by decide +kernel) e1
  rcases e4 with ⟨rfl, rfl⟩ | ⟨p, q, l, rfl, rfl, hpq, hp, hq, l1, l2, l3, l4⟩
  · rw [c01_t rfl] at hlk
    refine ⟨S, sI (sI S2 0 57 0) 0 58 4, 4, doC_no hlk, ?_, fin_no r bd F0C.rf hx f2 sI_58 (by decide)⟩
    rw [dM_32]
    unfold m_does_68
    rw [dM2_32 (M_tAt0 (e2 _ f1) h0')]
    unfold m_changes_25
    rw [if_neg (by decide +kernel)]
    unfold m_changes_44
    rw [if_neg (by rw [sI_58]; decide)]
    rfl
  · rw [c01_f (m1_ne (by omega))] at hlk
    obtain ⟨S1, s1, s2, s3, s4⟩ := clr (g := g) hx
    have fc := F0C.fr s2 (Or.inl rfl)
    have rc := RS_0 r fc s4 f1
    have cS := c.fc (FC.f0 fc)
    have hlS := rc.2.1
    have hTc := rc.2.2.2.1
    have hWR : WR S1 (sI S2 0 57 0) := rc.2.2.2.2.2.2.2.2.1
    have b := C_bounds hTc.1 l1
    have hM : m_does g S2 (nI 32) (nI a) (nI 2) = m_changes_44 g (sI S2 0 57 0) (nI 32) (nI a) (nI q) 0 0 := by
      rw [dM_32]
      unfold m_does_68
      rw [dM2_32 (M_tAt (e2 _ f1) (by omega))]
      unfold m_changes_25
      rw [if_neg (by decide +kernel), bS]
    unfold m_changes_44 at hM
    rw [if_pos h0'] at hM
    rw [if_pos (by decide +kernel), if_neg (by decide +kernel), if_neg (by decide +kernel), if_neg (by decide +kernel)] at hM
    unfold m_cases at hM
    have hC : doC g S 32 = m_TS_changeCase g S1 (nI p) 1 := by
      rw [doC_T hlk (by decide +kernel), dC_32 e1 s1]
      unfold m_TS_give_205
      rw [bS2]
    unfold m_TS_changeCase at hC
    rw [C_end hTc.1 b.1, Option.bind_some, C_start hTc.1 b.1, Option.bind_some, stC_succ l1] at hC
    obtain ⟨S3, T3, v, sm, a1, a2, a3, a4, a5, a6, a7, a8⟩ := cas_l (g := g) (s := 32) (x2 := 1) l1 l2 l3 (fun S S2 i n1 n2 v sm h1 h2 h3 h4 h5 h6 h7 h8 => cas_s32 h1 h2 h3 h4 l1 l2 l3 l4 h5 h6 h7 h8) l.length g g 0 S1 (sI S2 0 57 0) [] True (by omega) (by omega) (by omega) hTc.1 rc.1 T2 hm' (Scr.nil s3) Out_0 (by simp; omega) usL_nil
    have fc3 := fc.tr (F0C.fr a3 (Or.inl rfl))
    have fm := f1.tr (F0M.fe a4)
    have h03 : gI T3 0 58 = 0 := (a4.1 58 (by decide)).trans h0'
    obtain ⟨S4, T4, kd, y1, y2, y3⟩ := fin_chg (same := sm) hg hk r bd c cm (w0 := w0) rfl hn hv fc3 (s4.scr a3 a5) fm h03 hpq hp hq (fun _ => ⟨a5, a6, by omega, fun _ => a8⟩)
    rw [c01_f (fun z => z trivial)] at a1
    rw [c01_t trivial] at a2
    refine ⟨S4, T4, kd, ?_, ?_, y3⟩
    · rw [hC, show nI (stC cs p) = nI (stC cs p + 0) from rfl]
      exact a1.trans y1
    · rw [nI_0] at a2
      rw [hM, a2, Option.bind_some]
      exact y2
theorem St33 : StOK 33 := by
  intro g U k S S2 ws a hg hk hR c cm hW h0
  obtain ⟨φ, cs, ts, u, pl, pm, ps, qs, r, bd⟩ := hR
  obtain ⟨q1, q2, q3⟩ := hW
  have q1 : 2 ≤ ws.length := q1
  have q2 : ws.length ≤ 2 := q2
  obtain ⟨w0, w1, rfl⟩ := ls2 (show ws.length = 2 by omega)
  change ∃ S' S2' kd, doC g S 33 = some (S', nI kd) ∧ m_does g S2 (nI 33) (nI a) (nI 2) = some S2' ∧ gI S2' 0 58 = nI kd ∧ kd ≤ 5 ∧ RSx U (k + 1) S' S2' ∧ FC S S' ∧ FS S2 S2'
  have hl := r.2.1
  have hm := r.2.2.1
  have hT := r.2.2.2.1
  have hx := r.2.2.2.2.2.2.2.2.2.2.2.2.2
  have f1 : F0M S2 (sI S2 0 57 0) := F0M_sI (Or.inl rfl)
  have f2 : F0M S2 (sI (sI S2 0 57 0) 0 58 4) := f1.tr (F0M_sI (Or.inr (Or.inl rfl)))
  have f3 : F0M S2 (sI (sI S2 0 57 0) 0 58 1) := f1.tr (F0M_sI (Or.inr (Or.inl rfl)))
  have h0' : gI (sI S2 0 57 0) 0 58 = 0 := by rw [gI_ne (by decide)]; exact h0
  have cm' := cm.fs (FS.f0 f1)
  have hm' := hm.fs (FS.f0 f1)
  have T2 := hT.2.1.f0 f1
  obtain ⟨-, n, hn, hv⟩ := okL_v (show okL U 118 w0 from q3 0 w0 rfl)
  obtain ⟨x, y, e1, e2, e3, e4⟩ := getT (g := g) (j := 1) (w := w1) r c cm rfl (show okL U 84 w1 from q3 1 w1 rfl) (by decide)
  have hlk := lacks1 (s := 33) (j0 := 1) hg c (show 1 < 2 by decide) (show ∀ j, j < 2 → j ≠ 1 → ¬ lett 33 (nI j) = 84 from by decide +kernel) (by decide +kernel) e1
  rcases e4 with ⟨rfl, rfl⟩ | ⟨p, q, l, rfl, rfl, hpq, hp, hq, l1, l2, l3, l4⟩
  · rw [c01_t rfl] at hlk
    refine ⟨S, sI (sI S2 0 57 0) 0 58 4, 4, doC_no hlk, ?_, fin_no r bd F0C.rf hx f2 sI_58 (by decide)⟩
    rw [dM_33]
    unfold m_does_68
    rw [dM2_33 (M_tAt0 (e2 _ f1) h0')]
    unfold m_changes_25
    rw [if_neg (by decide +kernel)]
    unfold m_changes_44
    rw [if_neg (by rw [sI_58]; decide)]
    rfl
  · rw [c01_f (m1_ne (by omega))] at hlk
    obtain ⟨S1, s1, s2, s3, s4⟩ := clr (g := g) hx
    have fc := F0C.fr s2 (Or.inl rfl)
    have rc := RS_0 r fc s4 f1
    have cS := c.fc (FC.f0 fc)
    have hlS := rc.2.1
    have hTc := rc.2.2.2.1
    have hWR : WR S1 (sI S2 0 57 0) := rc.2.2.2.2.2.2.2.2.1
    have b := C_bounds hTc.1 l1
    have hM : m_does g S2 (nI 33) (nI a) (nI 2) = m_changes_44 g (sI S2 0 57 0) (nI 33) (nI a) (nI q) 0 0 := by
      rw [dM_33]
      unfold m_does_68
      rw [dM2_33 (M_tAt (e2 _ f1) (by omega))]
      unfold m_changes_25
      rw [if_neg (by decide +kernel), bS]
    unfold m_changes_44 at hM
    rw [if_pos h0'] at hM
    rw [if_pos (by decide +kernel), if_neg (by decide +kernel), if_neg (by decide +kernel), if_neg (by decide +kernel)] at hM
    unfold m_cases at hM
    have hC : doC g S 33 = m_TS_changeCase g S1 (nI p) 0 := by
      rw [doC_T hlk (by decide +kernel), dC_33 e1 s1]
      unfold m_TS_give_212
      rw [bS2]
    unfold m_TS_changeCase at hC
    rw [C_end hTc.1 b.1, Option.bind_some, C_start hTc.1 b.1, Option.bind_some, stC_succ l1] at hC
    obtain ⟨S3, T3, v, sm, a1, a2, a3, a4, a5, a6, a7, a8⟩ := cas_l (g := g) (s := 33) (x2 := 0) l1 l2 l3 (fun S S2 i n1 n2 v sm h1 h2 h3 h4 h5 h6 h7 h8 => cas_s33 h1 h2 h3 h4 l1 l2 l3 l4 h5 h6 h7 h8) l.length g g 0 S1 (sI S2 0 57 0) [] True (by omega) (by omega) (by omega) hTc.1 rc.1 T2 hm' (Scr.nil s3) Out_0 (by simp; omega) usL_nil
    have fc3 := fc.tr (F0C.fr a3 (Or.inl rfl))
    have fm := f1.tr (F0M.fe a4)
    have h03 : gI T3 0 58 = 0 := (a4.1 58 (by decide)).trans h0'
    obtain ⟨S4, T4, kd, y1, y2, y3⟩ := fin_chg (same := sm) hg hk r bd c cm (w0 := w0) rfl hn hv fc3 (s4.scr a3 a5) fm h03 hpq hp hq (fun _ => ⟨a5, a6, by omega, fun _ => a8⟩)
    rw [c01_f (fun z => z trivial)] at a1
    rw [c01_t trivial] at a2
    refine ⟨S4, T4, kd, ?_, ?_, y3⟩
    · rw [hC, show nI (stC cs p) = nI (stC cs p + 0) from rfl]
      exact a1.trans y1
    · rw [nI_0] at a2
      rw [hM, a2, Option.bind_some]
      exact y2
