/-! the STEPS: places -/
theorem plJ {v : Int64} {n : Nat} (hn : n < 2 ^ 30) : ((maxJ (-1 : Int64) (minJ v ((nI n).toInt64 + (1 : Int64)))).toInt32).toInt = max (-1) (min v.toInt ((n : Int) + 1)) := by
  have h1 : ((nI n).toInt64 + (1 : Int64)).toInt = (n : Int) + 1 := by
    rw [Int64.toInt_add, Int32.toInt_toInt64, nI_toInt (by omega), show (1 : Int64).toInt = 1 from by decide +kernel]
    exact Int.bmod_eq_of_le (by omega) (by omega)
  have h2 : (-1 : Int64).toInt = -1 := by decide +kernel
  generalize (nI n).toInt64 + (1 : Int64) = m at *
  have key : (maxJ (-1 : Int64) (minJ v m)).toInt = max (-1) (min v.toInt ((n : Int) + 1)) := by
    have h3 : (minJ v m).toInt = min v.toInt ((n : Int) + 1) := by
      unfold minJ
      by_cases h : m < v
      · rw [if_pos h]
        have := Int64.lt_iff_toInt_lt.mp h
        omega
      · rw [if_neg h]
        have : ¬ m.toInt < v.toInt := fun z => h (Int64.lt_iff_toInt_lt.mpr z)
        omega
    unfold maxJ
    generalize minJ v m = z at *
    by_cases h : z < -1
    · rw [if_pos h]
      have := Int64.lt_iff_toInt_lt.mp h
      omega
    · rw [if_neg h]
      have : ¬ z.toInt < (-1 : Int64).toInt := fun q => h (Int64.lt_iff_toInt_lt.mpr q)
      omega
  rw [Int64.toInt_toInt32, key]
  exact Int.bmod_eq_of_le (by omega) (by omega)
theorem getD_d {l : List Int32} {m : Nat} (h : m < l.length) : l.getD m (-1) = l.getD m 0 := by
  rw [List.getD_eq_getElem?_getD, List.getD_eq_getElem?_getD, List.getElem?_eq_getElem h]
  rfl
section PLC
variable {U : Nat → Prop} {g k s j : Nat} {S S2 S2b : St} {ws : List Wd} {w : Wd} {a : Nat} {ts : List (List Int32)} {u : Nat}
theorem B_place {n : Nat} (c : CurC S ws) (hl : LC S) (hw : ws[j]? = some w) (ok : okW w) (hW : WR S S2) (hn : n < 2 ^ 30) : ∃ z, m_Bn_placeAt g S (nI j) (nI n) = some z ∧ z.toInt = max (-1) (min (valW S2 w).toInt ((n : Int) + 1)) := by
  refine ⟨_, ?_, plJ (v := valW S2 w) hn⟩
  unfold m_Bn_placeAt
  rw [B_whole c hl hw ok hW]
  rfl
theorem stL_pl {l1 l2 : List Int32} {v z : Int} (h : z = max (-1) (min v ((l2.length : Int) + 1))) : stL l1 l2 z ↔ stL l1 l2 v := by
  by_cases h1 : 0 ≤ v ∧ v ≤ (l2.length : Int) + 1
  · rw [show z = v by omega]
  · constructor
    · rintro ⟨a, b, -⟩
      omega
    · rintro ⟨a, b, -⟩
      omega
theorem j64 {x : Int32} : x.toInt64.toInt = x.toInt := Int32.toInt_toInt64 x
theorem M_looks185n {x1 x2 x3 x6 : Int32} {x4 : Int64} (h : gI S2 0 58 ≠ 0) : m_looks_180 g S2 x1 x2 x3 x4 x6 = some S2 ∧ m_looks_184 g S2 x1 x2 x3 x4 x6 = some S2 := by
  constructor
  · unfold m_looks_180 m_looks_185
    rw [M_ref1n h, Option.bind_some, if_neg h]
  · unfold m_looks_184 m_looks_185
    rw [M_ref0, Option.bind_some, if_neg h]
theorem ifo {α : Type} {p : Prop} [Decidable p] {x y z : α} (h1 : x = z) (h2 : y = z) : (if p then x else y) = z := by
  split <;> assumption
end PLC
theorem St11 : StOK 11 := by
  intro g U k S S2 ws a hg hk hR c cm hW h0
  obtain ⟨φ, cs, ts, u, pl, pm, ps, qs, r, bd⟩ := hR
  obtain ⟨q1, q2, q3⟩ := hW
  have q1 : 3 ≤ ws.length := q1
  have q2 : ws.length ≤ 3 := q2
  obtain ⟨w0, w1, w2, rfl⟩ := ls3 (show ws.length = 3 by omega)
  have hl := r.2.1
  have hm := r.2.2.1
  have hT := r.2.2.2.1
  obtain ⟨-, n, hn, hv⟩ := okL_w (show okL U 119 w0 from q3 0 w0 rfl)
  have f1 : F0M S2 (sI S2 0 57 0) := F0M_sI (Or.inl rfl)
  have f2 : F0M S2 (sI (sI S2 0 57 0) 0 58 4) := f1.tr (F0M_sI (Or.inr (Or.inl rfl)))
  have h0' : gI (sI S2 0 57 0) 0 58 = 0 := by rw [gI_ne (by decide)]; exact h0
  have cm' := cm.fs (FS.f0 f1)
  have hm' := hm.fs (FS.f0 f1)
  have T2 := hT.2.1.f0 f1
  obtain ⟨x, y, e1, e2, e3, e4⟩ := getT (g := g) (j := 1) (w := w1) r c cm rfl (show okL U 84 w1 from q3 1 w1 rfl) (by decide)
  have o2 : okW w2 := okL_W (show okL U 87 w2 from q3 2 w2 rfl)
  have hWR : WR S S2 := r.2.2.2.2.2.2.2.2.1
  have e5 : m_value g (sI S2 0 57 0) (nI a + (2 : Int32)) = some (valW S2 w2) := by rw [show (2 : Int32) = nI 2 from rfl, nI_add]; exact M_value (g := g) (j := 2) (w := w2) cm' hm' rfl o2
  have cm2 := cm.fs (FS.f0 f2)
  have hm2 := hm.fs (FS.f0 f2)
  have e6 : m_value g (sI (sI S2 0 57 0) 0 58 4) (nI a + (2 : Int32)) = some (valW S2 w2) := by rw [show (2 : Int32) = nI 2 from rfl, nI_add]; exact M_value (g := g) (j := 2) (w := w2) cm2 hm2 rfl o2
  have hlk := lacks1 (s := 11) (j0 := 1) hg c (show 1 < 3 by decide) (show ∀ j, j < 3 → j ≠ 1 → ¬ lett 11 (nI j) = 84 from by decide +kernel) (by decide +kernel) e1
  rcases e4 with ⟨rfl, rfl⟩ | ⟨p, q, l, rfl, rfl, hpq, hp, hq, l1, l2, l3, l4⟩
  · rw [c01_t rfl] at hlk
    obtain ⟨l, l1, l2, l3, l4⟩ := hT.2.2.1 0 0 hT.2.2.2.2.1
    have T3 := hT.2.1.f0 f2
    have h4 : gI (sI (sI S2 0 57 0) 0 58 4) 0 58 ≠ 0 := by rw [sI_58]; decide
    refine ⟨S, sI (sI S2 0 57 0) 0 58 4, 4, doC_no hlk, ?_, fin_no r bd F0C.rf r.2.2.2.2.2.2.2.2.2.2.2.2.2 f2 sI_58 (by decide)⟩
    rw [dM_11, dM2_11 (M_tAt0 (e2 _ f1) h0') e6 (T_size T3 hm2 l2).1, isIn_s, Option.bind_some, ifo (M_looks185n h4).1 (M_looks185n h4).2]
    rfl
  · rw [c01_f (m1_ne (by omega))] at hlk
    obtain ⟨z, z1, z2⟩ := B_place (g := g) (j := 2) (w := w2) (n := l.length) c hl rfl o2 hWR (by omega)
    have hv1 : ((nI l.length - (1 : Int32)).toInt64).toInt = (l.length : Int) - 1 := by rw [j64, show (1 : Int32) = nI 1 from rfl, nI_subI (by omega) (by omega)]; rfl
    by_cases hin : (0 : Int) ≤ (valW S2 w2).toInt ∧ (valW S2 w2).toInt ≤ (l.length : Int) - 1
    · obtain ⟨m, hmv⟩ : ∃ m : Nat, (valW S2 w2).toInt = (m : Int) := ⟨(valW S2 w2).toInt.toNat, by omega⟩
      have hz : z = nI m := Int32.toInt_inj.mp (by rw [z2, nI_toInt (by omega)]; omega)
      subst hz
      refine ⟨sG S 75 n (l.getD m 0).toInt64, sG (sI S2 0 57 0) 32 n (l.getD m 0).toInt64, 0, ?_, ?_, fin_gw r bd f1 h0' hn⟩
      · rw [doC_W hlk (by decide +kernel), dC_11, show (1 : Int32) = nI 1 from rfl, e1, Option.bind_some]
        unfold m_WS_giveUnit
        rw [C_size hT.1 l1, Option.bind_some, show (2 : Int32) = nI 2 from rfl, z1, Option.bind_some, if_neg (nI_pos (by omega)), if_pos (nI_lt (by omega) (by omega)), C_unit hT.1 l1, Option.bind_some, atR_nI (by omega), getD_d (show m < l.length by omega), B_gw c hl (w := w0) rfl hn hv]
        rfl
      · rw [dM_11, dM2_11 (M_tAt (e2 _ f1) (by omega)) e5 (T_size T2 hm' l2).1, isIn_s, Option.bind_some, c01_t (by rw [hv1, z64]; exact hin), if_neg (by decide)]
        unfold m_looks_184 m_looks_185
        rw [M_ref0, Option.bind_some, if_pos h0', lt_d, if_pos (by decide +kernel), j32 hmv (by omega), T_unit T2 hm' l2 (by omega), Option.bind_some, M_gw cm' hm' (w := w0) rfl hn hv h0']
        rfl
    · have f3 : F0M S2 (sI (sI S2 0 57 0) 0 58 1) := f1.tr (F0M_sI (Or.inr (Or.inl rfl)))
      refine ⟨S, sI (sI S2 0 57 0) 0 58 1, 1, ?_, ?_, fin_no r bd F0C.rf r.2.2.2.2.2.2.2.2.2.2.2.2.2 f3 sI_58 (by decide)⟩
      · rw [doC_W hlk (by decide +kernel), dC_11, show (1 : Int32) = nI 1 from rfl, e1, Option.bind_some]
        unfold m_WS_giveUnit
        rw [C_size hT.1 l1, Option.bind_some, show (2 : Int32) = nI 2 from rfl, z1, Option.bind_some]
        by_cases hz : z < 0
        · rw [if_pos hz]
          rfl
        · have hz' : ¬ z.toInt < 0 := fun q => hz (Int32.lt_iff_toInt_lt.mpr q)
          rw [if_neg hz, if_neg (fun q => by
            have := Int32.lt_iff_toInt_lt.mp q
            rw [nI_toInt (by omega)] at this
            omega)]
          rfl
      · rw [dM_11, dM2_11 (M_tAt (e2 _ f1) (by omega)) e5 (T_size T2 hm' l2).1, isIn_s, Option.bind_some, c01_f (by rw [hv1, z64]; exact hin), if_pos rfl]
        unfold m_looks_180 m_looks_185
        rw [M_ref1 h0', Option.bind_some, if_neg (by rw [sI_58]; decide)]
        rfl
theorem St25 : StOK 25 := by
  intro g U k S S2 ws a hg hk hR c cm hW h0
  obtain ⟨φ, cs, ts, u, pl, pm, ps, qs, r, bd⟩ := hR
  obtain ⟨q1, q2, q3⟩ := hW
  have q1 : 4 ≤ ws.length := q1
  have q2 : ws.length ≤ 4 := q2
  obtain ⟨w0, w1, w2, w3, rfl⟩ := ls4 (show ws.length = 4 by omega)
  have hl := r.2.1
  have hm := r.2.2.1
  have hT := r.2.2.2.1
  obtain ⟨-, n, hn, hv⟩ := okL_w (show okL U 119 w0 from q3 0 w0 rfl)
  have f1 : F0M S2 (sI S2 0 57 0) := F0M_sI (Or.inl rfl)
  have f2 : F0M S2 (sI (sI S2 0 57 0) 0 58 4) := f1.tr (F0M_sI (Or.inr (Or.inl rfl)))
  have h0' : gI (sI S2 0 57 0) 0 58 = 0 := by rw [gI_ne (by decide)]; exact h0
  have cm' := cm.fs (FS.f0 f1)
  have hm' := hm.fs (FS.f0 f1)
  have T2 := hT.2.1.f0 f1
  obtain ⟨x, y, e1, e2, e3, e4⟩ := getT (g := g) (j := 1) (w := w1) r c cm rfl (show okL U 84 w1 from q3 1 w1 rfl) (by decide)
  obtain ⟨x', y', d1, d2, d3, d4⟩ := getT (g := g) (j := 2) (w := w2) r c cm rfl (show okL U 84 w2 from q3 2 w2 rfl) (by decide)
  have o3 : okW w3 := okL_W (show okL U 87 w3 from q3 3 w3 rfl)
  have hWR : WR S S2 := r.2.2.2.2.2.2.2.2.1
  have e5 : m_value g (sI S2 0 57 0) (nI a + nI 3) = some (valW S2 w3) := by rw [nI_add]; exact M_value (g := g) (j := 3) (w := w3) cm' hm' rfl o3
  have hlk := lacks2 (s := 25) hg c (show 2 < 4 by decide) (show ∀ j, j < 4 → j ≠ 1 → j ≠ 2 → ¬ lett 25 (nI j) = 84 from by decide +kernel) (by decide +kernel) (by decide +kernel) e1 d1
  by_cases hn2 : x = -1 ∨ x' = -1
  · rw [c01_t hn2] at hlk
    rw [e4.eq1, d4.eq1] at hn2
    obtain ⟨T, v1, v2, t1, t2⟩ := M_tA2 (e2 _ f1) (d2 _ f1) (d2 _ f2) h0' e4.nn d4.nn hn2
    refine ⟨S, sI (sI S2 0 57 0) 0 58 4, 4, doC_no hlk, ?_, fin_no r bd F0C.rf r.2.2.2.2.2.2.2.2.2.2.2.2.2 f2 sI_58 (by decide)⟩
    rw [dM_25, dM2_25 t1, show (2 : Int32) = nI 2 from rfl, t2, Option.bind_some]
    dsimp only
    unfold m_seeks_25
    rw [if_neg (by rw [sI_58]; decide)]
    rfl
  · rw [c01_f hn2] at hlk
    rcases e4 with ⟨rfl, rfl⟩ | ⟨p, q, l, rfl, rfl, hpq, hp, hq, l1, l2, l3, l4⟩
    · exact absurd (Or.inl rfl) hn2
    rcases d4 with ⟨rfl, rfl⟩ | ⟨p', q', l', rfl, rfl, hpq', hp', hq', l1', l2', l3', l4'⟩
    · exact absurd (Or.inr rfl) hn2
    obtain ⟨z, z1, z2⟩ := B_place (g := g) (j := 3) (w := w3) (n := l.length) c hl rfl o3 hWR (by omega)
    have hst : stL l' l z.toInt ↔ stL l' l (valW S2 w3).toInt := stL_pl z2
    refine ⟨sG S 75 n (j01 (stL l' l z.toInt)), sG (sI S2 0 57 0) 32 n (j01 (stL l' l z.toInt)), 0, ?_, ?_, fin_gw r bd f1 h0' hn⟩
    · rw [doC_W hlk (by decide +kernel), dC_25, show (1 : Int32) = nI 1 from rfl, show (2 : Int32) = nI 2 from rfl, e1, d1, Option.bind_some, Option.bind_some, dC2_25, C_size hT.1 l1, Option.bind_some, show (3 : Int32) = nI 3 from rfl, z1, Option.bind_some, C_stands hg hT.1 l1' l1, Option.bind_some, B_gtr c hl (w := w0) rfl hn hv]
      rfl
    · rw [dM_25, dM2_25 (M_tAt (e2 _ f1) (by omega)), show (2 : Int32) = nI 2 from rfl, M_tAt (d2 _ f1) (by omega), Option.bind_some]
      dsimp only
      unfold m_seeks_25
      rw [if_pos h0', (T_size T2 hm' l2).1, Option.bind_some, (T_size T2 hm' l2').1, Option.bind_some, if_neg (by decide +kernel), if_pos (by decide +kernel), show (3 : Int32) = nI 3 from rfl, e5, Option.bind_some, M_stands hg T2 hm' l2' l2, Option.bind_some]
      unfold m_seeks_115 m_seeks_258
      by_cases h : stL l' l z.toInt
      · rw [c01_t (hst.mp h), if_neg (by decide), j01_t h, M_gw cm' hm' (w := w0) rfl hn hv h0']
        rfl
      · rw [c01_f (fun e => h (hst.mpr e)), if_pos rfl, j01_f h, M_gw cm' hm' (w := w0) rfl hn hv h0']
        rfl
theorem St26 : StOK 26 := by
  intro g U k S S2 ws a hg hk hR c cm hW h0
  obtain ⟨φ, cs, ts, u, pl, pm, ps, qs, r, bd⟩ := hR
  obtain ⟨q1, q2, q3⟩ := hW
  have q1 : 3 ≤ ws.length := q1
  have q2 : ws.length ≤ 3 := q2
  obtain ⟨w0, w1, w2, rfl⟩ := ls3 (show ws.length = 3 by omega)
  have hl := r.2.1
  have hm := r.2.2.1
  have hT := r.2.2.2.1
  obtain ⟨-, n, hn, hv⟩ := okL_w (show okL U 119 w0 from q3 0 w0 rfl)
  have f1 : F0M S2 (sI S2 0 57 0) := F0M_sI (Or.inl rfl)
  have f2 : F0M S2 (sI (sI S2 0 57 0) 0 58 4) := f1.tr (F0M_sI (Or.inr (Or.inl rfl)))
  have h0' : gI (sI S2 0 57 0) 0 58 = 0 := by rw [gI_ne (by decide)]; exact h0
  have cm' := cm.fs (FS.f0 f1)
  have hm' := hm.fs (FS.f0 f1)
  have T2 := hT.2.1.f0 f1
  obtain ⟨x, y, e1, e2, e3, e4⟩ := getT (g := g) (j := 1) (w := w1) r c cm rfl (show okL U 84 w1 from q3 1 w1 rfl) (by decide)
  obtain ⟨x', y', d1, d2, d3, d4⟩ := getT (g := g) (j := 2) (w := w2) r c cm rfl (show okL U 84 w2 from q3 2 w2 rfl) (by decide)
  have hlk := lacks2 (s := 26) hg c (show 2 < 3 by decide) (show ∀ j, j < 3 → j ≠ 1 → j ≠ 2 → ¬ lett 26 (nI j) = 84 from by decide +kernel) (by decide +kernel) (by decide +kernel) e1 d1
  by_cases hn2 : x = -1 ∨ x' = -1
  · rw [c01_t hn2] at hlk
    rw [e4.eq1, d4.eq1] at hn2
    obtain ⟨T, v1, v2, t1, t2⟩ := M_tA2 (e2 _ f1) (d2 _ f1) (d2 _ f2) h0' e4.nn d4.nn hn2
    refine ⟨S, sI (sI S2 0 57 0) 0 58 4, 4, doC_no hlk, ?_, fin_no r bd F0C.rf r.2.2.2.2.2.2.2.2.2.2.2.2.2 f2 sI_58 (by decide)⟩
    rw [dM_26, dM2_26 t1, show (2 : Int32) = nI 2 from rfl, t2, Option.bind_some]
    dsimp only
    unfold m_seeks_25
    rw [if_neg (by rw [sI_58]; decide)]
    rfl
  · rw [c01_f hn2] at hlk
    rcases e4 with ⟨rfl, rfl⟩ | ⟨p, q, l, rfl, rfl, hpq, hp, hq, l1, l2, l3, l4⟩
    · exact absurd (Or.inl rfl) hn2
    rcases d4 with ⟨rfl, rfl⟩ | ⟨p', q', l', rfl, rfl, hpq', hp', hq', l1', l2', l3', l4'⟩
    · exact absurd (Or.inr rfl) hn2
    refine ⟨sG S 75 n (j01 (stL l' l (nI l.length - nI l'.length).toInt)), sG (sI S2 0 57 0) 32 n (j01 (stL l' l (nI l.length - nI l'.length).toInt)), 0, ?_, ?_, fin_gw r bd f1 h0' hn⟩
    · rw [doC_W hlk (by decide +kernel), dC_26, show (1 : Int32) = nI 1 from rfl, show (2 : Int32) = nI 2 from rfl, e1, d1, Option.bind_some, Option.bind_some, dC2_26, C_size hT.1 l1, Option.bind_some, C_size hT.1 l1', Option.bind_some, C_stands hg hT.1 l1' l1, Option.bind_some, B_gtr c hl (w := w0) rfl hn hv]
      rfl
    · rw [dM_26, dM2_26 (M_tAt (e2 _ f1) (by omega)), show (2 : Int32) = nI 2 from rfl, M_tAt (d2 _ f1) (by omega), Option.bind_some]
      dsimp only
      unfold m_seeks_25
      rw [if_pos h0', (T_size T2 hm' l2).1, Option.bind_some, (T_size T2 hm' l2').1, Option.bind_some, if_neg (by decide +kernel), if_neg (by decide +kernel), if_pos (by decide +kernel), M_stands hg T2 hm' l2' l2, Option.bind_some, j64]
      unfold m_seeks_147 m_seeks_258
      by_cases h : stL l' l (nI l.length - nI l'.length).toInt
      · rw [c01_t h, if_neg (by decide), j01_t h, M_gw cm' hm' (w := w0) rfl hn hv h0']
        rfl
      · rw [c01_f h, if_pos rfl, j01_f h, M_gw cm' hm' (w := w0) rfl hn hv h0']
        rfl
