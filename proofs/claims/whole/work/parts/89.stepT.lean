/-! an X is added; from, join -/
section XAD
variable {U : Nat → Prop} {g k j : Nat} {S S2 : St} {ws : List Wd} {w : Wd} {a : Nat} {φ : Nat → Option Nat} {cs ts : List (List Int32)} {u : Nat} {pl pm ps qs : List Nat} {v : List Int32}
theorem okX (ok : okL U 88 w) : (w.1 = 0 ∧ argN w 20) ∨ (w.1 = 3 ∧ ∃ n : Nat, U n ∧ w.2.1.toInt = (n : Int)) ∨ (w.1 = 2 ∧ argN w 6) ∨ ((w.1 = 1 ∨ w.1 = 5 ∨ w.1 = 7) ∧ argN w 12) ∨ (w.1 = 4 ∨ w.1 = 6 ∨ w.1 = 8) := by
  rcases ok with h | h | h | h | h | h | h
  · exact absurd h.1 (by decide)
  · exact absurd h.1 (by decide)
  · exact absurd h.1 (by decide)
  · exact absurd h.1 (by decide)
  · exact absurd h.1 (by decide)
  · exact h.2
  · exact absurd h.1 (by decide)
theorem getX (r : RS U S S2 φ cs ts u pl pm ps qs) (c : CurC S ws) (cm : CurM S2 a ws) (hw : ws[j]? = some w) (h : (w.1 = 0 ∧ argN w 20) ∨ (w.1 = 3 ∧ ∃ n : Nat, U n ∧ w.2.1.toInt = (n : Int))) : ∃ x y, m_Bn_textAt g S (nI j) = some x ∧ m_text g S2 (nI (a + j)) = some y ∧ TT φ cs ts x y ∧ (w.1 = 3 → x ≠ -1) := by
  have h84 : okL U 84 w := Or.inr (Or.inr (Or.inr (Or.inl ⟨Or.inl rfl, h⟩)))
  obtain ⟨x0, y0, a1, a2, a3, a4⟩ := getT (g := g) r c cm hw h84 (Or.inl rfl)
  have o1 : okT φ S S2 w := okL_T h84 (Or.inl rfl) r.2.2.2.2.2.2.2.2.2.2.2.2.1
  obtain ⟨x, y, e1, e2, -, e4⟩ := MB_text (g := g) c cm r.2.1 r.2.2.1 hw o1 r.2.2.2.2.2.2.2.1
  have hx : x0 = x := Option.some.inj (a1.symm.trans e1)
  subst hx
  exact ⟨x0, y0, a1, by rw [← nI_add]; exact a2 _ F0M.rf, a4, e4⟩
theorem X_add (hg : 100000 ≤ g) (r : RS U S S2 φ cs ts u pl pm ps qs) (c : CurC S ws) (cm : CurM S2 a ws) (hw : ws[j]? = some w) (ok : okL U 88 w) (op : w.1 = 2 → ∀ b : Nat, w.2.1.toInt = (b : Int) → ¬ gF S 77 b = -1) (sc : Scr S 23 v) (o : Out S2 v) (h0 : gI S2 0 58 = 0) (hv : v.length + 600 < 2 ^ 31) : (∃ S' S2' W, m_Bn_addX g S (nI j) = some (S', 0) ∧ m_emitX g S2 (nI (a + j)) = some S2' ∧ Fr 23 S S' ∧ FE S2 S2' ∧ Scr S' 23 (v ++ W) ∧ Out S2' (v ++ W) ∧ usL W ∧ W.length ≤ 400) ∨ (m_Bn_addX g S (nI j) = some (S, 3) ∧ m_emitX g S2 (nI (a + j)) = some (sI S2 0 58 3)) := by
  have hl := r.2.1
  have hm := r.2.2.1
  have hT := r.2.2.2.1
  have hWR : WR S S2 := r.2.2.2.2.2.2.2.2.1
  obtain ⟨ek, ev⟩ := M_word cm hm hw
  have hC : m_Bn_addX g S (nI j) = m_Bn_addX g S (nI j) := rfl
  conv at hC => rhs; unfold m_Bn_addX
  rw [B_sign c hl hw, Option.bind_some, B_kind c hl hw, Option.bind_some, Option.bind_some, Option.bind_some] at hC
  have TX : ((w.1 = 0 ∧ argN w 20) ∨ (w.1 = 3 ∧ ∃ n : Nat, U n ∧ w.2.1.toInt = (n : Int))) → (∃ S' S2' W, m_Bn_addX g S (nI j) = some (S', 0) ∧ m_emitX g S2 (nI (a + j)) = some S2' ∧ Fr 23 S S' ∧ FE S2 S2' ∧ Scr S' 23 (v ++ W) ∧ Out S2' (v ++ W) ∧ usL W ∧ W.length ≤ 400) := by
    intro h
    have h03 : w.1 = 0 ∨ w.1 = 3 := by rcases h with h | h <;> omega
    obtain ⟨x, y, e1, e2, e4, e5⟩ := getX (g := g) r c cm hw h
    have key : m_Bn_addX g S (nI j) = if x = -1 then ((m_Row_addChars g S 23 7).bind fun S_8 => m_Bn_addX_174 g S_8) else ((m_Bn_addText g S x).bind fun S_7 => m_Bn_addX_186 g S_7) := by
      rw [hC]
      rcases h03 with q | q
      · rw [q, if_neg (by decide +kernel), if_neg (by decide +kernel), if_neg (by decide +kernel), if_neg (by decide +kernel), if_neg (by decide +kernel), e1, Option.bind_some, Option.bind_some]
      · rw [q, if_neg (by decide +kernel), if_neg (by decide +kernel), if_neg (by decide +kernel), if_neg (by decide +kernel), if_neg (by decide +kernel), e1, Option.bind_some, Option.bind_some]
    rcases e4 with ⟨rfl, rfl⟩ | ⟨p, q, l, rfl, rfl, hpq, hp, hq, l1, l2, l3, l4⟩
    · have hk0 : w.1 = 0 := by
        rcases h03 with q | q
        · exact q
        · exact absurd rfl (e5 q)
      obtain ⟨S', a1, a2, a3⟩ := Scr_chars (g := g) (j := 7) (by decide) hg sc r.1
      rw [chr_5.2.2] at a3
      obtain ⟨T1, T2, T3, T, b1, b2, b3, b4, b5, b6⟩ := O_null (g := g) hm o (by omega)
      refine ⟨S', T, _, ?_, ?_, a2, b5, a3, b6, ?_, by decide⟩
      · rw [key, if_pos rfl, a1]
        rfl
      · unfold m_emitX
        rw [ek, Option.bind_some, hk0, if_pos (show nI 0 = 0 from rfl), e2, Option.bind_some, if_neg (by decide), b1, Option.bind_some, b2, Option.bind_some, b3, Option.bind_some, b4]
        rfl
      · exact usL_1 (usL_1 (usL_1 (usL_1 (v := []) usL_nil ⟨110, by omega, rfl⟩) ⟨117, by omega, rfl⟩) ⟨108, by omega, rfl⟩) ⟨108, by omega, rfl⟩
    · obtain ⟨S', a1, a2, a3⟩ := C_addTextS (g := g) hT.1 sc r.1 l1
      obtain ⟨T, b1, b2, b3⟩ := O_text (g := g) (t := q) (a := 0) (b := l.length) hg hT.2.1 hm l2 (by omega) (by omega) o (by omega)
      rw [Nat.sub_zero, seg_all] at b3
      rw [nI_0] at b1
      refine ⟨S', T, l, ?_, ?_, a2, b2, a3, b3, l4, l3⟩
      · rw [key, if_neg (m1_ne (by omega)), a1]
        rfl
      · have e55 : m_emitX_55 g S2 (nI (a + j)) = some T := by
          unfold m_emitX_55
          rw [e2, Option.bind_some, Option.bind_some, (T_size hT.2.1 hm l2).1, Option.bind_some, b1]
          rfl
        rcases h03 with q' | q'
        · unfold m_emitX m_emitX_46
          rw [ek, Option.bind_some, q', if_pos (show nI 0 = 0 from rfl), e2, Option.bind_some, if_pos (nI_pos' (by omega)), if_pos (show nI 0 = 0 from rfl), e55]
        · rw [q'] at ek
          rw [eX_3 ek, e55]
  have NUM : okW w → (w.1 = 1 ∨ w.1 = 4) → (∃ S' S2' W, m_Bn_addX g S (nI j) = some (S', 0) ∧ m_emitX g S2 (nI (a + j)) = some S2' ∧ Fr 23 S S' ∧ FE S2 S2' ∧ Scr S' 23 (v ++ W) ∧ Out S2' (v ++ W) ∧ usL W ∧ W.length ≤ 400) := by
    intro ow h
    obtain ⟨S', a1, a2, a3⟩ := Scr_whole (g := g) (x := valW S2 w) (x3 := 10) hg sc r.1 (by decide) (by decide)
    rw [show bsN 10 = 10 from by decide +kernel] at a3
    obtain ⟨T, b1, b2, b3⟩ := O_number (g := g) (b := 10) (x := valW S2 w) hg (by omega) (by omega) hm o (by omega)
    have hu := num_us (x := valW S2 w) (b := 10) (by omega) (by omega)
    have k138 : m_Bn_addX_138 g S (nI j) = some (S', 0) := by
      unfold m_Bn_addX_138
      rw [B_whole (S2 := S2) c hl hw ow hWR, Option.bind_some, a1]
      rfl
    have k88 : m_emitX_88 g S2 (nI (a + j)) = some T := by
      unfold m_emitX_88
      rw [M_value cm hm hw ow, Option.bind_some, show (10 : Int32) = nI 10 from rfl, b1]
      rfl
    refine ⟨S', T, _, ?_, ?_, a2, b2, a3, b3, hu.1, by omega⟩
    · rw [hC]
      rcases h with q | q
      · rw [q, if_neg (by decide +kernel), if_neg (by decide +kernel), if_neg (by decide +kernel), if_neg (by decide +kernel), if_pos (by decide +kernel), k138]
      · rw [q, if_neg (by decide +kernel), if_neg (by decide +kernel), if_neg (by decide +kernel), if_pos (by decide +kernel), k138]
    · rcases h with q | q
      · rw [q] at ek
        rw [eX_1 ek, k88]
      · rw [q] at ek
        rw [eX_4 ek, k88]
  have PNT : okW w → (w.1 = 5 ∨ w.1 = 6) → (∃ S' S2' W, m_Bn_addX g S (nI j) = some (S', 0) ∧ m_emitX g S2 (nI (a + j)) = some S2' ∧ Fr 23 S S' ∧ FE S2 S2' ∧ Scr S' 23 (v ++ W) ∧ Out S2' (v ++ W) ∧ usL W ∧ W.length ≤ 400) ∨ (m_Bn_addX g S (nI j) = some (S, 3) ∧ m_emitX g S2 (nI (a + j)) = some (sI S2 0 58 3)) := by
    intro ow h
    have hCp : m_Bn_addX g S (nI j) = if c01 (0 ≤ (valW S2 w).toInt ∧ (valW S2 w).toInt ≤ 1114111) = 0 then some (S, 3) else ((m_Row_addPoint g S 23 (valW S2 w).toInt32).bind fun S_16 => m_Bn_addX_38 g S_16) := by
      rw [hC]
      rcases h with q | q
      · rw [q, if_pos (by decide +kernel), B_whole (S2 := S2) c hl hw ow hWR, Option.bind_some, isPoint_s, Option.bind_some, Option.bind_some]
      · rw [q, if_pos (by decide +kernel), B_whole (S2 := S2) c hl hw ow hWR, Option.bind_some, isPoint_s, Option.bind_some, Option.bind_some]
    have hMp : m_emitX g S2 (nI (a + j)) = m_emitPoint g S2 (valW S2 w) := by
      have k113 : m_emitX_113 g S2 (nI (a + j)) = m_emitPoint g S2 (valW S2 w) := by
        unfold m_emitX_113
        rw [M_value cm hm hw ow, Option.bind_some, bS]
      rcases h with q | q
      · rw [q] at ek
        rw [eX_5 ek, k113]
      · rw [q] at ek
        rw [eX_6 ek, k113]
    by_cases hin : 0 ≤ (valW S2 w).toInt ∧ (valW S2 w).toInt ≤ 1114111
    · obtain ⟨S', a1, a2, a3⟩ := Scr_point (g := g) (x := (valW S2 w).toInt32) sc r.1
      obtain ⟨T, b1, b2, b3⟩ := O_point (g := g) hm o h0 hin (by omega)
      obtain ⟨n, hn⟩ : ∃ n : Nat, (valW S2 w).toInt = (n : Int) := ⟨(valW S2 w).toInt.toNat, by omega⟩
      have hu := pt_us (n := n) (by omega)
      rw [← j32 hn (by omega)] at hu
      refine Or.inl ⟨S', T, _, ?_, hMp.trans b1, a2, b2, a3, b3, hu.1, by omega⟩
      rw [hCp, c01_t hin, if_neg (by decide), a1]
      rfl
    · refine Or.inr ⟨?_, hMp.trans (O_pointR h0 hin)⟩
      rw [hCp, c01_f hin, if_pos rfl]
  have TRU : okW w → (w.1 = 7 ∨ w.1 = 8) → (∃ S' S2' W, m_Bn_addX g S (nI j) = some (S', 0) ∧ m_emitX g S2 (nI (a + j)) = some S2' ∧ Fr 23 S S' ∧ FE S2 S2' ∧ Scr S' 23 (v ++ W) ∧ Out S2' (v ++ W) ∧ usL W ∧ W.length ≤ 400) := by
    intro ow h
    have hCp : m_Bn_addX g S (nI j) = if valW S2 w = 0 then m_Bn_addX_68 g S 5 else m_Bn_addX_68 g S 6 := by
      rw [hC]
      rcases h with q | q
      · rw [q, if_neg (by decide +kernel), if_pos (by decide +kernel), B_whole (S2 := S2) c hl hw ow hWR, Option.bind_some]
      · rw [q, if_neg (by decide +kernel), if_pos (by decide +kernel), B_whole (S2 := S2) c hl hw ow hWR, Option.bind_some]
    have hMp : m_emitX g S2 (nI (a + j)) = if valW S2 w = 0 then m_emitTruth g S2 0 else m_emitTruth g S2 1 := by
      rcases h with q | q
      · rw [q] at ek
        rw [eX_7 ek, M_value cm hm hw ow, Option.bind_some]
        unfold m_emitX_194
        rw [bS, bS]
      · rw [q] at ek
        rw [eX_8 ek, M_value cm hm hw ow, Option.bind_some]
        unfold m_emitX_194
        rw [bS, bS]
    have u5 : usL [102, 97, 108, 115, 101] := usL_1 (usL_1 (usL_1 (usL_1 (usL_1 (v := []) usL_nil ⟨102, by omega, rfl⟩) ⟨97, by omega, rfl⟩) ⟨108, by omega, rfl⟩) ⟨115, by omega, rfl⟩) ⟨101, by omega, rfl⟩
    have u6 : usL [116, 114, 117, 101] := usL_1 (usL_1 (usL_1 (usL_1 (v := []) usL_nil ⟨116, by omega, rfl⟩) ⟨114, by omega, rfl⟩) ⟨117, by omega, rfl⟩) ⟨101, by omega, rfl⟩
    by_cases hz : valW S2 w = 0
    · obtain ⟨S', a1, a2, a3⟩ := Scr_chars (g := g) (j := 5) (by decide) hg sc r.1
      rw [chr_5.1] at a3
      obtain ⟨T, b1, b2, b3⟩ := O_truth (g := g) (b := 0) hm o (by omega)
      refine ⟨S', T, _, ?_, ?_, a2, b2, a3, b3, u5, by decide⟩
      · rw [hCp, if_pos hz]
        unfold m_Bn_addX_68
        rw [a1]
        rfl
      · rw [hMp, if_pos hz, b1]
    · obtain ⟨S', a1, a2, a3⟩ := Scr_chars (g := g) (j := 6) (by decide) hg sc r.1
      rw [chr_5.2.1] at a3
      obtain ⟨T, b1, b2, b3⟩ := O_truth (g := g) (b := 1) hm o (by omega)
      refine ⟨S', T, _, ?_, ?_, a2, b2, a3, b3, u6, by decide⟩
      · rw [hCp, if_neg hz]
        unfold m_Bn_addX_68
        rw [a1]
        rfl
      · rw [hMp, if_neg hz, b1]
  rcases okX ok with h | h | ⟨h, bi, hb, hbv⟩ | ⟨h, h'⟩ | h
  · exact Or.inl (TX (Or.inl h))
  · exact Or.inl (TX (Or.inr h))
  · have hBR : BR S S2 := r.2.2.2.2.2.2.2.2.2.1
    obtain ⟨lb, ov, rm, b1, b2, b3, b4, b5, b6⟩ := hBR.op hb (op h bi hbv)
    obtain ⟨S', a1, a2, a3⟩ := Scr_ins (g := g) (s := 0) (n := lb.length) sc b1 (by omega) r.1 (by omega)
    rw [Nat.zero_add] at a1
    rw [seg_all] at a3
    have hlb := b5.2.1
    obtain ⟨T, d1, d2, d3⟩ := O_bldX (g := g) hb lb.length g 0 S2 v (by omega) (by omega) hm b5 o (by omega)
    rw [seg_all] at d3
    refine Or.inl ⟨S', T, lb, ?_, ?_, a2, d2, a3, d3, b6, hlb⟩
    · rw [hC, h, if_neg (by decide +kernel), if_neg (by decide +kernel), if_pos (by decide +kernel), B_bld c hl hw hb hbv, Option.bind_some, bR_at hl hb, Option.bind_some, b1.2.2.1, show m_Row_insert g S 23 (gI S 23 2) (24 + bi) 0 (nI lb.length) = some S' from a1]
      rfl
    · rw [h] at ek
      rw [eX_2 ek, ev, Option.bind_some, j32 hbv (by omega)]
      exact d1
  · have ow : okW w := Or.inr ⟨h, h'⟩
    rcases h with h | h | h
    · exact Or.inl (NUM ow (Or.inl h))
    · exact PNT ow (Or.inl h)
    · exact Or.inl (TRU ow (Or.inl h))
  · have ow : okW w := Or.inl h
    rcases h with h | h | h
    · exact Or.inl (NUM ow (Or.inr h))
    · exact PNT ow (Or.inr h)
    · exact Or.inl (TRU ow (Or.inr h))
/-- the reference behind a refusal -/
theorem X_ref (hg : 100000 ≤ g) (r : RS U S S2 φ cs ts u pl pm ps qs) (c : CurC S ws) (cm : CurM S2 a ws) (hw : ws[j]? = some w) (ok : okL U 88 w) (op : w.1 = 2 → ∀ b : Nat, w.2.1.toInt = (b : Int) → ¬ gF S 77 b = -1) (o : Out S2 v) (h0 : ¬ gI S2 0 58 = 0) (hv : v.length + 600 < 2 ^ 31) : ∃ S2' v', m_emitX g S2 (nI (a + j)) = some S2' ∧ FE S2 S2' ∧ Out S2' v' ∧ v'.length ≤ v.length + 400 := by
  have hl := r.2.1
  have hm := r.2.2.1
  have hT := r.2.2.2.1
  obtain ⟨ek, ev⟩ := M_word cm hm hw
  have TX : ((w.1 = 0 ∧ argN w 20) ∨ (w.1 = 3 ∧ ∃ n : Nat, U n ∧ w.2.1.toInt = (n : Int))) → ∃ S2' v', m_emitX g S2 (nI (a + j)) = some S2' ∧ FE S2 S2' ∧ Out S2' v' ∧ v'.length ≤ v.length + 400 := by
    intro h
    have h03 : w.1 = 0 ∨ w.1 = 3 := by rcases h with h | h <;> omega
    obtain ⟨x, y, e1, e2, e4, e5⟩ := getX (g := g) r c cm hw h
    rcases e4 with ⟨rfl, rfl⟩ | ⟨p, q, l, rfl, rfl, hpq, hp, hq, l1, l2, l3, l4⟩
    · have hk0 : w.1 = 0 := by
        rcases h03 with q | q
        · exact q
        · exact absurd rfl (e5 q)
      obtain ⟨T1, T2, T3, T, b1, b2, b3, b4, b5, b6⟩ := O_null (g := g) hm o (by omega)
      refine ⟨T, _, ?_, b5, b6, by simp⟩
      unfold m_emitX
      rw [ek, Option.bind_some, hk0, if_pos (show nI 0 = 0 from rfl), e2, Option.bind_some, if_neg (by decide), b1, Option.bind_some, b2, Option.bind_some, b3, Option.bind_some, b4]
      rfl
    · obtain ⟨T, b1, b2, b3⟩ := O_text (g := g) (t := q) (a := 0) (b := l.length) hg hT.2.1 hm l2 (by omega) (by omega) o (by omega)
      rw [Nat.sub_zero, seg_all] at b3
      rw [nI_0] at b1
      refine ⟨T, _, ?_, b2, b3, by rw [List.length_append]; omega⟩
      have e55 : m_emitX_55 g S2 (nI (a + j)) = some T := by
        unfold m_emitX_55
        rw [e2, Option.bind_some, Option.bind_some, (T_size hT.2.1 hm l2).1, Option.bind_some, b1]
        rfl
      rcases h03 with q' | q'
      · unfold m_emitX m_emitX_46
        rw [ek, Option.bind_some, q', if_pos (show nI 0 = 0 from rfl), e2, Option.bind_some, if_pos (nI_pos' (by omega)), if_pos (show nI 0 = 0 from rfl), e55]
      · rw [q'] at ek
        rw [eX_3 ek, e55]
  have WH : okW w → ∃ S2' v', m_emitX g S2 (nI (a + j)) = some S2' ∧ FE S2 S2' ∧ Out S2' v' ∧ v'.length ≤ v.length + 400 := by
    intro ow
    have mv := M_value (g := g) cm hm hw ow
    have k88 : ∃ S2' v', m_emitX_88 g S2 (nI (a + j)) = some S2' ∧ FE S2 S2' ∧ Out S2' v' ∧ v'.length ≤ v.length + 400 := by
      obtain ⟨T, b1, b2, b3⟩ := O_number (g := g) (b := 10) (x := valW S2 w) hg (by omega) (by omega) hm o (by omega)
      have hu := num_us (x := valW S2 w) (b := 10) (by omega) (by omega)
      refine ⟨T, _, ?_, b2, b3, by rw [List.length_append]; omega⟩
      unfold m_emitX_88
      rw [mv, Option.bind_some, show (10 : Int32) = nI 10 from rfl, b1]
      rfl
    have k113 : ∃ S2' v', m_emitX_113 g S2 (nI (a + j)) = some S2' ∧ FE S2 S2' ∧ Out S2' v' ∧ v'.length ≤ v.length + 400 := by
      refine ⟨S2, v, ?_, FE.rf, o, by omega⟩
      unfold m_emitX_113
      rw [mv, Option.bind_some, O_pointN h0]
      rfl
    have kT : ∃ S2' v', (if valW S2 w = (0 : Int64) then m_emitX_194 g S2 0 else m_emitX_194 g S2 1) = some S2' ∧ FE S2 S2' ∧ Out S2' v' ∧ v'.length ≤ v.length + 400 := by
      unfold m_emitX_194
      rw [bS, bS]
      by_cases hz : valW S2 w = 0
      · obtain ⟨T, b1, b2, b3⟩ := O_truth (g := g) (b := 0) hm o (by omega)
        exact ⟨T, _, by rw [if_pos hz]; exact b1, b2, b3, by rw [List.length_append]; have : (truU 0).length = 5 := rfl; omega⟩
      · obtain ⟨T, b1, b2, b3⟩ := O_truth (g := g) (b := 1) hm o (by omega)
        exact ⟨T, _, by rw [if_neg hz]; exact b1, b2, b3, by rw [List.length_append]; have : (truU 1).length = 4 := rfl; omega⟩
    have hk : w.1 = 1 ∨ w.1 = 4 ∨ w.1 = 5 ∨ w.1 = 6 ∨ w.1 = 7 ∨ w.1 = 8 := by
      rcases ow with h | ⟨h, -⟩ <;> omega
    rcases hk with q | q | q | q | q | q
    · rw [q] at ek; rw [eX_1 ek]; exact k88
    · rw [q] at ek; rw [eX_4 ek]; exact k88
    · rw [q] at ek; rw [eX_5 ek]; exact k113
    · rw [q] at ek; rw [eX_6 ek]; exact k113
    · rw [q] at ek; rw [eX_7 ek, mv, Option.bind_some]; exact kT
    · rw [q] at ek; rw [eX_8 ek, mv, Option.bind_some]; exact kT
  rcases okX ok with h | h | ⟨h, bi, hb, hbv⟩ | ⟨h, h'⟩ | h
  · exact TX (Or.inl h)
  · exact TX (Or.inr h)
  · have hBR : BR S S2 := r.2.2.2.2.2.2.2.2.2.1
    obtain ⟨lb, ov, rm, b1, b2, b3, b4, b5, b6⟩ := hBR.op hb (op h bi hbv)
    have hlb := b5.2.1
    obtain ⟨T, d1, d2, d3⟩ := O_bldX (g := g) hb lb.length g 0 S2 v (by omega) (by omega) hm b5 o (by omega)
    rw [seg_all] at d3
    refine ⟨T, _, ?_, d2, d3, by rw [List.length_append]; omega⟩
    rw [h] at ek
    rw [eX_2 ek, ev, Option.bind_some, j32 hbv (by omega)]
    exact d1
  · exact WH (Or.inr ⟨h, h'⟩)
  · exact WH (Or.inl h)
end XAD
