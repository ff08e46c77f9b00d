/-! the STEPS: turn, add, insert -/
section TRN
variable {g : Nat} {b : Nat} {lb : List Int32}
/-- out comes to builder b, from place 0 on -/
theorem wr_l {v : List Int32} (hb : b < 6) (hv : v.length ≤ 400) : ∀ (k n i : Nat) (S : St), i + k = v.length → k < n → LM S → Out S v → ∃ S', m_turns_98 g n S (nI b) (nI i) = some S' ∧ FBm b S S' ∧ gF S' 28 b = gF S 28 b ∧ gF S' 29 b = gF S 29 b ∧ (∀ j, i ≤ j → j < v.length → gF S' 30 (400 * b + j) = v.getD j 0) ∧ ∀ j, j < i → gF S' 30 (400 * b + j) = gF S 30 (400 * b + j) := by
  intro k
  induction k with
  | zero =>
    intro n i S hi hn hm o
    obtain ⟨n, rfl⟩ : ∃ m, n = m + 1 := ⟨n - 1, by omega⟩
    refine ⟨S, ?_, FBm.rf, rfl, rfl, fun j h1 h2 => by omega, fun j _ => rfl⟩
    show b_turns_98 g (m_turns_98 g n) S _ _ = _
    unfold b_turns_98
    rw [o.1, if_pos (nI_le (by omega) (by omega))]
  | succ k ih =>
    intro n i S hi hn hm o
    obtain ⟨n, rfl⟩ : ∃ m, n = m + 1 := ⟨n - 1, by omega⟩
    have h34 : gN S 34 = 600 := LMn hm 34
    have f1 : FBm b S (sF S 30 (400 * b + i) (v.getD i 0)) := FBm.s30 (by omega)
    obtain ⟨S', a1, a2, a3, a4, a5, a6⟩ := ih n (i + 1) _ (by omega) (by omega) (hm.fbm f1) (o.fbm f1)
    refine ⟨S', ?_, f1.tr a2, a3.trans (gF_ne (by decide)), a4.trans (gF_ne (by decide)), fun j h1 h2 => ?_, fun j hj => ?_⟩
    · show b_turns_98 g (m_turns_98 g n) S _ _ = _
      unfold b_turns_98
      rw [o.1, if_neg (nI_ge (by omega) (by omega)), aI_at (by omega) (by omega), Option.bind_some, o.2 i (by omega) (by omega), (b30 hm hb (by omega)).2, Option.bind_some, lt_d, nI_1, a1]
    · by_cases e : j = i
      · subst e
        rw [a6 j (by omega), gF_sF]
      · exact a5 j (by omega) h2
    · rw [a6 j (by omega), gF_sFi (by omega)]
theorem R_pairB {S : St} {ov : Int32} {o j : Nat} (w : Rw S o lb ov) (hj : j ≤ lb.length) (h1 : 1 ≤ j) (hl : lb.length < 2 ^ 30) : m_Row_hasPair g S o (nI j - (2 : Int32)) (nI j) = some (c01 (2 ≤ j ∧ prL lb (j - 2) j)) := by
  by_cases h2 : 2 ≤ j
  · rw [show (2 : Int32) = nI 2 from rfl, nI_sub h2, R_pair w (by omega) (by omega)]
    exact congrArg some (c01_iff ⟨fun z => ⟨h2, z⟩, fun z => z.2⟩)
  · have : j = 1 := by omega
    subst this
    rw [R_pair0 (by decide), c01_f (fun z => h2 z.1)]
theorem E_bld {S : St} {v : List Int32} {i m : Nat} (hg : 100000 ≤ g) (hb : b < 6) (hm : LM S) (q : BQ S b lb) (o : Out S v) (hi : i + m ≤ lb.length) (hm2 : m ≤ 2) (hv : v.length + 2 < 2 ^ 31) : ∃ S', m_emitBuilder g S (nI b) (nI i) (nI (i + m)) = some S' ∧ FE S S' ∧ Out S' (v ++ seg lb i m) := by
  have hlb := q.2.1
  have key : ∀ (k n i : Nat) (S : St) (v : List Int32), i + k ≤ lb.length → k < n → LM S → BQ S b lb → Out S v → v.length + k < 2 ^ 31 → ∃ S', m_emitBuilder_3 g n S (nI b) (nI (i + k)) (nI i) = some S' ∧ FE S S' ∧ Out S' (v ++ seg lb i k) := by
    intro k
    induction k with
    | zero =>
      intro n i S v hi hn hm q o hv
      obtain ⟨n, rfl⟩ : ∃ m, n = m + 1 := ⟨n - 1, by omega⟩
      refine ⟨S, ?_, FE.rf, by rw [seg_0, List.append_nil]; exact o⟩
      show b_emitBuilder_3 g (m_emitBuilder_3 g n) S (nI b) _ (nI i) = _
      unfold b_emitBuilder_3
      rw [if_pos (nI_le (by omega) (by omega))]
    | succ k ih =>
      intro n i S v hi hn hm q o hv
      obtain ⟨n, rfl⟩ : ∃ m, n = m + 1 := ⟨n - 1, by omega⟩
      obtain ⟨T1, a1, a2, a3⟩ := O_add (g := g) (u := lb.getD i 0) o hm (by omega)
      obtain ⟨S', c1, c2, c3⟩ := ih n (i + 1) T1 _ (by omega) (by omega) (hm.fe a2) (q.fe a2) a3 (by rw [List.length_append, List.length_singleton]; omega)
      refine ⟨S', ?_, a2.tr c2, ?_⟩
      · show b_emitBuilder_3 g (m_emitBuilder_3 g n) S (nI b) _ (nI i) = _
        unfold b_emitBuilder_3
        rw [if_neg (nI_ge (by omega) (by omega)), q.un hm hb (by omega), Option.bind_some, a1, Option.bind_some, lt_d, nI_1, show i + (k + 1) = i + 1 + k by omega, c1]
      · rw [seg_cons (by omega)]
        rw [List.append_assoc] at c3
        exact c3
  exact key m g i S v hi (by omega) hm q o (by omega)
theorem turn_l (hg : 100000 ≤ g) (hb : b < 6) (hlb : lb.length ≤ 400) (hu : usL lb) : ∀ (k n1 n2 : Nat) (S S2 : St) (v : List Int32) (ov : Int32), k ≤ lb.length → k < n1 → k < n2 → gOK S → Rw S (24 + b) lb ov → Scr S 23 v → LM S2 → BQ S2 b lb → Out S2 v → v.length + k = lb.length → usL v → ∃ S' T' v', m_BS_turn_5 g n1 S (24 + b) (nI k) = ((m_Row_clear g S' (24 + b)).bind fun S_2 => (m_Row_insert g S_2 (24 + b) (0 : Int32) 23 (0 : Int32) (gI S_2 23 2)).bind fun S_3 => m_BS_turn_95 g S_3) ∧ m_turns_7 g n2 S2 (nI b) (nI k) = m_turns_98 g g T' (nI b) (nI 0) ∧ Fr 23 S S' ∧ FE S2 T' ∧ Scr S' 23 v' ∧ Out T' v' ∧ v'.length = lb.length ∧ usL v' := by
  intro k
  induction k using Nat.strongRecOn with
  | ind k ih =>
    intro n1 n2 S S2 v ov hk h1 h2 hgk w sc hm q o hv huv
    obtain ⟨n1, rfl⟩ : ∃ m, n1 = m + 1 := ⟨n1 - 1, by omega⟩
    obtain ⟨n2, rfl⟩ : ∃ m, n2 = m + 1 := ⟨n2 - 1, by omega⟩
    have eC : m_BS_turn_5 g (n1 + 1) S (24 + b) (nI k) = b_BS_turn_5 g (m_BS_turn_5 g n1) S (24 + b) (nI k) := rfl
    have eM : m_turns_7 g (n2 + 1) S2 (nI b) (nI k) = b_turns_7 g (m_turns_7 g n2) S2 (nI b) (nI k) := rfl
    unfold b_BS_turn_5 at eC
    unfold b_turns_7 at eM
    by_cases hz : k = 0
    · subst hz
      rw [if_pos (by decide)] at eC eM
      exact ⟨S, S2, v, eC, eM, Fr.rf, FE.rf, sc, o, by omega, huv⟩
    rw [if_neg (nI_nle (by omega) (by omega)), R_pairB w hk (by omega) (by omega), Option.bind_some] at eC
    rw [if_neg (nI_nle (by omega) (by omega))] at eM
    have hw1 : m_Row_at g S (24 + b) (nI k - (1 : Int32)) = some (lb.getD (k - 1) 0) := by
      rw [show (1 : Int32) = nI 1 from rfl, nI_sub (by omega), R_at w, atR_nI (by omega), getD_d (by omega)]
    have eM60 : m_turns_60 g (m_turns_7 g n2) S2 (nI b) (nI k) = ((m_emitBuilder g S2 (nI b) (nI (k - 1)) (nI (k - 1 + 1))).bind fun S_3 => m_turns_7 g n2 S_3 (nI b) (nI (k - 1))) := by
      unfold m_turns_60 m_turns_61 m_turns_72 m_turns_90
      rw [if_pos rfl, lt_d, if_pos rfl, show (1 : Int32) = nI 1 from rfl, nI_sub (by omega), nI_add]
    by_cases hp : 2 ≤ k ∧ prL lb (k - 2) k
    · obtain ⟨hk2, -, hp1, hp2⟩ := hp
      rw [show k - 2 + 1 = k - 1 by omega] at hp2
      have hw2 : m_Row_at g S (24 + b) (nI k - (2 : Int32)) = some (lb.getD (k - 2) 0) := by
        rw [show (2 : Int32) = nI 2 from rfl, nI_sub (by omega), R_at w, atR_nI (by omega), getD_d (by omega)]
      obtain ⟨S3, a1, a2, a3⟩ := Scr_add (g := g) (u := lb.getD (k - 2) 0) sc hgk
      obtain ⟨S4, c1, c2, c3⟩ := Scr_add (g := g) (u := lb.getD (k - 1) 0) a3 (hgk.fr a2)
      rw [List.append_assoc] at c3
      obtain ⟨T3, d1, d2, d3⟩ := E_bld (g := g) (i := k - 2) (m := 2) hg hb hm q o (by omega) (by omega) (by omega)
      have hseg : seg lb (k - 2) 2 = [lb.getD (k - 2) 0] ++ [lb.getD (k - 1) 0] := by
        rw [seg_cons (by omega), show k - 2 + 1 = k - 1 by omega, seg_cons (by omega), seg_0]
        rfl
      rw [hseg] at d3
      have hln : (v ++ ([lb.getD (k - 2) 0] ++ [lb.getD (k - 1) 0])).length = v.length + 2 := by simp
      obtain ⟨S', T', v', g1, g2, g3, g4, g5⟩ := ih (k - 2) (by omega) n1 n2 S4 T3 _ ov (by omega) (by omega) (by omega) ((hgk.fr a2).fr c2) ((w.fr a2 (by omega)).fr c2 (by omega)) c3 (hm.fe d2) (q.fe d2) d3 (by omega) (usL_app huv (usL_2 (hu _ (by omega)) (hu _ (by omega))))
      refine ⟨S', T', v', ?_, ?_, (a2.tr c2).tr g3, d2.tr g4, g5⟩
      · rw [eC, c01_t ⟨hk2, by omega, hp1, by rw [show k - 2 + 1 = k - 1 by omega]; exact hp2⟩, if_neg (by decide), hw2, Option.bind_some, a1, Option.bind_some]
        unfold m_BS_turn_34 m_BS_turn_48 m_BS_turn_68
        have hw1' : m_Row_at g S3 (24 + b) (nI k - (1 : Int32)) = some (lb.getD (k - 1) 0) := by
          rw [show (1 : Int32) = nI 1 from rfl, nI_sub (by omega), R_at (w.fr a2 (by omega)), atR_nI (by omega), getD_d (by omega)]
        rw [hw1', Option.bind_some, c1, Option.bind_some, lt_d, lt_d, show nI k = nI (k - 2 + 1 + 1) from by rw [show k - 2 + 1 + 1 = k by omega], nI_dn, nI_dn, g1]
      · rw [eM, if_neg (show ¬ nI k ≤ (1 : Int32) from nI_ge (a := 1) (by omega) (by omega)), show ((400 : Int32) * nI b + nI k) - (1 : Int32) = (400 : Int32) * nI b + nI (k - 1) from by rw [show (1 : Int32) = nI 1 from rfl, show (400 : Int32) = nI 400 from rfl, nI_mulE, nI_add, nI_add, nI_sub (by omega)]; exact congrArg nI (by omega), q.un hm hb (by omega), Option.bind_some, low_s, Option.bind_some, c01_t hp2, if_neg (by decide), show ((400 : Int32) * nI b + nI k) - (2 : Int32) = (400 : Int32) * nI b + nI (k - 2) from by rw [show (2 : Int32) = nI 2 from rfl, show (400 : Int32) = nI 400 from rfl, nI_mulE, nI_add, nI_add, nI_sub (by omega)]; exact congrArg nI (by omega), q.un hm hb (by omega), Option.bind_some, high_s, Option.bind_some, c01_t hp1, if_neg (by decide)]
        unfold m_turns_61 m_turns_72 m_turns_90
        rw [if_neg (by decide), lt_d, if_neg (by decide), show (2 : Int32) = nI 2 from rfl, nI_sub (by omega), nI_add, d1, Option.bind_some, g2]
    · obtain ⟨S3, a1, a2, a3⟩ := Scr_add (g := g) (u := lb.getD (k - 1) 0) sc hgk
      obtain ⟨T3, d1, d2, d3⟩ := E_bld (g := g) (i := k - 1) (m := 1) hg hb hm q o (by omega) (by omega) (by omega)
      rw [seg_cons (by omega), seg_0] at d3
      have hln : (v ++ [lb.getD (k - 1) 0]).length = v.length + 1 := by simp
      obtain ⟨S', T', v', g1, g2, g3, g4, g5⟩ := ih (k - 1) (by omega) n1 n2 S3 T3 _ ov (by omega) (by omega) (by omega) (hgk.fr a2) (w.fr a2 (by omega)) a3 (hm.fe d2) (q.fe d2) d3 (by omega) (usL_1 huv (hu _ (by omega)))
      refine ⟨S', T', v', ?_, ?_, a2.tr g3, d2.tr g4, g5⟩
      · rw [eC, c01_f hp, if_pos rfl, hw1, Option.bind_some, a1, Option.bind_some]
        unfold m_BS_turn_68
        rw [lt_d, show nI k = nI (k - 1 + 1) from by rw [show k - 1 + 1 = k by omega], nI_dn, g1]
      · have e60 : m_turns_60 g (m_turns_7 g n2) S2 (nI b) (nI k) = m_turns_98 g g T' (nI b) (nI 0) := by
          rw [eM60, d1, Option.bind_some, g2]
        rw [eM]
        by_cases h1k : 2 ≤ k
        · rw [if_neg (show ¬ nI k ≤ (1 : Int32) from nI_ge (a := 1) (by omega) (by omega)), show ((400 : Int32) * nI b + nI k) - (1 : Int32) = (400 : Int32) * nI b + nI (k - 1) from by rw [show (1 : Int32) = nI 1 from rfl, show (400 : Int32) = nI 400 from rfl, nI_mulE, nI_add, nI_add, nI_sub (by omega)]; exact congrArg nI (by omega), q.un hm hb (by omega), Option.bind_some, low_s, Option.bind_some]
          by_cases hlo : loU (lb.getD (k - 1) 0)
          · rw [c01_t hlo, if_neg (by decide), show ((400 : Int32) * nI b + nI k) - (2 : Int32) = (400 : Int32) * nI b + nI (k - 2) from by rw [show (2 : Int32) = nI 2 from rfl, show (400 : Int32) = nI 400 from rfl, nI_mulE, nI_add, nI_add, nI_sub (by omega)]; exact congrArg nI (by omega), q.un hm hb (by omega), Option.bind_some, high_s, Option.bind_some, c01_f (fun hhi => hp ⟨h1k, by omega, hhi, by rw [show k - 2 + 1 = k - 1 by omega]; exact hlo⟩), if_pos rfl, e60]
          · rw [c01_f hlo, if_pos rfl, e60]
        · rw [if_pos (show nI k ≤ (1 : Int32) from nI_le (b := 1) (by omega) (by omega)), e60]
end TRN
theorem St40 : StOKb 40 := by
  intro g U k S S2 ws a hg hk hR c cm hW hO h0
  obtain ⟨φ, cs, ts, u, pl, pm, ps, qs, r, bd⟩ := hR
  obtain ⟨q1, q2, q3⟩ := hW
  have q1 : 1 ≤ ws.length := q1
  have q2 : ws.length ≤ 1 := q2
  obtain ⟨w0, rfl⟩ := ls1 (show ws.length = 1 by omega)
  change ∃ S' S2' kd, doC g S 40 = some (S', nI kd) ∧ m_does g S2 (nI 40) (nI a) (nI 1) = some S2' ∧ gI S2' 0 58 = nI kd ∧ kd ≤ 5 ∧ RSx U (k + 1) S' S2' ∧ FC S S' ∧ FS S2 S2'
  have hl := r.2.1
  have hm := r.2.2.1
  have hT := r.2.2.2.1
  have hx := r.2.2.2.2.2.2.2.2.2.2.2.2.2
  have f1 : F0M S2 (sI S2 0 57 0) := F0M_sI (Or.inl rfl)
  have f2 : F0M S2 (sI (sI S2 0 57 0) 0 58 4) := f1.tr (F0M_sI (Or.inr (Or.inl rfl)))
  have f3 : F0M S2 (sI (sI S2 0 57 0) 0 58 1) := f1.tr (F0M_sI (Or.inr (Or.inl rfl)))
  have h0' : gI (sI S2 0 57 0) 0 58 = 0 := by rw [gI_ne (by decide)]; exact h0
  have cm' := cm.fs (FS.f0 f1)
  have hm' := hm.fs (FS.f0 f1)
  have T2 := hT.2.1.f0 f1
  obtain ⟨kb, bi, hb, hbv⟩ := okL_b (show okL U 98 w0 from q3 0 w0 rfl) (Or.inl rfl)
  have hbld : m_Bn_builderAt g S 0 = some (nI bi) := B_bld (j := 0) (w := w0) c hl rfl hb hbv
  have ea : aJ (sI S2 0 57 0) 10 (nI a) = some w0.2.1 := (M_word (j := 0) (w := w0) cm' hm' rfl).2
  have hM := dM_40 (g := g) (S := S2) (x2 := nI a) (x3 := nI 1)
  rw [dM2_40 ea, bS, bS, j32 hbv (by omega)] at hM
  obtain ⟨S1, s1, s2, s3, s4⟩ := clr (g := g) hx
  have fc := F0C.fr s2 (Or.inl rfl)
  have rc := RS_0 r fc s4 f1
  have cS := c.fc (FC.f0 fc)
  have hlS := rc.2.1
  have hTc := rc.2.2.2.1
  have hWR : WR S1 (sI S2 0 57 0) := rc.2.2.2.2.2.2.2.2.1
  have hBR : BR S1 (sI S2 0 57 0) := rc.2.2.2.2.2.2.2.2.2.1
  have h77 : gN S1 77 = 6 := hlS 77 (by decide)
  have hop : ¬ gF S1 77 bi = -1 := by
    rw [(fc.2.2.2.1 77 (by decide) (by decide) (by decide)).2 bi]
    exact hO 0 w0 bi rfl kb (by decide +kernel) hbv
  obtain ⟨lb, ov, rm, b1, b2, b3, b4, b5, b6⟩ := hBR.op hb hop
  have hlb := b5.2.1
  have b5z := b5.sz hm' hb
  have hlk := lacks0 (s := 40) hg c (show ∀ j, j < 1 → ¬ lett 40 (nI j) = 84 from by decide +kernel)
  have hC := doC_B hlk (by decide +kernel)
  rw [dC_40 hbld (bR_at hl hb) s1] at hC
  unfold m_BS_change_161 m_BS_turn at hC
  rw [bS2, lt_d, b1.2.2.1] at hC
  unfold m_turns at hM
  rw [b5z, Option.bind_some] at hM
  obtain ⟨S3, T3, v, a1, a2, a3, a4, a5, a6, a7, a8⟩ := turn_l (g := g) hg hb hlb b6 lb.length g g S1 (sI S2 0 57 0) [] ov (by omega) (by omega) (by omega) rc.1 b1 (Scr.nil s3) hm' b5 Out_0 (by simp) usL_nil
  have fc3 := fc.tr (F0C.fr a3 (Or.inl rfl))
  have x3 := s4.scr a3 a5
  have fm3 := f1.tr (F0M.fe a4)
  have h03 : gI T3 0 58 = 0 := (a4.1 58 (by decide)).trans h0'
  have h400 : limC 23 = 400 := by decide +kernel
  have hlim : limC (24 + bi) = 400 := (show ∀ b, b < 6 → limC (24 + b) = 400 from by decide +kernel) bi hb
  have wv : Rw S3 23 v 0 := by
    rcases a5 with ⟨-, w⟩ | ⟨w1, -⟩
    · exact w
    · omega
  have r3 := RS_0 r fc3 x3 fm3
  obtain ⟨S4, c1, c2, c3⟩ := R_clear (g := g) (b1.fr a3 (by omega))
  have v4 : Rw S4 23 v 0 := wv.fr c2 (by omega)
  obtain ⟨S5, d1, d2, d3⟩ := R_insert (g := g) (p := 0) (s := 0) (n := v.length) c3 v4 (by omega) (r3.1.fr c2) (by simp) (by omega)
  rw [List.length_nil, Nat.zero_add, if_pos (by omega), if_pos (by omega), seg_all, List.take_nil, List.drop_nil, List.append_nil, List.nil_append] at d3
  rw [Nat.zero_add] at d1
  have b5' : BQ T3 bi lb := b5.fe a4
  obtain ⟨T4, g1, g2, g3, g4, g5, -⟩ := wr_l (g := g) (v := v) hb (by omega) v.length g 0 T3 (by omega) (by omega) (hm'.fe a4) a6
  have k77 : gF S5 77 bi = nI rm := ((d2.2.2.2.1 77 (by omega)).2 bi).trans (((c2.2.2.2.1 77 (by omega)).2 bi).trans (((a3.2.2.2.1 77 (by omega)).2 bi).trans b3))
  refine ⟨S5, T4, 0, ?_, hM.trans (a2.trans g1), fin_b hb r bd fc3 x3 fm3 h03 ((FBc.fr hb c2).tr (FBc.fr hb d2)) g2 (BRb.mk d3 b2 k77 (g4.trans ((a4.2.2.2.2.1 29 (by decide) (by decide) bi).trans b4)) (by rw [g3, b5'.1, a7]) (by omega) a8 (fun i hi => g5 i (by omega) hi))⟩
  rw [hC, a1, c1, Option.bind_some, v4.2.2.1, show m_Row_insert g S4 (24 + bi) 0 23 0 (nI v.length) = some S5 from d1]
  rfl
section INS
variable {g : Nat} {b : Nat}
theorem b30p {S : St} {x m : Nat} (hm : LM S) (hb : b < 6) (hj : x + m < 400) (v : Int32) : tI S 30 ((((400 : Int32) * nI b) + nI x) + nI m) v = some (sF S 30 (400 * b + (x + m)) v) := by
  have h30 : gN S 30 = 2400 := LMn hm 30
  rw [show (400 : Int32) = nI 400 from rfl, nI_mulE, nI_add, nI_add, Nat.add_assoc]
  exact tI_at (by omega) (by omega)
theorem insA_l {V m N : Nat} {x5 : Int64} {x4 : Int32} (hb : b < 6) (hx : x5.toInt = (V : Int)) (hV : V ≤ N) (hN : N + m ≤ 400) : ∀ (k n : Nat) (S : St) (x7 : Int32), V + k ≤ N → k < n → x7.toInt = (V : Int) + (k : Int) - 1 → LM S → gI S 0 57 = nI m → ∃ S', m_inserts_119 g n S (nI b) x4 x5 x7 = m_inserts_168 g g S' (nI b) x4 x5 0 ∧ FBm b S S' ∧ gF S' 28 b = gF S 28 b ∧ gF S' 29 b = gF S 29 b ∧ (∀ j, V ≤ j → j < V + k → gF S' 30 (400 * b + (j + m)) = gF S 30 (400 * b + j)) ∧ ∀ j, ¬ (V + m ≤ j ∧ j < V + k + m) → gF S' 30 (400 * b + j) = gF S 30 (400 * b + j) := by
  intro k
  induction k with
  | zero =>
    intro n S x7 hk hn h7 hm h57
    obtain ⟨n, rfl⟩ : ∃ m, n = m + 1 := ⟨n - 1, by omega⟩
    refine ⟨S, ?_, FBm.rf, rfl, rfl, fun j h1 h2 => by omega, fun j _ => rfl⟩
    show b_inserts_119 g (m_inserts_119 g n) S _ _ _ _ = _
    unfold b_inserts_119
    rw [if_pos (by rw [Int64.lt_iff_toInt_lt, j64, h7, hx]; omega)]
  | succ k ih =>
    intro n S x7 hk hn h7 hm h57
    obtain ⟨n, rfl⟩ : ∃ m, n = m + 1 := ⟨n - 1, by omega⟩
    have hx7 : x7 = nI (V + k) := Int32.toInt_inj.mp (by rw [h7, nI_toInt (by omega)]; omega)
    have f1 : FBm b S (sF S 30 (400 * b + (V + k + m)) (gF S 30 (400 * b + (V + k)))) := FBm.s30 (by omega)
    obtain ⟨S', a1, a2, a3, a4, a5, a6⟩ := ih n _ (x7 + (-1 : Int32)) (by omega) (by omega) (by
      rw [Int32.toInt_add, h7, show (-1 : Int32).toInt = -1 from by decide, Int.bmod_eq_of_le (by omega) (by omega)]
      omega) (hm.fbm f1) ((f1.1 57).trans h57)
    refine ⟨S', ?_, f1.tr a2, a3.trans (gF_ne (by decide)), a4.trans (gF_ne (by decide)), fun j h1 h2 => ?_, fun j hj => ?_⟩
    · rw [← a1]
      show b_inserts_119 g (m_inserts_119 g n) S _ _ _ _ = _
      unfold b_inserts_119
      rw [if_neg (by rw [Int64.lt_iff_toInt_lt, j64, h7, hx]; omega), h57, hx7, (b30 hm hb (by omega)).1, Option.bind_some, b30p hm hb (by omega), Option.bind_some, lt_d]
    · by_cases e : j = V + k
      · subst e
        rw [a6 _ (by omega), gF_sF]
      · rw [a5 j h1 (by omega), gF_sFi (by omega)]
    · rw [a6 j (by omega), gF_sFi (by omega)]
theorem insB_l {V N : Nat} {x5 : Int64} {W : List Int32} (hb : b < 6) (hx : x5.toInt = (V : Int)) (hV : V ≤ N) (hN : N + W.length ≤ 400) : ∀ (k n i : Nat) (S : St), i + k = W.length → k < n → LM S → Out S W → ∃ S', m_inserts_168 g n S (nI b) (nI N) x5 (nI i) = some (sF S' 28 b (nI (N + W.length))) ∧ FBm b S S' ∧ gF S' 29 b = gF S 29 b ∧ (∀ j, i ≤ j → j < W.length → gF S' 30 (400 * b + (V + j)) = W.getD j 0) ∧ ∀ j, ¬ (V + i ≤ j ∧ j < V + W.length) → gF S' 30 (400 * b + j) = gF S 30 (400 * b + j) := by
  intro k
  induction k with
  | zero =>
    intro n i S hi hn hm o
    obtain ⟨n, rfl⟩ : ∃ m, n = m + 1 := ⟨n - 1, by omega⟩
    refine ⟨S, ?_, FBm.rf, rfl, fun j h1 h2 => by omega, fun j _ => rfl⟩
    show b_inserts_168 g (m_inserts_168 g n) S _ _ _ _ = _
    unfold b_inserts_168
    rw [o.1, if_pos (nI_le (by omega) (by omega)), nI_add, (b28 hm hb).2.2.1]
    rfl
  | succ k ih =>
    intro n i S hi hn hm o
    obtain ⟨n, rfl⟩ : ∃ m, n = m + 1 := ⟨n - 1, by omega⟩
    have h34 : gN S 34 = 600 := LMn hm 34
    have f1 : FBm b S (sF S 30 (400 * b + (V + i)) (W.getD i 0)) := FBm.s30 (by omega)
    obtain ⟨S', a1, a2, a4, a5, a6⟩ := ih n (i + 1) _ (by omega) (by omega) (hm.fbm f1) (o.fbm f1)
    refine ⟨S', ?_, f1.tr a2, a4.trans (gF_ne (by decide)), fun j h1 h2 => ?_, fun j hj => ?_⟩
    · show b_inserts_168 g (m_inserts_168 g n) S _ _ _ _ = _
      unfold b_inserts_168
      rw [o.1, if_neg (nI_ge (by omega) (by omega)), aI_at (by omega) (by omega), Option.bind_some, o.2 i (by omega) (by omega), j32 hx (by omega), b30p hm hb (by omega), Option.bind_some, lt_d, nI_1, a1]
    · by_cases e : j = i
      · subst e
        rw [a6 _ (by omega), gF_sF]
      · exact a5 j (by omega) h2
    · rw [a6 j (by omega), gF_sFi (by omega)]
end INS
section INX
variable {U : Nat → Prop} {g k j : Nat} {S S1 S2 : St} {ws : List Wd} {w : Wd} {a : Nat} {φ : Nat → Option Nat} {cs ts : List (List Int32)} {u : Nat} {pl pm ps qs : List Nat}
/-- an X is inserted at place V of builder b -/
theorem ins_X {bi V : Nat} {X5 : Int64} {lb : List Int32} {ov : Int32} {rm : Nat} (hg : 100000 ≤ g) (r : RS U S S2 φ cs ts u pl pm ps qs) (bd : Bd k cs ts u pl) (fc : F0C S S1) (s4 : XR S1) (s3 : Rw S1 23 [] 0) (f1 : F0M S2 (sI S2 0 57 0)) (h0' : gI (sI S2 0 57 0) 0 58 = 0) (c : CurC S1 ws) (cm : CurM (sI S2 0 57 0) a ws) (hw : ws[j]? = some w) (ok : okL U 88 w) (op : w.1 = 2 → ∀ b : Nat, w.2.1.toInt = (b : Int) → ¬ gF S1 77 b = -1) (hb : bi < 6) (b1 : Rw S1 (24 + bi) lb ov) (b2 : rm ≤ 1000) (b3 : gF S1 77 bi = nI rm) (b4 : gF (sI S2 0 57 0) 29 bi = nI rm) (b5 : BQ (sI S2 0 57 0) bi lb) (b6 : usL lb) (hX : X5.toInt = (V : Int)) (hV : V ≤ lb.length) : ∃ S' T' kd, m_BS_insertX g S1 (nI bi) (nI V) (nI j) = some (S', nI kd) ∧ m_inserts_67 g (sI S2 0 57 0) (nI bi) (nI lb.length) X5 (nI (a + j)) = some T' ∧ Tl U k S S2 S' T' kd := by
  have rc := RS_0 r fc s4 f1
  have hm' := rc.2.2.1
  have hlb := b5.2.1
  unfold m_BS_insertX m_inserts_67
  rcases X_add hg rc c cm hw ok op (Scr.nil s3) (Out_0 (S2 := S2)) h0' (by simp) with ⟨S3, T3, W, a1, a2, a3, a4, a5, a6, a7, a8⟩ | ⟨a1, a2⟩
  · rw [List.nil_append] at a5 a6
    have fc3 := fc.tr (F0C.fr a3 (Or.inl rfl))
    have x3 := s4.scr a3 a5
    have fm3 := f1.tr (F0M.fe a4)
    have h03 : gI T3 0 58 = 0 := (a4.1 58 (by decide)).trans h0'
    have h400 : limC 23 = 400 := by decide +kernel
    have wv : Rw S3 23 W 0 := by
      rcases a5 with ⟨-, w⟩ | ⟨w1, -⟩
      · exact w
      · omega
    have r3 := RS_0 r fc3 x3 fm3
    have hl3 := r3.2.1
    have hm3 := r3.2.2.1
    have w3 : Rw S3 (24 + bi) lb ov := b1.fr a3 (by omega)
    rw [a1, Option.bind_some, a2, Option.bind_some]
    dsimp only
    unfold m_BS_insertX_8 m_BS_insertX_78 m_inserts_89
    rw [if_pos rfl, bR_at hl3 hb, Option.bind_some, if_pos wv.2.2.2.1, wv.2.2.1, w3.2.2.1, show (400 : Int32) = nI 400 from rfl, nI_sub hlb, a6.1, nI_add]
    by_cases hfit : lb.length + W.length ≤ 400
    · rw [if_pos (nI_le (by omega) (by omega)), if_pos (nI_le (by omega) (by omega)), M_ref0, Option.bind_some, if_pos h03]
      have hlim : limC (24 + bi) = 400 := (show ∀ b, b < 6 → limC (24 + b) = 400 from by decide +kernel) bi hb
      obtain ⟨S4, d1, d2, d3⟩ := R_insert (g := g) (p := V) (s := 0) (n := W.length) w3 wv (by omega) r3.1 hV (by omega)
      rw [if_pos (by omega), if_pos (by omega), seg_all] at d3
      rw [Nat.zero_add] at d1
      have fcb : FBc bi S3 S4 := FBc.fr hb d2
      have hl4 : LC S4 := hl3.fbc hb fcb
      have hln : (lb.take V ++ (W ++ lb.drop V)).length = lb.length + W.length := by
        rw [List.length_append, List.length_append, List.length_take, List.length_drop]
        omega
      have h774 : gF S4 77 bi = nI rm := ((d2.2.2.2.1 77 (by omega)).2 bi).trans (((a3.2.2.2.1 77 (by omega)).2 bi).trans b3)
      obtain ⟨S5, e1, e2, e3, e4⟩ := C_mkRoom (g := g) hb hl4 d3 h774 b2 (by omega)
      rw [hln] at e3
      have b4' : gF T3 29 bi = nI rm := (a4.2.2.2.2.1 29 (by decide) (by decide) bi).trans b4
      have b5' : BQ T3 bi lb := b5.fe a4
      obtain ⟨T4, g1, g2, g3, g4, g5⟩ := M_grows (g := g) (V := lb.length + W.length) hb hm3 b4' b2 hfit
      have hm4 := hm3.fbm g2
      have o4 := a6.fbm g2
      obtain ⟨T5, i1, i2, i3, i4, i5, i6⟩ := insA_l (g := g) (m := W.length) (x4 := nI lb.length) hb hX hV hfit (lb.length - V) g T4 (nI lb.length - (1 : Int32)) (by omega) (by omega) (by rw [show (1 : Int32) = nI 1 from rfl, nI_subI (by omega) (by omega)]; omega) hm4 o4.1
      have hm5 := hm4.fbm i2
      have o5 := o4.fbm i2
      obtain ⟨T6, j1, j2, j4, j5, j6⟩ := insB_l (g := g) hb hX hV hfit W.length g 0 T5 (by omega) (by omega) hm5 o5
      refine ⟨S5, sF T6 28 bi (nI (lb.length + W.length)), 0, ?_, ?_, fin_b hb r bd fc3 x3 fm3 h03 (fcb.tr e2) (((g2.tr i2).tr j2).tr FBm.s28) (BRb.mk e4 (rm := rmF rm (lb.length + W.length)) (rmF_b b2 hfit) e3 ?_ (by rw [hln]; exact gF_sF) (by omega) ?_ ?_)⟩
      · rw [show m_Row_insert g S3 (24 + bi) (nI V) 23 0 (nI W.length) = some S4 from d1, Option.bind_some, e1]
        rfl
      · rw [a6.1, nI_add, g1, Option.bind_some, lt_d, i1]
        exact j1
      · rw [gF_ne (by decide), j4, i4]
        exact g3
      · intro i hi
        rw [ins_get hV]
        rw [hln] at hi
        split
        · exact b6 i (by omega)
        · split
          · exact a7 (i - V) (by omega)
          · exact b6 (i - W.length) (by omega)
      · intro i hi
        rw [hln] at hi
        rw [ins_get hV, gF_ne (by decide)]
        by_cases c1 : i < V
        · rw [if_pos c1, j6 i (by omega), i6 i (by omega), g5]
          exact b5'.2.2 i (by omega)
        · rw [if_neg c1]
          by_cases c2 : i < V + W.length
          · rw [if_pos c2]
            have := j5 (i - V) (by omega) (by omega)
            rw [show V + (i - V) = i by omega] at this
            exact this
          · rw [if_neg c2, j6 i (by omega)]
            have := i5 (i - W.length) (by omega) (by omega)
            rw [show i - W.length + W.length = i by omega] at this
            rw [this, g5]
            exact b5'.2.2 (i - W.length) (by omega)
    · rw [if_neg (nI_ge (by omega) (by omega)), if_neg (nI_ge (by omega) (by omega)), M_ref1 h03, Option.bind_some, if_neg (by rw [sI_58]; decide)]
      exact ⟨S3, sI T3 0 58 5, 5, rfl, rfl, fin_no r bd fc3 x3 (fm3.tr (F0M_sI (Or.inr (Or.inl rfl)))) sI_58 (by decide)⟩
  · rw [a1, Option.bind_some, a2, Option.bind_some]
    dsimp only
    have h4 : ¬ gI (sI (sI S2 0 57 0) 0 58 3) 0 58 = 0 := by rw [sI_58]; decide
    unfold m_BS_insertX_8 m_inserts_89
    rw [if_neg (by decide), M_ref0, M_ref1n h4, Option.bind_some, if_neg h4]
    exact ⟨S1, sI (sI S2 0 57 0) 0 58 3, 3, rfl, ifo rfl rfl, fin_no r bd fc s4 (f1.tr (F0M_sI (Or.inr (Or.inl rfl)))) sI_58 (by decide)⟩
end INX
theorem St36 : StOKb 36 := by
  intro g U k S S2 ws a hg hk hR c cm hW hO h0
  obtain ⟨φ, cs, ts, u, pl, pm, ps, qs, r, bd⟩ := hR
  obtain ⟨q1, q2, q3⟩ := hW
  have q1 : 2 ≤ ws.length := q1
  have q2 : ws.length ≤ 2 := q2
  obtain ⟨w0, w1, rfl⟩ := ls2 (show ws.length = 2 by omega)
  change ∃ S' S2' kd, doC g S 36 = some (S', nI kd) ∧ m_does g S2 (nI 36) (nI a) (nI 2) = some S2' ∧ gI S2' 0 58 = nI kd ∧ kd ≤ 5 ∧ RSx U (k + 1) S' S2' ∧ FC S S' ∧ FS S2 S2'
  have hl := r.2.1
  have hm := r.2.2.1
  have hT := r.2.2.2.1
  have hx := r.2.2.2.2.2.2.2.2.2.2.2.2.2
  have f1 : F0M S2 (sI S2 0 57 0) := F0M_sI (Or.inl rfl)
  have f2 : F0M S2 (sI (sI S2 0 57 0) 0 58 4) := f1.tr (F0M_sI (Or.inr (Or.inl rfl)))
  have f3 : F0M S2 (sI (sI S2 0 57 0) 0 58 1) := f1.tr (F0M_sI (Or.inr (Or.inl rfl)))
  have h0' : gI (sI S2 0 57 0) 0 58 = 0 := by rw [gI_ne (by decide)]; exact h0
  have cm' := cm.fs (FS.f0 f1)
  have hm' := hm.fs (FS.f0 f1)
  have T2 := hT.2.1.f0 f1
  obtain ⟨kb, bi, hb, hbv⟩ := okL_b (show okL U 98 w0 from q3 0 w0 rfl) (Or.inl rfl)
  have hbld : m_Bn_builderAt g S 0 = some (nI bi) := B_bld (j := 0) (w := w0) c hl rfl hb hbv
  have ea : aJ (sI S2 0 57 0) 10 (nI a) = some w0.2.1 := (M_word (j := 0) (w := w0) cm' hm' rfl).2
  have hM := dM_36 (g := g) (S := S2) (x2 := nI a) (x3 := nI 2)
  rw [dM2_36 ea, bS, bS, j32 hbv (by omega)] at hM
  obtain ⟨S1, s1, s2, s3, s4⟩ := clr (g := g) hx
  have fc := F0C.fr s2 (Or.inl rfl)
  have rc := RS_0 r fc s4 f1
  have cS := c.fc (FC.f0 fc)
  have hlS := rc.2.1
  have hTc := rc.2.2.2.1
  have hWR : WR S1 (sI S2 0 57 0) := rc.2.2.2.2.2.2.2.2.1
  have hBR : BR S1 (sI S2 0 57 0) := rc.2.2.2.2.2.2.2.2.2.1
  have h77 : gN S1 77 = 6 := hlS 77 (by decide)
  have hop : ¬ gF S1 77 bi = -1 := by
    rw [(fc.2.2.2.1 77 (by decide) (by decide) (by decide)).2 bi]
    exact hO 0 w0 bi rfl kb (by decide +kernel) hbv
  obtain ⟨lb, ov, rm, b1, b2, b3, b4, b5, b6⟩ := hBR.op hb hop
  have hlb := b5.2.1
  have b5z := b5.sz hm' hb
  have hlk := lacks0 (s := 36) hg c (show ∀ j, j < 2 → ¬ lett 36 (nI j) = 84 from by decide +kernel)
  have hC := doC_B hlk (by decide +kernel)
  rw [dC_36 hbld (bR_at hl hb) s1] at hC
  have okx : okL U 88 w1 := q3 1 w1 rfl
  have opx : w1.1 = 2 → ∀ b : Nat, w1.2.1.toInt = (b : Int) → ¬ gF S1 77 b = -1 := fun q b hbb => by
    rw [(fc.2.2.2.1 77 (by decide) (by decide) (by decide)).2 b]
    exact hO 1 w1 b rfl q (by decide +kernel) hbb
  unfold m_inserts m_inserts_27 m_inserts_47 at hM
  rw [b5z, Option.bind_some] at hM
  unfold m_BS_change_102 at hC
  rw [bS2, b1.2.2.1] at hC
  rw [if_pos (show nI 36 = 36 from rfl), isIn_s, Option.bind_some, c01_t (by rw [z64, j64, nI_toInt (by omega)]; omega), if_neg (by decide), M_ref0, Option.bind_some, if_pos (show nI 36 = 36 from rfl)] at hM
  obtain ⟨S', T', kd, y1, y2, y3⟩ := ins_X (g := g) (j := 1) (w := w1) (V := lb.length) (X5 := (nI lb.length).toInt64) hg r bd fc s4 s3 f1 h0' cS cm' rfl okx opx hb b1 b2 b3 b4 b5 b6 (by rw [j64, nI_toInt (by omega)]) (Nat.le_refl _)
  exact ⟨S', T', kd, hC.trans y1, hM.trans (by rw [nI_1]; exact y2), y3⟩
theorem St37 : StOKb 37 := by
  intro g U k S S2 ws a hg hk hR c cm hW hO h0
  obtain ⟨φ, cs, ts, u, pl, pm, ps, qs, r, bd⟩ := hR
  obtain ⟨q1, q2, q3⟩ := hW
  have q1 : 3 ≤ ws.length := q1
  have q2 : ws.length ≤ 3 := q2
  obtain ⟨w0, w1, w2, rfl⟩ := ls3 (show ws.length = 3 by omega)
  change ∃ S' S2' kd, doC g S 37 = some (S', nI kd) ∧ m_does g S2 (nI 37) (nI a) (nI 3) = some S2' ∧ gI S2' 0 58 = nI kd ∧ kd ≤ 5 ∧ RSx U (k + 1) S' S2' ∧ FC S S' ∧ FS S2 S2'
  have hl := r.2.1
  have hm := r.2.2.1
  have hT := r.2.2.2.1
  have hx := r.2.2.2.2.2.2.2.2.2.2.2.2.2
  have f1 : F0M S2 (sI S2 0 57 0) := F0M_sI (Or.inl rfl)
  have f2 : F0M S2 (sI (sI S2 0 57 0) 0 58 4) := f1.tr (F0M_sI (Or.inr (Or.inl rfl)))
  have f3 : F0M S2 (sI (sI S2 0 57 0) 0 58 1) := f1.tr (F0M_sI (Or.inr (Or.inl rfl)))
  have h0' : gI (sI S2 0 57 0) 0 58 = 0 := by rw [gI_ne (by decide)]; exact h0
  have cm' := cm.fs (FS.f0 f1)
  have hm' := hm.fs (FS.f0 f1)
  have T2 := hT.2.1.f0 f1
  have o1 : okW w1 := okL_W (show okL U 87 w1 from q3 1 w1 rfl)
  have m1 : m_value g (sI S2 0 57 0) (nI a + (1 : Int32)) = some (valW S2 w1) := by rw [show (1 : Int32) = nI 1 from rfl, nI_add]; exact M_value (g := g) (j := 1) (w := w1) cm' hm' rfl o1
  obtain ⟨kb, bi, hb, hbv⟩ := okL_b (show okL U 98 w0 from q3 0 w0 rfl) (Or.inl rfl)
  have hbld : m_Bn_builderAt g S 0 = some (nI bi) := B_bld (j := 0) (w := w0) c hl rfl hb hbv
  have ea : aJ (sI S2 0 57 0) 10 (nI a) = some w0.2.1 := (M_word (j := 0) (w := w0) cm' hm' rfl).2
  have hM := dM_37 (g := g) (S := S2) (x2 := nI a) (x3 := nI 3)
  rw [dM2_37 ea, bS, bS, j32 hbv (by omega)] at hM
  obtain ⟨S1, s1, s2, s3, s4⟩ := clr (g := g) hx
  have fc := F0C.fr s2 (Or.inl rfl)
  have rc := RS_0 r fc s4 f1
  have cS := c.fc (FC.f0 fc)
  have hlS := rc.2.1
  have hTc := rc.2.2.2.1
  have hWR : WR S1 (sI S2 0 57 0) := rc.2.2.2.2.2.2.2.2.1
  have hBR : BR S1 (sI S2 0 57 0) := rc.2.2.2.2.2.2.2.2.2.1
  have h77 : gN S1 77 = 6 := hlS 77 (by decide)
  have hop : ¬ gF S1 77 bi = -1 := by
    rw [(fc.2.2.2.1 77 (by decide) (by decide) (by decide)).2 bi]
    exact hO 0 w0 bi rfl kb (by decide +kernel) hbv
  obtain ⟨lb, ov, rm, b1, b2, b3, b4, b5, b6⟩ := hBR.op hb hop
  have hlb := b5.2.1
  have b5z := b5.sz hm' hb
  have hlk := lacks0 (s := 37) hg c (show ∀ j, j < 3 → ¬ lett 37 (nI j) = 84 from by decide +kernel)
  have hC := doC_B hlk (by decide +kernel)
  rw [dC_37 hbld (bR_at hl hb) s1] at hC
  have okx : okL U 88 w2 := q3 2 w2 rfl
  have opx : w2.1 = 2 → ∀ b : Nat, w2.2.1.toInt = (b : Int) → ¬ gF S1 77 b = -1 := fun q b hbb => by
    rw [(fc.2.2.2.1 77 (by decide) (by decide) (by decide)).2 b]
    exact hO 2 w2 b rfl q (by decide +kernel) hbb
  unfold m_inserts m_inserts_27 m_inserts_47 at hM
  rw [b5z, Option.bind_some] at hM
  unfold m_BS_change_143 at hC
  obtain ⟨z, z1, z2⟩ := B_place (g := g) (j := 1) (w := w1) (n := lb.length) cS hlS rfl o1 hWR (by omega)
  rw [show valW (sI S2 0 57 0) w1 = valW S2 w1 from rfl] at z2
  rw [b1.2.2.1, show m_Bn_placeAt g S1 1 (nI lb.length) = some z from z1, Option.bind_some, bS2] at hC
  rw [if_neg (by decide), m1, Option.bind_some, isIn_s, Option.bind_some, z64, j64, nI_toInt (by omega)] at hM
  by_cases hin : 0 ≤ (valW S2 w1).toInt ∧ (valW S2 w1).toInt ≤ (lb.length : Int)
  · obtain ⟨V, hV⟩ : ∃ m : Nat, (valW S2 w1).toInt = (m : Int) := ⟨(valW S2 w1).toInt.toNat, by omega⟩
    have hz : z = nI V := Int32.toInt_inj.mp (by rw [z2, nI_toInt (by omega)]; omega)
    subst hz
    rw [if_neg (nI_pos (by omega)), if_pos (nI_le (by omega) (by omega))] at hC
    rw [c01_t hin, if_neg (by decide), M_ref0, Option.bind_some, if_neg (by decide)] at hM
    obtain ⟨S', T', kd, y1, y2, y3⟩ := ins_X (g := g) (j := 2) (w := w2) (V := V) (X5 := valW S2 w1) hg r bd fc s4 s3 f1 h0' cS cm' rfl okx opx hb b1 b2 b3 b4 b5 b6 hV (by omega)
    exact ⟨S', T', kd, hC.trans y1, hM.trans (by rw [show (2 : Int32) = nI 2 from rfl, nI_add]; exact y2), y3⟩
  · have h4 : ¬ gI (sI (sI S2 0 57 0) 0 58 1) 0 58 = 0 := by rw [sI_58]; decide
    have fx := F0M_sI (S := sI S2 0 57 0) (k := 58) (v := 1) (Or.inr (Or.inl rfl))
    have rx := RS_0 r fc s4 f3
    obtain ⟨T', v', x1, x2, x3, x4⟩ := X_ref (g := g) (j := 2) (w := w2) (v := []) hg rx cS (cm.fs (FS.f0 f3)) rfl okx opx ⟨by rw [gI_ne (by decide)]; exact (Out_0 (S2 := S2)).1, fun i hi => absurd hi (by simp)⟩ h4 (by simp)
    have h58 : gI T' 0 58 = nI 1 := (x2.1 58 (by decide)).trans sI_58
    have h4' : ¬ gI T' 0 58 = 0 := by rw [h58]; decide
    refine ⟨S1, T', 1, ?_, ?_, fin_no r bd fc s4 (f3.tr (F0M.fe x2)) h58 (by decide)⟩
    · rw [hC]
      by_cases h1 : z < 0
      · rw [if_pos h1]
        rfl
      · rw [if_neg h1, if_neg (fun h2 => by
          rw [Int32.lt_iff_toInt_lt, show (0 : Int32).toInt = 0 from rfl] at h1
          rw [Int32.le_iff_toInt_le, nI_toInt (by omega)] at h2
          omega)]
        rfl
    · rw [hM, c01_f hin, if_pos rfl, M_ref1 h0', Option.bind_some, if_neg (by decide), show (2 : Int32) = nI 2 from rfl, nI_add]
      unfold m_inserts_67 m_inserts_89
      rw [x1, Option.bind_some, M_ref0, M_ref1n h4', Option.bind_some, if_neg h4']
      exact ifo rfl rfl
