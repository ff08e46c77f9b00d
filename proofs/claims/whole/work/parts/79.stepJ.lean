/-! the STEPS: change, upper, lower -/
theorem isUnit_s {g : Nat} {x : Int64} : m_Lt_isUnit g x = some (c01 (0 ≤ x.toInt ∧ x.toInt ≤ 65535)) := by
  unfold m_Lt_isUnit
  by_cases h1 : x < 0
  · rw [if_pos h1, c01_f]
    rw [Int64.lt_iff_toInt_lt, z64] at h1
    omega
  · rw [if_neg h1]
    rw [Int64.lt_iff_toInt_lt, z64] at h1
    by_cases h2 : (65535 : Int64) < x
    · rw [if_pos h2, c01_f]
      rw [Int64.lt_iff_toInt_lt, show (65535 : Int64).toInt = 65535 from by decide +kernel] at h2
      omega
    · rw [if_neg h2, c01_t]
      rw [Int64.lt_iff_toInt_lt, show (65535 : Int64).toInt = 65535 from by decide +kernel] at h2
      omega
theorem isU_of {x : Int64} (h : 0 ≤ x.toInt ∧ x.toInt ≤ 65535) : isU x.toInt32 := by
  obtain ⟨n, hn⟩ : ∃ n : Nat, x.toInt = (n : Int) := ⟨x.toInt.toNat, by omega⟩
  exact ⟨n, by omega, j32 hn (by omega)⟩
section CHG
variable {g : Nat} {S S2 : St} {cs ts : List (List Int32)} {u p q i n1 n2 : Nat} {l v : List Int32} {A B : Int64} {sm : Prop}
theorem chg_s (hT : TXc S cs) (hM : TXs S2 ts u) (hm : LM S2) (l1 : cs[p]? = some l) (l2 : ts[q]? = some l) (hl : l.length ≤ 400) (hi : i < l.length) : ∃ (w : Int32) (sm' : Prop), m_TS_change_59 g (n1 + 1) S (nI p) A B (c01 (¬ sm)) (nI (stC cs p + l.length)) (nI (stC cs p + i)) = ((m_Row_add g S 23 w).bind fun S3 => m_TS_change_59 g n1 S3 (nI p) A B (c01 (¬ sm')) (nI (stC cs p + l.length)) (nI (stC cs p + (i + 1)))) ∧ m_exchanges_56 g (n2 + 1) S2 (nI q) A B (c01 sm) (nI i) = ((m_emit g S2 w).bind fun T3 => m_exchanges_56 g n2 T3 (nI q) A B (c01 sm') (nI (i + 1))) ∧ (usL l → isU B.toInt32 → isU w) := by
  have b := C_bounds hT l1
  have eC : m_TS_change_59 g (n1 + 1) S (nI p) A B (c01 (¬ sm)) (nI (stC cs p + l.length)) (nI (stC cs p + i)) = if (l.getD i 0).toInt64 = A then m_TS_change_100 g (m_TS_change_59 g n1) S (nI p) A B (c01 (¬ sm)) (nI (stC cs p + l.length)) (nI (stC cs p + i)) (l.getD i 0) B.toInt32 else m_TS_change_100 g (m_TS_change_59 g n1) S (nI p) A B (c01 (¬ sm)) (nI (stC cs p + l.length)) (nI (stC cs p + i)) (l.getD i 0) (l.getD i 0) := by
    show b_TS_change_59 g (m_TS_change_59 g n1) S (nI p) A B _ _ _ = _
    unfold b_TS_change_59
    rw [if_neg (nI_ge (by omega) (by omega)), C_at hT l1 hi, Option.bind_some]
  have eM : m_exchanges_56 g (n2 + 1) S2 (nI q) A B (c01 sm) (nI i) = if (l.getD i 0).toInt64 = A then (if A = B then m_exchanges_91 g (m_exchanges_56 g n2) S2 (nI q) A B (c01 sm) (nI i) else m_exchanges_92 g (m_exchanges_56 g n2) S2 (nI q) A B (c01 sm) (nI i) 1) else m_exchanges_91 g (m_exchanges_56 g n2) S2 (nI q) A B (c01 sm) (nI i) := by
    show b_exchanges_56 g (m_exchanges_56 g n2) S2 (nI q) A B _ _ = _
    unfold b_exchanges_56
    rw [(T_size hM hm l2).1, Option.bind_some, if_neg (nI_ge (by omega) (by omega)), T_unit hM hm l2 hi, Option.bind_some]
  have k91 : m_exchanges_91 g (m_exchanges_56 g n2) S2 (nI q) A B (c01 sm) (nI i) = ((m_emit g S2 (l.getD i 0)).bind fun T3 => m_exchanges_56 g n2 T3 (nI q) A B (c01 sm) (nI (i + 1))) := by
    unfold m_exchanges_91 m_exchanges_92 m_exchanges_108 m_exchanges_109 m_exchanges_130
    rw [if_pos rfl, if_pos rfl, T_unit hM hm l2 hi, Option.bind_some, nI_1]
    by_cases h : sm
    · rw [c01_t h, if_neg (by decide)]
      rfl
    · rw [c01_f h, if_pos rfl]
      rfl
  have k92 : m_exchanges_92 g (m_exchanges_56 g n2) S2 (nI q) A B (c01 sm) (nI i) 1 = ((m_emit g S2 B.toInt32).bind fun T3 => m_exchanges_56 g n2 T3 (nI q) A B (c01 False) (nI (i + 1))) := by
    unfold m_exchanges_92 m_exchanges_108 m_exchanges_109 m_exchanges_130
    rw [if_neg (show ¬ (1 : Int32) = 0 by decide), c01_f (id : ¬ False), nI_1]
    by_cases h : sm
    · rw [c01_t h, if_neg (by decide)]
      rfl
    · rw [c01_f h, if_pos rfl]
      rfl
  by_cases hA : (l.getD i 0).toInt64 = A
  · by_cases hB : A = B
    · refine ⟨l.getD i 0, sm, ?_, ?_, fun h _ => h i hi⟩
      · rw [eC, if_pos hA]
        unfold m_TS_change_100
        rw [show B.toInt32 = l.getD i 0 from by rw [← hB, ← hA]; exact Int32.toInt32_toInt64 _]
        refine congrArg _ (funext fun S3 => ?_)
        unfold m_TS_change_103
        rw [if_pos hA, if_pos hB, nI_1]
        by_cases h : sm
        · rw [c01_f (fun z => z h), if_pos rfl]
          rfl
        · rw [c01_t h, if_neg (by decide)]
          rfl
      · rw [eM, if_pos hA, if_pos hB, k91]
    · refine ⟨B.toInt32, False, ?_, ?_, fun _ h => h⟩
      · rw [eC, if_pos hA]
        unfold m_TS_change_100
        refine congrArg _ (funext fun S3 => ?_)
        unfold m_TS_change_103
        rw [if_pos hA, if_neg hB, nI_1, c01_t (id : ¬ False)]
        by_cases h : sm
        · rw [c01_f (fun z => z h), if_pos rfl]
          rfl
        · rw [c01_t h, if_neg (by decide)]
          rfl
      · rw [eM, if_pos hA, if_neg hB, k92]
  · refine ⟨l.getD i 0, sm, ?_, ?_, fun h _ => h i hi⟩
    · rw [eC, if_neg hA]
      unfold m_TS_change_100
      refine congrArg _ (funext fun S3 => ?_)
      unfold m_TS_change_103
      rw [if_neg hA, nI_1]
      by_cases h : sm
      · rw [c01_f (fun z => z h), if_pos rfl]
        rfl
      · rw [c01_t h, if_neg (by decide)]
        rfl
    · rw [eM, if_neg hA, k91]
end CHG
section CHL
variable {g : Nat} {cs ts : List (List Int32)} {u p q : Nat} {l : List Int32} {A B : Int64}
theorem usL_1 {v : List Int32} {w : Int32} (h : usL v) (hw : isU w) : usL (v ++ [w]) := usL_app h (fun j hj => by
  have : j = 0 := by simp at hj; omega
  subst this
  exact hw)
theorem chg_l (l1 : cs[p]? = some l) (l2 : ts[q]? = some l) (hl : l.length ≤ 400) : ∀ (k n1 n2 i : Nat) (S S2 : St) (v : List Int32) (sm : Prop), i + k = l.length → k < n1 → k < n2 → TXc S cs → gOK S → TXs S2 ts u → LM S2 → Scr S 23 v → Out S2 v → v.length + k < 2 ^ 30 → ∃ S' T' v' sm', m_TS_change_59 g n1 S (nI p) A B (c01 (¬ sm)) (nI (stC cs p + l.length)) (nI (stC cs p + i)) = m_TS_become g S' (nI p) (c01 (¬ sm')) ∧ m_exchanges_56 g n2 S2 (nI q) A B (c01 sm) (nI i) = some (T', c01 sm') ∧ Fr 23 S S' ∧ FE S2 T' ∧ Scr S' 23 v' ∧ Out T' v' ∧ v'.length < 2 ^ 30 ∧ (usL l → isU B.toInt32 → usL v → usL v') := by
  intro k
  induction k with
  | zero =>
    intro n1 n2 i S S2 v sm hi h1 h2 hT hk hM hm w o hv
    obtain ⟨n1, rfl⟩ : ∃ m, n1 = m + 1 := ⟨n1 - 1, by omega⟩
    obtain ⟨n2, rfl⟩ : ∃ m, n2 = m + 1 := ⟨n2 - 1, by omega⟩
    have b := C_bounds hT l1
    refine ⟨S, S2, v, sm, ?_, ?_, Fr.rf, FE.rf, w, o, by omega, fun _ _ h => h⟩
    · show b_TS_change_59 g (m_TS_change_59 g n1) S (nI p) A B _ _ _ = _
      unfold b_TS_change_59 m_TS_change_143
      rw [if_pos (nI_le (by omega) (by omega)), bS2]
    · show b_exchanges_56 g (m_exchanges_56 g n2) S2 (nI q) A B _ _ = _
      unfold b_exchanges_56
      rw [(T_size hM hm l2).1, Option.bind_some, if_pos (nI_le (by omega) (by omega)), if_pos c01_z]
  | succ k ih =>
    intro n1 n2 i S S2 v sm hi h1 h2 hT hk hM hm w o hv
    obtain ⟨n1, rfl⟩ : ∃ m, n1 = m + 1 := ⟨n1 - 1, by omega⟩
    obtain ⟨n2, rfl⟩ : ∃ m, n2 = m + 1 := ⟨n2 - 1, by omega⟩
    obtain ⟨x, sm', e1, e2, e3⟩ := chg_s (g := g) (A := A) (B := B) (sm := sm) (n1 := n1) (n2 := n2) hT hM hm l1 l2 hl (show i < l.length by omega)
    obtain ⟨S3, a1, a2, a3⟩ := Scr_add (g := g) (u := x) w hk
    obtain ⟨T3, b1, b2, b3⟩ := O_add (g := g) (u := x) o hm (by omega)
    obtain ⟨S', T', v', sm2, c1, c2, c3, c4, c5, c6, c7, c8⟩ := ih n1 n2 (i + 1) S3 T3 (v ++ [x]) sm' (by omega) (by omega) (by omega) (hT.fr23 a2) (hk.fr a2) (hM.fe b2) (hm.fe b2) a3 b3 (by rw [List.length_append, List.length_singleton]; omega)
    refine ⟨S', T', v', sm2, ?_, ?_, a2.tr c3, b2.tr c4, c5, c6, c7, fun g1 g2 g3 => c8 g1 g2 (usL_1 g3 (e3 g1 g2))⟩
    · rw [e1, a1, Option.bind_some, c1]
    · rw [e2, b1, Option.bind_some, c2]
end CHL
theorem St20 : StOK 20 := by
  intro g U k S S2 ws a hg hk hR c cm hW h0
  obtain ⟨φ, cs, ts, u, pl, pm, ps, qs, r, bd⟩ := hR
  obtain ⟨q1, q2, q3⟩ := hW
  have q1 : 4 ≤ ws.length := q1
  have q2 : ws.length ≤ 4 := q2
  obtain ⟨w0, w1, w2, w3, rfl⟩ := ls4 (show ws.length = 4 by omega)
  change ∃ S' S2' kd, doC g S 20 = some (S', nI kd) ∧ m_does g S2 (nI 20) (nI a) (nI 4) = some S2' ∧ gI S2' 0 58 = nI kd ∧ kd ≤ 5 ∧ RSx U (k + 1) S' S2' ∧ FC S S' ∧ FS S2 S2'
  have hl := r.2.1
  have hm := r.2.2.1
  have hT := r.2.2.2.1
  have hx := r.2.2.2.2.2.2.2.2.2.2.2.2.2
  have f1 : F0M S2 (sI S2 0 57 0) := F0M_sI (Or.inl rfl)
  have f2 : F0M S2 (sI (sI S2 0 57 0) 0 58 4) := f1.tr (F0M_sI (Or.inr (Or.inl rfl)))
  have f3 : F0M S2 (sI (sI S2 0 57 0) 0 58 1) := f1.tr (F0M_sI (Or.inr (Or.inl rfl)))
  have h0' : gI (sI S2 0 57 0) 0 58 = 0 := by rw [gI_ne (by decide)]; exact h0
  have cm' := cm.fs (FS.f0 f1)
  have hm' := hm.fs (FS.f0 f1)
  have T2 := hT.2.1.f0 f1
  obtain ⟨-, n, hn, hv⟩ := okL_v (show okL U 118 w0 from q3 0 w0 rfl)
  obtain ⟨x, y, e1, e2, e3, e4⟩ := getT (g := g) (j := 1) (w := w1) r c cm rfl (show okL U 84 w1 from q3 1 w1 rfl) (by decide)
  have o2 : okW w2 := okL_W (show okL U 87 w2 from q3 2 w2 rfl)
  have m2 : m_value g (sI S2 0 57 0) (nI a + (2 : Int32)) = some (valW S2 w2) := by rw [show (2 : Int32) = nI 2 from rfl, nI_add]; exact M_value (g := g) (j := 2) (w := w2) cm' hm' rfl o2
  have o3 : okW w3 := okL_W (show okL U 87 w3 from q3 3 w3 rfl)
  have m3 : m_value g (sI S2 0 57 0) (nI a + (3 : Int32)) = some (valW S2 w3) := by rw [show (3 : Int32) = nI 3 from rfl, nI_add]; exact M_value (g := g) (j := 3) (w := w3) cm' hm' rfl o3
  have hlk := lacks1 (s := 20) (j0 := 1) hg c (show 1 < 4 by decide) (show ∀ j, j < 4 → j ≠ 1 → ¬ lett 20 (nI j) = 84 from by decide +kernel) (by decide +kernel) e1
  rcases e4 with ⟨rfl, rfl⟩ | ⟨p, q, l, rfl, rfl, hpq, hp, hq, l1, l2, l3, l4⟩
  · rw [c01_t rfl] at hlk
    refine ⟨S, sI (sI S2 0 57 0) 0 58 4, 4, doC_no hlk, ?_, fin_no r bd F0C.rf hx f2 sI_58 (by decide)⟩
    rw [dM_20]
    unfold m_does_68
    rw [dM2_20 (M_tAt0 (e2 _ f1) h0')]
    unfold m_changes_25
    rw [if_neg (by decide +kernel)]
    unfold m_changes_44
    rw [if_neg (by rw [sI_58]; decide)]
    rfl
  · rw [c01_f (m1_ne (by omega))] at hlk
    obtain ⟨S1, s1, s2, s3, s4⟩ := clr (g := g) hx
    have fc := F0C.fr s2 (Or.inl rfl)
    have rc := RS_0 r fc s4 f1
    have cS := c.fc (FC.f0 fc)
    have hlS := rc.2.1
    have hTc := rc.2.2.2.1
    have hWR : WR S1 (sI S2 0 57 0) := rc.2.2.2.2.2.2.2.2.1
    have b := C_bounds hTc.1 l1
    have hM : m_does g S2 (nI 20) (nI a) (nI 4) = m_changes_44 g (sI S2 0 57 0) (nI 20) (nI a) (nI q) 0 0 := by
      rw [dM_20]
      unfold m_does_68
      rw [dM2_20 (M_tAt (e2 _ f1) (by omega))]
      unfold m_changes_25
      rw [if_neg (by decide +kernel), bS]
    unfold m_changes_44 at hM
    rw [if_pos h0'] at hM
    rw [if_pos (by decide +kernel), if_neg (by decide +kernel), if_pos (by decide +kernel)] at hM
    unfold m_exchanges at hM
    rw [m2, Option.bind_some, m3, Option.bind_some, isIn_s, Option.bind_some, isIn_s, Option.bind_some, z64, show (65535 : Int64).toInt = 65535 from by decide +kernel] at hM
    have hC : doC g S 20 = m_TS_change g S1 (nI p) := by
      rw [doC_T hlk (by decide +kernel), dC_20 e1 s1]
      unfold m_TS_give_192
      rw [bS2]
    unfold m_TS_change at hC
    rw [show (2 : Int32) = nI 2 from rfl, show (3 : Int32) = nI 3 from rfl, B_whole (S2 := sI S2 0 57 0) (w := w2) cS hlS rfl o2 hWR, B_whole (S2 := sI S2 0 57 0) (w := w3) cS hlS rfl o3 hWR, Option.bind_some, Option.bind_some, isUnit_s, isUnit_s, Option.bind_some, Option.bind_some, show valW (sI S2 0 57 0) w2 = valW S2 w2 from rfl, show valW (sI S2 0 57 0) w3 = valW S2 w3 from rfl, C_end hTc.1 b.1, Option.bind_some, C_start hTc.1 b.1, Option.bind_some, stC_succ l1] at hC
    by_cases hin : (0 ≤ (valW S2 w2).toInt ∧ (valW S2 w2).toInt ≤ 65535) ∧ (0 ≤ (valW S2 w3).toInt ∧ (valW S2 w3).toInt ≤ 65535)
    · obtain ⟨S3, T3, v, sm, a1, a2, a3, a4, a5, a6, a7, a8⟩ := chg_l (g := g) (A := valW S2 w2) (B := valW S2 w3) l1 l2 l3 l.length g g 0 S1 (sI S2 0 57 0) [] True (by omega) (by omega) (by omega) hTc.1 rc.1 T2 hm' (Scr.nil s3) Out_0 (by simp; omega)
      have fc3 := fc.tr (F0C.fr a3 (Or.inl rfl))
      have fm := f1.tr (F0M.fe a4)
      have h03 : gI T3 0 58 = 0 := (a4.1 58 (by decide)).trans h0'
      obtain ⟨S4, T4, kd, y1, y2, y3⟩ := fin_chg (same := sm) hg hk r bd c cm (w0 := w0) rfl hn hv fc3 (s4.scr a3 a5) fm h03 hpq hp hq (fun _ => ⟨a5, a6, by omega, fun _ => a8 l4 (isU_of hin.2) usL_nil⟩)
      rw [c01_f (fun z => z trivial)] at a1
      rw [c01_t trivial] at a2
      refine ⟨S4, T4, kd, ?_, ?_, y3⟩
      · rw [hC, c01_t hin.1, c01_t hin.2, if_neg (by decide), if_neg (by decide), show nI (stC cs p) = nI (stC cs p + 0) from rfl]
        exact a1.trans y1
      · rw [hM, c01_t hin.1, c01_t hin.2, if_neg (by decide), if_neg (by decide)]
        unfold m_exchanges_46
        rw [nI_0] at a2
        rw [M_ref0, Option.bind_some, a2, Option.bind_some]
        exact y2
    · have f3 : F0M S2 (sI (sI S2 0 57 0) 0 58 3) := f1.tr (F0M_sI (Or.inr (Or.inl rfl)))
      obtain ⟨S3, T3, v, sm, a1, a2, a3, a4, a5, a6, a7, a8⟩ := chg_l (g := g) (A := valW S2 w2) (B := valW S2 w3) l1 l2 l3 l.length g g 0 S1 (sI (sI S2 0 57 0) 0 58 3) [] True (by omega) (by omega) (by omega) hTc.1 rc.1 (hT.2.1.f0 f3) (hm.fs (FS.f0 f3)) (Scr.nil s3) ⟨by rw [gI_ne (by decide)]; exact (Out_0 (S2 := S2)).1, fun i hi => absurd hi (by simp)⟩ (by simp; omega)
      have fm := f3.tr (F0M.fe a4)
      have h03 : gI T3 0 58 = nI 3 := (a4.1 58 (by decide)).trans sI_58
      rw [c01_t trivial] at a2
      refine ⟨S1, T3, 3, ?_, ?_, fin_no r bd fc s4 fm h03 (by decide)⟩
      · rw [hC]
        by_cases h1 : 0 ≤ (valW S2 w2).toInt ∧ (valW S2 w2).toInt ≤ 65535
        · rw [c01_t h1, if_neg (by decide), c01_f (fun z => hin ⟨h1, z⟩), if_pos rfl]
          try rfl
        · rw [c01_f h1, if_pos rfl]
          try rfl
      · have key : m_exchanges_41 g (sI S2 0 57 0) (nI q) (valW S2 w2) (valW S2 w3) = some (T3, c01 sm) := by
          unfold m_exchanges_41 m_exchanges_46
          rw [M_ref1 h0', Option.bind_some]
          exact a2
        have fin : m_changes_137 g T3 (nI a) (nI q) (c01 sm) = some T3 := by
          unfold m_changes_137
          rw [if_neg (by rw [h03]; decide)]
        rw [hM]
        by_cases h1 : 0 ≤ (valW S2 w2).toInt ∧ (valW S2 w2).toInt ≤ 65535
        · rw [c01_t h1, if_neg (by decide), c01_f (fun z => hin ⟨h1, z⟩), if_pos rfl, key, Option.bind_some]
          exact fin
        · rw [c01_f h1, if_pos rfl, key, Option.bind_some]
          exact fin
