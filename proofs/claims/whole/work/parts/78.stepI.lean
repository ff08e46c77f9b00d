/-! the STEPS: repeat, change -/
section FU2
variable {U : Nat → Prop} {g k s n : Nat} {S S1 S2 S2b : St} {ws : List Wd} {w0 : Wd} {a : Nat} {φ : Nat → Option Nat} {cs ts : List (List Int32)} {u : Nat} {pl pm ps qs : List Nat} {l : List Int32}
theorem TXc.fr23 (w : TXc S cs) (h : Fr 23 S S1) : TXc S1 cs := ⟨w.1.fr h (by decide), w.2.fr h (by decide)⟩
theorem C_addTextS {v : List Int32} {p : Nat} (hT : TXc S cs) (w : Scr S 23 v) (hk : gOK S) (hp : cs[p]? = some l) : ∃ S', m_Bn_addText g S (nI p) = some S' ∧ Fr 23 S S' ∧ Scr S' 23 (v ++ l) := by
  have b := C_bounds hT hp
  obtain ⟨S', s1, s2, s3⟩ := C_stretch (g := g) (i := 0) (m := l.length) hT w hk hp (by omega)
  rw [seg_all] at s3
  refine ⟨S', ?_, s2, s3⟩
  unfold m_Bn_addText
  rw [C_start hT b.1, Option.bind_some, C_end hT b.1, Option.bind_some, stC_succ hp, show nI (stC cs p) = nI (stC cs p + 0) from rfl, show stC cs p + l.length = stC cs p + (0 + l.length) by omega, s1]
  rfl
theorem Scr.ov0 {v : List Int32} (w : Scr S 23 v) (h : v.length ≤ 400) : gI S 23 3 = 0 := by
  have h400 : limC 23 = 400 := by decide +kernel
  rcases w with ⟨-, w⟩ | ⟨w1, -⟩
  · exact w.2.2.2.1
  · omega
theorem Scr.ov1 {v : List Int32} (w : Scr S 23 v) (h : 400 < v.length) : ¬ gI S 23 3 = 0 := by
  have h400 : limC 23 = 400 := by decide +kernel
  rcases w with ⟨w1, -⟩ | ⟨-, l, w⟩
  · omega
  · rw [w.2.2.2.1]; decide
theorem fin_chg0 {p q : Nat} (hg : 100000 ≤ g) (hk : k < 60) (r : RS U S S2 φ cs ts u pl pm ps qs) (bd : Bd k cs ts u pl) (c : CurC S ws) (cm : CurM S2 a ws) (hw : ws[0]? = some w0) (hn : n < 20) (hv : w0.2.1.toInt = (n : Int)) (hc : F0C S S1) (hx : XR S1) (w : Scr S1 23 l) (hm : F0M S2 S2b) (h0 : gI S2b 0 58 = 0) (ho : Out S2b l) (hl2 : l.length < 2 ^ 31) (hu : l.length ≤ 400 → usL l) : ∃ S4 T4 kd, m_TS_become g S1 (nI p) 1 = some (S4, nI kd) ∧ m_changes_137 g S2b (nI a) (nI q) 0 = some T4 ∧ Tl U k S S2 S4 T4 kd := by
  obtain ⟨S4, T4, kd, z1, z2, z3⟩ := fin_units hg hk r bd c cm hw hn hv hc hx w hm h0 ho hl2 hu (x := nI p)
  refine ⟨S4, T4, kd, z1, ?_, z3⟩
  unfold m_changes_137
  rw [if_pos h0, if_pos rfl, z2]
  rfl
/-- a text n times -/
def rep (l : List Int32) (n : Nat) : List Int32 := (List.replicate n l).flatten
theorem rep_s {n : Nat} : rep l (n + 1) = rep l n ++ l := by
  unfold rep
  rw [List.replicate_succ', List.flatten_append]
  simp
theorem rep_len {n : Nat} : (rep l n).length = n * l.length := by
  induction n with
  | zero => simp [rep]
  | succ n ih => rw [rep_s, List.length_append, ih, Nat.succ_mul]
theorem rep_us {n : Nat} (h : usL l) : usL (rep l n) := by
  induction n with
  | zero => exact usL_nil
  | succ n ih => rw [rep_s]; exact usL_app ih h
theorem i64_lt {x : Int64} {i X : Nat} (hX : x.toInt = (X : Int)) (hi : i < 2 ^ 31) : ((nI i).toInt64 < x) ↔ i < X := by
  rw [Int64.lt_iff_toInt_lt, j64, nI_toInt hi, hX]
  omega
theorem i64_1 {i : Nat} (hi : i < 2 ^ 30) : (nI i).toInt64 + (1 : Int64) = (nI (i + 1)).toInt64 := by
  apply Int64.toInt_inj.mp
  rw [Int64.toInt_add, j64, j64, nI_toInt (by omega), nI_toInt (by omega), show (1 : Int64).toInt = 1 from by decide +kernel]
  exact Int.bmod_eq_of_le (by omega) (by omega)
theorem repC_l {p X : Nat} {x : Int64} (l1 : cs[p]? = some l) (hX : x.toInt = (X : Int)) : ∀ (k n i : Nat) (S : St), i + k = 400 → k < n → i ≤ X → TXc S cs → gOK S → Scr S 23 (rep l i) → ∃ S' i', m_TS_repeat_20 g n S (nI p) x (nI i) = m_TS_repeat_60 g S' (nI p) x ∧ Fr 23 S S' ∧ Scr S' 23 (rep l i') ∧ i' ≤ X ∧ (i' = X ∨ 400 < (rep l i').length ∨ (i' = 400 ∧ 400 < X)) := by
  intro k
  induction k with
  | zero =>
    intro n i S hi hn hiX hT hk w
    obtain ⟨n, rfl⟩ : ∃ m, n = m + 1 := ⟨n - 1, by omega⟩
    refine ⟨S, i, ?_, Fr.rf, w, hiX, by omega⟩
    show b_TS_repeat_20 g (m_TS_repeat_20 g n) S (nI p) x (nI i) = _
    unfold b_TS_repeat_20
    by_cases h : i < X
    · rw [if_pos ((i64_lt hX (by omega)).mpr h), if_pos (show (400 : Int32) ≤ nI i from nI_le (a := 400) (by omega) (by omega))]
    · rw [if_neg (fun z => h ((i64_lt hX (by omega)).mp z))]
  | succ k ih =>
    intro n i S hi hn hiX hT hk w
    obtain ⟨n, rfl⟩ : ∃ m, n = m + 1 := ⟨n - 1, by omega⟩
    by_cases h : i < X
    · by_cases ho : (rep l i).length ≤ 400
      · obtain ⟨S1, a1, a2, a3⟩ := C_addTextS (g := g) hT w hk l1
        rw [← rep_s] at a3
        obtain ⟨S', i', c1, c2, c3, c4⟩ := ih n (i + 1) S1 (by omega) (by omega) (by omega) (hT.fr23 a2) (hk.fr a2) a3
        refine ⟨S', i', ?_, a2.tr c2, c3, c4⟩
        show b_TS_repeat_20 g (m_TS_repeat_20 g n) S (nI p) x (nI i) = _
        unfold b_TS_repeat_20
        rw [if_pos ((i64_lt hX (by omega)).mpr h), if_neg (show ¬ (400 : Int32) ≤ nI i from nI_ge (b := 400) (by omega) (by omega)), if_pos (w.ov0 ho), a1, Option.bind_some]
        unfold m_TS_repeat_54
        rw [lt_d, nI_1, c1]
      · refine ⟨S, i, ?_, Fr.rf, w, hiX, by omega⟩
        show b_TS_repeat_20 g (m_TS_repeat_20 g n) S (nI p) x (nI i) = _
        unfold b_TS_repeat_20
        rw [if_pos ((i64_lt hX (by omega)).mpr h), if_neg (show ¬ (400 : Int32) ≤ nI i from nI_ge (b := 400) (by omega) (by omega)), if_neg (w.ov1 (by omega))]
    · refine ⟨S, i, ?_, Fr.rf, w, hiX, by omega⟩
      show b_TS_repeat_20 g (m_TS_repeat_20 g n) S (nI p) x (nI i) = _
      unfold b_TS_repeat_20
      rw [if_neg (fun z => h ((i64_lt hX (by omega)).mp z))]
theorem repM_l {q X : Nat} {x : Int64} (hg : 100000 ≤ g) (l2 : ts[q]? = some l) (hX : x.toInt = (X : Int)) (hl0 : 0 < l.length) (hl4 : l.length ≤ 400) (hX4 : X * l.length ≤ 400) : ∀ (k n i : Nat) (S : St), i + k = X → k < n → TXs S ts u → LM S → gI S 0 58 = 0 → Out S (rep l i) → ∃ S', m_repeats_77 g n S (nI q) x (nI l.length) (nI i).toInt64 = some (S', 0) ∧ FE S S' ∧ Out S' (rep l X) := by
  have hX5 : X ≤ 400 := Nat.le_trans (Nat.le_mul_of_pos_right X hl0) hX4
  intro k
  induction k with
  | zero =>
    intro n i S hi hn hT hm h0 w
    obtain ⟨n, rfl⟩ : ∃ m, n = m + 1 := ⟨n - 1, by omega⟩
    have hi : i = X := by omega
    subst hi
    refine ⟨S, ?_, FE.rf, w⟩
    show b_repeats_77 g (m_repeats_77 g n) S (nI q) x _ _ = _
    unfold b_repeats_77
    rw [if_pos h0, if_neg (nI_nle hl0 (by omega)), if_neg (fun z => absurd ((i64_lt hX (by omega)).mp z) (by omega))]
  | succ k ih =>
    intro n i S hi hn hT hm h0 w
    obtain ⟨n, rfl⟩ : ∃ m, n = m + 1 := ⟨n - 1, by omega⟩
    have hle : i * l.length ≤ X * l.length := Nat.mul_le_mul_right _ (by omega)
    obtain ⟨S1, a1, a2, a3⟩ := O_text (g := g) (t := q) (a := 0) (b := l.length) hg hT hm l2 (by omega) (by omega) w (by rw [rep_len]; omega)
    rw [Nat.sub_zero, seg_all, ← rep_s] at a3
    obtain ⟨S', c1, c2, c3⟩ := ih n (i + 1) S1 (by omega) (by omega) (hT.fe a2) (hm.fe a2) ((a2.1 58 (by decide)).trans h0) a3
    refine ⟨S', ?_, a2.tr c2, c3⟩
    show b_repeats_77 g (m_repeats_77 g n) S (nI q) x _ _ = _
    unfold b_repeats_77
    rw [if_pos h0, if_neg (nI_nle hl0 (by omega)), if_pos ((i64_lt hX (by omega)).mpr (by omega)), show (0 : Int32) = nI 0 from rfl, a1, Option.bind_some, lt_d, i64_1 (by omega), c1]
    rfl
end FU2
theorem St19 : StOK 19 := by
  intro g U k S S2 ws a hg hk hR c cm hW h0
  obtain ⟨φ, cs, ts, u, pl, pm, ps, qs, r, bd⟩ := hR
  obtain ⟨q1, q2, q3⟩ := hW
  have q1 : 3 ≤ ws.length := q1
  have q2 : ws.length ≤ 3 := q2
  obtain ⟨w0, w1, w2, rfl⟩ := ls3 (show ws.length = 3 by omega)
  change ∃ S' S2' kd, doC g S 19 = some (S', nI kd) ∧ m_does g S2 (nI 19) (nI a) (nI 3) = some S2' ∧ gI S2' 0 58 = nI kd ∧ kd ≤ 5 ∧ RSx U (k + 1) S' S2' ∧ FC S S' ∧ FS S2 S2'
  have hl := r.2.1
  have hm := r.2.2.1
  have hT := r.2.2.2.1
  have hx := r.2.2.2.2.2.2.2.2.2.2.2.2.2
  have f1 : F0M S2 (sI S2 0 57 0) := F0M_sI (Or.inl rfl)
  have f2 : F0M S2 (sI (sI S2 0 57 0) 0 58 4) := f1.tr (F0M_sI (Or.inr (Or.inl rfl)))
  have f3 : F0M S2 (sI (sI S2 0 57 0) 0 58 1) := f1.tr (F0M_sI (Or.inr (Or.inl rfl)))
  have h0' : gI (sI S2 0 57 0) 0 58 = 0 := by rw [gI_ne (by decide)]; exact h0
  have cm' := cm.fs (FS.f0 f1)
  have hm' := hm.fs (FS.f0 f1)
  have T2 := hT.2.1.f0 f1
  obtain ⟨-, n, hn, hv⟩ := okL_v (show okL U 118 w0 from q3 0 w0 rfl)
  obtain ⟨x, y, e1, e2, e3, e4⟩ := getT (g := g) (j := 1) (w := w1) r c cm rfl (show okL U 84 w1 from q3 1 w1 rfl) (by decide)
  have o2 : okW w2 := okL_W (show okL U 87 w2 from q3 2 w2 rfl)
  have m2 : m_value g (sI S2 0 57 0) (nI a + (2 : Int32)) = some (valW S2 w2) := by rw [show (2 : Int32) = nI 2 from rfl, nI_add]; exact M_value (g := g) (j := 2) (w := w2) cm' hm' rfl o2
  have hlk := lacks1 (s := 19) (j0 := 1) hg c (show 1 < 3 by decide) (show ∀ j, j < 3 → j ≠ 1 → ¬ lett 19 (nI j) = 84 from by decide +kernel) (by decide +kernel) e1
  rcases e4 with ⟨rfl, rfl⟩ | ⟨p, q, l, rfl, rfl, hpq, hp, hq, l1, l2, l3, l4⟩
  · rw [c01_t rfl] at hlk
    refine ⟨S, sI (sI S2 0 57 0) 0 58 4, 4, doC_no hlk, ?_, fin_no r bd F0C.rf hx f2 sI_58 (by decide)⟩
    rw [dM_19]
    unfold m_does_68
    rw [dM2_19 (M_tAt0 (e2 _ f1) h0')]
    unfold m_changes_25
    rw [if_neg (by decide +kernel)]
    unfold m_changes_44
    rw [if_neg (by rw [sI_58]; decide)]
    rfl
  · rw [c01_f (m1_ne (by omega))] at hlk
    obtain ⟨S1, s1, s2, s3, s4⟩ := clr (g := g) hx
    have fc := F0C.fr s2 (Or.inl rfl)
    have rc := RS_0 r fc s4 f1
    have cS := c.fc (FC.f0 fc)
    have hlS := rc.2.1
    have hTc := rc.2.2.2.1
    have hWR : WR S1 (sI S2 0 57 0) := rc.2.2.2.2.2.2.2.2.1
    have b := C_bounds hTc.1 l1
    have hM : m_does g S2 (nI 19) (nI a) (nI 3) = m_changes_44 g (sI S2 0 57 0) (nI 19) (nI a) (nI q) 0 0 := by
      rw [dM_19]
      unfold m_does_68
      rw [dM2_19 (M_tAt (e2 _ f1) (by omega))]
      unfold m_changes_25
      rw [if_neg (by decide +kernel), bS]
    unfold m_changes_44 at hM
    rw [if_pos h0'] at hM
    rw [if_pos (by decide +kernel), if_pos (by decide +kernel)] at hM
    unfold m_repeats at hM
    rw [m2, Option.bind_some] at hM
    have hC : doC g S 19 = m_TS_repeat g S1 (nI p) := by
      rw [doC_T hlk (by decide +kernel), dC_19 e1 s1]
      unfold m_TS_give_186
      rw [bS2]
    unfold m_TS_repeat at hC
    rw [show (2 : Int32) = nI 2 from rfl, B_whole (S2 := sI S2 0 57 0) (w := w2) cS hlS rfl o2 hWR, Option.bind_some, show valW (sI S2 0 57 0) w2 = valW S2 w2 from rfl] at hC
    have fin : ∀ (kd : Int32) (v : Int32), ¬ kd = 0 → m_changes_137 g (sI (sI S2 0 57 0) 0 58 kd) (nI a) (nI q) v = some (sI (sI S2 0 57 0) 0 58 kd) := by
      intro kd v h
      unfold m_changes_137
      rw [if_neg (by rw [sI_58]; exact h)]
    by_cases hneg : valW S2 w2 < 0
    · refine ⟨S1, sI (sI S2 0 57 0) 0 58 3, 3, ?_, ?_, fin_no r bd fc s4 (f1.tr (F0M_sI (Or.inr (Or.inl rfl)))) sI_58 (by decide)⟩
      · rw [hC, if_pos hneg]
        rfl
      · rw [hM, if_pos hneg]
        unfold m_repeats_20
        rw [M_ref1 h0', Option.bind_some, if_neg (by rw [sI_58]; decide), Option.bind_some]
        exact fin 3 1 (by decide)
    rw [if_neg hneg] at hC hM
    have hnn : 0 ≤ (valW S2 w2).toInt := by
      rw [Int64.lt_iff_toInt_lt, z64] at hneg
      omega
    obtain ⟨X, hX⟩ : ∃ X : Nat, (valW S2 w2).toInt = (X : Int) := ⟨(valW S2 w2).toInt.toNat, by omega⟩
    obtain ⟨S3, i', a1, a2, a3, a4, a5⟩ := repC_l (g := g) l1 hX 400 g 0 S1 (by omega) (by omega) (by omega) hTc.1 rc.1 (Scr.nil s3)
    rw [show (0 : Int32) = nI 0 from rfl, a1] at hC
    have fc3 := fc.tr (F0C.fr a2 (Or.inl rfl))
    have x3 := s4.scr a2 a3
    have hT3 := hTc.1.fr23 a2
    unfold m_TS_repeat_60 at hC
    rw [C_size hT3 l1, Option.bind_some] at hC
    unfold m_repeats_20 at hM
    rw [M_ref0, Option.bind_some, if_pos h0'] at hM
    have h400 : (400 : Int64) < valW S2 w2 ↔ 400 < X := by
      rw [Int64.lt_iff_toInt_lt, hX, show (400 : Int64).toInt = 400 from by decide +kernel]
      omega
    by_cases hone : valW S2 w2 = 1
    · have hX1 : ¬ 400 < X := by
        rw [hone, show (1 : Int64).toInt = 1 from by decide +kernel] at hX
        omega
      obtain ⟨S4, T4, kd, y1, y2, y3⟩ := fin_chg (l := []) (same := True) hg hk r bd c cm (w0 := w0) rfl hn hv fc3 x3 f1 h0' hpq hp hq (fun z => absurd trivial z)
      rw [c01_f (fun z => z trivial)] at y1
      rw [c01_t trivial] at y2
      refine ⟨S4, T4, kd, ?_, ?_, y3⟩
      · rw [hC, if_neg (fun z => hX1 (h400.mp z))]
        unfold m_TS_repeat_81
        rw [if_pos hone]
        unfold m_TS_repeat_94 m_TS_repeat_97
        rw [bS2, y1]
      · rw [hM, if_pos hone, Option.bind_some]
        exact y2
    rw [if_neg hone, (T_size T2 hm' l2).1, Option.bind_some] at hM
    have h81 : m_TS_repeat_81 g S3 (nI p) (valW S2 w2) = m_TS_become g S3 (nI p) 1 := by
      unfold m_TS_repeat_81
      rw [if_neg hone]
      unfold m_TS_repeat_94 m_TS_repeat_97
      rw [bS2]
    rw [h81] at hC
    by_cases hz : l.length = 0
    · have hr : rep l i' = [] := List.length_eq_zero_iff.mp (by rw [rep_len, hz, Nat.mul_zero])
      rw [hr] at a3
      obtain ⟨S4, T4, kd, y1, y2, y3⟩ := fin_chg0 (p := p) (q := q) hg hk r bd c cm (w0 := w0) rfl hn hv fc3 x3 a3 f1 h0' Out_0 (by simp) (fun _ => usL_nil)
      refine ⟨S4, T4, kd, ?_, ?_, y3⟩
      · rw [hC, ifo (if_pos (by rw [hz]; decide)) rfl, y1]
      · rw [hM, if_pos (by rw [hz]; decide)]
        unfold m_repeats_69 m_repeats_70
        rw [M_ref0, Option.bind_some, show m_repeats_77 g g (sI S2 0 57 0) (nI q) (valW S2 w2) (nI l.length) 0 = some (sI S2 0 57 0, 0) from by
          obtain ⟨g', hg'⟩ : ∃ g', g = g' + 1 := ⟨g - 1, by omega⟩
          rw [show m_repeats_77 g g = m_repeats_77 g (g' + 1) from by rw [← hg']]
          show b_repeats_77 g (m_repeats_77 g g') _ _ _ _ _ = _
          unfold b_repeats_77
          rw [if_pos h0', if_pos (by rw [hz]; decide)], Option.bind_some]
        exact y2
    have hl0 : 0 < l.length := by omega
    rw [if_neg (nI_nle hl0 (by omega))] at hC
    have hdiv : ((400 : Int32) / nI l.length) = nI (400 / l.length) := by
      apply Int32.toInt_inj.mp
      rw [show (400 : Int32) = nI 400 from rfl, Int32.toInt_div, nI_toInt (by omega), nI_toInt (by omega), nI_toInt (by have := Nat.div_le_self 400 l.length; omega)]
      rw [show ((400 : Nat) : Int).tdiv (l.length : Int) = ((400 / l.length : Nat) : Int) from rfl]
      have hd := Nat.div_le_self 400 l.length
      generalize 400 / l.length = d at hd ⊢
      exact Int.bmod_eq_of_le (by omega) (by omega)
    have hdl : 400 / l.length < 2 ^ 31 := by have := Nat.div_le_self 400 l.length; omega
    rw [if_neg (nI_nle hl0 (by omega)), if_neg (nI_ne0 hl0 (by omega)), hdiv] at hM
    have hcmp : ((nI (400 / l.length)).toInt64 < valW S2 w2) ↔ 400 < X * l.length := by
      rw [i64_lt hX hdl]
      exact Nat.div_lt_iff_lt_mul hl0
    by_cases hbig : 400 < X * l.length
    · refine ⟨S3, sI (sI S2 0 57 0) 0 58 5, 5, ?_, ?_, fin_no r bd fc3 x3 (f1.tr (F0M_sI (Or.inr (Or.inl rfl)))) sI_58 (by decide)⟩
      · rw [hC]
        by_cases h4 : 400 < X
        · rw [if_pos (h400.mpr h4)]
          rfl
        · rw [if_neg (fun z => h4 (h400.mp z))]
          have : 400 < (rep l i').length := by
            rcases a5 with rfl | a5 | a5
            · rw [rep_len]; exact hbig
            · exact a5
            · omega
          unfold m_TS_become
          rw [if_neg (by decide), if_neg (a3.ov1 this)]
          rfl
      · rw [hM, if_pos (hcmp.mpr hbig)]
        unfold m_repeats_70
        rw [M_ref1 h0', Option.bind_some, show m_repeats_77 g g (sI (sI S2 0 57 0) 0 58 5) (nI q) (valW S2 w2) (nI l.length) 0 = some (sI (sI S2 0 57 0) 0 58 5, 0) from by
          obtain ⟨g', hg'⟩ : ∃ g', g = g' + 1 := ⟨g - 1, by omega⟩
          rw [show m_repeats_77 g g = m_repeats_77 g (g' + 1) from by rw [← hg']]
          show b_repeats_77 g (m_repeats_77 g g') _ _ _ _ _ = _
          unfold b_repeats_77
          rw [if_neg (by rw [sI_58]; decide)], Option.bind_some]
        exact fin 5 0 (by decide)
    · have hX5 : X ≤ 400 := Nat.le_trans (Nat.le_mul_of_pos_right X hl0) (by omega)
      have hi' : i' = X := by
        rcases a5 with a5 | a5 | a5
        · exact a5
        · rw [rep_len] at a5
          have := Nat.mul_le_mul_right l.length a4
          omega
        · omega
      subst hi'
      obtain ⟨T3, v1, v2, v3⟩ := repM_l (g := g) hg l2 hX hl0 l3 (by omega) i' g 0 (sI S2 0 57 0) (by omega) (by omega) T2 hm' h0' Out_0
      have fm := f1.tr (F0M.fe v2)
      have h03 : gI T3 0 58 = 0 := (v2.1 58 (by decide)).trans h0'
      obtain ⟨S4, T4, kd, y1, y2, y3⟩ := fin_chg0 (p := p) (q := q) hg hk r bd c cm (w0 := w0) rfl hn hv fc3 x3 a3 fm h03 v3 (by rw [rep_len]; omega) (fun _ => rep_us l4)
      refine ⟨S4, T4, kd, ?_, ?_, y3⟩
      · rw [hC, if_neg (fun z => absurd (h400.mp z) (by omega)), y1]
      · rw [hM, if_neg (fun z => hbig (hcmp.mp z))]
        unfold m_repeats_69 m_repeats_70
        rw [M_ref0, Option.bind_some, show (0 : Int64) = (nI 0).toInt64 from by decide +kernel, v1, Option.bind_some]
        exact y2
