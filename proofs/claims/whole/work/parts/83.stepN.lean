/-! the STEPS: point, before, points -/
noncomputable def pS (p : Prop) : Nat := @ite _ p (Classical.propDecidable p) 2 1
theorem pS_t {p : Prop} (h : p) : pS p = 2 := by unfold pS; rw [if_pos h]
theorem pS_f {p : Prop} (h : ¬ p) : pS p = 1 := by unfold pS; rw [if_neg h]
/-- the POINT of a pair -/
theorem prV_64 {a b : Int32} (ha : isU a) (hb : isU b) (h1 : hiU a) (h2 : loU b) : ∃ n : Nat, 65536 ≤ n ∧ n ≤ 1114111 ∧ prV a b = nI n ∧ (((65536 : Int64) + ((1024 : Int64) * ((a - (55296 : Int32)).toInt64))) + (b.toInt64)) - (56320 : Int64) = (nI n).toInt64 := by
  obtain ⟨x, x1, rfl⟩ := ha
  obtain ⟨y, y1, rfl⟩ := hb
  obtain ⟨a1, a2⟩ := h1
  obtain ⟨b1, b2⟩ := h2
  rw [show (55296 : Int32) = nI 55296 from rfl, nI_ltI (by omega) (by omega)] at a1
  rw [show (56319 : Int32) = nI 56319 from rfl, nI_ltI (by omega) (by omega)] at a2
  rw [show (56320 : Int32) = nI 56320 from rfl, nI_ltI (by omega) (by omega)] at b1
  rw [show (57343 : Int32) = nI 57343 from rfl, nI_ltI (by omega) (by omega)] at b2
  obtain ⟨x, rfl⟩ : ∃ x', x = 55296 + x' := ⟨x - 55296, by omega⟩
  obtain ⟨y, rfl⟩ : ∃ y', y = 56320 + y' := ⟨y - 56320, by omega⟩
  refine ⟨65536 + 1024 * x + y, by omega, by omega, ?_, ?_⟩
  · unfold prV
    rw [show (55296 : Int32) = nI 55296 from rfl, show (56320 : Int32) = nI 56320 from rfl, show (65536 : Int32) = nI 65536 from rfl, show (1024 : Int32) = nI 1024 from rfl, nI_sub (by omega), nI_sub (by omega), Nat.add_sub_cancel_left, Nat.add_sub_cancel_left, nI_mulE, nI_add, nI_add]
  · rw [show (55296 : Int32) = nI 55296 from rfl, nI_sub (by omega), Nat.add_sub_cancel_left, nI_l (by omega), nI_l (by omega), nI_l (by omega), show (65536 : Int64) = lN 65536 from rfl, show (1024 : Int64) = lN 1024 from rfl, show (56320 : Int64) = lN 56320 from rfl, lN_mul, lN_add, lN_add, lN_sub (by omega)]
    exact congrArg lN (by omega)
section PTS
variable {g : Nat} {S S2 : St} {cs ts : List (List Int32)} {u p q i e : Nat} {l : List Int32}
theorem prC (hT : TXc S cs) (l1 : cs[p]? = some l) (he : e ≤ l.length) (hi : i < 2 ^ 30) : m_Row_hasPair g S 18 (nI (stC cs p + i)) (nI (stC cs p + e)) = some (c01 (prL l i e)) := by
  have b := C_bounds hT l1
  by_cases hi2 : stC cs p + i < 2 ^ 31
  · rw [R_pair hT.1 (by omega) hi2]
    refine congrArg some (c01_iff ?_)
    unfold prL
    constructor
    · rintro ⟨a1, a2, a3⟩
      rw [getC l1 (by omega)] at a2
      rw [Nat.add_assoc, getC l1 (by omega)] at a3
      exact ⟨by omega, a2, a3⟩
    · rintro ⟨a1, a2, a3⟩
      refine ⟨by omega, ?_, ?_⟩
      · rw [getC l1 (by omega)]; exact a2
      · rw [Nat.add_assoc, getC l1 (by omega)]; exact a3
  · exact absurd (show stC cs p + i < 2 ^ 31 by omega) hi2
theorem pvC (hT : TXc S cs) (l1 : cs[p]? = some l) (hi : i + 1 < l.length) : m_Row_pairAt g S 18 (nI (stC cs p + i)) = some (prV (l.getD i 0) (l.getD (i + 1) 0)) := by
  have b := C_bounds hT l1
  rw [R_pairAt hT.1 (by omega), getC l1 (by omega), Nat.add_assoc, getC l1 (by omega)]
theorem M_pSz (hM : TXs S2 ts u) (hm : LM S2) (l2 : ts[q]? = some l) (hl : l.length ≤ 400) (hi : i < e) (he : e ≤ l.length) : m_pointSize g S2 (nI q) (nI i) (nI e) = some (nI (pS (prL l i e))) := by
  unfold m_pointSize
  rw [T_unit hM hm l2 (by omega), Option.bind_some, high_s, Option.bind_some]
  by_cases h1 : hiU (l.getD i 0)
  · rw [c01_t h1, if_neg (by decide), nI_1]
    by_cases h2 : i + 1 < e
    · rw [if_neg (nI_ge h2 (by omega)), T_unit hM hm l2 (by omega), Option.bind_some, low_s, Option.bind_some]
      by_cases h3 : loU (l.getD (i + 1) 0)
      · rw [c01_t h3, if_neg (by decide), pS_t ⟨h2, h1, h3⟩]
        rfl
      · rw [c01_f h3, if_pos rfl, pS_f (fun z => h3 z.2.2)]
        rfl
    · rw [if_pos (nI_le (by omega) (by omega)), pS_f (fun z => h2 z.1)]
      rfl
  · rw [c01_f h1, if_pos rfl, pS_f (fun z => h1 z.2.1)]
    rfl
theorem M_pAt1 (hM : TXs S2 ts u) (hm : LM S2) (l2 : ts[q]? = some l) (hi : i < l.length) : m_pointAt g S2 (nI q) (nI i) (nI 1) = some (l.getD i 0).toInt64 := by
  unfold m_pointAt
  rw [if_pos (show nI 1 = 1 from rfl), T_unit hM hm l2 hi]
  rfl
theorem M_pAt2 (hM : TXs S2 ts u) (hm : LM S2) (l2 : ts[q]? = some l) (hi : i + 1 < l.length) (hu : usL l) (h1 : hiU (l.getD i 0)) (h2 : loU (l.getD (i + 1) 0)) : m_pointAt g S2 (nI q) (nI i) (nI 2) = some (prV (l.getD i 0) (l.getD (i + 1) 0)).toInt64 := by
  obtain ⟨n, -, -, n1, n2⟩ := prV_64 (hu i (by omega)) (hu (i + 1) hi) h1 h2
  unfold m_pointAt
  rw [if_neg (by decide), T_unit hM hm l2 (by omega), Option.bind_some, nI_1, T_unit hM hm l2 hi, Option.bind_some, n1, n2]
theorem M_sBf (hM : TXs S2 ts u) (hm : LM S2) (l2 : ts[q]? = some l) (hl : l.length ≤ 400) (hi : i ≤ l.length) (h1 : 1 ≤ i) : m_sizeBefore g S2 (nI q) (nI i) = some (nI (pS (2 ≤ i ∧ prL l (i - 2) i))) := by
  unfold m_sizeBefore
  by_cases h2 : 2 ≤ i
  · rw [if_neg (show ¬ nI i ≤ (1 : Int32) from nI_ge (a := 1) (by omega) (by omega)), show (1 : Int32) = nI 1 from rfl, show (2 : Int32) = nI 2 from rfl, nI_sub (by omega), nI_sub (by omega), T_unit hM hm l2 (by omega), Option.bind_some, low_s, Option.bind_some]
    by_cases h3 : loU (l.getD (i - 1) 0)
    · rw [c01_t h3, if_neg (by decide), T_unit hM hm l2 (by omega), Option.bind_some, high_s, Option.bind_some]
      by_cases h4 : hiU (l.getD (i - 2) 0)
      · rw [c01_t h4, if_neg (by decide), pS_t ⟨h2, by omega, h4, by rw [show i - 2 + 1 = i - 1 by omega]; exact h3⟩]
      · rw [c01_f h4, if_pos rfl, pS_f (fun z => h4 z.2.2.1)]
    · rw [c01_f h3, if_pos rfl, pS_f (fun z => h3 (by have := z.2.2.2; rw [show i - 2 + 1 = i - 1 by omega] at this; exact this))]
  · rw [if_pos (show nI i ≤ (1 : Int32) from nI_le (b := 1) (by omega) (by omega)), pS_f (fun z => h2 z.1)]
    rfl
end PTS
section CNT
variable {g : Nat} {S S2 : St} {cs ts : List (List Int32)} {u p q e : Nat} {l : List Int32}
theorem cnt_l (hT : TXc S cs) (hM : TXs S2 ts u) (hm : LM S2) (l1 : cs[p]? = some l) (l2 : ts[q]? = some l) (hl : l.length ≤ 400) (he : e ≤ l.length) : ∀ (k n1 n2 i d : Nat), i + k = e + 1 → k < n1 → k < n2 → d + k < 2 ^ 30 → ∃ d', m_WS_countPoints_64 g n1 S (nI e) (nI (stC cs p)) (nI d) (nI i) = m_Bn_giveWhole g S (nI d').toInt64 ∧ m_pointsOf_6 g S2 n2 (nI q) (nI e) (nI d).toInt64 (nI i) = some (nI d').toInt64 := by
  have b := C_bounds hT l1
  intro k
  induction k using Nat.strongRecOn with
  | ind k ih =>
    intro n1 n2 i d hi h1 h2 hd
    obtain ⟨n1, rfl⟩ : ∃ m, n1 = m + 1 := ⟨n1 - 1, by omega⟩
    obtain ⟨n2, rfl⟩ : ∃ m, n2 = m + 1 := ⟨n2 - 1, by omega⟩
    have eC : m_WS_countPoints_64 g (n1 + 1) S (nI e) (nI (stC cs p)) (nI d) (nI i) = b_WS_countPoints_64 g (m_WS_countPoints_64 g n1) S (nI e) (nI (stC cs p)) (nI d) (nI i) := rfl
    have eM : m_pointsOf_6 g S2 (n2 + 1) (nI q) (nI e) (nI d).toInt64 (nI i) = b_pointsOf_6 g S2 (m_pointsOf_6 g S2 n2) (nI q) (nI e) (nI d).toInt64 (nI i) := rfl
    unfold b_WS_countPoints_64 at eC
    unfold b_pointsOf_6 at eM
    by_cases hk : i < e
    · rw [if_neg (nI_ge hk (by omega)), nI_add, nI_add, prC hT l1 he (by omega), Option.bind_some, lt_d, lt_d, lt_d, lt_d, lt_d, nI_1, nI_1, nI_1] at eC
      rw [if_neg (nI_ge hk (by omega)), M_pSz hM hm l2 hl hk he, Option.bind_some, lt_d, lt_d, nI_add, i64_1 (by omega)] at eM
      by_cases hp : prL l i e
      · have := hp.1
        obtain ⟨d', a1, a2⟩ := ih (k - 2) (by omega) n1 n2 (i + 2) (d + 1) (by omega) (by omega) (by omega) (by omega)
        refine ⟨d', ?_, ?_⟩
        · rw [eC, c01_t hp, if_neg (by decide), show i + 1 + 1 = i + 2 by omega, a1]
        · rw [eM, pS_t hp, a2]
      · obtain ⟨d', a1, a2⟩ := ih (k - 1) (by omega) n1 n2 (i + 1) (d + 1) (by omega) (by omega) (by omega) (by omega)
        refine ⟨d', ?_, ?_⟩
        · rw [eC, c01_f hp, if_pos rfl, a1]
        · rw [eM, pS_f hp, a2]
    · refine ⟨d, ?_, ?_⟩
      · rw [eC, if_pos (nI_le (by omega) (by omega)), bS2]
      · rw [eM, if_pos (nI_le (by omega) (by omega))]
end CNT
theorem St12 : StOK 12 := by
  intro g U k S S2 ws a hg hk hR c cm hW h0
  obtain ⟨φ, cs, ts, u, pl, pm, ps, qs, r, bd⟩ := hR
  obtain ⟨q1, q2, q3⟩ := hW
  have q1 : 3 ≤ ws.length := q1
  have q2 : ws.length ≤ 3 := q2
  obtain ⟨w0, w1, w2, rfl⟩ := ls3 (show ws.length = 3 by omega)
  change ∃ S' S2' kd, doC g S 12 = some (S', nI kd) ∧ m_does g S2 (nI 12) (nI a) (nI 3) = some S2' ∧ gI S2' 0 58 = nI kd ∧ kd ≤ 5 ∧ RSx U (k + 1) S' S2' ∧ FC S S' ∧ FS S2 S2'
  have hl := r.2.1
  have hm := r.2.2.1
  have hT := r.2.2.2.1
  have hx := r.2.2.2.2.2.2.2.2.2.2.2.2.2
  have f1 : F0M S2 (sI S2 0 57 0) := F0M_sI (Or.inl rfl)
  have f2 : F0M S2 (sI (sI S2 0 57 0) 0 58 4) := f1.tr (F0M_sI (Or.inr (Or.inl rfl)))
  have f3 : F0M S2 (sI (sI S2 0 57 0) 0 58 1) := f1.tr (F0M_sI (Or.inr (Or.inl rfl)))
  have h0' : gI (sI S2 0 57 0) 0 58 = 0 := by rw [gI_ne (by decide)]; exact h0
  have cm' := cm.fs (FS.f0 f1)
  have hm' := hm.fs (FS.f0 f1)
  have T2 := hT.2.1.f0 f1
  obtain ⟨-, n, hn, hv⟩ := okL_w (show okL U 119 w0 from q3 0 w0 rfl)
  obtain ⟨x, y, e1, e2, e3, e4⟩ := getT (g := g) (j := 1) (w := w1) r c cm rfl (show okL U 84 w1 from q3 1 w1 rfl) (by decide)
  have o2 : okW w2 := okL_W (show okL U 87 w2 from q3 2 w2 rfl)
  have m2 : m_value g (sI S2 0 57 0) (nI a + (2 : Int32)) = some (valW S2 w2) := by rw [show (2 : Int32) = nI 2 from rfl, nI_add]; exact M_value (g := g) (j := 2) (w := w2) cm' hm' rfl o2
  have hlk := lacks1 (s := 12) (j0 := 1) hg c (show 1 < 3 by decide) (show ∀ j, j < 3 → j ≠ 1 → ¬ lett 12 (nI j) = 84 from by decide +kernel) (by decide +kernel) e1
  have mm2 : m_value g (sI (sI S2 0 57 0) 0 58 4) (nI a + (2 : Int32)) = some (valW S2 w2) := by rw [show (2 : Int32) = nI 2 from rfl, nI_add]; exact M_value (g := g) (j := 2) (w := w2) (cm.fs (FS.f0 f2)) (hm.fs (FS.f0 f2)) rfl o2
  have h4 : gI (sI (sI S2 0 57 0) 0 58 4) 0 58 ≠ 0 := by rw [sI_58]; decide
  have hm2 := hm.fs (FS.f0 f2)
  rcases e4 with ⟨rfl, rfl⟩ | ⟨p, q, l, rfl, rfl, hpq, hp, hq, l1, l2, l3, l4⟩
  · rw [c01_t rfl] at hlk
    obtain ⟨l, l1, l2, l3, l4⟩ := hT.2.2.1 0 0 hT.2.2.2.2.1
    have T3 := hT.2.1.f0 f2
    refine ⟨S, sI (sI S2 0 57 0) 0 58 4, 4, doC_no hlk, ?_, fin_no r bd F0C.rf hx f2 sI_58 (by decide)⟩
    rw [dM_12, dM2_12 (M_tAt0 (e2 _ f1) h0') mm2 (T_size T3 hm2 l2).1, isIn_s, Option.bind_some, bS]
    rw [ifo (M_looks185n h4).1 (M_looks185n h4).2]
  · rw [c01_f (m1_ne (by omega))] at hlk
    have hWR : WR S S2 := r.2.2.2.2.2.2.2.2.1
    have b := C_bounds hT.1 l1
    have hM := dM_12 (g := g) (S := S2) (x2 := nI a) (x3 := nI 3)
    rw [dM2_12 (M_tAt (e2 _ f1) (by omega)) m2 (T_size T2 hm' l2).1, isIn_s, Option.bind_some, bS] at hM
    obtain ⟨z, z1, z2⟩ := B_place (g := g) (j := 2) (w := w2) (n := l.length) c hl rfl o2 hWR (by omega)
    have hC : doC g S 12 = m_WS_givePoint g S (nI p) := by
      rw [doC_W hlk (by decide +kernel), dC_12, show (1 : Int32) = nI 1 from rfl, e1, Option.bind_some, bS2]
    unfold m_WS_givePoint at hC
    rw [C_size hT.1 l1, Option.bind_some, show (2 : Int32) = nI 2 from rfl, z1, Option.bind_some] at hC
    have hv1 : ((nI l.length - (1 : Int32)).toInt64).toInt = (l.length : Int) - 1 := by rw [j64, show (1 : Int32) = nI 1 from rfl, nI_subI (by omega) (by omega)]; rfl
    by_cases hin : (0 : Int) ≤ (valW S2 w2).toInt ∧ (valW S2 w2).toInt ≤ (l.length : Int) - 1
    · obtain ⟨i, hi⟩ : ∃ m : Nat, (valW S2 w2).toInt = (m : Int) := ⟨(valW S2 w2).toInt.toNat, by omega⟩
      have hz : z = nI i := Int32.toInt_inj.mp (by rw [z2, nI_toInt (by omega)]; omega)
      subst hz
      rw [if_neg (nI_pos (by omega)), if_pos (nI_lt (by omega) (by omega)), C_start hT.1 b.1, Option.bind_some, lt_d, nI_add, C_end hT.1 b.1, Option.bind_some, stC_succ l1, prC hT.1 l1 (by omega) (by omega), Option.bind_some] at hC
      unfold m_WS_givePoint_102 at hC
      rw [c01_t (by rw [hv1, z64]; exact hin), if_neg (by decide)] at hM
      unfold m_looks_184 m_looks_185 at hM
      rw [M_ref0, Option.bind_some, if_pos h0', lt_d, if_neg (by decide +kernel), if_pos (by decide +kernel), j32 hi (by omega), M_pSz T2 hm' l2 l3 (by omega) (by omega), Option.bind_some] at hM
      by_cases hpr : prL l i l.length
      · rw [c01_t hpr, if_neg (by decide), pvC hT.1 l1 hpr.1, Option.bind_some, bS2, B_gw c hl (w := w0) rfl hn hv] at hC
        rw [pS_t hpr, M_pAt2 T2 hm' l2 hpr.1 l4 hpr.2.1 hpr.2.2, Option.bind_some, M_gw cm' hm' (w := w0) rfl hn hv h0', Option.bind_some] at hM
        exact ⟨_, _, 0, hC, hM, fin_gw r bd f1 h0' hn⟩
      · rw [c01_f hpr, if_pos rfl, C_at hT.1 l1 (by omega), Option.bind_some, bS2, B_gw c hl (w := w0) rfl hn hv] at hC
        rw [pS_f hpr, M_pAt1 T2 hm' l2 (by omega), Option.bind_some, M_gw cm' hm' (w := w0) rfl hn hv h0', Option.bind_some] at hM
        exact ⟨_, _, 0, hC, hM, fin_gw r bd f1 h0' hn⟩
    · refine ⟨S, sI (sI S2 0 57 0) 0 58 1, 1, ?_, ?_, fin_no r bd F0C.rf hx f3 sI_58 (by decide)⟩
      · rw [hC]
        by_cases h1 : z < 0
        · rw [if_pos h1]
          rfl
        · rw [if_neg h1, if_neg (fun h2 => by
            rw [Int32.lt_iff_toInt_lt, show (0 : Int32).toInt = 0 from rfl] at h1
            rw [Int32.lt_iff_toInt_lt, nI_toInt (by omega)] at h2
            omega)]
          rfl
      · rw [hM, c01_f (by rw [hv1, z64]; exact hin), if_pos rfl]
        unfold m_looks_180 m_looks_185
        rw [M_ref1 h0', Option.bind_some, if_neg (by rw [sI_58]; decide)]
theorem St13 : StOK 13 := by
  intro g U k S S2 ws a hg hk hR c cm hW h0
  obtain ⟨φ, cs, ts, u, pl, pm, ps, qs, r, bd⟩ := hR
  obtain ⟨q1, q2, q3⟩ := hW
  have q1 : 3 ≤ ws.length := q1
  have q2 : ws.length ≤ 3 := q2
  obtain ⟨w0, w1, w2, rfl⟩ := ls3 (show ws.length = 3 by omega)
  change ∃ S' S2' kd, doC g S 13 = some (S', nI kd) ∧ m_does g S2 (nI 13) (nI a) (nI 3) = some S2' ∧ gI S2' 0 58 = nI kd ∧ kd ≤ 5 ∧ RSx U (k + 1) S' S2' ∧ FC S S' ∧ FS S2 S2'
  have hl := r.2.1
  have hm := r.2.2.1
  have hT := r.2.2.2.1
  have hx := r.2.2.2.2.2.2.2.2.2.2.2.2.2
  have f1 : F0M S2 (sI S2 0 57 0) := F0M_sI (Or.inl rfl)
  have f2 : F0M S2 (sI (sI S2 0 57 0) 0 58 4) := f1.tr (F0M_sI (Or.inr (Or.inl rfl)))
  have f3 : F0M S2 (sI (sI S2 0 57 0) 0 58 1) := f1.tr (F0M_sI (Or.inr (Or.inl rfl)))
  have h0' : gI (sI S2 0 57 0) 0 58 = 0 := by rw [gI_ne (by decide)]; exact h0
  have cm' := cm.fs (FS.f0 f1)
  have hm' := hm.fs (FS.f0 f1)
  have T2 := hT.2.1.f0 f1
  obtain ⟨-, n, hn, hv⟩ := okL_w (show okL U 119 w0 from q3 0 w0 rfl)
  obtain ⟨x, y, e1, e2, e3, e4⟩ := getT (g := g) (j := 1) (w := w1) r c cm rfl (show okL U 84 w1 from q3 1 w1 rfl) (by decide)
  have o2 : okW w2 := okL_W (show okL U 87 w2 from q3 2 w2 rfl)
  have m2 : m_value g (sI S2 0 57 0) (nI a + (2 : Int32)) = some (valW S2 w2) := by rw [show (2 : Int32) = nI 2 from rfl, nI_add]; exact M_value (g := g) (j := 2) (w := w2) cm' hm' rfl o2
  have hlk := lacks1 (s := 13) (j0 := 1) hg c (show 1 < 3 by decide) (show ∀ j, j < 3 → j ≠ 1 → ¬ lett 13 (nI j) = 84 from by decide +kernel) (by decide +kernel) e1
  have mm2 : m_value g (sI (sI S2 0 57 0) 0 58 4) (nI a + (2 : Int32)) = some (valW S2 w2) := by rw [show (2 : Int32) = nI 2 from rfl, nI_add]; exact M_value (g := g) (j := 2) (w := w2) (cm.fs (FS.f0 f2)) (hm.fs (FS.f0 f2)) rfl o2
  have h4 : gI (sI (sI S2 0 57 0) 0 58 4) 0 58 ≠ 0 := by rw [sI_58]; decide
  have hm2 := hm.fs (FS.f0 f2)
  rcases e4 with ⟨rfl, rfl⟩ | ⟨p, q, l, rfl, rfl, hpq, hp, hq, l1, l2, l3, l4⟩
  · rw [c01_t rfl] at hlk
    obtain ⟨l, l1, l2, l3, l4⟩ := hT.2.2.1 0 0 hT.2.2.2.2.1
    have T3 := hT.2.1.f0 f2
    refine ⟨S, sI (sI S2 0 57 0) 0 58 4, 4, doC_no hlk, ?_, fin_no r bd F0C.rf hx f2 sI_58 (by decide)⟩
    rw [dM_13, dM2_13 (M_tAt0 (e2 _ f1) h0') mm2 (T_size T3 hm2 l2).1, isIn_s, Option.bind_some, bS]
    rw [ifo (M_looks185n h4).1 (M_looks185n h4).2]
  · rw [c01_f (m1_ne (by omega))] at hlk
    have hWR : WR S S2 := r.2.2.2.2.2.2.2.2.1
    have b := C_bounds hT.1 l1
    have hM := dM_13 (g := g) (S := S2) (x2 := nI a) (x3 := nI 3)
    rw [dM2_13 (M_tAt (e2 _ f1) (by omega)) m2 (T_size T2 hm' l2).1, isIn_s, Option.bind_some, bS] at hM
    obtain ⟨z, z1, z2⟩ := B_place (g := g) (j := 2) (w := w2) (n := l.length) c hl rfl o2 hWR (by omega)
    have hC : doC g S 13 = m_WS_givePointBefore g S (nI p) := by
      rw [doC_W hlk (by decide +kernel), dC_13, show (1 : Int32) = nI 1 from rfl, e1, Option.bind_some, bS2]
    unfold m_WS_givePointBefore at hC
    rw [C_size hT.1 l1, Option.bind_some, show (2 : Int32) = nI 2 from rfl, z1, Option.bind_some] at hC
    have hv1 : ((nI l.length).toInt64).toInt = (l.length : Int) := by rw [j64, nI_toInt (by omega)]
    by_cases hin : (1 : Int) ≤ (valW S2 w2).toInt ∧ (valW S2 w2).toInt ≤ (l.length : Int)
    · obtain ⟨i, hi⟩ : ∃ m : Nat, (valW S2 w2).toInt = (m : Int) := ⟨(valW S2 w2).toInt.toNat, by omega⟩
      have hz : z = nI i := Int32.toInt_inj.mp (by rw [z2, nI_toInt (by omega)]; omega)
      subst hz
      rw [if_neg (show ¬ nI i < (1 : Int32) from nI_nlt (b := 1) (by omega) (by omega)), if_pos (nI_le (by omega) (by omega)), C_start hT.1 b.1, Option.bind_some, lt_d, nI_add] at hC
      unfold m_WS_givePointBefore_71 m_WS_givePointBefore_72 m_WS_givePointBefore_116 at hC
      rw [c01_t (by rw [hv1, show (1 : Int64).toInt = 1 from by decide +kernel]; exact hin), if_neg (by decide)] at hM
      unfold m_looks_184 m_looks_185 at hM
      rw [M_ref0, Option.bind_some, if_pos h0', lt_d, if_neg (by decide +kernel), if_neg (by decide +kernel), j32 hi (by omega), M_sBf T2 hm' l2 l3 (by omega) (by omega), Option.bind_some, Option.bind_some] at hM
      have n1 : nI (stC cs p + i) - (1 : Int32) = nI (stC cs p + (i - 1)) := by rw [show (1 : Int32) = nI 1 from rfl, nI_sub (by omega)]; congr 1; omega
      by_cases hpr : 2 ≤ i ∧ prL l (i - 2) i
      · have n2 : nI (stC cs p + i) - (2 : Int32) = nI (stC cs p + (i - 2)) := by rw [show (2 : Int32) = nI 2 from rfl, nI_sub (by omega)]; congr 1; omega
        have h3 := hpr.2.1
        rw [show (nI 2 : Int32) = 2 from rfl, n2, if_neg (show ¬ nI i ≤ (1 : Int32) from nI_ge (a := 1) (by omega) (by omega)), prC hT.1 l1 (by omega) (by omega), Option.bind_some, c01_t hpr.2, if_neg (by decide), if_neg (by decide), pvC hT.1 l1 (by omega), Option.bind_some, bS2, B_gw c hl (w := w0) rfl hn hv] at hC
        rw [pS_t hpr, nI_sub (by omega), M_pAt2 T2 hm' l2 (by omega) l4 hpr.2.2.1 hpr.2.2.2, Option.bind_some, M_gw cm' hm' (w := w0) rfl hn hv h0', Option.bind_some] at hM
        exact ⟨_, _, 0, hC, hM, fin_gw r bd f1 h0' hn⟩
      · rw [pS_f hpr, nI_sub (by omega), M_pAt1 T2 hm' l2 (by omega), Option.bind_some, M_gw cm' hm' (w := w0) rfl hn hv h0', Option.bind_some] at hM
        refine ⟨_, _, 0, ?_, hM, fin_gw r bd f1 h0' hn⟩
        rw [hC, if_pos (show (0 : Int32) = 0 from rfl), n1, C_at hT.1 l1 (by omega), Option.bind_some, bS2, B_gw c hl (w := w0) rfl hn hv]
        by_cases h2 : 2 ≤ i
        · have n2 : nI (stC cs p + i) - (2 : Int32) = nI (stC cs p + (i - 2)) := by rw [show (2 : Int32) = nI 2 from rfl, nI_sub (by omega)]; congr 1; omega
          rw [show (nI 2 : Int32) = 2 from rfl, n2, if_neg (show ¬ nI i ≤ (1 : Int32) from nI_ge (a := 1) (by omega) (by omega)), prC hT.1 l1 (by omega) (by omega), Option.bind_some, c01_f (fun z => hpr ⟨h2, z⟩), if_pos rfl]
          rfl
        · rw [if_pos (show nI i ≤ (1 : Int32) from nI_le (b := 1) (by omega) (by omega))]
          rfl
    · refine ⟨S, sI (sI S2 0 57 0) 0 58 1, 1, ?_, ?_, fin_no r bd F0C.rf hx f3 sI_58 (by decide)⟩
      · rw [hC]
        by_cases h1 : z < 1
        · rw [if_pos h1]
          rfl
        · rw [if_neg h1, if_neg (fun h2 => by
            rw [Int32.lt_iff_toInt_lt, show (1 : Int32).toInt = 1 from rfl] at h1
            rw [Int32.le_iff_toInt_le, nI_toInt (by omega)] at h2
            omega)]
          rfl
      · rw [hM, c01_f (by rw [hv1, show (1 : Int64).toInt = 1 from by decide +kernel]; exact hin), if_pos rfl]
        unfold m_looks_180 m_looks_185
        rw [M_ref1 h0', Option.bind_some, if_neg (by rw [sI_58]; decide)]
theorem St14 : StOK 14 := by
  intro g U k S S2 ws a hg hk hR c cm hW h0
  obtain ⟨φ, cs, ts, u, pl, pm, ps, qs, r, bd⟩ := hR
  obtain ⟨q1, q2, q3⟩ := hW
  have q1 : 4 ≤ ws.length := q1
  have q2 : ws.length ≤ 4 := q2
  obtain ⟨w0, w1, w2, w3, rfl⟩ := ls4 (show ws.length = 4 by omega)
  change ∃ S' S2' kd, doC g S 14 = some (S', nI kd) ∧ m_does g S2 (nI 14) (nI a) (nI 4) = some S2' ∧ gI S2' 0 58 = nI kd ∧ kd ≤ 5 ∧ RSx U (k + 1) S' S2' ∧ FC S S' ∧ FS S2 S2'
  have hl := r.2.1
  have hm := r.2.2.1
  have hT := r.2.2.2.1
  have hx := r.2.2.2.2.2.2.2.2.2.2.2.2.2
  have f1 : F0M S2 (sI S2 0 57 0) := F0M_sI (Or.inl rfl)
  have f2 : F0M S2 (sI (sI S2 0 57 0) 0 58 4) := f1.tr (F0M_sI (Or.inr (Or.inl rfl)))
  have f3 : F0M S2 (sI (sI S2 0 57 0) 0 58 1) := f1.tr (F0M_sI (Or.inr (Or.inl rfl)))
  have h0' : gI (sI S2 0 57 0) 0 58 = 0 := by rw [gI_ne (by decide)]; exact h0
  have cm' := cm.fs (FS.f0 f1)
  have hm' := hm.fs (FS.f0 f1)
  have T2 := hT.2.1.f0 f1
  obtain ⟨-, n, hn, hv⟩ := okL_w (show okL U 119 w0 from q3 0 w0 rfl)
  obtain ⟨x, y, e1, e2, e3, e4⟩ := getT (g := g) (j := 1) (w := w1) r c cm rfl (show okL U 84 w1 from q3 1 w1 rfl) (by decide)
  have o2 : okW w2 := okL_W (show okL U 87 w2 from q3 2 w2 rfl)
  have m2 : m_value g (sI S2 0 57 0) (nI a + (2 : Int32)) = some (valW S2 w2) := by rw [show (2 : Int32) = nI 2 from rfl, nI_add]; exact M_value (g := g) (j := 2) (w := w2) cm' hm' rfl o2
  have o3 : okW w3 := okL_W (show okL U 87 w3 from q3 3 w3 rfl)
  have m3 : m_value g (sI S2 0 57 0) (nI a + (3 : Int32)) = some (valW S2 w3) := by rw [show (3 : Int32) = nI 3 from rfl, nI_add]; exact M_value (g := g) (j := 3) (w := w3) cm' hm' rfl o3
  have hlk := lacks1 (s := 14) (j0 := 1) hg c (show 1 < 4 by decide) (show ∀ j, j < 4 → j ≠ 1 → ¬ lett 14 (nI j) = 84 from by decide +kernel) (by decide +kernel) e1
  have mm2 : m_value g (sI (sI S2 0 57 0) 0 58 4) (nI a + (2 : Int32)) = some (valW S2 w2) := by rw [show (2 : Int32) = nI 2 from rfl, nI_add]; exact M_value (g := g) (j := 2) (w := w2) (cm.fs (FS.f0 f2)) (hm.fs (FS.f0 f2)) rfl o2
  have mm3 : m_value g (sI (sI S2 0 57 0) 0 58 4) (nI a + (3 : Int32)) = some (valW S2 w3) := by rw [show (3 : Int32) = nI 3 from rfl, nI_add]; exact M_value (g := g) (j := 3) (w := w3) (cm.fs (FS.f0 f2)) (hm.fs (FS.f0 f2)) rfl o3
  have h4 : gI (sI (sI S2 0 57 0) 0 58 4) 0 58 ≠ 0 := by rw [sI_58]; decide
  have hm2 := hm.fs (FS.f0 f2)
  rcases e4 with ⟨rfl, rfl⟩ | ⟨p, q, l, rfl, rfl, hpq, hp, hq, l1, l2, l3, l4⟩
  · rw [c01_t rfl] at hlk
    obtain ⟨l, l1, l2, l3, l4⟩ := hT.2.2.1 0 0 hT.2.2.2.2.1
    have T3 := hT.2.1.f0 f2
    refine ⟨S, sI (sI S2 0 57 0) 0 58 4, 4, doC_no hlk, ?_, fin_no r bd F0C.rf hx f2 sI_58 (by decide)⟩
    rw [dM_14, dM2_14 (M_tAt0 (e2 _ f1) h0') mm2 (T_size T3 hm2 l2).1 mm3, isIn_s, Option.bind_some, bS]
    unfold m_looks_67 m_looks_72 m_looks_101
    rw [M_ref0, M_ref1n h4, Option.bind_some, if_neg h4]
    exact ifo rfl (ifo rfl rfl)
  · rw [c01_f (m1_ne (by omega))] at hlk
    have hWR : WR S S2 := r.2.2.2.2.2.2.2.2.1
    have b := C_bounds hT.1 l1
    have hM := dM_14 (g := g) (S := S2) (x2 := nI a) (x3 := nI 4)
    rw [dM2_14 (M_tAt (e2 _ f1) (by omega)) m2 (T_size T2 hm' l2).1 m3, isIn_s, Option.bind_some, bS] at hM
    obtain ⟨z, z1, z2⟩ := B_place (g := g) (j := 2) (w := w2) (n := l.length) c hl rfl o2 hWR (by omega)
    obtain ⟨z', z1', z2'⟩ := B_place (g := g) (j := 3) (w := w3) (n := l.length) c hl rfl o3 hWR (by omega)
    have hC : doC g S 14 = m_WS_countPoints g S (nI p) := by
      rw [doC_W hlk (by decide +kernel), dC_14, show (1 : Int32) = nI 1 from rfl, e1, Option.bind_some, bS2]
    unfold m_WS_countPoints at hC
    rw [C_size hT.1 l1, Option.bind_some, show (2 : Int32) = nI 2 from rfl, show (3 : Int32) = nI 3 from rfl, z1, Option.bind_some, z1', Option.bind_some] at hC
    by_cases hin : 0 ≤ (valW S2 w2).toInt ∧ (valW S2 w2).toInt ≤ (valW S2 w3).toInt ∧ (valW S2 w3).toInt ≤ (l.length : Int)
    · obtain ⟨i, hi⟩ : ∃ i : Nat, (valW S2 w2).toInt = (i : Int) := ⟨(valW S2 w2).toInt.toNat, by omega⟩
      obtain ⟨e, hj⟩ : ∃ m : Nat, (valW S2 w3).toInt = (m : Int) := ⟨(valW S2 w3).toInt.toNat, by omega⟩
      have hz : z = nI i := Int32.toInt_inj.mp (by rw [z2, nI_toInt (by omega)]; omega)
      have hz' : z' = nI e := Int32.toInt_inj.mp (by rw [z2', nI_toInt (by omega)]; omega)
      subst hz hz'
      obtain ⟨d, d1, d2⟩ := cnt_l (g := g) (e := e) hT.1 T2 hm' l1 l2 l3 (by omega) (e + 1 - i) g g i 0 (by omega) (by omega) (by omega) (by omega)
      refine ⟨sG S 75 n (nI d).toInt64, sG (sI S2 0 57 0) 32 n (nI d).toInt64, 0, ?_, ?_, fin_gw r bd f1 h0' hn⟩
      · rw [hC, if_neg (nI_pos (by omega)), if_neg (nI_nlt (by omega) (by omega)), if_pos (nI_le (by omega) (by omega)), C_start hT.1 b.1, Option.bind_some, show (0 : Int32) = nI 0 from rfl, d1, B_gw c hl (w := w0) rfl hn hv]
        rfl
      · rw [hM, c01_t ⟨by rw [z64]; omega, by omega⟩, if_neg (by decide), if_neg (fun q => by
          have := Int64.lt_iff_toInt_lt.mp q
          rw [j64, nI_toInt (by omega)] at this
          omega)]
        unfold m_looks_72 m_looks_101
        rw [M_ref0, Option.bind_some, if_pos h0', if_pos (by decide +kernel), j32 hi (by omega), j32 hj (by omega)]
        unfold m_pointsOf
        rw [show (0 : Int64) = (nI 0).toInt64 from by decide +kernel, d2, Option.bind_some]
        unfold m_looks_140
        rw [M_gw cm' hm' (w := w0) rfl hn hv h0']
        rfl
    · refine ⟨S, sI (sI S2 0 57 0) 0 58 1, 1, ?_, ?_, fin_no r bd F0C.rf hx f3 sI_58 (by decide)⟩
      · rw [hC]
        by_cases h1 : z < 0
        · rw [if_pos h1]
          rfl
        rw [if_neg h1]
        by_cases h2 : z' < z
        · rw [if_pos h2]
          rfl
        rw [if_neg h2]
        by_cases h3 : z' ≤ nI l.length
        · exfalso
          rw [Int32.lt_iff_toInt_lt] at h1 h2
          rw [Int32.le_iff_toInt_le, nI_toInt (by omega)] at h3
          rw [show (0 : Int32).toInt = 0 from rfl] at h1
          omega
        · rw [if_neg h3]
          rfl
      · have key : m_looks_67 g (sI S2 0 57 0) (nI 14) (nI a) (nI q) (valW S2 w2) (valW S2 w3) = some (sI (sI S2 0 57 0) 0 58 1) := by
          unfold m_looks_67 m_looks_72 m_looks_101
          rw [M_ref1 h0', Option.bind_some, if_neg (by rw [sI_58]; decide)]
        rw [hM]
        by_cases h1 : (0 : Int64).toInt ≤ (valW S2 w2).toInt ∧ (valW S2 w2).toInt ≤ (valW S2 w3).toInt
        · rw [c01_t h1, if_neg (by decide), if_pos (by
            rw [Int64.lt_iff_toInt_lt, j64, nI_toInt (by omega)]
            rw [z64] at h1
            omega), key]
        · rw [c01_f h1, if_pos rfl, key]
