/-! the STEPS: seek, mark, truth -/
/-- POINT X stands at i -/
def seekQ (l : List Int32) (X : Int64) (i : Nat) : Prop := (l.getD i 0).toInt64 = X ∨ (prL l i l.length ∧ (prV (l.getD i 0) (l.getD (i + 1) 0)).toInt64 = X)
section SEK
variable {g : Nat} {S S2 : St} {cs ts : List (List Int32)} {u p q i : Nat} {l : List Int32} {X V : Int64}
theorem seek_u (hu : usL l) (hi : i < l.length) : ∃ n : Nat, n < 65536 ∧ ((l.getD i 0).toInt64 = X ↔ X.toInt = (n : Int)) := by
  obtain ⟨n, hn, e⟩ := hu i hi
  refine ⟨n, hn, ?_⟩
  rw [e]
  constructor
  · intro h
    rw [← h, j64, nI_toInt (by omega)]
  · intro h
    exact Int64.toInt_inj.mp (by rw [h, j64, nI_toInt (by omega)])
theorem seek_p (hu : usL l) (hp : prL l i l.length) : ∃ n : Nat, 65536 ≤ n ∧ n ≤ 1114111 ∧ ((prV (l.getD i 0) (l.getD (i + 1) 0)).toInt64 = X ↔ X.toInt = (n : Int)) := by
  have := hp.1
  obtain ⟨n, n1, n2, n3, -⟩ := prV_64 (hu i (by omega)) (hu (i + 1) (by omega)) hp.2.1 hp.2.2
  refine ⟨n, n1, n2, ?_⟩
  rw [n3]
  constructor
  · intro h
    rw [← h, j64, nI_toInt (by omega)]
  · intro h
    exact Int64.toInt_inj.mp (by rw [h, j64, nI_toInt (by omega)])
theorem sekC_l {i0 : Nat} {P : Nat → Prop} (hT : TXc S cs) (l1 : cs[p]? = some l) (hl : l.length ≤ 400) (hP : ∀ i, i0 ≤ i → i < l.length → (P i ↔ seekQ l X i)) (hN : ¬ P l.length) : ∀ (k n i : Nat), i + k = l.length → k < n → i0 ≤ i → (∀ j, j < i → ¬ P j) → ∃ r, m_WS_seek_45 g n S (nI p) X (nI l.length) (nI (stC cs p)) (nI i) = m_Bn_giveWhole g S r ∧ Fst P l.length r := by
  have b := C_bounds hT l1
  intro k
  induction k with
  | zero =>
    intro n i hi hn h0 hx
    obtain ⟨n, rfl⟩ : ∃ m, n = m + 1 := ⟨n - 1, by omega⟩
    refine ⟨-1, ?_, Or.inr ⟨fun j hj => ?_, rfl⟩⟩
    · show b_WS_seek_45 g (m_WS_seek_45 g n) S (nI p) _ _ _ _ = _
      unfold b_WS_seek_45
      rw [if_pos (nI_le (by omega) (by omega)), bS2]
    · by_cases e : j = l.length
      · rw [e]; exact hN
      · exact hx j (by omega)
  | succ k ih =>
    intro n i hi hn h0 hx
    obtain ⟨n, rfl⟩ : ∃ m, n = m + 1 := ⟨n - 1, by omega⟩
    have e : m_WS_seek_45 g (n + 1) S (nI p) X (nI l.length) (nI (stC cs p)) (nI i) = b_WS_seek_45 g (m_WS_seek_45 g n) S (nI p) X (nI l.length) (nI (stC cs p)) (nI i) := rfl
    unfold b_WS_seek_45 m_WS_seek_116 at e
    rw [if_neg (nI_ge (by omega) (by omega)), nI_add, nI_add, prC hT l1 (by omega) (by omega), Option.bind_some, C_unit hT l1, Option.bind_some, atR_nI (by omega), getD_d (by omega), lt_d, nI_1, bS2] at e
    have go : ¬ seekQ l X i → m_WS_seek_45 g (n + 1) S (nI p) X (nI l.length) (nI (stC cs p)) (nI i) = m_WS_seek_45 g n S (nI p) X (nI l.length) (nI (stC cs p)) (nI (i + 1)) → ∃ r, m_WS_seek_45 g (n + 1) S (nI p) X (nI l.length) (nI (stC cs p)) (nI i) = m_Bn_giveWhole g S r ∧ Fst P l.length r := by
      intro hq he
      obtain ⟨r, r1, r2⟩ := ih n (i + 1) (by omega) (by omega) (by omega) (fun j hj => by
        by_cases e : j = i
        · subst e
          exact fun z => hq ((hP j h0 (by omega)).mp z)
        · exact hx j (by omega))
      exact ⟨r, he.trans r1, r2⟩
    have fd : seekQ l X i → m_WS_seek_45 g (n + 1) S (nI p) X (nI l.length) (nI (stC cs p)) (nI i) = m_Bn_giveWhole g S (nI i).toInt64 → ∃ r, m_WS_seek_45 g (n + 1) S (nI p) X (nI l.length) (nI (stC cs p)) (nI i) = m_Bn_giveWhole g S r ∧ Fst P l.length r := fun hq he => ⟨_, he, Or.inl ⟨i, by omega, (hP i h0 (by omega)).mpr hq, hx, rfl⟩⟩
    by_cases h1 : (l.getD i 0).toInt64 = X
    · rw [if_pos h1] at e
      exact fd (Or.inl h1) e
    rw [if_neg h1] at e
    by_cases h2 : prL l i l.length
    · rw [c01_t h2, if_neg (by decide), pvC hT l1 h2.1, Option.bind_some] at e
      by_cases h3 : (prV (l.getD i 0) (l.getD (i + 1) 0)).toInt64 = X
      · rw [if_pos h3] at e
        exact fd (Or.inr ⟨h2, h3⟩) e
      · rw [if_neg h3] at e
        exact go (fun z => z.elim h1 (fun z => h3 z.2)) e
    · rw [c01_f h2, if_pos rfl] at e
      exact go (fun z => z.elim h1 (fun z => h2 z.1)) e
theorem sekM_l {P : Nat → Prop} (hM : TXs S2 ts u) (hm : LM S2) (l2 : ts[q]? = some l) (hl : l.length ≤ 400) (hu : usL l) (hP : ∀ i, i < l.length → (P i ↔ V.toInt ≤ (i : Int) ∧ seekQ l X i)) (hN : ¬ P l.length) : ∀ (k n i : Nat), i + k = l.length → k < n → (∀ j, j < i → ¬ P j) → ∃ r, m_point_18 g S2 n (nI q) X V (nI i) = some r ∧ Fst P l.length r := by
  have h65 : (X < (65536 : Int64)) ↔ X.toInt < 65536 := by rw [Int64.lt_iff_toInt_lt, show (65536 : Int64).toInt = 65536 from by decide +kernel]
  intro k
  induction k with
  | zero =>
    intro n i hi hn hx
    obtain ⟨n, rfl⟩ : ∃ m, n = m + 1 := ⟨n - 1, by omega⟩
    refine ⟨-1, ?_, Or.inr ⟨fun j hj => ?_, rfl⟩⟩
    · show b_point_18 g S2 (m_point_18 g S2 n) (nI q) _ _ _ = _
      unfold b_point_18
      rw [(T_size hM hm l2).1, Option.bind_some, if_pos (nI_le (by omega) (by omega))]
    · by_cases e : j = l.length
      · rw [e]; exact hN
      · exact hx j (by omega)
  | succ k ih =>
    intro n i hi hn hx
    obtain ⟨n, rfl⟩ : ∃ m, n = m + 1 := ⟨n - 1, by omega⟩
    have e : m_point_18 g S2 (n + 1) (nI q) X V (nI i) = b_point_18 g S2 (m_point_18 g S2 n) (nI q) X V (nI i) := rfl
    unfold b_point_18 at e
    rw [(T_size hM hm l2).1, Option.bind_some, if_neg (nI_ge (by omega) (by omega)), Option.bind_some, M_pSz hM hm l2 hl (show i < l.length by omega) (by omega), Option.bind_some] at e
    have e93 : m_point_93 g S2 (m_point_18 g S2 n) (nI q) X V (nI i) 1 = if (i : Int) < V.toInt then m_point_18 g S2 n (nI q) X V (nI (i + 1)) else some (nI i).toInt64 := by
      unfold m_point_93
      rw [if_neg (by decide), lt_d, nI_1]
      by_cases h : (i : Int) < V.toInt
      · rw [if_pos h, if_pos ((i64_ltI (by omega)).mpr h)]
      · rw [if_neg h, if_neg (fun z => h ((i64_ltI (by omega)).mp z))]
    have e92 : m_point_92 g S2 (m_point_18 g S2 n) (nI q) X V (nI i) = m_point_18 g S2 n (nI q) X V (nI (i + 1)) := by
      unfold m_point_92 m_point_93
      rw [if_pos rfl, lt_d, nI_1]
    have nxt : ¬ P i → m_point_18 g S2 (n + 1) (nI q) X V (nI i) = m_point_18 g S2 n (nI q) X V (nI (i + 1)) → ∃ r, m_point_18 g S2 (n + 1) (nI q) X V (nI i) = some r ∧ Fst P l.length r := by
      intro hq he
      obtain ⟨r, r1, r2⟩ := ih n (i + 1) (by omega) (by omega) (fun j hj => by
        by_cases e : j = i
        · subst e
          exact hq
        · exact hx j (by omega))
      exact ⟨r, he.trans r1, r2⟩
    have key : (seekQ l X i → m_point_18 g S2 (n + 1) (nI q) X V (nI i) = m_point_93 g S2 (m_point_18 g S2 n) (nI q) X V (nI i) 1) ∧ (¬ seekQ l X i → m_point_18 g S2 (n + 1) (nI q) X V (nI i) = m_point_92 g S2 (m_point_18 g S2 n) (nI q) X V (nI i)) := by
      obtain ⟨nu, u1, u2⟩ := seek_u (X := X) hu (show i < l.length by omega)
      by_cases hX : X.toInt < 65536
      · rw [if_pos (h65.mpr hX)] at e
        unfold m_point_54 m_point_71 at e
        rw [if_pos (h65.mpr hX), if_pos rfl, show (1 : Int32) = nI 1 from rfl, M_pAt1 hM hm l2 (by omega), Option.bind_some] at e
        have hq : seekQ l X i ↔ (l.getD i 0).toInt64 = X := by
          refine ⟨fun z => z.elim id (fun z => ?_), fun z => Or.inl z⟩
          obtain ⟨np, p1, p2, p3⟩ := seek_p (X := X) hu z.1
          have := p3.mp z.2
          omega
        rw [hq]
        constructor
        · intro h
          rw [e, if_pos h]
          rfl
        · intro h
          rw [e, if_neg h]
      · rw [if_neg (fun z => hX (h65.mp z))] at e
        unfold m_point_54 m_point_71 at e
        rw [if_neg (fun z => hX (h65.mp z))] at e
        have hq : seekQ l X i ↔ prL l i l.length ∧ (prV (l.getD i 0) (l.getD (i + 1) 0)).toInt64 = X := by
          refine ⟨fun z => z.elim (fun z => ?_) id, fun z => Or.inr z⟩
          have := u2.mp z
          omega
        rw [hq]
        by_cases h2 : prL l i l.length
        · rw [pS_t h2, if_pos (show nI 2 = 2 from rfl), M_pAt2 hM hm l2 h2.1 hu h2.2.1 h2.2.2, Option.bind_some] at e
          constructor
          · intro h
            rw [e, if_pos h.2]
          · intro h
            rw [e, if_neg (fun z => h ⟨h2, z⟩)]
        · rw [pS_f h2, if_neg (by decide)] at e
          exact ⟨fun h => absurd h.1 h2, fun _ => e⟩
    by_cases hq : seekQ l X i
    · have e2 := (key.1 hq).trans e93
      by_cases hV : (i : Int) < V.toInt
      · rw [if_pos hV] at e2
        exact nxt (fun z => by have := ((hP i (by omega)).mp z).1; omega) e2
      · rw [if_neg hV] at e2
        exact ⟨_, e2, Or.inl ⟨i, by omega, (hP i (by omega)).mpr ⟨by omega, hq⟩, hx, rfl⟩⟩
    · exact nxt (fun z => hq ((hP i (by omega)).mp z).2) ((key.2 hq).trans e92)
end SEK
theorem St24 : StOK 24 := by
  intro g U k S S2 ws a hg hk hR c cm hW h0
  obtain ⟨φ, cs, ts, u, pl, pm, ps, qs, r, bd⟩ := hR
  obtain ⟨q1, q2, q3⟩ := hW
  have q1 : 4 ≤ ws.length := q1
  have q2 : ws.length ≤ 4 := q2
  obtain ⟨w0, w1, w2, w3, rfl⟩ := ls4 (show ws.length = 4 by omega)
  change ∃ S' S2' kd, doC g S 24 = some (S', nI kd) ∧ m_does g S2 (nI 24) (nI a) (nI 4) = some S2' ∧ gI S2' 0 58 = nI kd ∧ kd ≤ 5 ∧ RSx U (k + 1) S' S2' ∧ FC S S' ∧ FS S2 S2'
  have hl := r.2.1
  have hm := r.2.2.1
  have hT := r.2.2.2.1
  have hx := r.2.2.2.2.2.2.2.2.2.2.2.2.2
  have f1 : F0M S2 (sI S2 0 57 0) := F0M_sI (Or.inl rfl)
  have f2 : F0M S2 (sI (sI S2 0 57 0) 0 58 4) := f1.tr (F0M_sI (Or.inr (Or.inl rfl)))
  have f3 : F0M S2 (sI (sI S2 0 57 0) 0 58 1) := f1.tr (F0M_sI (Or.inr (Or.inl rfl)))
  have h0' : gI (sI S2 0 57 0) 0 58 = 0 := by rw [gI_ne (by decide)]; exact h0
  have cm' := cm.fs (FS.f0 f1)
  have hm' := hm.fs (FS.f0 f1)
  have T2 := hT.2.1.f0 f1
  obtain ⟨-, n, hn, hv⟩ := okL_w (show okL U 119 w0 from q3 0 w0 rfl)
  obtain ⟨x, y, e1, e2, e3, e4⟩ := getT (g := g) (j := 1) (w := w1) r c cm rfl (show okL U 84 w1 from q3 1 w1 rfl) (by decide)
  have o2 : okW w2 := okL_W (show okL U 87 w2 from q3 2 w2 rfl)
  have m2 : m_value g (sI S2 0 57 0) (nI a + (2 : Int32)) = some (valW S2 w2) := by rw [show (2 : Int32) = nI 2 from rfl, nI_add]; exact M_value (g := g) (j := 2) (w := w2) cm' hm' rfl o2
  have o3 : okW w3 := okL_W (show okL U 87 w3 from q3 3 w3 rfl)
  have m3 : m_value g (sI S2 0 57 0) (nI a + (3 : Int32)) = some (valW S2 w3) := by rw [show (3 : Int32) = nI 3 from rfl, nI_add]; exact M_value (g := g) (j := 3) (w := w3) cm' hm' rfl o3
  have hlk := lacks1 (s := 24) (j0 := 1) hg c (show 1 < 4 by decide) (show ∀ j, j < 4 → j ≠ 1 → ¬ lett 24 (nI j) = 84 from by decide +kernel) (by decide +kernel) e1
  rcases e4 with ⟨rfl, rfl⟩ | ⟨p, q, l, rfl, rfl, hpq, hp, hq, l1, l2, l3, l4⟩
  · rw [c01_t rfl] at hlk
    refine ⟨S, sI (sI S2 0 57 0) 0 58 4, 4, doC_no hlk, ?_, fin_no r bd F0C.rf hx f2 sI_58 (by decide)⟩
    rw [dM_24, dM2_24 (M_tAt0 (e2 _ f1) h0'), bS]
    unfold m_seeks_25
    rw [if_neg (by rw [sI_58]; decide)]
  · rw [c01_f (m1_ne (by omega))] at hlk
    have hWR : WR S S2 := r.2.2.2.2.2.2.2.2.1
    have b := C_bounds hT.1 l1
    obtain ⟨l0, -, k2, k3, -⟩ := hT.2.2.1 0 0 hT.2.2.2.2.1
    have hM : m_does g S2 (nI 24) (nI a) (nI 4) = (m_point g (sI S2 0 57 0) (nI q) (valW S2 w2) (valW S2 w3)).bind fun v => m_seeks_258 g (sI S2 0 57 0) (nI a) v := by
      rw [dM_24, dM2_24 (M_tAt (e2 _ f1) (by omega)), bS]
      unfold m_seeks_25
      rw [if_pos h0', (T_size T2 hm' l2).1, Option.bind_some, show aI (sI S2 0 57 0) 24 0 = some (nI l0.length) from (T_size T2 hm' k2).1, Option.bind_some, if_pos (by decide +kernel), m2, Option.bind_some, m3, Option.bind_some]
    obtain ⟨z, z1, z2⟩ := B_place (g := g) (j := 3) (w := w3) (n := l.length) c hl rfl o3 hWR (by omega)
    have hC : doC g S 24 = m_WS_seek g S (nI p) := by
      rw [doC_W hlk (by decide +kernel), dC_24, show (1 : Int32) = nI 1 from rfl, e1, Option.bind_some, bS2]
    unfold m_WS_seek at hC
    obtain ⟨i0, i1, i2, i3⟩ := maxI0 (N := l.length) (by omega) z2
    rw [show (2 : Int32) = nI 2 from rfl, B_whole (S2 := S2) (w := w2) c hl rfl o2 hWR, Option.bind_some, C_size hT.1 l1, Option.bind_some, C_start hT.1 b.1, Option.bind_some, show (3 : Int32) = nI 3 from rfl, z1, Option.bind_some, lt_d, i1] at hC
    have hCr : ∃ r2, doC g S 24 = m_Bn_giveWhole g S r2 ∧ Fst (fun i => i < l.length ∧ (valW S2 w3).toInt ≤ (i : Int) ∧ seekQ l (valW S2 w2) i) l.length r2 := by
      rw [hC]
      by_cases hge : i0 ≤ l.length
      · exact sekC_l (i0 := i0) hT.1 l1 l3 (fun i a b => ⟨fun h => h.2.2, fun h => ⟨b, by omega, h⟩⟩) (fun h => by have := h.1; omega) (l.length - i0) g i0 (by omega) (by omega) (by omega) (fun j hj => by
          rintro ⟨-, h, -⟩
          omega)
      · refine ⟨-1, ?_, Or.inr ⟨fun j hj => ?_, rfl⟩⟩
        · obtain ⟨g', hg'⟩ : ∃ g', g = g' + 1 := ⟨g - 1, by omega⟩
          rw [show m_WS_seek_45 g g = m_WS_seek_45 g (g' + 1) from by rw [← hg']]
          show b_WS_seek_45 g (m_WS_seek_45 g g') S (nI p) _ _ _ _ = _
          unfold b_WS_seek_45
          rw [if_pos (nI_le (by omega) (by omega)), bS2]
        · rintro ⟨-, h, -⟩
          omega
    obtain ⟨r2, n1, n2⟩ := hCr
    have hMr : m_point g (sI S2 0 57 0) (nI q) (valW S2 w2) (valW S2 w3) = some r2 := by
      unfold m_point
      rw [isIn_s, Option.bind_some, z64, show (1114111 : Int64).toInt = 1114111 from by decide +kernel]
      by_cases hin : 0 ≤ (valW S2 w2).toInt ∧ (valW S2 w2).toInt ≤ 1114111
      · rw [c01_t hin, if_neg (by decide)]
        obtain ⟨r1, a1, a2⟩ := sekM_l (g := g) (P := fun i => i < l.length ∧ (valW S2 w3).toInt ≤ (i : Int) ∧ seekQ l (valW S2 w2) i) T2 hm' l2 l3 l4 (fun i hi => ⟨fun h => h.2, fun h => ⟨hi, h⟩⟩) (fun h => by have := h.1; omega) l.length g 0 (by omega) (by omega) (fun j hj => by omega)
        rw [n2.uq a2]
        exact a1
      · rw [c01_f hin, if_pos rfl]
        have : Fst (fun i => i < l.length ∧ (valW S2 w3).toInt ≤ (i : Int) ∧ seekQ l (valW S2 w2) i) l.length (-1) := by
          refine Or.inr ⟨fun j hj => ?_, rfl⟩
          rintro ⟨h1, h2, h3⟩
          rcases h3 with h3 | h3
          · obtain ⟨nu, u1, u2⟩ := seek_u (X := valW S2 w2) l4 h1
            have := u2.mp h3
            omega
          · obtain ⟨np, p1, p2, p3⟩ := seek_p (X := valW S2 w2) l4 h3.1
            have := p3.mp h3.2
            omega
        rw [n2.uq this]
    refine ⟨sG S 75 n r2, sG (sI S2 0 57 0) 32 n r2, 0, ?_, ?_, fin_gw r bd f1 h0' hn⟩
    · rw [n1, B_gw c hl (w := w0) rfl hn hv]
      rfl
    · rw [hM, hMr, Option.bind_some]
      unfold m_seeks_258
      rw [M_gw cm' hm' (w := w0) rfl hn hv h0']
      rfl
