/-! the STEPS: find, last -/
/-- the first, the last place of a kind; -1 if there is none -/
def Fst (P : Nat → Prop) (N : Nat) (r : Int64) : Prop := (∃ i, i ≤ N ∧ P i ∧ (∀ j, j < i → ¬ P j) ∧ r = (nI i).toInt64) ∨ ((∀ j, j ≤ N → ¬ P j) ∧ r = -1)
theorem Fst.uq {P : Nat → Prop} {N : Nat} {r r' : Int64} (h : Fst P N r) (h' : Fst P N r') : r = r' := by
  rcases h with ⟨i, a1, a2, a3, a4⟩ | ⟨a1, a2⟩ <;> rcases h' with ⟨i', b1, b2, b3, b4⟩ | ⟨b1, b2⟩
  · have : i = i' := by
      rcases Nat.lt_trichotomy i i' with h | h | h
      · exact absurd a2 (b3 i h)
      · exact h
      · exact absurd b2 (a3 i' h)
    rw [a4, b4, this]
  · exact absurd a2 (b1 i a1)
  · exact absurd b2 (a1 i' b1)
  · rw [a2, b2]
def Lst (P : Nat → Prop) (N : Nat) (r : Int64) : Prop := (∃ i, i ≤ N ∧ P i ∧ (∀ j, i < j → j ≤ N → ¬ P j) ∧ r = (nI i).toInt64) ∨ ((∀ j, j ≤ N → ¬ P j) ∧ r = -1)
theorem Lst.uq {P : Nat → Prop} {N : Nat} {r r' : Int64} (h : Lst P N r) (h' : Lst P N r') : r = r' := by
  rcases h with ⟨i, a1, a2, a3, a4⟩ | ⟨a1, a2⟩ <;> rcases h' with ⟨i', b1, b2, b3, b4⟩ | ⟨b1, b2⟩
  · have : i = i' := by
      rcases Nat.lt_trichotomy i i' with h | h | h
      · exact absurd b2 (a3 i' h b1)
      · exact h
      · exact absurd a2 (b3 i h a1)
    rw [a4, b4, this]
  · exact absurd a2 (b1 i a1)
  · exact absurd b2 (a1 i' b1)
  · rw [a2, b2]
theorem i64_pos {i : Nat} (hi : i < 2 ^ 31) : ¬ (nI i).toInt64 < (0 : Int64) := by
  rw [Int64.lt_iff_toInt_lt, j64, nI_toInt hi, z64]
  omega
theorem i64_ltI {x : Int64} {i : Nat} (hi : i < 2 ^ 31) : ((nI i).toInt64 < x) ↔ (i : Int) < x.toInt := by
  rw [Int64.lt_iff_toInt_lt, j64, nI_toInt hi]
theorem i64_gtI {x : Int64} {i : Nat} (hi : i < 2 ^ 31) : (x < (nI i).toInt64) ↔ x.toInt < (i : Int) := by
  rw [Int64.lt_iff_toInt_lt, j64, nI_toInt hi]
theorem maxI0 {z : Int32} {V : Int} {N : Nat} (hN : N < 2 ^ 30) (z2 : z.toInt = max (-1) (min V ((N : Int) + 1))) : ∃ i0 : Nat, maxI (0 : Int32) z = nI i0 ∧ i0 ≤ N + 1 ∧ (i0 : Int) = max 0 (min V ((N : Int) + 1)) := by
  refine ⟨(max 0 (min V ((N : Int) + 1))).toNat, ?_, by omega, by omega⟩
  apply Int32.toInt_inj.mp
  rw [nI_toInt (by omega)]
  unfold maxI
  by_cases h : (0 : Int32) < z
  · rw [if_pos h]
    rw [Int32.lt_iff_toInt_lt, show (0 : Int32).toInt = 0 from rfl] at h
    omega
  · rw [if_neg h]
    rw [Int32.lt_iff_toInt_lt, show (0 : Int32).toInt = 0 from rfl] at h
    rw [show (0 : Int32).toInt = 0 from rfl]
    omega
section FDL
variable {g : Nat} {S S2 : St} {cs ts : List (List Int32)} {u p p2 q q2 : Nat} {l lo : List Int32} {V : Int64} {A : Int32} {P : Nat → Prop}
theorem fndM_l (hg : 100000 ≤ g) (hM : TXs S2 ts u) (hm : LM S2) (l2 : ts[q]? = some l) (o2 : ts[q2]? = some lo) (hl : l.length ≤ 400) (hlo : lo.length ≤ 400) (hP : ∀ i, P i ↔ stL lo l (i : Int) ∧ (V.toInt ≤ (i : Int) ∨ (lo.length = 0 ∧ i = l.length))) : ∀ (k n i : Nat) (x7 : Int64), i + k = l.length + 1 → k < n → ((x7 = -1 ∧ ∀ j, j < i → ¬ P j) ∨ ∃ i0, i0 < i ∧ P i0 ∧ (∀ j, j < i0 → ¬ P j) ∧ x7 = (nI i0).toInt64) → ∃ r, m_seeks_164 g n S2 (nI 22) A (nI q) (nI q2) (nI l.length) (nI lo.length) x7 V (nI i) = m_seeks_258 g S2 A r ∧ Fst P l.length r := by
  intro k
  induction k with
  | zero =>
    intro n i x7 hi hn hx
    obtain ⟨n, rfl⟩ : ∃ m, n = m + 1 := ⟨n - 1, by omega⟩
    refine ⟨x7, ?_, ?_⟩
    · show b_seeks_164 g (m_seeks_164 g n) S2 (nI 22) A (nI q) (nI q2) _ _ _ _ _ = _
      unfold b_seeks_164
      rw [if_pos (nI_lt (by omega) (by omega))]
    · rcases hx with ⟨h1, h2⟩ | ⟨i0, h1, h2, h3, h4⟩
      · exact Or.inr ⟨fun j hj => h2 j (by omega), h1⟩
      · exact Or.inl ⟨i0, by omega, h2, h3, h4⟩
  | succ k ih =>
    intro n i x7 hi hn hx
    obtain ⟨n, rfl⟩ : ∃ m, n = m + 1 := ⟨n - 1, by omega⟩
    have e227 : ∀ (y : Int64) (z : Int32), m_seeks_227 g (m_seeks_164 g n) S2 (nI 22) A (nI q) (nI q2) (nI l.length) (nI lo.length) y V (nI i) z = m_seeks_164 g n S2 (nI 22) A (nI q) (nI q2) (nI l.length) (nI lo.length) y V (nI (i + 1)) := by
      intro y z
      unfold m_seeks_227
      rw [if_neg (by decide +kernel), lt_d, nI_1]
    have stay : ¬ (P i ∧ x7 = -1) → m_seeks_164 g (n + 1) S2 (nI 22) A (nI q) (nI q2) (nI l.length) (nI lo.length) x7 V (nI i) = m_seeks_164 g n S2 (nI 22) A (nI q) (nI q2) (nI l.length) (nI lo.length) x7 V (nI (i + 1)) := by
      intro hno
      show b_seeks_164 g (m_seeks_164 g n) S2 (nI 22) A (nI q) (nI q2) _ _ _ _ _ = _
      unfold b_seeks_164
      rw [if_neg (nI_nlt (by omega) (by omega)), M_st hg hM hm o2 l2 (by omega), Option.bind_some, if_pos (by decide +kernel)]
      unfold m_seeks_222
      rw [lt_d]
      simp only [e227]
      by_cases hs : stL lo l (i : Int)
      · rw [c01_t hs, if_neg (by decide)]
        rcases hx with ⟨h1, h2⟩ | ⟨i0, h1, h2, h3, h4⟩
        · have hnP : ¬ P i := fun z => hno ⟨z, h1⟩
          rw [hP] at hnP
          rw [if_pos (by rw [h1]; decide +kernel), if_pos ((i64_ltI (by omega)).mpr (by
            have : ¬ V.toInt ≤ (i : Int) := fun z => hnP ⟨hs, Or.inl z⟩
            omega))]
          by_cases hz : lo.length = 0
          · rw [if_pos (by rw [hz]; rfl), if_neg (i_lit (by omega) (by omega) (fun z => hnP ⟨hs, Or.inr ⟨hz, z⟩⟩))]
          · rw [if_neg (nI_ne0 (by omega) (by omega))]
        · rw [if_neg (by rw [h4]; exact i64_pos (by omega))]
      · rw [c01_f hs, if_pos rfl]
    by_cases hPi : P i ∧ x7 = -1
    · obtain ⟨hPi, hx7⟩ := hPi
      have hall : ∀ j, j < i → ¬ P j := by
        rcases hx with ⟨h1, h2⟩ | ⟨i0, h1, h2, h3, h4⟩
        · exact h2
        · exact absurd (h4.symm.trans hx7) (fun z => by
            have := congrArg Int64.toInt z
            rw [j64, nI_toInt (by omega), show (-1 : Int64).toInt = -1 from by decide +kernel] at this
            omega)
      obtain ⟨r, r1, r2⟩ := ih n (i + 1) (nI i).toInt64 (by omega) (by omega) (Or.inr ⟨i, by omega, hPi, hall, rfl⟩)
      refine ⟨r, ?_, r2⟩
      rw [← r1]
      have hp := (hP i).mp hPi
      show b_seeks_164 g (m_seeks_164 g n) S2 (nI 22) A (nI q) (nI q2) _ _ _ _ _ = _
      unfold b_seeks_164
      rw [if_neg (nI_nlt (by omega) (by omega)), M_st hg hM hm o2 l2 (by omega), Option.bind_some, if_pos (by decide +kernel), c01_t hp.1, if_neg (by decide), if_pos (by rw [hx7]; decide +kernel)]
      unfold m_seeks_222
      rw [lt_d]
      simp only [e227]
      by_cases hV : (nI i).toInt64 < V
      · rw [if_pos hV]
        rw [i64_ltI (by omega)] at hV
        rcases hp.2 with h | ⟨h1, h2⟩
        · omega
        · rw [if_pos (by rw [h1]; rfl), if_pos (by rw [h2])]
      · rw [if_neg hV]
    · obtain ⟨r, r1, r2⟩ := ih n (i + 1) x7 (by omega) (by omega) (by
        rcases hx with ⟨h1, h2⟩ | ⟨i0, h1, h2, h3, h4⟩
        · refine Or.inl ⟨h1, fun j hj => ?_⟩
          by_cases e : j = i
          · subst e
            exact fun z => hPi ⟨z, h1⟩
          · exact h2 j (by omega)
        · exact Or.inr ⟨i0, by omega, h2, h3, h4⟩)
      exact ⟨r, (stay hPi).trans r1, r2⟩
theorem fndC_l {i0 : Nat} (hg : 100000 ≤ g) (hT : TXc S cs) (l1 : cs[p]? = some l) (o1 : cs[p2]? = some lo) (hl : l.length ≤ 400) (hP : ∀ i, i0 ≤ i → i < l.length → (P i ↔ stL lo l (i : Int))) (hN : ¬ P l.length) : ∀ (k n i : Nat), i + k = l.length → k < n → i0 ≤ i → (∀ j, j < i → ¬ P j) → ∃ r, m_WS_find_54 g n S (nI p) (nI p2) (nI l.length) (nI i) = m_Bn_giveWhole g S r ∧ Fst P l.length r := by
  intro k
  induction k with
  | zero =>
    intro n i hi hn h0 hx
    obtain ⟨n, rfl⟩ : ∃ m, n = m + 1 := ⟨n - 1, by omega⟩
    refine ⟨-1, ?_, Or.inr ⟨fun j hj => ?_, rfl⟩⟩
    · show b_WS_find_54 g (m_WS_find_54 g n) S (nI p) (nI p2) _ _ = _
      unfold b_WS_find_54
      rw [if_pos (nI_le (by omega) (by omega)), bS2]
    · by_cases e : j = l.length
      · rw [e]; exact hN
      · exact hx j (by omega)
  | succ k ih =>
    intro n i hi hn h0 hx
    obtain ⟨n, rfl⟩ : ∃ m, n = m + 1 := ⟨n - 1, by omega⟩
    have e : m_WS_find_54 g (n + 1) S (nI p) (nI p2) (nI l.length) (nI i) = b_WS_find_54 g (m_WS_find_54 g n) S (nI p) (nI p2) (nI l.length) (nI i) := rfl
    unfold b_WS_find_54 at e
    rw [if_neg (nI_ge (by omega) (by omega)), C_stands hg hT o1 l1, Option.bind_some, nI_toInt (by omega), lt_d, nI_1, bS2] at e
    by_cases hs : stL lo l (i : Int)
    · refine ⟨(nI i).toInt64, ?_, Or.inl ⟨i, by omega, (hP i h0 (by omega)).mpr hs, hx, rfl⟩⟩
      rw [e, c01_t hs, if_neg (by decide)]
    · obtain ⟨r, r1, r2⟩ := ih n (i + 1) (by omega) (by omega) (by omega) (fun j hj => by
        by_cases e : j = i
        · subst e
          exact fun z => hs ((hP j h0 (by omega)).mp z)
        · exact hx j (by omega))
      refine ⟨r, ?_, r2⟩
      rw [e, c01_f hs, if_pos rfl, r1]
theorem lstM_l (hg : 100000 ≤ g) (hM : TXs S2 ts u) (hm : LM S2) (l2 : ts[q]? = some l) (o2 : ts[q2]? = some lo) (hl : l.length ≤ 400) (hlo : lo.length ≤ 400) (hP : ∀ i, P i ↔ stL lo l (i : Int) ∧ (i : Int) ≤ V.toInt) : ∀ (k n i : Nat) (x7 : Int64), i + k = l.length + 1 → k < n → ((x7 = -1 ∧ ∀ j, j < i → ¬ P j) ∨ ∃ i0, i0 < i ∧ P i0 ∧ (∀ j, i0 < j → j < i → ¬ P j) ∧ x7 = (nI i0).toInt64) → ∃ r, m_seeks_164 g n S2 (nI 23) A (nI q) (nI q2) (nI l.length) (nI lo.length) x7 V (nI i) = m_seeks_258 g S2 A r ∧ Lst P l.length r := by
  intro k
  induction k with
  | zero =>
    intro n i x7 hi hn hx
    obtain ⟨n, rfl⟩ : ∃ m, n = m + 1 := ⟨n - 1, by omega⟩
    refine ⟨x7, ?_, ?_⟩
    · show b_seeks_164 g (m_seeks_164 g n) S2 (nI 23) A (nI q) (nI q2) _ _ _ _ _ = _
      unfold b_seeks_164
      rw [if_pos (nI_lt (by omega) (by omega))]
    · rcases hx with ⟨h1, h2⟩ | ⟨i0, h1, h2, h3, h4⟩
      · exact Or.inr ⟨fun j hj => h2 j (by omega), h1⟩
      · exact Or.inl ⟨i0, by omega, h2, fun j a b => h3 j a (by omega), h4⟩
  | succ k ih =>
    intro n i x7 hi hn hx
    obtain ⟨n, rfl⟩ : ∃ m, n = m + 1 := ⟨n - 1, by omega⟩
    have e : m_seeks_164 g (n + 1) S2 (nI 23) A (nI q) (nI q2) (nI l.length) (nI lo.length) x7 V (nI i) = b_seeks_164 g (m_seeks_164 g n) S2 (nI 23) A (nI q) (nI q2) (nI l.length) (nI lo.length) x7 V (nI i) := rfl
    unfold b_seeks_164 at e
    rw [if_neg (nI_nlt (by omega) (by omega)), M_st hg hM hm o2 l2 (by omega), Option.bind_some, if_neg (by decide +kernel)] at e
    unfold m_seeks_227 at e
    rw [if_pos (by decide +kernel), lt_d, lt_d, lt_d, nI_1] at e
    by_cases hPi : P i
    · have hp := (hP i).mp hPi
      obtain ⟨r, r1, r2⟩ := ih n (i + 1) (nI i).toInt64 (by omega) (by omega) (Or.inr ⟨i, by omega, hPi, fun j a b => by omega, rfl⟩)
      refine ⟨r, ?_, r2⟩
      rw [e, c01_t hp.1, if_neg (by decide), if_neg (fun z => by have := (i64_gtI (by omega)).mp z; omega), r1]
    · obtain ⟨r, r1, r2⟩ := ih n (i + 1) x7 (by omega) (by omega) (by
        rcases hx with ⟨h1, h2⟩ | ⟨i0, h1, h2, h3, h4⟩
        · refine Or.inl ⟨h1, fun j hj => ?_⟩
          by_cases e : j = i
          · subst e
            exact hPi
          · exact h2 j (by omega)
        · refine Or.inr ⟨i0, by omega, h2, fun j a b => ?_, h4⟩
          by_cases e : j = i
          · subst e
            exact hPi
          · exact h3 j a (by omega))
      refine ⟨r, ?_, r2⟩
      rw [e, ← r1]
      by_cases hs : stL lo l (i : Int)
      · rw [c01_t hs, if_neg (by decide), if_pos ((i64_gtI (by omega)).mpr (by
          have : ¬ (i : Int) ≤ V.toInt := fun z => hPi ((hP i).mpr ⟨hs, z⟩)
          omega))]
      · rw [c01_f hs, if_pos rfl]
theorem dn1 {x : Int32} {k : Nat} (h : x.toInt = (k : Int)) (hk : k < 2 ^ 30) : (x + (-1 : Int32)).toInt = (k : Int) - 1 := by
  rw [Int32.toInt_add, h, show (-1 : Int32).toInt = -1 from by decide]
  exact Int.bmod_eq_of_le (by omega) (by omega)
theorem lstC_l {K : Nat} (hg : 100000 ≤ g) (hT : TXc S cs) (l1 : cs[p]? = some l) (o1 : cs[p2]? = some lo) (hl : l.length ≤ 400) (hK : K ≤ l.length + 2) (hP : ∀ i, i < K → (P i ↔ stL lo l (i : Int))) : ∀ (k n : Nat) (x : Int32), x.toInt = (k : Int) - 1 → k < n → k ≤ K → (∀ j, k ≤ j → j ≤ l.length → ¬ P j) → ∃ r, m_WS_findLast_17 g n S (nI p) (nI p2) x = m_Bn_giveWhole g S r ∧ Lst P l.length r := by
  intro k
  induction k with
  | zero =>
    intro n x hx hn h0 hj
    obtain ⟨n, rfl⟩ : ∃ m, n = m + 1 := ⟨n - 1, by omega⟩
    refine ⟨-1, ?_, Or.inr ⟨fun j h => hj j (by omega) h, rfl⟩⟩
    show b_WS_findLast_17 g (m_WS_findLast_17 g n) S (nI p) (nI p2) _ = _
    unfold b_WS_findLast_17
    rw [if_pos (by rw [Int32.lt_iff_toInt_lt, hx]; decide), bS2]
  | succ k ih =>
    intro n x hx hn h0 hj
    obtain ⟨n, rfl⟩ : ∃ m, n = m + 1 := ⟨n - 1, by omega⟩
    have hx : x.toInt = (k : Int) := by omega
    have e : m_WS_findLast_17 g (n + 1) S (nI p) (nI p2) x = b_WS_findLast_17 g (m_WS_findLast_17 g n) S (nI p) (nI p2) x := rfl
    unfold b_WS_findLast_17 at e
    rw [if_neg (by rw [Int32.lt_iff_toInt_lt, hx, show (0 : Int32).toInt = 0 from rfl]; omega), C_stands hg hT o1 l1, Option.bind_some, hx, lt_d, bS2] at e
    have hxk : x = nI k := Int32.toInt_inj.mp (by rw [hx, nI_toInt (by omega)])
    by_cases hs : stL lo l (k : Int)
    · refine ⟨(nI k).toInt64, ?_, Or.inl ⟨k, ?_, (hP k (by omega)).mpr hs, fun j a b => hj j (by omega) b, rfl⟩⟩
      · rw [e, c01_t hs, if_neg (by decide), hxk]
      · have := stL_lt hs
        omega
    · obtain ⟨r, r1, r2⟩ := ih n (x + (-1 : Int32)) (dn1 hx (by omega)) (by omega) (by omega) (fun j a b => by
        by_cases e : j = k
        · subst e
          exact fun z => hs ((hP j (by omega)).mp z)
        · exact hj j (by omega) b)
      refine ⟨r, ?_, r2⟩
      rw [e, c01_f hs, if_pos rfl, r1]
end FDL
theorem St22 : StOK 22 := by
  intro g U k S S2 ws a hg hk hR c cm hW h0
  obtain ⟨φ, cs, ts, u, pl, pm, ps, qs, r, bd⟩ := hR
  obtain ⟨q1, q2, q3⟩ := hW
  have q1 : 4 ≤ ws.length := q1
  have q2 : ws.length ≤ 4 := q2
  obtain ⟨w0, w1, w2, w3, rfl⟩ := ls4 (show ws.length = 4 by omega)
  change ∃ S' S2' kd, doC g S 22 = some (S', nI kd) ∧ m_does g S2 (nI 22) (nI a) (nI 4) = some S2' ∧ gI S2' 0 58 = nI kd ∧ kd ≤ 5 ∧ RSx U (k + 1) S' S2' ∧ FC S S' ∧ FS S2 S2'
  have hl := r.2.1
  have hm := r.2.2.1
  have hT := r.2.2.2.1
  have hx := r.2.2.2.2.2.2.2.2.2.2.2.2.2
  have f1 : F0M S2 (sI S2 0 57 0) := F0M_sI (Or.inl rfl)
  have f2 : F0M S2 (sI (sI S2 0 57 0) 0 58 4) := f1.tr (F0M_sI (Or.inr (Or.inl rfl)))
  have f3 : F0M S2 (sI (sI S2 0 57 0) 0 58 1) := f1.tr (F0M_sI (Or.inr (Or.inl rfl)))
  have h0' : gI (sI S2 0 57 0) 0 58 = 0 := by rw [gI_ne (by decide)]; exact h0
  have cm' := cm.fs (FS.f0 f1)
  have hm' := hm.fs (FS.f0 f1)
  have T2 := hT.2.1.f0 f1
  obtain ⟨-, n, hn, hv⟩ := okL_w (show okL U 119 w0 from q3 0 w0 rfl)
  obtain ⟨x, y, e1, e2, e3, e4⟩ := getT (g := g) (j := 1) (w := w1) r c cm rfl (show okL U 84 w1 from q3 1 w1 rfl) (by decide)
  obtain ⟨x2, y2, e12, e22, e32, e42⟩ := getT (g := g) (j := 2) (w := w2) r c cm rfl (show okL U 84 w2 from q3 2 w2 rfl) (by decide)
  have o3w : okW w3 := okL_W (show okL U 87 w3 from q3 3 w3 rfl)
  have m3 : m_value g (sI S2 0 57 0) (nI a + (3 : Int32)) = some (valW S2 w3) := by rw [show (3 : Int32) = nI 3 from rfl, nI_add]; exact M_value (g := g) (j := 3) (w := w3) cm' hm' rfl o3w
  have hlk := lacks2 (s := 22) hg c (show 2 < 4 by decide) (show ∀ j, j < 4 → j ≠ 1 → j ≠ 2 → ¬ lett 22 (nI j) = 84 from by decide +kernel) (by decide +kernel) (by decide +kernel) e1 e12
  by_cases hn2 : x = -1 ∨ x2 = -1
  · rw [c01_t hn2] at hlk
    rw [e4.eq1, e42.eq1] at hn2
    obtain ⟨T, v1, v2, t1, t2⟩ := M_tA2 (e2 _ f1) (e22 _ f1) (e22 _ f2) h0' e4.nn e42.nn hn2
    refine ⟨S, sI (sI S2 0 57 0) 0 58 4, 4, doC_no hlk, ?_, fin_no r bd F0C.rf hx f2 sI_58 (by decide)⟩
    rw [dM_22, dM2_22 t1, show (2 : Int32) = nI 2 from rfl, t2, Option.bind_some]
    dsimp only
    unfold m_seeks_25
    rw [if_neg (by rw [sI_58]; decide)]
    rfl
  · rw [c01_f hn2] at hlk
    rcases e4 with ⟨rfl, rfl⟩ | ⟨p, q, l, rfl, rfl, hpq, hp, hq, l1, l2, l3, l4⟩
    · exact absurd (Or.inl rfl) hn2
    rcases e42 with ⟨rfl, rfl⟩ | ⟨p2, q2, lo, rfl, rfl, hpq2, hp2, hq2, o1, o2, o3, o4⟩
    · exact absurd (Or.inr rfl) hn2
    have hWR : WR S S2 := r.2.2.2.2.2.2.2.2.1
    have b := C_bounds hT.1 l1
    have hC : doC g S 22 = m_WS_find g S (nI p) (nI p2) := by
      rw [doC_W hlk (by decide +kernel), dC_22, show (1 : Int32) = nI 1 from rfl, show (2 : Int32) = nI 2 from rfl, e1, e12, Option.bind_some, Option.bind_some, dC2_22, bS2]
      unfold m_WS_give_384
      rw [bS2]
    have hM : m_does g S2 (nI 22) (nI a) (nI 4) = m_seeks_164 g g (sI S2 0 57 0) (nI 22) (nI a) (nI q) (nI q2) (nI l.length) (nI lo.length) (-1) (valW S2 w3) (nI 0) := by
      rw [dM_22, dM2_22 (M_tAt (e2 _ f1) (by omega)), show (2 : Int32) = nI 2 from rfl, M_tAt (e22 _ f1) (by omega), Option.bind_some]
      dsimp only
      unfold m_seeks_25
      rw [if_pos h0', (T_size T2 hm' l2).1, Option.bind_some, (T_size T2 hm' o2).1, Option.bind_some, if_neg (by decide +kernel), if_neg (by decide +kernel), if_neg (by decide +kernel), m3, Option.bind_some, bS]
      rfl
    obtain ⟨z, z1, z2⟩ := B_place (g := g) (j := 3) (w := w3) (n := l.length) c hl rfl o3w hWR (by omega)
    have hP : ∀ i : Nat, (stL lo l (i : Int) ∧ ((valW S2 w3).toInt ≤ (i : Int) ∨ (lo.length = 0 ∧ i = l.length))) ↔ stL lo l (i : Int) ∧ ((valW S2 w3).toInt ≤ (i : Int) ∨ (lo.length = 0 ∧ i = l.length)) := fun i => Iff.rfl
    obtain ⟨r1, m1, m2⟩ := fndM_l (A := nI a) hg T2 hm' l2 o2 l3 o3 hP (l.length + 1) g 0 (-1) (by omega) (by omega) (Or.inl ⟨rfl, fun j hj => by omega⟩)
    obtain ⟨i0, i1, i2, i3⟩ := maxI0 (N := l.length) (by omega) z2
    have hCr : ∃ r2, doC g S 22 = m_Bn_giveWhole g S r2 ∧ Fst (fun i => stL lo l (i : Int) ∧ ((valW S2 w3).toInt ≤ (i : Int) ∨ (lo.length = 0 ∧ i = l.length))) l.length r2 := by
      rw [hC]
      unfold m_WS_find
      rw [C_size hT.1 l1, Option.bind_some, show (3 : Int32) = nI 3 from rfl, z1, Option.bind_some, lt_d, i1, C_size hT.1 o1, Option.bind_some, bS2, minI_nI (by omega) (by omega)]
      by_cases hz : lo.length = 0
      · have hlo : lo = [] := List.length_eq_zero_iff.mp hz
        refine ⟨_, by rw [if_pos (by rw [hz]; rfl)], Or.inl ⟨min i0 l.length, by omega, ⟨by rw [hlo]; exact stL_nil (by omega), by omega⟩, fun j hj => ?_, rfl⟩⟩
        rintro ⟨-, h⟩
        omega
      · by_cases hge : i0 ≤ l.length
        · obtain ⟨r2, n1, n2⟩ := fndC_l (i0 := i0) (P := fun i => stL lo l (i : Int) ∧ ((valW S2 w3).toInt ≤ (i : Int) ∨ (lo.length = 0 ∧ i = l.length))) hg hT.1 l1 o1 l3 (fun i a b => ⟨fun h => h.1, fun h => ⟨h, Or.inl (by omega)⟩⟩) (fun h => by have := stL_lt h.1; omega) (l.length - i0) g i0 (by omega) (by omega) (by omega) (fun j hj => by
            rintro ⟨-, h⟩
            omega)
          exact ⟨r2, by rw [if_neg (nI_ne0 (by omega) (by omega)), n1], n2⟩
        · refine ⟨-1, ?_, Or.inr ⟨fun j hj => ?_, rfl⟩⟩
          · obtain ⟨g', hg'⟩ : ∃ g', g = g' + 1 := ⟨g - 1, by omega⟩
            rw [if_neg (nI_ne0 (by omega) (by omega)), show m_WS_find_54 g g = m_WS_find_54 g (g' + 1) from by rw [← hg']]
            show b_WS_find_54 g (m_WS_find_54 g g') S (nI p) (nI p2) _ _ = _
            unfold b_WS_find_54
            rw [if_pos (nI_le (by omega) (by omega)), bS2]
          · rintro ⟨-, h⟩
            omega
    obtain ⟨r2, n1, n2⟩ := hCr
    rw [n2.uq m2] at n1
    refine ⟨sG S 75 n r1, sG (sI S2 0 57 0) 32 n r1, 0, ?_, ?_, fin_gw r bd f1 h0' hn⟩
    · rw [n1, B_gw c hl (w := w0) rfl hn hv]
      rfl
    · rw [hM, m1]
      unfold m_seeks_258
      rw [M_gw cm' hm' (w := w0) rfl hn hv h0']
      rfl
theorem St23 : StOK 23 := by
  intro g U k S S2 ws a hg hk hR c cm hW h0
  obtain ⟨φ, cs, ts, u, pl, pm, ps, qs, r, bd⟩ := hR
  obtain ⟨q1, q2, q3⟩ := hW
  have q1 : 4 ≤ ws.length := q1
  have q2 : ws.length ≤ 4 := q2
  obtain ⟨w0, w1, w2, w3, rfl⟩ := ls4 (show ws.length = 4 by omega)
  change ∃ S' S2' kd, doC g S 23 = some (S', nI kd) ∧ m_does g S2 (nI 23) (nI a) (nI 4) = some S2' ∧ gI S2' 0 58 = nI kd ∧ kd ≤ 5 ∧ RSx U (k + 1) S' S2' ∧ FC S S' ∧ FS S2 S2'
  have hl := r.2.1
  have hm := r.2.2.1
  have hT := r.2.2.2.1
  have hx := r.2.2.2.2.2.2.2.2.2.2.2.2.2
  have f1 : F0M S2 (sI S2 0 57 0) := F0M_sI (Or.inl rfl)
  have f2 : F0M S2 (sI (sI S2 0 57 0) 0 58 4) := f1.tr (F0M_sI (Or.inr (Or.inl rfl)))
  have f3 : F0M S2 (sI (sI S2 0 57 0) 0 58 1) := f1.tr (F0M_sI (Or.inr (Or.inl rfl)))
  have h0' : gI (sI S2 0 57 0) 0 58 = 0 := by rw [gI_ne (by decide)]; exact h0
  have cm' := cm.fs (FS.f0 f1)
  have hm' := hm.fs (FS.f0 f1)
  have T2 := hT.2.1.f0 f1
  obtain ⟨-, n, hn, hv⟩ := okL_w (show okL U 119 w0 from q3 0 w0 rfl)
  obtain ⟨x, y, e1, e2, e3, e4⟩ := getT (g := g) (j := 1) (w := w1) r c cm rfl (show okL U 84 w1 from q3 1 w1 rfl) (by decide)
  obtain ⟨x2, y2, e12, e22, e32, e42⟩ := getT (g := g) (j := 2) (w := w2) r c cm rfl (show okL U 84 w2 from q3 2 w2 rfl) (by decide)
  have o3w : okW w3 := okL_W (show okL U 87 w3 from q3 3 w3 rfl)
  have m3 : m_value g (sI S2 0 57 0) (nI a + (3 : Int32)) = some (valW S2 w3) := by rw [show (3 : Int32) = nI 3 from rfl, nI_add]; exact M_value (g := g) (j := 3) (w := w3) cm' hm' rfl o3w
  have hlk := lacks2 (s := 23) hg c (show 2 < 4 by decide) (show ∀ j, j < 4 → j ≠ 1 → j ≠ 2 → ¬ lett 23 (nI j) = 84 from by decide +kernel) (by decide +kernel) (by decide +kernel) e1 e12
  by_cases hn2 : x = -1 ∨ x2 = -1
  · rw [c01_t hn2] at hlk
    rw [e4.eq1, e42.eq1] at hn2
    obtain ⟨T, v1, v2, t1, t2⟩ := M_tA2 (e2 _ f1) (e22 _ f1) (e22 _ f2) h0' e4.nn e42.nn hn2
    refine ⟨S, sI (sI S2 0 57 0) 0 58 4, 4, doC_no hlk, ?_, fin_no r bd F0C.rf hx f2 sI_58 (by decide)⟩
    rw [dM_23, dM2_23 t1, show (2 : Int32) = nI 2 from rfl, t2, Option.bind_some]
    dsimp only
    unfold m_seeks_25
    rw [if_neg (by rw [sI_58]; decide)]
    rfl
  · rw [c01_f hn2] at hlk
    rcases e4 with ⟨rfl, rfl⟩ | ⟨p, q, l, rfl, rfl, hpq, hp, hq, l1, l2, l3, l4⟩
    · exact absurd (Or.inl rfl) hn2
    rcases e42 with ⟨rfl, rfl⟩ | ⟨p2, q2, lo, rfl, rfl, hpq2, hp2, hq2, o1, o2, o3, o4⟩
    · exact absurd (Or.inr rfl) hn2
    have hWR : WR S S2 := r.2.2.2.2.2.2.2.2.1
    have b := C_bounds hT.1 l1
    have hC : doC g S 23 = m_WS_findLast g S (nI p) (nI p2) := by
      rw [doC_W hlk (by decide +kernel), dC_23, show (1 : Int32) = nI 1 from rfl, show (2 : Int32) = nI 2 from rfl, e1, e12, Option.bind_some, Option.bind_some, dC2_23, bS2]
      unfold m_WS_give_384
      rw [bS2]
    have hM : m_does g S2 (nI 23) (nI a) (nI 4) = m_seeks_164 g g (sI S2 0 57 0) (nI 23) (nI a) (nI q) (nI q2) (nI l.length) (nI lo.length) (-1) (valW S2 w3) (nI 0) := by
      rw [dM_23, dM2_23 (M_tAt (e2 _ f1) (by omega)), show (2 : Int32) = nI 2 from rfl, M_tAt (e22 _ f1) (by omega), Option.bind_some]
      dsimp only
      unfold m_seeks_25
      rw [if_pos h0', (T_size T2 hm' l2).1, Option.bind_some, (T_size T2 hm' o2).1, Option.bind_some, if_neg (by decide +kernel), if_neg (by decide +kernel), if_neg (by decide +kernel), m3, Option.bind_some, bS]
      rfl
    obtain ⟨z, z1, z2⟩ := B_place (g := g) (j := 3) (w := w3) (n := l.length) c hl rfl o3w hWR (by omega)
    obtain ⟨r1, m1, m2⟩ := lstM_l (A := nI a) (V := valW S2 w3) (P := fun i => stL lo l (i : Int) ∧ (i : Int) ≤ (valW S2 w3).toInt) hg T2 hm' l2 o2 l3 o3 (fun i => Iff.rfl) (l.length + 1) g 0 (-1) (by omega) (by omega) (Or.inl ⟨rfl, fun j hj => by omega⟩)
    have hCr : ∃ r2, doC g S 23 = m_Bn_giveWhole g S r2 ∧ Lst (fun i => stL lo l (i : Int) ∧ (i : Int) ≤ (valW S2 w3).toInt) l.length r2 := by
      rw [hC]
      unfold m_WS_findLast
      rw [C_size hT.1 l1, Option.bind_some, show (3 : Int32) = nI 3 from rfl, z1, Option.bind_some]
      obtain ⟨K, hK⟩ : ∃ K : Nat, z.toInt = (K : Int) - 1 := ⟨(z.toInt + 1).toNat, by omega⟩
      exact lstC_l (K := K) hg hT.1 l1 o1 l3 (by omega) (fun i hi => ⟨fun h => h.1, fun h => ⟨h, by omega⟩⟩) K g z hK (by omega) (by omega) (fun j a b => by
        rintro ⟨-, h⟩
        omega)
    obtain ⟨r2, n1, n2⟩ := hCr
    rw [n2.uq m2] at n1
    refine ⟨sG S 75 n r1, sG (sI S2 0 57 0) 32 n r1, 0, ?_, ?_, fin_gw r bd f1 h0' hn⟩
    · rw [n1, B_gw c hl (w := w0) rfl hn hv]
      rfl
    · rw [hM, m1]
      unfold m_seeks_258
      rw [M_gw cm' hm' (w := w0) rfl hn hv h0']
      rfl
