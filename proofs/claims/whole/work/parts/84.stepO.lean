/-! the STEPS: offset, seek -/
section OFF
variable {g : Nat} {S S2 : St} {cs ts : List (List Int32)} {u p q : Nat} {l : List Int32} {X : Int64}
theorem j64_d {x : Int64} {k : Nat} (h : x.toInt = ((k + 1 : Nat) : Int)) (hk : k < 2 ^ 62) : (x - (1 : Int64)).toInt = (k : Int) := by
  rw [Int64.toInt_sub, h, show (1 : Int64).toInt = 1 from by decide +kernel]
  rw [Int.bmod_eq_of_le (by omega) (by omega)]
  omega
theorem j64_d2 {x : Int64} (h : 0 < x.toInt) : (x - (1 : Int64)).toInt = x.toInt - 1 := by
  have := Int64.toInt_lt x
  rw [Int64.toInt_sub, show (1 : Int64).toInt = 1 from by decide +kernel]
  exact Int.bmod_eq_of_le (by omega) (by omega)
theorem j64_u2 {x : Int64} (h : x.toInt < 0) : (x + (1 : Int64)).toInt = x.toInt + 1 := by
  have := Int64.le_toInt x
  rw [Int64.toInt_add, show (1 : Int64).toInt = 1 from by decide +kernel]
  exact Int.bmod_eq_of_le (by omega) (by omega)
theorem pos64 {x : Int64} : (0 : Int64) < x ↔ 0 < x.toInt := by
  rw [Int64.lt_iff_toInt_lt, z64]
theorem neg64 {x : Int64} : x < (0 : Int64) ↔ x.toInt < 0 := by
  rw [Int64.lt_iff_toInt_lt, z64]
theorem zer64 {x : Int64} : x = (0 : Int64) ↔ x.toInt = 0 := by
  constructor
  · intro h
    rw [h, z64]
  · intro h
    exact Int64.toInt_inj.mp (by rw [h, z64])
theorem offB {T : Nat} (hT : TXc S cs) (l1 : cs[p]? = some l) (hl : l.length ≤ 400) (hX : X.toInt = (T : Int)) (hT2 : T ≤ 400) : ∀ (k n j t : Nat), t + k = T → k < n → l.length ≤ j → j + k < 2 ^ 20 → m_WS_offset_72 g n S (nI l.length) (nI (stC cs p)) (nI j) X (nI t) = m_WS_offset_120 g g S (nI l.length) (nI (stC cs p)) (nI (j + k)) X 0 := by
  have b := C_bounds hT l1
  intro k
  induction k with
  | zero =>
    intro n j t ht hn hj hjk
    obtain ⟨n, rfl⟩ : ∃ m, n = m + 1 := ⟨n - 1, by omega⟩
    show b_WS_offset_72 g (m_WS_offset_72 g n) S _ _ _ _ _ = _
    unfold b_WS_offset_72
    rw [if_neg (fun z => by have := (i64_lt hX (by omega)).mp z; omega)]
    rfl
  | succ k ih =>
    intro n j t ht hn hj hjk
    obtain ⟨n, rfl⟩ : ∃ m, n = m + 1 := ⟨n - 1, by omega⟩
    show b_WS_offset_72 g (m_WS_offset_72 g n) S _ _ _ _ _ = _
    unfold b_WS_offset_72
    rw [if_pos ((i64_lt hX (by omega)).mpr (by omega)), nI_add, nI_add, prC hT l1 (by omega) (by omega), Option.bind_some, c01_f (fun z => by have := z.1; omega), if_pos rfl, lt_d, lt_d, nI_1, nI_1, ih n (j + 1) (t + 1) (by omega) (by omega) (by omega) (by omega), show j + 1 + k = j + (k + 1) by omega]
theorem offU {T : Nat} (hT : TXc S cs) (hM : TXs S2 ts u) (hm : LM S2) (l1 : cs[p]? = some l) (l2 : ts[q]? = some l) (hl : l.length ≤ 400) (hX : X.toInt = (T : Int)) (hT2 : T ≤ 400) : ∀ (k n1 n2 j t : Nat) (x6 : Int64), t + k = T → 1000 < n1 - k → k < n1 → k < n2 → j ≤ l.length → x6.toInt = (k : Int) → ∃ j' x6', m_WS_offset_72 g n1 S (nI l.length) (nI (stC cs p)) (nI j) X (nI t) = m_WS_offset_120 g g S (nI l.length) (nI (stC cs p)) (nI j') X 0 ∧ j' < 2 ^ 20 ∧ ((j' ≤ l.length ∧ m_offset_6 g n2 S2 (nI q) (nI j) x6 = m_offset_51 g g S2 (nI q) (nI j') x6' ∧ x6'.toInt = 0) ∨ (l.length < j' ∧ m_offset_6 g n2 S2 (nI q) (nI j) x6 = m_offset_51 g g S2 (nI q) (nI l.length) x6' ∧ 0 < x6'.toInt)) := by
  have b := C_bounds hT l1
  intro k
  induction k with
  | zero =>
    intro n1 n2 j t x6 ht h3 h1 h2 hj h6
    obtain ⟨n1, rfl⟩ : ∃ m, n1 = m + 1 := ⟨n1 - 1, by omega⟩
    obtain ⟨n2, rfl⟩ : ∃ m, n2 = m + 1 := ⟨n2 - 1, by omega⟩
    refine ⟨j, x6, ?_, by omega, Or.inl ⟨hj, ?_, h6⟩⟩
    · show b_WS_offset_72 g (m_WS_offset_72 g n1) S _ _ _ _ _ = _
      unfold b_WS_offset_72
      rw [if_neg (fun z => by have := (i64_lt hX (by omega)).mp z; omega)]
    · show b_offset_6 g (m_offset_6 g n2) S2 _ _ _ = _
      unfold b_offset_6
      rw [if_neg (fun z => by have := pos64.mp z; omega)]
  | succ k ih =>
    intro n1 n2 j t x6 ht h3 h1 h2 hj h6
    obtain ⟨n1, rfl⟩ : ∃ m, n1 = m + 1 := ⟨n1 - 1, by omega⟩
    obtain ⟨n2, rfl⟩ : ∃ m, n2 = m + 1 := ⟨n2 - 1, by omega⟩
    by_cases hlt : j < l.length
    · have hb : pS (prL l j l.length) + j ≤ l.length ∧ pS (prL l j l.length) ≤ 2 := by
        by_cases h : prL l j l.length
        · rw [pS_t h]
          have := h.1
          omega
        · rw [pS_f h]
          omega
      obtain ⟨j', x6', a1, a2, a3⟩ := ih n1 n2 (j + pS (prL l j l.length)) (t + 1) (x6 - 1) (by omega) (by omega) (by omega) (by omega) (by omega) (j64_d h6 (by omega))
      have eM : m_offset_6 g (n2 + 1) S2 (nI q) (nI j) x6 = m_offset_6 g n2 S2 (nI q) (nI (j + pS (prL l j l.length))) (x6 - 1) := by
        show b_offset_6 g (m_offset_6 g n2) S2 _ _ _ = _
        unfold b_offset_6
        rw [if_pos (pos64.mpr (by omega)), (T_size hM hm l2).1, Option.bind_some, if_neg (nI_ge hlt (by omega)), Option.bind_some, M_pSz hM hm l2 hl hlt (by omega), Option.bind_some, lt_d, lt_d, nI_add]
      refine ⟨j', x6', ?_, a2, ?_⟩
      · rw [← a1]
        show b_WS_offset_72 g (m_WS_offset_72 g n1) S _ _ _ _ _ = _
        unfold b_WS_offset_72
        rw [if_pos ((i64_lt hX (by omega)).mpr (by omega)), nI_add, nI_add, prC hT l1 (by omega) (by omega), Option.bind_some, lt_d, lt_d, lt_d, lt_d, nI_1, nI_1, show (2 : Int32) = nI 2 from rfl, nI_add]
        by_cases h : prL l j l.length
        · rw [c01_t h, if_neg (by decide), pS_t h]
        · rw [c01_f h, if_pos rfl, pS_f h]
      · rw [eM]
        exact a3
    · have hj2 : j = l.length := by omega
      subst hj2
      refine ⟨l.length + (k + 1), x6, offB hT l1 hl hX hT2 (k + 1) (n1 + 1) l.length t ht (by omega) (by omega) (by omega), by omega, Or.inr ⟨by omega, ?_, by omega⟩⟩
      show b_offset_6 g (m_offset_6 g n2) S2 _ _ _ = _
      unfold b_offset_6
      rw [if_pos (pos64.mpr (by omega)), (T_size hM hm l2).1, Option.bind_some, if_pos (nI_le (by omega) (by omega))]
theorem offUX (hM : TXs S2 ts u) (hm : LM S2) (l2 : ts[q]? = some l) (hl : l.length ≤ 400) : ∀ (k n j : Nat) (x6 : Int64), j + k = l.length → k < n → (k : Int) < x6.toInt → ∃ x6', m_offset_6 g n S2 (nI q) (nI j) x6 = m_offset_51 g g S2 (nI q) (nI l.length) x6' ∧ 0 < x6'.toInt := by
  intro k
  induction k using Nat.strongRecOn with
  | ind k ih =>
    intro n j x6 hj hn h6
    obtain ⟨n, rfl⟩ : ∃ m, n = m + 1 := ⟨n - 1, by omega⟩
    have eM : m_offset_6 g (n + 1) S2 (nI q) (nI j) x6 = b_offset_6 g (m_offset_6 g n) S2 (nI q) (nI j) x6 := rfl
    unfold b_offset_6 at eM
    rw [if_pos (pos64.mpr (by omega)), (T_size hM hm l2).1, Option.bind_some] at eM
    by_cases hlt : j < l.length
    · have hb : pS (prL l j l.length) + j ≤ l.length ∧ 1 ≤ pS (prL l j l.length) := by
        by_cases h : prL l j l.length
        · rw [pS_t h]
          have := h.1
          omega
        · rw [pS_f h]
          omega
      rw [if_neg (nI_ge hlt (by omega)), Option.bind_some, M_pSz hM hm l2 hl hlt (by omega), Option.bind_some, lt_d, lt_d, nI_add] at eM
      obtain ⟨x6', a1, a2⟩ := ih (k - pS (prL l j l.length)) (by omega) n (j + pS (prL l j l.length)) (x6 - 1) (by omega) (by omega) (by rw [j64_d2 (by omega)]; omega)
      exact ⟨x6', eM.trans a1, a2⟩
    · have hj2 : j = l.length := by omega
      subst hj2
      refine ⟨x6, ?_, by omega⟩
      rw [eM, if_pos (nI_le (by omega) (by omega))]
theorem m1_k {k : Nat} (h : k ≤ 400) : (k : Int) < (-1 : Int32).toInt + 1000 := by
  rw [show (-1 : Int32).toInt = -1 from by decide]
  omega
theorem offDB {T : Nat} (hX : X.toInt = -(T : Int)) (hT2 : T ≤ 400) {x2 x3 : Int32} : ∀ (k n t : Nat) (x4 x7 : Int32), t + k = T → k < n → x7.toInt = -(t : Int) → x4.toInt < 0 → (k : Int) < x4.toInt + 1000 → m_WS_offset_120 g n S x2 x3 x4 X x7 = some (S, 1) := by
  intro k
  induction k with
  | zero =>
    intro n t x4 x7 ht hn h7 h4 h5
    obtain ⟨n, rfl⟩ : ∃ m, n = m + 1 := ⟨n - 1, by omega⟩
    show b_WS_offset_120 g (m_WS_offset_120 g n) S _ _ _ _ _ = _
    unfold b_WS_offset_120
    rw [if_neg (by rw [Int64.lt_iff_toInt_lt, j64, hX, h7]; omega), if_pos (by rw [Int32.lt_iff_toInt_lt, show (0 : Int32).toInt = 0 from rfl]; exact h4)]
  | succ k ih =>
    intro n t x4 x7 ht hn h7 h4 h5
    obtain ⟨n, rfl⟩ : ∃ m, n = m + 1 := ⟨n - 1, by omega⟩
    show b_WS_offset_120 g (m_WS_offset_120 g n) S _ _ _ _ _ = _
    unfold b_WS_offset_120
    rw [if_pos (by rw [Int64.lt_iff_toInt_lt, j64, hX, h7]; omega), if_pos (by rw [Int32.le_iff_toInt_le, show (1 : Int32).toInt = 1 from rfl]; omega)]
    unfold m_WS_offset_162 m_WS_offset_163
    rw [if_pos rfl, lt_d, lt_d]
    refine ih n (t + 1) _ _ (by omega) (by omega) ?_ ?_ ?_
    · rw [Int32.toInt_add, h7, show (-1 : Int32).toInt = -1 from by decide, Int.bmod_eq_of_le (by omega) (by omega)]
      omega
    · rw [Int32.toInt_sub, show (1 : Int32).toInt = 1 from rfl, Int.bmod_eq_of_le (by omega) (by omega)]
      omega
    · rw [Int32.toInt_sub, show (1 : Int32).toInt = 1 from rfl, Int.bmod_eq_of_le (by omega) (by omega)]
      omega
theorem offD {T : Nat} (hT : TXc S cs) (hM : TXs S2 ts u) (hm : LM S2) (l1 : cs[p]? = some l) (l2 : ts[q]? = some l) (hl : l.length ≤ 400) (hX : X.toInt = -(T : Int)) (hT2 : T ≤ 400) : ∀ (k n1 n2 j t : Nat) (x7 : Int32) (x6 : Int64), t + k = T → k < n1 → k < n2 → j ≤ l.length → x7.toInt = -(t : Int) → x6.toInt = -(k : Int) → (∃ j', m_WS_offset_120 g n1 S (nI l.length) (nI (stC cs p)) (nI j) X x7 = m_Bn_giveWhole g S (nI j').toInt64 ∧ m_offset_51 g n2 S2 (nI q) (nI j) x6 = m_offset_97 g S2 (nI j') 0) ∨ (∃ j', m_WS_offset_120 g n1 S (nI l.length) (nI (stC cs p)) (nI j) X x7 = some (S, 1) ∧ m_offset_51 g n2 S2 (nI q) (nI j) x6 = m_offset_97 g S2 j' 1) := by
  have b := C_bounds hT l1
  intro k
  induction k with
  | zero =>
    intro n1 n2 j t x7 x6 ht h1 h2 hj h7 h6
    obtain ⟨n1, rfl⟩ : ∃ m, n1 = m + 1 := ⟨n1 - 1, by omega⟩
    obtain ⟨n2, rfl⟩ : ∃ m, n2 = m + 1 := ⟨n2 - 1, by omega⟩
    refine Or.inl ⟨j, ?_, ?_⟩
    · show b_WS_offset_120 g (m_WS_offset_120 g n1) S _ _ _ _ _ = _
      unfold b_WS_offset_120
      rw [if_neg (by rw [Int64.lt_iff_toInt_lt, j64, hX, h7]; omega), if_neg (nI_pos (by omega)), if_pos (nI_le (by omega) (by omega)), bS2]
    · show b_offset_51 g (m_offset_51 g n2) S2 _ _ _ = _
      unfold b_offset_51
      rw [if_neg (fun z => by have := neg64.mp z; omega)]
      unfold m_offset_84
      rw [if_pos (zer64.mpr (by omega))]
  | succ k ih =>
    intro n1 n2 j t x7 x6 ht h1 h2 hj h7 h6
    obtain ⟨n1, rfl⟩ : ∃ m, n1 = m + 1 := ⟨n1 - 1, by omega⟩
    obtain ⟨n2, rfl⟩ : ∃ m, n2 = m + 1 := ⟨n2 - 1, by omega⟩
    by_cases hz : j = 0
    · subst hz
      have e5 : nI 0 - (1 : Int32) = -1 := by decide
      have h7' : (x7 + (-1 : Int32)).toInt = -((t + 1 : Nat) : Int) := by
        rw [Int32.toInt_add, h7, show (-1 : Int32).toInt = -1 from by decide, Int.bmod_eq_of_le (by omega) (by omega)]
        omega
      refine Or.inr ⟨nI 0, ?_, ?_⟩
      · show b_WS_offset_120 g (m_WS_offset_120 g n1) S _ _ _ _ _ = _
        unfold b_WS_offset_120
        rw [if_pos (by rw [Int64.lt_iff_toInt_lt, j64, hX, h7]; omega), if_pos (by decide)]
        unfold m_WS_offset_162 m_WS_offset_163
        rw [if_pos rfl, lt_d, lt_d, e5]
        exact offDB hX hT2 k n1 (t + 1) (-1) (x7 + (-1 : Int32)) (by omega) (by omega) h7' (by decide) (m1_k (Nat.le_trans (Nat.le_trans (Nat.le_add_left k (t + 1)) (Nat.le_of_eq (by rw [Nat.add_assoc, Nat.add_comm 1 k]; exact ht))) hT2))
      · show b_offset_51 g (m_offset_51 g n2) S2 _ _ _ = _
        unfold b_offset_51
        rw [if_pos (neg64.mpr (by omega)), if_pos (by decide)]
        unfold m_offset_84
        rw [if_neg (fun z => by have := zer64.mp z; omega)]
    · have hb : pS (2 ≤ j ∧ prL l (j - 2) j) ≤ j ∧ 1 ≤ pS (2 ≤ j ∧ prL l (j - 2) j) := by
        by_cases h : 2 ≤ j ∧ prL l (j - 2) j
        · rw [pS_t h]
          omega
        · rw [pS_f h]
          omega
      have h7' : (x7 + (-1 : Int32)).toInt = -((t + 1 : Nat) : Int) := by
        rw [Int32.toInt_add, h7, show (-1 : Int32).toInt = -1 from by decide, Int.bmod_eq_of_le (by omega) (by omega)]
        omega
      have h6' : (x6 + (1 : Int64)).toInt = -(k : Int) := by
        rw [j64_u2 (by omega)]
        omega
      have eC : m_WS_offset_120 g (n1 + 1) S (nI l.length) (nI (stC cs p)) (nI j) X x7 = m_WS_offset_120 g n1 S (nI l.length) (nI (stC cs p)) (nI (j - pS (2 ≤ j ∧ prL l (j - 2) j))) X (x7 + (-1 : Int32)) := by
        show b_WS_offset_120 g (m_WS_offset_120 g n1) S _ _ _ _ _ = _
        unfold b_WS_offset_120
        rw [if_pos (by rw [Int64.lt_iff_toInt_lt, j64, hX, h7]; omega)]
        unfold m_WS_offset_162 m_WS_offset_163
        rw [lt_d, lt_d, lt_d, lt_d]
        by_cases h2 : 2 ≤ j
        · rw [if_neg (show ¬ nI j ≤ (1 : Int32) from nI_ge (a := 1) (by omega) (by omega)), nI_add, show (2 : Int32) = nI 2 from rfl, show (1 : Int32) = nI 1 from rfl, nI_sub (by omega), nI_sub (by omega), nI_sub (by omega), show stC cs p + j - 2 = stC cs p + (j - 2) by omega, prC hT l1 (by omega) (by omega), Option.bind_some]
          by_cases h : prL l (j - 2) j
          · rw [c01_t h, if_neg (by decide), if_neg (by decide), pS_t ⟨h2, h⟩]
          · rw [c01_f h, if_pos rfl, if_pos rfl, pS_f (fun z => h z.2)]
        · rw [if_pos (show nI j ≤ (1 : Int32) from nI_le (b := 1) (by omega) (by omega)), if_pos rfl, show (1 : Int32) = nI 1 from rfl, nI_sub (by omega), pS_f (fun z => h2 z.1)]
      have eM : m_offset_51 g (n2 + 1) S2 (nI q) (nI j) x6 = m_offset_51 g n2 S2 (nI q) (nI (j - pS (2 ≤ j ∧ prL l (j - 2) j))) (x6 + (1 : Int64)) := by
        show b_offset_51 g (m_offset_51 g n2) S2 _ _ _ = _
        unfold b_offset_51
        rw [if_pos (neg64.mpr (by omega)), if_neg (nI_nle (by omega) (by omega)), M_sBf hM hm l2 hl hj (by omega), Option.bind_some, lt_d, lt_d, nI_sub (by omega)]
      rw [eC, eM]
      exact ih n1 n2 _ (t + 1) _ _ (by omega) (by omega) (by omega) (by omega) h7' h6'
theorem offDX (hM : TXs S2 ts u) (hm : LM S2) (l2 : ts[q]? = some l) (hl : l.length ≤ 400) : ∀ (j n : Nat) (x6 : Int64), j ≤ l.length → j < n → x6.toInt < -(j : Int) → m_offset_51 g n S2 (nI q) (nI j) x6 = m_offset_97 g S2 (nI 0) 1 := by
  intro j
  induction j using Nat.strongRecOn with
  | ind j ih =>
    intro n x6 hj hn h6
    obtain ⟨n, rfl⟩ : ∃ m, n = m + 1 := ⟨n - 1, by omega⟩
    show b_offset_51 g (m_offset_51 g n) S2 _ _ _ = _
    unfold b_offset_51
    rw [if_pos (neg64.mpr (by omega))]
    by_cases hz : j = 0
    · subst hz
      rw [if_pos (by decide)]
      unfold m_offset_84
      rw [if_neg (fun z => by have := zer64.mp z; omega)]
    · have hb : pS (2 ≤ j ∧ prL l (j - 2) j) ≤ j ∧ 1 ≤ pS (2 ≤ j ∧ prL l (j - 2) j) := by
        by_cases h : 2 ≤ j ∧ prL l (j - 2) j
        · rw [pS_t h]
          omega
        · rw [pS_f h]
          omega
      rw [if_neg (nI_nle (by omega) (by omega)), M_sBf hM hm l2 hl hj (by omega), Option.bind_some, lt_d, lt_d, nI_sub (by omega)]
      exact ih _ (by omega) n _ (by omega) (by omega) (by rw [j64_u2 (by omega)]; omega)
end OFF
theorem M_gwn {g : Nat} {S : St} {a : Int32} {x : Int64} (h : ¬ gI S 0 58 = 0) : m_givesWhole g S a x = some S := by
  unfold m_givesWhole
  rw [if_neg h]
theorem St15 : StOK 15 := by
  intro g U k S S2 ws a hg hk hR c cm hW h0
  obtain ⟨φ, cs, ts, u, pl, pm, ps, qs, r, bd⟩ := hR
  obtain ⟨q1, q2, q3⟩ := hW
  have q1 : 4 ≤ ws.length := q1
  have q2 : ws.length ≤ 4 := q2
  obtain ⟨w0, w1, w2, w3, rfl⟩ := ls4 (show ws.length = 4 by omega)
  change ∃ S' S2' kd, doC g S 15 = some (S', nI kd) ∧ m_does g S2 (nI 15) (nI a) (nI 4) = some S2' ∧ gI S2' 0 58 = nI kd ∧ kd ≤ 5 ∧ RSx U (k + 1) S' S2' ∧ FC S S' ∧ FS S2 S2'
  have hl := r.2.1
  have hm := r.2.2.1
  have hT := r.2.2.2.1
  have hx := r.2.2.2.2.2.2.2.2.2.2.2.2.2
  have f1 : F0M S2 (sI S2 0 57 0) := F0M_sI (Or.inl rfl)
  have f2 : F0M S2 (sI (sI S2 0 57 0) 0 58 4) := f1.tr (F0M_sI (Or.inr (Or.inl rfl)))
  have f3 : F0M S2 (sI (sI S2 0 57 0) 0 58 1) := f1.tr (F0M_sI (Or.inr (Or.inl rfl)))
  have h0' : gI (sI S2 0 57 0) 0 58 = 0 := by rw [gI_ne (by decide)]; exact h0
  have cm' := cm.fs (FS.f0 f1)
  have hm' := hm.fs (FS.f0 f1)
  have T2 := hT.2.1.f0 f1
  obtain ⟨-, n, hn, hv⟩ := okL_w (show okL U 119 w0 from q3 0 w0 rfl)
  obtain ⟨x, y, e1, e2, e3, e4⟩ := getT (g := g) (j := 1) (w := w1) r c cm rfl (show okL U 84 w1 from q3 1 w1 rfl) (by decide)
  have o2 : okW w2 := okL_W (show okL U 87 w2 from q3 2 w2 rfl)
  have m2 : m_value g (sI S2 0 57 0) (nI a + (2 : Int32)) = some (valW S2 w2) := by rw [show (2 : Int32) = nI 2 from rfl, nI_add]; exact M_value (g := g) (j := 2) (w := w2) cm' hm' rfl o2
  have o3 : okW w3 := okL_W (show okL U 87 w3 from q3 3 w3 rfl)
  have m3 : m_value g (sI S2 0 57 0) (nI a + (3 : Int32)) = some (valW S2 w3) := by rw [show (3 : Int32) = nI 3 from rfl, nI_add]; exact M_value (g := g) (j := 3) (w := w3) cm' hm' rfl o3
  have hlk := lacks1 (s := 15) (j0 := 1) hg c (show 1 < 4 by decide) (show ∀ j, j < 4 → j ≠ 1 → ¬ lett 15 (nI j) = 84 from by decide +kernel) (by decide +kernel) e1
  have mm2 : m_value g (sI (sI S2 0 57 0) 0 58 4) (nI a + (2 : Int32)) = some (valW S2 w2) := by rw [show (2 : Int32) = nI 2 from rfl, nI_add]; exact M_value (g := g) (j := 2) (w := w2) (cm.fs (FS.f0 f2)) (hm.fs (FS.f0 f2)) rfl o2
  have mm3 : m_value g (sI (sI S2 0 57 0) 0 58 4) (nI a + (3 : Int32)) = some (valW S2 w3) := by rw [show (3 : Int32) = nI 3 from rfl, nI_add]; exact M_value (g := g) (j := 3) (w := w3) (cm.fs (FS.f0 f2)) (hm.fs (FS.f0 f2)) rfl o3
  have h4 : gI (sI (sI S2 0 57 0) 0 58 4) 0 58 ≠ 0 := by rw [sI_58]; decide
  have hm2 := hm.fs (FS.f0 f2)
  rcases e4 with ⟨rfl, rfl⟩ | ⟨p, q, l, rfl, rfl, hpq, hp, hq, l1, l2, l3, l4⟩
  · rw [c01_t rfl] at hlk
    obtain ⟨l, l1, l2, l3, l4⟩ := hT.2.2.1 0 0 hT.2.2.2.2.1
    have T3 := hT.2.1.f0 f2
    refine ⟨S, sI (sI S2 0 57 0) 0 58 4, 4, doC_no hlk, ?_, fin_no r bd F0C.rf hx f2 sI_58 (by decide)⟩
    rw [dM_15, dM2_15 (M_tAt0 (e2 _ f1) h0') mm2 (T_size T3 hm2 l2).1 mm3, isIn_s, Option.bind_some, bS]
    unfold m_looks_97 m_looks_101
    rw [M_ref0, M_ref1n h4, Option.bind_some, if_neg h4]
    exact ifo rfl rfl
  · rw [c01_f (m1_ne (by omega))] at hlk
    have hWR : WR S S2 := r.2.2.2.2.2.2.2.2.1
    have b := C_bounds hT.1 l1
    have hM := dM_15 (g := g) (S := S2) (x2 := nI a) (x3 := nI 4)
    rw [dM2_15 (M_tAt (e2 _ f1) (by omega)) m2 (T_size T2 hm' l2).1 m3, isIn_s, Option.bind_some, bS] at hM
    obtain ⟨z, z1, z2⟩ := B_place (g := g) (j := 2) (w := w2) (n := l.length) c hl rfl o2 hWR (by omega)
    have hC : doC g S 15 = m_WS_offset g S (nI p) := by
      rw [doC_W hlk (by decide +kernel), dC_15, show (1 : Int32) = nI 1 from rfl, e1, Option.bind_some, bS2]
    unfold m_WS_offset at hC
    rw [C_size hT.1 l1, Option.bind_some, C_start hT.1 b.1, Option.bind_some, show (2 : Int32) = nI 2 from rfl, show (3 : Int32) = nI 3 from rfl, z1, Option.bind_some, B_whole (S2 := S2) (w := w3) c hl rfl o3 hWR, Option.bind_some] at hC
    have hno : ∀ x, m_looks_140 g (sI (sI S2 0 57 0) 0 58 1) (nI a) x = some (sI (sI S2 0 57 0) 0 58 1) := by
      intro x
      unfold m_looks_140
      rw [M_gwn (by rw [sI_58]; decide)]
      rfl
    have h97 : ∀ x, m_offset_97 g (sI S2 0 57 0) x 1 = some (sI (sI S2 0 57 0) 0 58 1, x.toInt64) := by
      intro x
      unfold m_offset_97
      rw [M_ref1 h0']
      rfl
    have h970 : ∀ x, m_offset_97 g (sI S2 0 57 0) x 0 = some (sI S2 0 57 0, x.toInt64) := by
      intro x
      unfold m_offset_97
      rw [M_ref0]
      rfl
    have REF : doC g S 15 = some (S, 1) → m_does g S2 (nI 15) (nI a) (nI 4) = some (sI (sI S2 0 57 0) 0 58 1) → ∃ S' S2' kd, doC g S 15 = some (S', nI kd) ∧ m_does g S2 (nI 15) (nI a) (nI 4) = some S2' ∧ gI S2' 0 58 = nI kd ∧ kd ≤ 5 ∧ RSx U (k + 1) S' S2' ∧ FC S S' ∧ FS S2 S2' := fun h1 h2 => ⟨S, sI (sI S2 0 57 0) 0 58 1, 1, h1, h2, fin_no r bd F0C.rf hx f3 sI_58 (by decide)⟩
    have GIV : ∀ j : Nat, doC g S 15 = m_Bn_giveWhole g S (nI j).toInt64 → m_does g S2 (nI 15) (nI a) (nI 4) = m_looks_140 g (sI S2 0 57 0) (nI a) (nI j).toInt64 → ∃ S' S2' kd, doC g S 15 = some (S', nI kd) ∧ m_does g S2 (nI 15) (nI a) (nI 4) = some S2' ∧ gI S2' 0 58 = nI kd ∧ kd ≤ 5 ∧ RSx U (k + 1) S' S2' ∧ FC S S' ∧ FS S2 S2' := by
      intro j h1 h2
      refine ⟨sG S 75 n (nI j).toInt64, sG (sI S2 0 57 0) 32 n (nI j).toInt64, 0, ?_, ?_, fin_gw r bd f1 h0' hn⟩
      · rw [h1, B_gw c hl (w := w0) rfl hn hv]
        rfl
      · rw [h2]
        unfold m_looks_140
        rw [M_gw cm' hm' (w := w0) rfl hn hv h0']
        rfl
    have hv1 : ((nI l.length).toInt64).toInt = (l.length : Int) := by rw [j64, nI_toInt (by omega)]
    by_cases hin : 0 ≤ (valW S2 w2).toInt ∧ (valW S2 w2).toInt ≤ (l.length : Int)
    · obtain ⟨i, hi⟩ : ∃ i : Nat, (valW S2 w2).toInt = (i : Int) := ⟨(valW S2 w2).toInt.toNat, by omega⟩
      have hz : z = nI i := Int32.toInt_inj.mp (by rw [z2, nI_toInt (by omega)]; omega)
      subst hz
      rw [if_neg (nI_pos (by omega)), if_neg (nI_nlt (by omega) (by omega))] at hC
      have hbI : ((nI l.length).toInt64 < valW S2 w3) ↔ (l.length : Int) < (valW S2 w3).toInt := i64_ltI (by omega)
      have hneg : (valW S2 w3 < (-nI l.length).toInt64) ↔ (valW S2 w3).toInt < -(l.length : Int) := by
        rw [Int64.lt_iff_toInt_lt, j64, Int32.toInt_neg, nI_toInt (by omega), Int.bmod_eq_of_le (by omega) (by omega)]
      rw [c01_t (by rw [hv1, z64]; exact hin), if_neg (by decide)] at hM
      unfold m_looks_97 m_looks_101 at hM
      rw [M_ref0, Option.bind_some, if_pos h0', if_neg (by decide +kernel), j32 hi (by omega)] at hM
      unfold m_offset at hM
      by_cases hbig : (l.length : Int) < (valW S2 w3).toInt
      · rw [if_pos (hbI.mpr hbig)] at hC
        obtain ⟨x6', a1, a2⟩ := offUX (g := g) T2 hm' l2 l3 (l.length - i) g i (valW S2 w3) (by omega) (by omega) (by omega)
        refine REF hC ?_
        obtain ⟨g', hg'⟩ : ∃ g', g = g' + 1 := ⟨g - 1, by omega⟩
        rw [hM, a1, show m_offset_51 g g (sI S2 0 57 0) (nI q) (nI l.length) x6' = m_offset_97 g (sI S2 0 57 0) (nI l.length) 1 from by
          rw [show m_offset_51 g g = m_offset_51 g (g' + 1) from by rw [← hg']]
          show b_offset_51 g (m_offset_51 g g') _ _ _ _ = _
          unfold b_offset_51
          rw [if_neg (fun z => by have := neg64.mp z; omega)]
          unfold m_offset_84
          rw [if_neg (fun z => by have := zer64.mp z; omega)], h97, Option.bind_some]
        exact hno _
      rw [if_neg (fun z => hbig (hbI.mp z))] at hC
      by_cases hlow : (valW S2 w3).toInt < -(l.length : Int)
      · rw [if_pos (hneg.mpr hlow)] at hC
        refine REF hC ?_
        obtain ⟨g', hg'⟩ : ∃ g', g = g' + 1 := ⟨g - 1, by omega⟩
        rw [hM, show m_offset_6 g g (sI S2 0 57 0) (nI q) (nI i) (valW S2 w3) = m_offset_51 g g (sI S2 0 57 0) (nI q) (nI i) (valW S2 w3) from by
          rw [show m_offset_6 g g = m_offset_6 g (g' + 1) from by rw [← hg']]
          show b_offset_6 g (m_offset_6 g g') _ _ _ _ = _
          unfold b_offset_6
          rw [if_neg (fun z => by have := pos64.mp z; omega)], offDX T2 hm' l2 l3 i g _ (by omega) (by omega) (by omega), h97, Option.bind_some]
        exact hno _
      rw [if_neg (fun z => hlow (hneg.mp z))] at hC
      obtain ⟨g', hg'⟩ : ∃ g', g = g' + 1 := ⟨g - 1, by omega⟩
      by_cases hpos : 0 ≤ (valW S2 w3).toInt
      · obtain ⟨T, hT9⟩ : ∃ T : Nat, (valW S2 w3).toInt = (T : Int) := ⟨(valW S2 w3).toInt.toNat, by omega⟩
        obtain ⟨j', x6', a1, a2, a3⟩ := offU (g := g) hT.1 T2 hm' l1 l2 l3 hT9 (by omega) T g g i 0 (valW S2 w3) (by omega) (by omega) (by omega) (by omega) (by omega) hT9
        rw [show (0 : Int32) = nI 0 from rfl, a1] at hC
        have e120 : m_WS_offset_120 g g S (nI l.length) (nI (stC cs p)) (nI j') (valW S2 w3) 0 = if nI j' ≤ nI l.length then m_Bn_giveWhole g S (nI j').toInt64 else some (S, 1) := by
          rw [show m_WS_offset_120 g g = m_WS_offset_120 g (g' + 1) from by rw [← hg']]
          show b_WS_offset_120 g (m_WS_offset_120 g g') _ _ _ _ _ _ = _
          unfold b_WS_offset_120
          rw [if_neg (fun z => by
            rw [Int64.lt_iff_toInt_lt, j64, show (0 : Int32).toInt = 0 from rfl] at z
            omega), if_neg (nI_pos (by omega)), bS2]
        rw [e120] at hC
        rcases a3 with ⟨b1, b2, b3⟩ | ⟨b1, b2, b3⟩
        · rw [if_pos (nI_le b1 (by omega))] at hC
          refine GIV j' hC ?_
          rw [hM, b2, show m_offset_51 g g (sI S2 0 57 0) (nI q) (nI j') x6' = m_offset_97 g (sI S2 0 57 0) (nI j') 0 from by
            rw [show m_offset_51 g g = m_offset_51 g (g' + 1) from by rw [← hg']]
            show b_offset_51 g (m_offset_51 g g') _ _ _ _ = _
            unfold b_offset_51
            rw [if_neg (fun z => by have := neg64.mp z; omega)]
            unfold m_offset_84
            rw [if_pos (zer64.mpr b3)], h970, Option.bind_some]
        · rw [if_neg (nI_ge b1 (by omega))] at hC
          refine REF hC ?_
          rw [hM, b2, show m_offset_51 g g (sI S2 0 57 0) (nI q) (nI l.length) x6' = m_offset_97 g (sI S2 0 57 0) (nI l.length) 1 from by
            rw [show m_offset_51 g g = m_offset_51 g (g' + 1) from by rw [← hg']]
            show b_offset_51 g (m_offset_51 g g') _ _ _ _ = _
            unfold b_offset_51
            rw [if_neg (fun z => by have := neg64.mp z; omega)]
            unfold m_offset_84
            rw [if_neg (fun z => by have := zer64.mp z; omega)], h97, Option.bind_some]
          exact hno _
      · obtain ⟨T, hT9⟩ : ∃ T : Nat, (valW S2 w3).toInt = -(T : Int) := ⟨(-(valW S2 w3).toInt).toNat, by omega⟩
        have e72 : m_WS_offset_72 g g S (nI l.length) (nI (stC cs p)) (nI i) (valW S2 w3) 0 = m_WS_offset_120 g g S (nI l.length) (nI (stC cs p)) (nI i) (valW S2 w3) 0 := by
          rw [show m_WS_offset_72 g g = m_WS_offset_72 g (g' + 1) from by rw [← hg']]
          show b_WS_offset_72 g (m_WS_offset_72 g g') _ _ _ _ _ _ = _
          unfold b_WS_offset_72
          rw [if_neg (fun z => by
            rw [Int64.lt_iff_toInt_lt, j64, show (0 : Int32).toInt = 0 from rfl] at z
            omega)]
        rw [e72] at hC
        rw [show m_offset_6 g g (sI S2 0 57 0) (nI q) (nI i) (valW S2 w3) = m_offset_51 g g (sI S2 0 57 0) (nI q) (nI i) (valW S2 w3) from by
          rw [show m_offset_6 g g = m_offset_6 g (g' + 1) from by rw [← hg']]
          show b_offset_6 g (m_offset_6 g g') _ _ _ _ = _
          unfold b_offset_6
          rw [if_neg (fun z => by have := pos64.mp z; omega)]] at hM
        rcases offD (g := g) hT.1 T2 hm' l1 l2 l3 hT9 (by omega) T g g i 0 0 (valW S2 w3) (by omega) (by omega) (by omega) (by omega) (by rfl) hT9 with ⟨j', a1, a2⟩ | ⟨j', a1, a2⟩
        · refine GIV j' (hC.trans a1) ?_
          rw [hM, a2, h970, Option.bind_some]
        · refine REF (hC.trans a1) ?_
          rw [hM, a2, h97, Option.bind_some]
          exact hno _
    · have hcl : z < 0 ∨ nI l.length < z := by
        rw [Int32.lt_iff_toInt_lt, Int32.lt_iff_toInt_lt, nI_toInt (by omega), show (0 : Int32).toInt = 0 from rfl]
        omega
      refine REF ?_ ?_
      · rw [hC]
        by_cases h1 : z < 0
        · rw [if_pos h1]
        · rw [if_neg h1, if_pos (hcl.resolve_left h1)]
      · rw [hM, c01_f (by rw [hv1, z64]; exact hin), if_pos rfl]
        unfold m_looks_97 m_looks_101
        rw [M_ref1 h0', Option.bind_some, if_neg (by rw [sI_58]; decide)]
