/-! READING: codes, signs -/
def hexN (n : Nat) : Option Nat := if 48 ≤ n ∧ n ≤ 57 then some (n - 48) else if 97 ≤ n ∧ n ≤ 102 then some (n - 87) else if 65 ≤ n ∧ n ≤ 70 then some (n - 55) else none
def fourD (y : Int32) : Int32 := if y < 48 then (if y < 97 then (if y < 65 then -1 else if 70 < y then -1 else (y - 65) + 10) else if 102 < y then (if y < 65 then -1 else if 70 < y then -1 else (y - 65) + 10) else (y - 97) + 10) else if 57 < y then (if y < 97 then (if y < 65 then -1 else if 70 < y then -1 else (y - 65) + 10) else if 102 < y then (if y < 65 then -1 else if 70 < y then -1 else (y - 65) + 10) else (y - 97) + 10) else y - 48
def oN (x : Option Nat) : Int32 := match x with | some d => nI d | none => -1
theorem hx_C0 : ∀ n, n < 256 → m_Lt_digit 0 (nI n) 16 = some (oN (hexN n)) := by decide +kernel
theorem hx_M0 : ∀ n, n < 256 → fourD (nI n) = oN (hexN n) := by decide +kernel
theorem hx_C {g n : Nat} (h : n < 256) : m_Lt_digit g (nI n) 16 = some (oN (hexN n)) := hx_C0 n h
theorem four_33 {g : Nat} {k4 : St → Int32 → Int32 → Option (St × Int32)} {S : St} {x1 x2 y : Int32} : m_four_33 g k4 S x1 x2 y = m_four_98 g k4 S x1 x2 (fourD y) := by
  have h75 : m_four_75 g k4 S x1 x2 y = m_four_98 g k4 S x1 x2 (if y < 65 then -1 else if 70 < y then -1 else (y - 65) + 10) := by
    unfold m_four_75 m_four_97
    by_cases q : y < 65
    · rw [if_pos q, if_pos q]
    · rw [if_neg q, if_neg q]
      by_cases q : 70 < y
      · rw [if_pos q, if_pos q]
      · rw [if_neg q, if_neg q]
  have h53 : m_four_53 g k4 S x1 x2 y = m_four_98 g k4 S x1 x2 (if y < 97 then (if y < 65 then -1 else if 70 < y then -1 else (y - 65) + 10) else if 102 < y then (if y < 65 then -1 else if 70 < y then -1 else (y - 65) + 10) else (y - 97) + 10) := by
    unfold m_four_53
    rw [h75]
    by_cases q : y < 97
    · rw [if_pos q, if_pos q]
    · rw [if_neg q, if_neg q]
      by_cases q : 102 < y
      · rw [if_pos q, if_pos q]
      · rw [if_neg q, if_neg q]
  unfold m_four_33 fourD
  rw [h53]
  by_cases q : y < 48
  · rw [if_pos q, if_pos q]
  · rw [if_neg q, if_neg q]
    by_cases q : 57 < y
    · rw [if_pos q, if_pos q]
    · rw [if_neg q, if_neg q]
theorem nI_nat {n : Nat} (h : n < 2 ^ 31) : (nI n).toNatClampNeg = n := by
  show (nI n).toInt.toNat = n
  rw [nI_toInt h]
  omega
/-- m hexadecimal digits from i on, before e -/
def rdH (tp : List Int32) (e : Nat) : Nat → Nat → Nat → Option Nat
  | 0, _, a => some a
  | m + 1, i, a => if i < e then (match hexN (rdB tp i).toNatClampNeg with | some d => rdH tp e m (i + 1) (16 * a + d) | none => none) else none
theorem hexN_b {n d : Nat} (h : hexN n = some d) : d < 16 := by
  unfold hexN at h
  by_cases q : 48 ≤ n ∧ n ≤ 57
  · rw [if_pos q] at h; cases h; omega
  · rw [if_neg q] at h
    by_cases q : 97 ≤ n ∧ n ≤ 102
    · rw [if_pos q] at h; cases h; omega
    · rw [if_neg q] at h
      by_cases q : 65 ≤ n ∧ n ≤ 70
      · rw [if_pos q] at h; cases h; omega
      · rw [if_neg q] at h; cases h
theorem rdH_b {tp : List Int32} {e : Nat} : ∀ (m i a v : Nat), rdH tp e m i a = some v → v < (a + 1) * 16 ^ m ∧ (m = 0 ∨ i + m ≤ e) := by
  intro m
  induction m with
  | zero =>
    intro i a v h
    unfold rdH at h
    cases h
    exact ⟨by omega, Or.inl rfl⟩
  | succ m ih =>
    intro i a v h
    unfold rdH at h
    by_cases q : i < e
    · rw [if_pos q] at h
      cases q2 : hexN (rdB tp i).toNatClampNeg with
      | none => rw [q2] at h; cases h
      | some d =>
        rw [q2] at h
        obtain ⟨a1, a2⟩ := ih (i + 1) (16 * a + d) v h
        have := hexN_b q2
        refine ⟨Nat.lt_of_lt_of_le a1 ?_, Or.inr (by omega)⟩
        rw [Nat.pow_succ, Nat.mul_comm (16 ^ m) 16, ← Nat.mul_assoc]
        exact Nat.mul_le_mul_right _ (by omega)
    · rw [if_neg q] at h; cases h
section RDB
variable {g : Nat} {tp : List Int32} {j le : Nat}
theorem M_four (L : rdL tp j le) : ∀ (m n i a : Nat) (S2 : St), m ≤ 4 → m < n → j ≤ i → i ≤ le → TpM S2 tp → LM S2 → gI S2 0 18 = nI i → ∃ S', m_four_4 g n S2 (nI a) (nI (4 - m)) = some (S', oN (rdH tp le m i a)) ∧ Fi 0 (· = 18) S2 S' ∧ (∀ v, rdH tp le m i a = some v → gI S' 0 18 = nI (i + m)) ∧ ∃ p, p ≤ le ∧ gI S' 0 18 = nI p := by
  intro m
  induction m with
  | zero =>
    intro n i a S2 hm4 hn hj hi t hm h18
    obtain ⟨n, rfl⟩ : ∃ m, n = m + 1 := ⟨n - 1, by omega⟩
    refine ⟨S2, ?_, Fi.rf, fun v _ => h18, i, hi, h18⟩
    show b_four_4 g (m_four_4 g n) S2 (nI a) (nI 4) = _
    unfold b_four_4
    rw [if_pos (by decide)]
    rfl
  | succ m ih =>
    intro n i a S2 hm4 hn hj hi t hm h18
    obtain ⟨n, rfl⟩ : ∃ m, n = m + 1 := ⟨n - 1, by omega⟩
    have h4 := L.2.1
    have h3 := t.2.1
    have eq : m_four_4 g (n + 1) S2 (nI a) (nI (4 - (m + 1))) = b_four_4 g (m_four_4 g n) S2 (nI a) (nI (4 - (m + 1))) := rfl
    unfold b_four_4 at eq
    rw [if_neg (show ¬ (4 : Int32) ≤ nI (4 - (m + 1)) from nI_ge (b := 4) (by omega) (by omega)), h18, M_le t hm L hj hi, Option.bind_some] at eq
    unfold rdH
    by_cases q : i = le
    · rw [if_pos q, if_neg (by decide), four_33] at eq
      rw [if_neg (show ¬ i < le by omega)]
      refine ⟨S2, eq.trans ?_, Fi.rf, (fun v h => by cases h), i, hi, h18⟩
      rw [show fourD 0 = -1 from by decide]
      unfold m_four_98
      rw [if_neg (by decide)]
      rfl
    · rw [if_neg q, if_pos rfl, M_byte t hm (by omega), Option.bind_some, four_33] at eq
      rw [if_pos (show i < le by omega)]
      obtain ⟨b, b1, b2⟩ := rdB_b t.2.2.2 (show i < tp.length by omega)
      rw [b2, hx_M0 b b1] at eq
      rw [b2, nI_nat (by omega)]
      cases q2 : hexN b with
      | none =>
        rw [q2] at eq
        refine ⟨S2, eq.trans ?_, Fi.rf, (fun v h => by cases h), i, hi, h18⟩
        unfold m_four_98 oN
        rw [if_neg (by decide)]
      | some d =>
        have hd := hexN_b q2
        rw [q2] at eq
        unfold m_four_98 oN at eq
        rw [if_pos (nI_pos' (by omega)), lt_d, lt_d, lt_d, nI_1, h18, nI_1, show (16 : Int32) * nI a + nI d = nI (16 * a + d) from by rw [show (16 : Int32) = nI 16 from rfl, nI_mulE, nI_add], show 4 - (m + 1) + 1 = 4 - m by omega] at eq
        have f : Fi 0 (· = 18) S2 (sI S2 0 18 (nI (i + 1))) := Fi.sI rfl
        obtain ⟨S', a1, a2, a3, a4⟩ := ih n (i + 1) (16 * a + d) _ (by omega) (by omega) (by omega) (by omega) (t.fi f (by decide)) (hm.fi f) sI_g
        exact ⟨S', eq.trans a1, f.tr a2, fun v h => by rw [a3 v h]; congr 1; omega, a4⟩
theorem C_code (he : le ≤ tp.length) (hb : ∀ x ∈ tp, ∃ n : Nat, n < 256 ∧ x = nI n) : ∀ (m n i a : Nat) (S : St), m ≤ 4 → m < n → i < 3000 → Rw S 10 tp 0 → gI S 3 3 = nI i → gI S 3 4 = nI le → ∃ S', m_Rd_readCode_4 g n S (nI a) (nI (4 - m)) = some (S', oN (rdH tp le m (i + 1) a)) ∧ Fi 3 (· = 3) S S' ∧ ∀ v, rdH tp le m (i + 1) a = some v → gI S' 3 3 = nI (i + m) := by
  intro m
  induction m with
  | zero =>
    intro n i a S hm4 hn hi w h3 h4
    obtain ⟨n, rfl⟩ : ∃ m, n = m + 1 := ⟨n - 1, by omega⟩
    refine ⟨S, ?_, Fi.rf, fun v _ => h3⟩
    show b_Rd_readCode_4 g (m_Rd_readCode_4 g n) S (nI a) (nI 4) = _
    unfold b_Rd_readCode_4
    rw [if_pos (by decide)]
    rfl
  | succ m ih =>
    intro n i a S hm4 hn hi w h3 h4
    obtain ⟨n, rfl⟩ : ∃ m, n = m + 1 := ⟨n - 1, by omega⟩
    have hl : tp.length ≤ 3000 := w.2.2.2.2.1
    have f : Fi 3 (· = 3) S (sI S 3 3 (nI (i + 1))) := Fi.sI rfl
    have e4 : gI (sI S 3 3 (nI (i + 1))) 3 4 = nI le := by rw [f.1 3 4 (by omega)]; exact h4
    have eq : m_Rd_readCode_4 g (n + 1) S (nI a) (nI (4 - (m + 1))) = b_Rd_readCode_4 g (m_Rd_readCode_4 g n) S (nI a) (nI (4 - (m + 1))) := rfl
    unfold b_Rd_readCode_4 at eq
    rw [if_neg (show ¬ (4 : Int32) ≤ nI (4 - (m + 1)) from nI_ge (b := 4) (by omega) (by omega)), h3, nI_1, lt_d, sI_g, e4] at eq
    unfold rdH
    by_cases q : i + 1 < le
    · rw [if_neg (nI_ge q (by omega)), C_byte (w.fi f (by decide)) (by omega), Option.bind_some] at eq
      rw [if_pos q]
      obtain ⟨b, b1, b2⟩ := rdB_b hb (show i + 1 < tp.length by omega)
      rw [b2, hx_C b1, Option.bind_some] at eq
      rw [b2, nI_nat (by omega)]
      cases q2 : hexN b with
      | none =>
        rw [q2] at eq
        refine ⟨_, eq.trans ?_, f, fun v h => by cases h⟩
        unfold m_Rd_readCode_50 oN
        rw [if_pos rfl]
      | some d =>
        have hd := hexN_b q2
        rw [q2] at eq
        unfold m_Rd_readCode_50 oN at eq
        rw [if_neg (nI_m1 (by omega)), lt_d, lt_d, nI_1, show (16 : Int32) * nI a + nI d = nI (16 * a + d) from by rw [show (16 : Int32) = nI 16 from rfl, nI_mulE, nI_add], show 4 - (m + 1) + 1 = 4 - m by omega] at eq
        obtain ⟨S', a1, a2, a3⟩ := ih n (i + 1) (16 * a + d) _ (by omega) (by omega) (by omega) (w.fi f (by decide)) sI_g e4
        exact ⟨S', eq.trans a1, f.tr a2, fun v h => by rw [a3 v h]; congr 1; omega⟩
    · rw [if_pos (nI_le (by omega) (by omega))] at eq
      rw [if_neg q]
      refine ⟨_, eq.trans ?_, f, fun v h => by cases h⟩
      unfold m_Rd_readCode_50
      rw [if_pos rfl]
      rfl
end RDB
/-- a sign of a LITERAL at i: its unit and the next place -/
def rdG (tp : List Int32) (e i : Nat) : Option (Nat × Nat) :=
  let n := (rdB tp i).toNatClampNeg
  if n < 32 ∨ 126 < n then none else if n = 92 then (if i + 1 < e then (let x := (rdB tp (i + 1)).toNatClampNeg; if x = 34 ∨ x = 92 then some (x, i + 2) else if x = 110 then some (10, i + 2) else if x = 116 then some (9, i + 2) else if x = 117 then (match rdH tp e 4 (i + 2) 0 with | some v => some (v, i + 6) | none => none) else none) else none) else some (n, i + 1)
theorem rdG_b {tp : List Int32} {e i v j : Nat} (hb : ∀ x ∈ tp, ∃ n : Nat, n < 256 ∧ x = nI n) (he : e ≤ tp.length) (hi : i < e) (h : rdG tp e i = some (v, j)) : i < j ∧ j ≤ e ∧ v < 65536 := by
  obtain ⟨b, b1, b2⟩ := rdB_b hb (show i < tp.length by omega)
  unfold rdG at h
  rw [b2, nI_nat (by omega)] at h
  dsimp only at h
  by_cases q : b < 32 ∨ 126 < b
  · rw [if_pos q] at h; cases h
  rw [if_neg q] at h
  by_cases q1 : b = 92
  · rw [if_pos q1] at h
    by_cases q2 : i + 1 < e
    · rw [if_pos q2] at h
      obtain ⟨x, x1, x2⟩ := rdB_b hb (show i + 1 < tp.length by omega)
      rw [x2, nI_nat (by omega)] at h
      by_cases q3 : x = 34 ∨ x = 92
      · rw [if_pos q3] at h; cases h; omega
      rw [if_neg q3] at h
      by_cases q4 : x = 110
      · rw [if_pos q4] at h; cases h; omega
      rw [if_neg q4] at h
      by_cases q5 : x = 116
      · rw [if_pos q5] at h; cases h; omega
      rw [if_neg q5] at h
      by_cases q6 : x = 117
      · rw [if_pos q6] at h
        cases q7 : rdH tp e 4 (i + 2) 0 with
        | none => rw [q7] at h; cases h
        | some v' =>
          rw [q7] at h
          cases h
          have := rdH_b 4 (i + 2) 0 v q7
          omega
      · rw [if_neg q6] at h; cases h
    · rw [if_neg q2] at h; cases h
  · rw [if_neg q1] at h
    cases h
    omega
