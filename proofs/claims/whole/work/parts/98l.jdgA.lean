/-! the judge: bits, roles -/
def bL (L : Int64) (k : Nat) : Bool := L.toBitVec.getLsbD k
def bI (L : Int32) (k : Nat) : Bool := L.toBitVec.getLsbD k
theorem bL_or {L x : Int64} {m j : Nat} (hx : ∀ j, bL x j = decide (m = j)) : bL (L ||| x) j = (bL L j || decide (m = j)) := by
  have := hx j
  unfold bL at *
  rw [Int64.toBitVec_or, BitVec.getLsbD_or, this]
theorem bI_or {L x : Int32} {m j : Nat} (hx : ∀ j, bI x j = decide (m = j)) : bI (L ||| x) j = (bI L j || decide (m = j)) := by
  have := hx j
  unfold bI at *
  rw [Int32.toBitVec_or, BitVec.getLsbD_or, this]
theorem bL_and {L x : Int64} {m : Nat} (hx : ∀ j, bL x j = decide (m = j)) : (L &&& x = x) ↔ bL L m = true := by
  constructor
  · intro h
    have h1 : bL (L &&& x) m = bL x m := by rw [h]
    have h2 := hx m
    unfold bL at *
    rw [Int64.toBitVec_and, BitVec.getLsbD_and, h2] at h1
    simpa using h1
  · intro h
    apply Int64.toBitVec_inj.mp
    apply BitVec.eq_of_getLsbD_eq
    intro i hi
    have h2 := hx i
    unfold bL at *
    rw [Int64.toBitVec_and, BitVec.getLsbD_and, h2]
    by_cases e : m = i
    · subst e
      rw [h]
      rfl
    · simp [e]
theorem bI_and {L x : Int32} {m : Nat} (hx : ∀ j, bI x j = decide (m = j)) : (L &&& x = 0) ↔ ¬ bI L m = true := by
  constructor
  · intro h h3
    have h1 : bI (L &&& x) m = bI 0 m := by rw [h]
    have h2 := hx m
    have h0 : bI 0 m = false := by unfold bI; simp
    rw [h0] at h1
    unfold bI at *
    rw [Int32.toBitVec_and, BitVec.getLsbD_and, h2, h3] at h1
    simp at h1
  · intro h
    apply Int32.toBitVec_inj.mp
    apply BitVec.eq_of_getLsbD_eq
    intro i hi
    have h2 := hx i
    unfold bI at *
    rw [Int32.toBitVec_and, BitVec.getLsbD_and, h2]
    by_cases e : m = i
    · subst e
      rw [Bool.not_eq_true] at h
      rw [h]
      simp
    · simp [e]
theorem tp64 : ∀ m, m < 38 → ((1 : Int64) <<< ((nI m).toInt64 &&& 63)).toBitVec = BitVec.twoPow 64 m := by decide +kernel
theorem tp32 : ∀ m, m < 31 → ((1 : Int32) <<< ((nI m) &&& 31)).toBitVec = BitVec.twoPow 32 m := by decide +kernel
theorem b64 {m : Nat} (h : m < 38) : ∀ j, bL ((1 : Int64) <<< ((nI m).toInt64 &&& 63)) j = decide (m = j) := by
  intro j
  unfold bL
  rw [tp64 m h, BitVec.getLsbD_twoPow]
  have : decide (m < 64) = true := by simp; omega
  rw [this, Bool.true_and]
theorem b32 {m : Nat} (h : m < 31) : ∀ j, bI ((1 : Int32) <<< ((nI m) &&& 31)) j = decide (m = j) := by
  intro j
  unfold bI
  rw [tp32 m h, BitVec.getLsbD_twoPow]
  have : decide (m < 32) = true := by simp; omega
  rw [this, Bool.true_and]
theorem an31 : ∀ m, m < 32 → ((Int64.ofNat m) &&& (31 : Int64)).toInt32 = nI m := by decide +kernel
theorem j_of {x : Int64} {n : Nat} (h : x.toInt = (n : Int)) (hn : n < 2 ^ 62) : x = Int64.ofNat n := by
  apply Int64.toInt_inj.mp
  rw [h, Int64.toInt_ofNat_of_lt (by omega)]
theorem b32J {x : Int64} {m : Nat} (hx : x.toInt = (m : Int)) (h : m < 31) : ∀ j, bI ((1 : Int32) <<< (((x &&& (31 : Int64)).toInt32) &&& 31)) j = decide (m = j) := by
  rw [j_of hx (by omega), an31 m (by omega)]
  exact b32 h
/-- the role of a word in the reference -/
def rolF (s j : Nat) : Int32 := if s = 4 ∧ 0 < j then (if 8 < j then 0 else 6) else if s = 45 ∧ 0 < j then (if 8 < j then 0 else 5) else
  (let d := Nat.repeat (fun x : Int32 => x / 10) j (if 28 ≤ s then kwordsB.getD (s - 28) 0 else kwordsA.getD s 0); d - d / 10 * 10)
/-- the tables of the reference stand -/
def TabM (S : St) : Prop := (∀ i, gF S 3 i = kwordsA.getD i 0) ∧ (∀ i, gF S 4 i = kwordsB.getD i 0) ∧ (∀ i, gG S 1 i = knamesA.getD i 0) ∧ ∀ i, gG S 2 i = knamesB.getD i 0
theorem rp_s (f : Int32 → Int32) : ∀ (j : Nat) (x : Int32), Nat.repeat f j (f x) = Nat.repeat f (j + 1) x := by
  intro j
  induction j with
  | zero => intro x; rfl
  | succ j ih =>
    intro x
    show f (Nat.repeat f j (f x)) = f (Nat.repeat f (j + 1) x)
    rw [ih]
theorem M_rol_l {g : Nat} {S : St} {j : Nat} (hj : j < 1000) : ∀ (k n i : Nat) (x : Int32), i + k = j → k < n → m_roleOf_53 g S n (nI j) x (nI i) = some (Nat.repeat (fun x : Int32 => x / 10) k x - Nat.repeat (fun x : Int32 => x / 10) k x / 10 * 10) := by
  intro k
  induction k with
  | zero =>
    intro n i x hi hn
    obtain ⟨n, rfl⟩ : ∃ m, n = m + 1 := ⟨n - 1, by omega⟩
    show b_roleOf_53 g S (m_roleOf_53 g S n) _ _ _ = _
    unfold b_roleOf_53
    rw [if_pos (nI_le (by omega) (by omega))]
    rfl
  | succ k ih =>
    intro n i x hi hn
    obtain ⟨n, rfl⟩ : ∃ m, n = m + 1 := ⟨n - 1, by omega⟩
    show b_roleOf_53 g S (m_roleOf_53 g S n) _ _ _ = _
    unfold b_roleOf_53
    rw [if_neg (nI_ge (by omega) (by omega)), lt_d, lt_d, nI_1, ih n (i + 1) _ (by omega) (by omega), rp_s (fun x : Int32 => x / 10)]
theorem M_role {g s j : Nat} {S : St} (hg : 100000 ≤ g) (hm : LM S) (tb : TabM S) (hs : s < 56) (hj : j < 20) : m_roleOf g S (nI s) (nI j) = some (rolF s j) := by
  have h3 : gN S 3 = 28 := LMn hm 3
  have h4 : gN S 4 = 28 := LMn hm 4
  have e44 : m_roleOf_44 g S (nI s) (nI j) = some (let d := Nat.repeat (fun x : Int32 => x / 10) j (if 28 ≤ s then kwordsB.getD (s - 28) 0 else kwordsA.getD s 0); d - d / 10 * 10) := by
    unfold m_roleOf_44 m_wordsOf
    by_cases h : 28 ≤ s
    · rw [if_pos (show (28 : Int32) ≤ nI s from nI_le (a := 28) h (by omega)), show nI s - (28 : Int32) = nI (s - 28) from nI_sub (b := 28) h, aI_at (by omega) (by omega), tb.2.1, Option.bind_some, Option.bind_some, if_pos h]
      exact M_rol_l (by omega) j g 0 _ (by omega) (by omega)
    · rw [if_neg (show ¬ (28 : Int32) ≤ nI s from nI_ge (b := 28) (by omega) (by omega)), aI_at (by omega) (by omega), tb.1, Option.bind_some, Option.bind_some, if_neg h]
      exact M_rol_l (by omega) j g 0 _ (by omega) (by omega)
  have e22 : m_roleOf_22 g S (nI s) (nI j) = some (if s = 45 ∧ 0 < j then (if 8 < j then 0 else 5) else (let d := Nat.repeat (fun x : Int32 => x / 10) j (if 28 ≤ s then kwordsB.getD (s - 28) 0 else kwordsA.getD s 0); d - d / 10 * 10)) := by
    unfold m_roleOf_22
    by_cases h : s = 45
    · rw [if_pos (show nI s = 45 by rw [h]; rfl)]
      by_cases h0 : j = 0
      · rw [if_pos (show nI j ≤ 0 by rw [h0]; decide), e44, if_neg (show ¬ (s = 45 ∧ 0 < j) by omega)]
      · rw [if_neg (show ¬ nI j ≤ 0 from nI_ge (a := 0) (by omega) (by omega)), if_pos (show s = 45 ∧ 0 < j from ⟨h, by omega⟩)]
        by_cases h8 : 8 < j
        · rw [if_pos (show (8 : Int32) < nI j from nI_lt (a := 8) h8 (by omega)), if_pos h8]
        · rw [if_neg (show ¬ (8 : Int32) < nI j from nI_nlt (a := 8) (by omega) (by omega)), if_neg h8]
    · rw [if_neg (show ¬ nI s = 45 from fun q => h ((nI_eq (b := 45) (by omega) (by omega)).mp q)), e44, if_neg (show ¬ (s = 45 ∧ 0 < j) by omega)]
  unfold m_roleOf rolF
  by_cases h : s = 4
  · rw [if_pos (show nI s = 4 by rw [h]; rfl)]
    by_cases h0 : j = 0
    · rw [if_pos (show nI j ≤ 0 by rw [h0]; decide), e22, if_neg (show ¬ (s = 4 ∧ 0 < j) by omega)]
    · rw [if_neg (show ¬ nI j ≤ 0 from nI_ge (a := 0) (by omega) (by omega)), if_pos (show s = 4 ∧ 0 < j from ⟨h, by omega⟩)]
      by_cases h8 : 8 < j
      · rw [if_pos (show (8 : Int32) < nI j from nI_lt (a := 8) h8 (by omega)), if_pos h8]
      · rw [if_neg (show ¬ (8 : Int32) < nI j from nI_nlt (a := 8) (by omega) (by omega)), if_neg h8]
  · rw [if_neg (show ¬ nI s = 4 from fun q => h ((nI_eq (b := 4) (by omega) (by omega)).mp q)), e22, if_neg (show ¬ (s = 4 ∧ 0 < j) by omega)]
/-- roles and letters say the same -/
def rlL (r c : Int32) : Prop := (r = 1 ∧ c = 118) ∨ (r = 2 ∧ c = 119) ∨ (r = 3 ∧ c = 66) ∨ (r = 4 ∧ (c = 84 ∨ c = 116)) ∨ (r = 5 ∧ c = 87) ∨ (r = 6 ∧ c = 88) ∨ (r = 7 ∧ c = 98) ∨ (r = 8 ∧ c = 78)
def rlT : List (Int32 × Int32) := [(1, 118), (2, 119), (3, 66), (4, 84), (4, 116), (5, 87), (6, 88), (7, 98), (8, 78)]
theorem rol_l0 : ∀ s, s < 56 → ∀ j, j < (byT.getD (wdT.getD s 0) []).length → (rlT.contains (rolF s j, lett s (nI j))) = true := by decide +kernel
theorem rol_lt {s j : Nat} (hs : s < 56) (hj : j < (byT.getD (wdT.getD s 0) []).length) : rlL (rolF s j) (lett s (nI j)) := by
  have h := rol_l0 s hs j hj
  generalize rolF s j = r at *
  generalize lett s (nI j) = c at *
  unfold rlT at h
  simp only [List.contains_eq_mem, List.mem_cons, List.not_mem_nil, decide_eq_true_eq, Prod.mk.injEq, or_false] at h
  unfold rlL
  rcases h with h | h | h | h | h | h | h | h | h
  · exact Or.inl h
  · exact Or.inr (Or.inl h)
  · exact Or.inr (Or.inr (Or.inl h))
  · exact Or.inr (Or.inr (Or.inr (Or.inl ⟨h.1, Or.inl h.2⟩)))
  · exact Or.inr (Or.inr (Or.inr (Or.inl ⟨h.1, Or.inr h.2⟩)))
  · exact Or.inr (Or.inr (Or.inr (Or.inr (Or.inl h))))
  · exact Or.inr (Or.inr (Or.inr (Or.inr (Or.inr (Or.inl h)))))
  · exact Or.inr (Or.inr (Or.inr (Or.inr (Or.inr (Or.inr (Or.inl h))))))
  · exact Or.inr (Or.inr (Or.inr (Or.inr (Or.inr (Or.inr (Or.inr h))))))
theorem byT9 : ∀ s, s < 56 → (byT.getD (wdT.getD s 0) []).length ≤ 9 := by decide +kernel
theorem sOf {g p i s : Nat} {S : St} {P : Prg} {ws : List Wd} (pc : PrC S p P) (hl : LC S) (hi : P[i]? = some (s, ws)) (hs : s < 56) : m_Pg_sortOf g S p (nI i) = some s := by
  obtain ⟨c1, c2, c3, c4, c5, c6⟩ := pc
  have hil := (List.getElem?_eq_some_iff.mp hi).1
  obtain ⟨n0, -⟩ := LCp hl c1
  unfold m_Pg_sortOf
  rw [aI_at (by omega) (by omega), (c6 i s ws hi).1, Option.bind_some]
  have key : ∀ s, s < 56 → eS (nI s) = some s := by decide +kernel
  exact key s hs
/-- the place of a word's name among what is GIVEN -/
def gbit (w : Wd) : Option Nat := if w.1 = 0 then some w.2.1.toInt.toNat else if w.1 = 1 ∨ w.1 = 5 ∨ w.1 = 7 then some (20 + w.2.1.toInt.toNat) else if w.1 = 2 then some (32 + w.2.1.toInt.toNat) else none
/-- a word's name is as its kind asks -/
def nmOK (w : Wd) : Prop := w.1 < 10 ∧ (w.1 = 0 → argN w 20) ∧ ((w.1 = 1 ∨ w.1 = 5 ∨ w.1 = 7) → argN w 12) ∧ (w.1 = 2 → argN w 6)
theorem okL_nm {U : Nat → Prop} {c : Int32} {w : Wd} (h : okL U c w) : nmOK w := by
  unfold okL at h
  unfold nmOK
  rcases h with ⟨-, h, hn⟩ | ⟨-, h, hn⟩ | ⟨-, h, hn⟩ | ⟨-, ⟨h, hn⟩ | ⟨h, -⟩⟩ | ⟨-, ⟨h, hn⟩ | h⟩ | ⟨-, ⟨h, hn⟩ | ⟨h, -⟩ | ⟨h, hn⟩ | ⟨h, hn⟩ | h⟩ | ⟨-, h⟩
  all_goals refine ⟨by omega, fun e => ?_, fun e => ?_, fun e => ?_⟩
  all_goals first
    | exact hn
    | exact absurd h (by omega)
theorem argN_n {w : Wd} {n : Nat} (h : argN w n) : w.2.1.toInt.toNat < n ∧ w.2.1.toInt = ((w.2.1.toInt.toNat : Nat) : Int) := by
  obtain ⟨m, h1, h2⟩ := h
  omega
theorem gbit_b {w : Wd} {m : Nat} (ok : nmOK w) (h : gbit w = some m) : m < 38 := by
  unfold gbit at h
  obtain ⟨-, o1, o2, o3⟩ := ok
  split at h
  · rename_i e
    have := (argN_n (o1 e)).1
    have := Option.some.inj h
    omega
  · split at h
    · rename_i e
      have := (argN_n (o2 e)).1
      have := Option.some.inj h
      omega
    · split at h
      · rename_i e
        have := (argN_n (o3 e)).1
        have := Option.some.inj h
        omega
      · exact absurd h (by simp)
theorem C_bit {g p i j s : Nat} {S : St} {P : Prg} {ws : List Wd} {w : Wd} (pc : PrC S p P) (hl : LC S) (hi : P[i]? = some (s, ws)) (hw : ws[j]? = some w) (ok : nmOK w) : ∃ x, m_Pg_givenBit g S p (nI (fsP P i + j)) = some x ∧ ((gbit w = none ∧ x = 0) ∨ ∃ m, m < 38 ∧ gbit w = some m ∧ ∀ k, bL x k = decide (m = k)) := by
  obtain ⟨c1, c2, c3, c4, c5, c6⟩ := pc
  have hil := (List.getElem?_eq_some_iff.mp hi).1
  have hjl := (List.getElem?_eq_some_iff.mp hw).1
  obtain ⟨n0, n1, n2, n3, n4, -⟩ := LCp hl c1
  have hf := fsP_s hi
  have hle := fsP_le (P := P) (i := i + 1)
  obtain ⟨q1, q2, q3, -⟩ := (c6 i s ws hi).2 j w hw
  obtain ⟨o0, o1, o2, o3⟩ := ok
  unfold m_Pg_givenBit
  rw [aI_at (by omega) (by omega), q1, Option.bind_some, aJ_at (by omega) (by omega), q3]
  have t1 : ∀ z, z < 10 → (nI (ckW z) = 98 ↔ z = 2) ∧ (nI (ckW z) = 118 ↔ z = 0) ∧ (nI (ckW z) = 119 ↔ (z = 1 ∨ z = 5 ∨ z = 7)) := by decide +kernel
  obtain ⟨t98, t118, t119⟩ := t1 w.1 o0
  by_cases h2 : w.1 = 2
  · obtain ⟨a1, a2⟩ := argN_n (o3 h2)
    rw [if_pos (t98.mpr h2), Option.bind_some]
    refine ⟨_, rfl, Or.inr ⟨32 + w.2.1.toInt.toNat, by omega, ?_, ?_⟩⟩
    · unfold gbit
      rw [if_neg (by omega), if_neg (by omega), if_pos h2]
    · rw [show ((32 : Int64) + w.2.1).toInt32 = nI (32 + w.2.1.toInt.toNat) from by
        rw [Int64.toInt32_add, j32 a2 (by omega)]
        exact nI_add 32 _]
      exact b64 (by omega)
  · rw [if_neg (fun h => h2 (t98.mp h))]
    by_cases h0 : w.1 = 0
    · obtain ⟨a1, a2⟩ := argN_n (o1 h0)
      rw [if_pos (t118.mpr h0), Option.bind_some]
      refine ⟨_, rfl, Or.inr ⟨w.2.1.toInt.toNat, by omega, ?_, ?_⟩⟩
      · unfold gbit
        rw [if_pos h0]
      · rw [j32 a2 (by omega)]
        exact b64 (by omega)
    · rw [if_neg (fun h => h0 (t118.mp h))]
      by_cases h1 : w.1 = 1 ∨ w.1 = 5 ∨ w.1 = 7
      · obtain ⟨a1, a2⟩ := argN_n (o2 h1)
        rw [if_pos (t119.mpr h1), Option.bind_some]
        refine ⟨_, rfl, Or.inr ⟨20 + w.2.1.toInt.toNat, by omega, ?_, ?_⟩⟩
        · unfold gbit
          rw [if_neg (by omega), if_pos h1]
        · rw [show ((20 : Int64) + w.2.1).toInt32 = nI (20 + w.2.1.toInt.toNat) from by
            rw [Int64.toInt32_add, j32 a2 (by omega)]
            exact nI_add 20 _]
          exact b64 (by omega)
      · rw [if_neg (fun h => h1 (t119.mp h))]
        refine ⟨_, rfl, Or.inl ⟨?_, rfl⟩⟩
        unfold gbit
        rw [if_neg h0, if_neg h1, if_neg h2]
/-- what is GIVEN, in the reference -/
def MG (S : St) (G : Nat → Bool) : Prop := (∀ n, n < 20 → bI (gI S 0 27) n = G n) ∧ (∀ n, n < 12 → bI (gI S 0 28) n = G (20 + n)) ∧ ∀ n, n < 6 → bI (gI S 0 29) n = G (32 + n)
def CG (S : St) (p : Nat) (G : Nat → Bool) : Prop := ∀ k, k < 38 → bL (gL S p 12) k = G k
theorem bl_c {b : Bool} {P : Prop} (h : P ↔ ¬ b = true) {α : Type} {x y : α} [Decidable P] : (if P then x else y) = (if b then y else x) := by
  by_cases hb : b = true
  · rw [if_neg (fun hp => h.mp hp hb), if_pos hb]
  · rw [if_pos (h.mpr hb), if_neg hb]
theorem M_isG {g : Nat} {S : St} {G : Nat → Bool} {w : Wd} (mg : MG S G) (ok : nmOK w) : m_isGiven g S (nI w.1) w.2.1 = some (match gbit w with | none => 1 | some m => if G m then 1 else 0) := by
  obtain ⟨o0, o1, o2, o3⟩ := ok
  have t1 : ∀ z, z < 10 → (nI z = 0 ↔ z = 0) ∧ (nI z = 1 ↔ z = 1) ∧ (nI z = 5 ↔ z = 5) ∧ (nI z = 7 ↔ z = 7) ∧ (nI z = 2 ↔ z = 2) := by decide +kernel
  obtain ⟨t0, t1, t5, t7, t2⟩ := t1 w.1 o0
  unfold m_isGiven
  rw [lt_d]
  by_cases h0 : w.1 = 0
  · obtain ⟨a1, a2⟩ := argN_n (o1 h0)
    rw [if_pos (t0.mpr h0), bl_c (bI_and (b32J a2 (by omega))), mg.1 _ a1]
    unfold gbit
    rw [if_pos h0]
    show (if G _ then some 1 else some 0) = some (if G _ then 1 else 0)
    split <;> rfl
  · rw [if_neg (fun h => h0 (t0.mp h))]
    have e46 : (w.1 = 1 ∨ w.1 = 5 ∨ w.1 = 7) → m_isGiven_46 g S ((1 : Int32) <<< (((w.2.1 &&& (31 : Int64)).toInt32) &&& 31)) = some (match gbit w with | none => 1 | some m => if G m then 1 else 0) := by
      intro h1
      obtain ⟨a1, a2⟩ := argN_n (o2 h1)
      unfold m_isGiven_46
      rw [bl_c (bI_and (b32J a2 (by omega))), mg.2.1 _ a1]
      unfold gbit
      rw [if_neg h0, if_pos h1]
      show (if G _ then some 1 else some 0) = some (if G _ then 1 else 0)
      split <;> rfl
    by_cases h1 : w.1 = 1
    · rw [if_pos (t1.mpr h1), e46 (Or.inl h1)]
    · rw [if_neg (fun h => h1 (t1.mp h))]
      by_cases h5 : w.1 = 5
      · rw [if_pos (t5.mpr h5), e46 (Or.inr (Or.inl h5))]
      · rw [if_neg (fun h => h5 (t5.mp h))]
        by_cases h7 : w.1 = 7
        · rw [if_pos (t7.mpr h7), e46 (Or.inr (Or.inr h7))]
        · rw [if_neg (fun h => h7 (t7.mp h))]
          by_cases h2 : w.1 = 2
          · obtain ⟨a1, a2⟩ := argN_n (o3 h2)
            rw [if_pos (t2.mpr h2), bl_c (bI_and (b32J a2 (by omega))), mg.2.2 _ a1]
            unfold gbit
            rw [if_neg h0, if_neg (show ¬ (w.1 = 1 ∨ w.1 = 5 ∨ w.1 = 7) by omega), if_pos h2]
            show (if G _ then some 1 else some 0) = some (if G _ then 1 else 0)
            split <;> rfl
          · rw [if_neg (fun h => h2 (t2.mp h))]
            unfold gbit
            rw [if_neg h0, if_neg (show ¬ (w.1 = 1 ∨ w.1 = 5 ∨ w.1 = 7) by omega), if_neg h2]
