/-! a STEP on both sides -/
/-- what the class does for a STEP of sort s -/
def doC (g : Nat) (S : St) (s : Nat) : Option (St × Int32) := (m_Bn_lacksText g S s).bind fun q => if q.2 = 0 then (if grT.getD s 0 = 0 then m_TS_give g q.1 s else if grT.getD s 0 = 3 then m_TS_giveParts g q.1 s else if grT.getD s 0 = 1 then m_WS_give g q.1 s else if grT.getD s 0 = 2 then m_BS_change g q.1 s else if s = 55 then m_Bn_addMark g q.1 else some (q.1, 0)) else some (q.1, 4)
def argN (w : Wd) (n : Nat) : Prop := ∃ m : Nat, m < n ∧ w.2.1.toInt = (m : Int)
/-- a word is as its letter asks -/
def okL (U : Nat → Prop) (c : Int32) (w : Wd) : Prop :=
  (c = 118 ∧ w.1 = 0 ∧ argN w 20) ∨ (c = 119 ∧ w.1 = 1 ∧ argN w 12) ∨ ((c = 98 ∨ c = 66) ∧ w.1 = 2 ∧ argN w 6) ∨ ((c = 84 ∨ c = 116) ∧ ((w.1 = 0 ∧ argN w 20) ∨ (w.1 = 3 ∧ ∃ n : Nat, U n ∧ w.2.1.toInt = (n : Int)))) ∨ (c = 87 ∧ ((w.1 = 1 ∧ argN w 12) ∨ w.1 = 4)) ∨ (c = 88 ∧ ((w.1 = 0 ∧ argN w 20) ∨ (w.1 = 3 ∧ ∃ n : Nat, U n ∧ w.2.1.toInt = (n : Int)) ∨ (w.1 = 2 ∧ argN w 6) ∨ ((w.1 = 1 ∨ w.1 = 5 ∨ w.1 = 7) ∧ argN w 12) ∨ (w.1 = 4 ∨ w.1 = 6 ∨ w.1 = 8))) ∨ (c = 78 ∧ w.1 = 9)
def WOK (U : Nat → Prop) (s : Nat) (ws : List Wd) : Prop := (leT.getD s 0).toNatClampNeg ≤ ws.length ∧ ws.length ≤ (byT.getD (wdT.getD s 0) []).length ∧ ∀ j w, ws[j]? = some w → okL U (lett s (nI j)) w
/-- sort s is done alike -/
def StOK (s : Nat) : Prop := ∀ (g : Nat) (U : Nat → Prop) (k : Nat) (S S2 : St) (ws : List Wd) (a : Nat), 100000 ≤ g → k < 60 → RSx U k S S2 → CurC S ws → CurM S2 a ws → WOK U s ws → gI S2 0 58 = 0 → ∃ S' S2' kd, doC g S s = some (S', nI kd) ∧ m_does g S2 (nI s) (nI a) (nI ws.length) = some S2' ∧ gI S2' 0 58 = nI kd ∧ kd ≤ 5 ∧ RSx U (k + 1) S' S2' ∧ FC S S' ∧ FS S2 S2'
theorem Bd.up {k : Nat} {cs ts : List (List Int32)} {u : Nat} {pl : List Nat} (h : Bd k cs ts u pl) : Bd (k + 1) cs ts u pl := by
  unfold Bd at *
  omega
theorem RSx.up {U : Nat → Prop} {k : Nat} {S S2 : St} (h : RSx U k S S2) : RSx U (k + 1) S S2 := by
  obtain ⟨φ, cs, ts, u, pl, pm, ps, qs, h1, h2⟩ := h
  exact ⟨φ, cs, ts, u, pl, pm, ps, qs, h1, h2.up⟩
section LKS
variable {g : Nat} {S S2 : St} {ws : List Wd}
theorem lacks_l {s : Nat} (c : CurC S ws) (hx : ∀ j w, ws[j]? = some w → lett s (nI j) = 84 → ∃ x, m_Bn_textAt g S (nI j) = some x) : ∀ (k n i : Nat), i + k = ws.length → k < n → m_Bn_lacksText_2 g n S s (nI i) = some (S, c01 (∃ j, i ≤ j ∧ j < ws.length ∧ lett s (nI j) = 84 ∧ m_Bn_textAt g S (nI j) = some (-1))) := by
  obtain ⟨p, f, h1, h2, h3, h4, h5, h6⟩ := c
  intro k
  induction k with
  | zero =>
    intro n i hi hn
    obtain ⟨n, rfl⟩ : ∃ m, n = m + 1 := ⟨n - 1, by omega⟩
    show b_Bn_lacksText_2 g (m_Bn_lacksText_2 g n) S s (nI i) = _
    unfold b_Bn_lacksText_2
    rw [h4, if_pos (nI_le (by omega) (by omega)), c01_f]
    rintro ⟨j, q1, q2, -⟩
    omega
  | succ k ih =>
    intro n i hi hn
    obtain ⟨n, rfl⟩ : ∃ m, n = m + 1 := ⟨n - 1, by omega⟩
    show b_Bn_lacksText_2 g (m_Bn_lacksText_2 g n) S s (nI i) = _
    unfold b_Bn_lacksText_2
    have hlt : i < ws.length := by omega
    have nx := ih n (i + 1) (by omega) (by omega)
    rw [h4, if_neg (nI_ge (by omega) (by omega))]
    by_cases hT : lett s (nI i) = 84
    · obtain ⟨x, hx⟩ := hx i ws[i] (by simp [hlt]) hT
      rw [if_pos hT, hx, Option.bind_some]
      by_cases hm : x = -1
      · rw [if_pos hm, c01_t ⟨i, Nat.le_refl _, hlt, hT, by rw [hx, hm]⟩]
      · rw [if_neg hm, lt_d, show nI i + 1 = nI (i + 1) from nI_1 i, nx]
        refine congrArg (fun z => some (S, z)) (c01_iff ⟨?_, ?_⟩)
        · rintro ⟨j, q1, q2⟩
          exact ⟨j, by omega, q2⟩
        · rintro ⟨j, q1, q2, q3, q4⟩
          by_cases e : j = i
          · subst e
            rw [hx] at q4
            exact absurd (Option.some.inj q4) hm
          · exact ⟨j, by omega, q2, q3, q4⟩
    · rw [if_neg hT, lt_d, show nI i + 1 = nI (i + 1) from nI_1 i, nx]
      refine congrArg (fun z => some (S, z)) (c01_iff ⟨?_, ?_⟩)
      · rintro ⟨j, q1, q2⟩
        exact ⟨j, by omega, q2⟩
      · rintro ⟨j, q1, q2, q3, q4⟩
        by_cases e : j = i
        · subst e
          exact absurd q3 hT
        · exact ⟨j, by omega, q2, q3, q4⟩
theorem lacks {s : Nat} (hg : 100000 ≤ g) (c : CurC S ws) (hx : ∀ j w, ws[j]? = some w → lett s (nI j) = 84 → ∃ x, m_Bn_textAt g S (nI j) = some x) : m_Bn_lacksText g S s = some (S, c01 (∃ j, j < ws.length ∧ lett s (nI j) = 84 ∧ m_Bn_textAt g S (nI j) = some (-1))) := by
  have h5 : ws.length ≤ 540 := by
    obtain ⟨p, f, -, -, -, -, h5, -⟩ := c
    omega
  have := lacks_l (g := g) c hx ws.length g 0 (by omega) (by omega)
  refine this.trans (congrArg (fun z => some (S, z)) (c01_iff ⟨?_, ?_⟩))
  · rintro ⟨j, -, q⟩
    exact ⟨j, q⟩
  · rintro ⟨j, q⟩
    exact ⟨j, Nat.zero_le _, q⟩
/-- giveWhole, givesWhole -/
theorem B_gw {w : Wd} {n : Nat} {x : Int64} (c : CurC S ws) (hl : LC S) (hw : ws[0]? = some w) (hn : n < 12) (hv : w.2.1.toInt = (n : Int)) : m_Bn_giveWhole g S x = some (sG S 75 n x, 0) := by
  have h75 : gN S 75 = 12 := hl 75 (by decide)
  unfold m_Bn_giveWhole
  rw [show (0 : Int32) = nI 0 from rfl, B_val c hl hw, Option.bind_some, j32 hv (by omega)]
  unfold m_Bn_setWhole
  rw [if_neg (nI_pos (by omega)), if_neg (show ¬ (12 : Int32) ≤ nI n from nI_ge (b := 12) hn (by omega)), tJ_at (by omega) (by omega)]
  rfl
theorem M_gw {a : Nat} {w : Wd} {n : Nat} {x : Int64} (c : CurM S2 a ws) (hm : LM S2) (hw : ws[0]? = some w) (hn : n < 12) (hv : w.2.1.toInt = (n : Int)) (h0 : gI S2 0 58 = 0) : m_givesWhole g S2 (nI a) x = some (sG S2 32 n x) := by
  have h32 : gN S2 32 = 12 := LMn hm 32
  have e := (M_word c hm hw).2
  unfold m_givesWhole
  rw [if_pos h0, show nI a = nI (a + 0) from rfl, e, Option.bind_some, j32 hv (by omega), tJ_at (by omega) (by omega)]
  rfl
theorem B_gt {w : Wd} {n : Nat} {x : Int32} (c : CurC S ws) (hl : LC S) (hw : ws[0]? = some w) (hn : n < 20) (hv : w.2.1.toInt = (n : Int)) : m_Bn_giveText g S x = some (sF S 74 n x, 0) := by
  have h74 : gN S 74 = 20 := hl 74 (by decide)
  unfold m_Bn_giveText
  rw [show (0 : Int32) = nI 0 from rfl, B_val c hl hw, Option.bind_some, lt_d, j32 hv (by omega)]
  rw [if_neg (show ¬ nI n < nI 0 from nI_pos (by omega)), if_neg (show ¬ (20 : Int32) ≤ nI n from nI_ge (b := 20) hn (by omega)), tI_at (by omega) (by omega)]
  rfl
theorem M_gt {a : Nat} {w : Wd} {n : Nat} {x : Int32} (c : CurM S2 a ws) (hm : LM S2) (hw : ws[0]? = some w) (hn : n < 20) (hv : w.2.1.toInt = (n : Int)) (h0 : gI S2 0 58 = 0) : m_givesText g S2 (nI a) x = some (sF S2 26 n x) := by
  have h26 : gN S2 26 = 20 := LMn hm 26
  have e := (M_word c hm hw).2
  unfold m_givesText
  rw [if_pos h0, show nI a = nI (a + 0) from rfl, e, Option.bind_some, j32 hv (by omega), tI_at (by omega) (by omega)]
  rfl
end LKS
