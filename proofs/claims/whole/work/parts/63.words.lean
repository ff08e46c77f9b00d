/-! the words of the STEP that is done, on both sides: kind (as the reference has it), value, place -/
abbrev Wd : Type := Nat × Int64 × Int32
def ckW (k : Nat) : Nat := [118, 119, 98, 34, 48, 119, 48, 119, 48, 48].getD k 0
def sgW (k : Nat) : Nat := [32, 32, 32, 32, 32, 64, 64, 63, 63, 32].getD k 32
theorem ckW_b : ∀ k, k < 10 → ckW k < 200 ∧ sgW k < 200 := by decide
def LC (S : St) : Prop := ∀ a, 58 ≤ a → gN S a = gN SC0 a
theorem LCp {S : St} (h : LC S) {p : Nat} (hp : p = 1 ∨ p = 2) : gN S (50 + 8 * p + 0) = 60 ∧ gN S (50 + 8 * p + 1) = 61 ∧ gN S (50 + 8 * p + 2) = 540 ∧ gN S (50 + 8 * p + 3) = 540 ∧ gN S (50 + 8 * p + 4) = 540 ∧ gN S (50 + 8 * p + 5) = 540 ∧ gN S (50 + 8 * p + 6) = 60 ∧ gN S (50 + 8 * p + 7) = 60 := by
  rcases hp with rfl | rfl
  · exact ⟨h 58 (by decide), h 59 (by decide), h 60 (by decide), h 61 (by decide), h 62 (by decide), h 63 (by decide), h 64 (by decide), h 65 (by decide)⟩
  · exact ⟨h 66 (by decide), h 67 (by decide), h 68 (by decide), h 69 (by decide), h 70 (by decide), h 71 (by decide), h 72 (by decide), h 73 (by decide)⟩
/-- the class's Bench stands at a STEP with these words -/
def CurC (S : St) (ws : List Wd) : Prop := ∃ p f, (p = 1 ∨ p = 2) ∧ gR S 4 9 = p ∧ gI S 4 10 = nI f ∧ gI S 4 11 = nI ws.length ∧ f + ws.length ≤ 540 ∧ ∀ j w, ws[j]? = some w → gF S (50 + 8 * p + 2) (f + j) = nI (ckW w.1) ∧ gF S (50 + 8 * p + 3) (f + j) = nI (sgW w.1) ∧ gG S (50 + 8 * p + 4) (f + j) = w.2.1
def CurM (S : St) (a : Nat) (ws : List Wd) : Prop := a + ws.length ≤ 1800 ∧ ∀ j w, ws[j]? = some w → gF S 8 (a + j) = nI w.1 ∧ gG S 10 (a + j) = w.2.1
section WDS
variable {g : Nat} {S S2 : St} {ws : List Wd} {w : Wd} {j : Nat}
theorem B_kind (c : CurC S ws) (hl : LC S) (hw : ws[j]? = some w) : m_Bn_kindAt g S (nI j) = some (nI (ckW w.1)) := by
  obtain ⟨p, f, h1, h2, h3, h4, h5, h6⟩ := c
  have hj := (List.getElem?_eq_some_iff.mp hw).1
  obtain ⟨-, -, n2, -⟩ := LCp hl h1
  unfold m_Bn_kindAt
  rw [if_neg (nI_pos (by omega)), h4, if_pos (nI_lt hj (by omega)), h2, if_pos h1, lt_d, h3, nI_add, aI_at (by omega) (by omega), (h6 j w hw).1]
  rfl
theorem B_sign (c : CurC S ws) (hl : LC S) (hw : ws[j]? = some w) : m_Bn_signAt g S (nI j) = some (nI (sgW w.1)) := by
  obtain ⟨p, f, h1, h2, h3, h4, h5, h6⟩ := c
  have hj := (List.getElem?_eq_some_iff.mp hw).1
  obtain ⟨-, -, -, n3, -⟩ := LCp hl h1
  unfold m_Bn_signAt
  rw [if_neg (nI_pos (by omega)), h4, if_pos (nI_lt hj (by omega)), h2, if_pos h1, lt_d, h3, nI_add, aI_at (by omega) (by omega), (h6 j w hw).2.1]
  rfl
theorem B_val (c : CurC S ws) (hl : LC S) (hw : ws[j]? = some w) : m_Bn_valueAt g S (nI j) = some w.2.1 := by
  obtain ⟨p, f, h1, h2, h3, h4, h5, h6⟩ := c
  have hj := (List.getElem?_eq_some_iff.mp hw).1
  obtain ⟨-, -, -, -, n4, -⟩ := LCp hl h1
  unfold m_Bn_valueAt
  rw [if_neg (nI_pos (by omega)), h4, if_pos (nI_lt hj (by omega)), h2, if_pos h1, lt_d, h3, nI_add, aJ_at (by omega) (by omega), (h6 j w hw).2.2]
  rfl
theorem B_kind0 (c : CurC S ws) (hj : ws.length ≤ j) (hj2 : j < 2 ^ 31) : m_Bn_kindAt g S (nI j) = some (-1) ∧ m_Bn_valueAt g S (nI j) = some 0 := by
  obtain ⟨p, f, h1, h2, h3, h4, h5, h6⟩ := c
  unfold m_Bn_kindAt m_Bn_valueAt
  rw [if_neg (nI_pos (by omega)), h4, if_neg (nI_nlt (by omega) (by omega)), if_neg (nI_pos (by omega)), if_neg (nI_nlt (by omega) (by omega))]
  exact ⟨rfl, rfl⟩
theorem M_word {a : Nat} (c : CurM S2 a ws) (hm : LM S2) (hw : ws[j]? = some w) : aI S2 8 (nI (a + j)) = some (nI w.1) ∧ aJ S2 10 (nI (a + j)) = some w.2.1 := by
  have hj := (List.getElem?_eq_some_iff.mp hw).1
  have h8 : gN S2 8 = 1800 := LMn hm 8
  have h10 : gN S2 10 = 1800 := LMn hm 10
  have := c.1
  rw [aI_at (by omega) (by omega), aJ_at (by omega) (by omega), (c.2 j w hw).1, (c.2 j w hw).2]
  exact ⟨rfl, rfl⟩
/-- a W: a NUMBER, or a w's number -/
def okW (w : Wd) : Prop := (w.1 = 4 ∨ w.1 = 6 ∨ w.1 = 8) ∨ ((w.1 = 1 ∨ w.1 = 5 ∨ w.1 = 7) ∧ ∃ n : Nat, n < 12 ∧ w.2.1.toInt = (n : Int))
def valW (S2 : St) (w : Wd) : Int64 := if w.1 = 4 ∨ w.1 = 6 ∨ w.1 = 8 then w.2.1 else gG S2 32 w.2.1.toInt.toNat
def WR (S S2 : St) : Prop := ∀ i, i < 12 → gG S 75 i = gG S2 32 i
theorem M_value {a : Nat} (c : CurM S2 a ws) (hm : LM S2) (hw : ws[j]? = some w) (ok : okW w) : m_value g S2 (nI (a + j)) = some (valW S2 w) := by
  obtain ⟨e1, e2⟩ := M_word c hm hw
  have h32 : gN S2 32 = 12 := LMn hm 32
  unfold m_value valW
  rw [e1, e2, Option.bind_some, Option.bind_some, Option.bind_some, Option.bind_some, Option.bind_some]
  rcases ok with h | ⟨h, n, hn, hv⟩
  · rw [if_pos h]
    rcases h with h | h | h <;> rw [h] <;> rfl
  · have hno : ¬ (w.1 = 4 ∨ w.1 = 6 ∨ w.1 = 8) := by omega
    rw [if_neg hno, j32 hv (by omega), hv, Int.toNat_natCast, aJ_at (by omega) (by omega)]
    rcases h with h | h | h <;> rw [h] <;> rfl
theorem l64_lt {x : Int64} {n k : Nat} (hv : x.toInt = (n : Int)) (hk : (OfNat.ofNat k : Int64).toInt = (k : Int)) : (x < (OfNat.ofNat k : Int64)) ↔ n < k := by
  rw [Int64.lt_iff_toInt_lt, hv, hk]
  omega
theorem B_whole (c : CurC S ws) (hl : LC S) (hw : ws[j]? = some w) (ok : okW w) (hW : WR S S2) : m_Bn_wholeAt g S (nI j) = some (valW S2 w) := by
  have h75 : gN S 75 = 12 := hl 75 (by decide)
  unfold m_Bn_wholeAt valW
  rw [B_val c hl hw, B_kind c hl hw, Option.bind_some, Option.bind_some]
  rcases ok with h | ⟨h, n, hn, hv⟩
  · rw [if_pos h, if_pos]
    rcases h with h | h | h <;> rw [h] <;> rfl
  · have h48 : ¬ nI (ckW w.1) = 48 := by rcases h with h | h | h <;> rw [h] <;> decide +kernel
    have hno : ¬ (w.1 = 4 ∨ w.1 = 6 ∨ w.1 = 8) := by omega
    have h0 : ¬ w.2.1 < (0 : Int64) := fun z => by rw [Int64.lt_iff_toInt_lt, z64] at z; omega
    have h12 : w.2.1 < (12 : Int64) := (l64_lt (k := 12) hv (by decide +kernel)).mpr hn
    rw [if_neg h48, if_neg hno, if_neg h0, if_pos h12, j32 hv (by omega), hv, Int.toNat_natCast, aJ_at (by omega) (by omega), ← hW n hn]
    rfl
/-- numbers of texts on both sides: both MISSING, or one text -/
def tRel (φ : Nat → Option Nat) (x y : Int32) : Prop := (x = -1 ∧ y = -1) ∨ ∃ p q, x = nI p ∧ y = nI q ∧ φ p = some q ∧ p < 1465 ∧ q < 1700
def VR (φ : Nat → Option Nat) (S S2 : St) : Prop := ∀ v, v < 20 → tRel φ (gF S 74 v) (gF S2 26 v)
/-- a T: a v's number, or a LITERAL's -/
def okT (φ : Nat → Option Nat) (S S2 : St) (w : Wd) : Prop := (w.1 = 0 ∧ ∃ n : Nat, n < 20 ∧ w.2.1.toInt = (n : Int)) ∨ (w.1 = 3 ∧ ∃ (n : Nat) (ls : List Int32), n < 24 ∧ w.2.1.toInt = (n : Int) ∧ Rw S 21 ls 0 ∧ tRel φ (atR ls (nI n)) (gF S2 16 n) ∧ atR ls (nI n) ≠ -1)
theorem MB_text {φ : Nat → Option Nat} {a : Nat} (c : CurC S ws) (cm : CurM S2 a ws) (hl : LC S) (hm : LM S2) (hw : ws[j]? = some w) (ok : okT φ S S2 w) (hV : VR φ S S2) : ∃ x y, m_Bn_textAt g S (nI j) = some x ∧ m_text g S2 (nI (a + j)) = some y ∧ tRel φ x y ∧ (w.1 = 3 → x ≠ -1) := by
  obtain ⟨e1, e2⟩ := M_word cm hm hw
  have h74 : gN S 74 = 20 := hl 74 (by decide)
  have h26 : gN S2 26 = 20 := LMn hm 26
  have h16 : gN S2 16 = 24 := LMn hm 16
  rcases ok with ⟨h, n, hn, hv⟩ | ⟨h, n, ls, hn, hv, hR, ht, hne⟩
  · refine ⟨gF S 74 n, gF S2 26 n, ?_, ?_, hV n hn, fun z => by omega⟩
    · unfold m_Bn_textAt
      rw [B_val c hl hw, B_kind c hl hw, Option.bind_some, lt_d, Option.bind_some, h, if_neg (by decide +kernel), j32 hv (by omega)]
      unfold m_Bn_textOf
      rw [if_neg (nI_pos (by omega)), if_pos (show nI n < (20 : Int32) from nI_lt (b := 20) hn (by omega)), aI_at (by omega) (by omega)]
      rfl
    · unfold m_text
      rw [e1, e2, h, Option.bind_some, if_pos (show nI 0 = (0 : Int32) from rfl), Option.bind_some, j32 hv (by omega), aI_at (by omega) (by omega)]
      rfl
  · refine ⟨atR ls (nI n), gF S2 16 n, ?_, ?_, ht, fun _ => hne⟩
    · unfold m_Bn_textAt
      rw [B_val c hl hw, B_kind c hl hw, Option.bind_some, lt_d, Option.bind_some, h, if_pos (by decide +kernel), j32 hv (by omega), R_at hR]
      rfl
    · unfold m_text
      rw [e1, e2, h, Option.bind_some, if_neg (by decide +kernel), Option.bind_some, j32 hv (by omega), aI_at (by omega) (by omega)]
      rfl
end WDS
