/-! helps for the STEPS -/
theorem i_lit {a b : Nat} (ha : a < 2 ^ 31) (hb : b < 2 ^ 31) (h : a ≠ b) : ¬ nI a = nI b := fun q => h ((nI_eq ha hb).mp q)
section HLP
variable {U : Nat → Prop} {w : Wd} {g : Nat} {S S2 : St} {φ : Nat → Option Nat}
theorem okL_v (h : okL U 118 w) : w.1 = 0 ∧ argN w 20 := by
  rcases h with h | h | h | h | h | h | h
  · exact h.2
  · exact absurd h.1 (by decide)
  · exact absurd h.1 (by decide)
  · exact absurd h.1 (by decide)
  · exact absurd h.1 (by decide)
  · exact absurd h.1 (by decide)
  · exact absurd h.1 (by decide)
theorem okL_w (h : okL U 119 w) : w.1 = 1 ∧ argN w 12 := by
  rcases h with h | h | h | h | h | h | h
  · exact absurd h.1 (by decide)
  · exact h.2
  · exact absurd h.1 (by decide)
  · exact absurd h.1 (by decide)
  · exact absurd h.1 (by decide)
  · exact absurd h.1 (by decide)
  · exact absurd h.1 (by decide)
theorem okL_b {c : Int32} (h : okL U c w) (hc : c = 98 ∨ c = 66) : w.1 = 2 ∧ argN w 6 := by
  rcases hc with rfl | rfl
  all_goals
    rcases h with h | h | h | h | h | h | h
    · exact absurd h.1 (by decide)
    · exact absurd h.1 (by decide)
    · exact h.2
    · exact absurd h.1 (by decide)
    · exact absurd h.1 (by decide)
    · exact absurd h.1 (by decide)
    · exact absurd h.1 (by decide)
theorem okL_W (h : okL U 87 w) : okW w := by
  rcases h with h | h | h | h | h | h | h
  · exact absurd h.1 (by decide)
  · exact absurd h.1 (by decide)
  · exact absurd h.1 (by decide)
  · exact absurd h.1 (by decide)
  · rcases h.2 with h | h
    · exact Or.inr ⟨Or.inl h.1, h.2⟩
    · exact Or.inl (Or.inl h)
  · exact absurd h.1 (by decide)
  · exact absurd h.1 (by decide)
theorem okL_T {c : Int32} (h : okL U c w) (hc : c = 84 ∨ c = 116) (hL : LR S S2 φ U) : okT φ S S2 w := by
  have key : (w.1 = 0 ∧ argN w 20) ∨ (w.1 = 3 ∧ ∃ n : Nat, U n ∧ w.2.1.toInt = (n : Int)) := by
    rcases hc with rfl | rfl
    all_goals
      rcases h with h | h | h | h | h | h | h
      · exact absurd h.1 (by decide)
      · exact absurd h.1 (by decide)
      · exact absurd h.1 (by decide)
      · exact h.2
      · exact absurd h.1 (by decide)
      · exact absurd h.1 (by decide)
      · exact absurd h.1 (by decide)
  obtain ⟨ls, l1, l2⟩ := hL
  rcases key with ⟨k1, n, k2, k3⟩ | ⟨k1, n, k2, k3⟩
  · exact Or.inl ⟨k1, n, k2, k3⟩
  · obtain ⟨q1, q2, q3⟩ := l2 n k2
    exact Or.inr ⟨k1, n, ls, q1, k3, l1, q2, q3⟩
theorem ls1 {α : Type} {l : List α} (h : l.length = 1) : ∃ a, l = [a] := by
  match l, h with
  | [a], _ => exact ⟨a, rfl⟩
theorem ls2 {α : Type} {l : List α} (h : l.length = 2) : ∃ a b, l = [a, b] := by
  match l, h with
  | [a, b], _ => exact ⟨a, b, rfl⟩
theorem ls3 {α : Type} {l : List α} (h : l.length = 3) : ∃ a b c, l = [a, b, c] := by
  match l, h with
  | [a, b, c], _ => exact ⟨a, b, c, rfl⟩
theorem ls4 {α : Type} {l : List α} (h : l.length = 4) : ∃ a b c d, l = [a, b, c, d] := by
  match l, h with
  | [a, b, c, d], _ => exact ⟨a, b, c, d, rfl⟩
/-- refuse -/
theorem M_ref0 {x : Int32} : m_refuse g S2 0 x = some S2 := by
  unfold m_refuse
  rw [if_pos rfl]
theorem M_ref1 {k : Int32} (h : gI S2 0 58 = 0) : m_refuse g S2 1 k = some (sI S2 0 58 k) := by
  unfold m_refuse
  rw [if_neg (by decide), if_pos h]
  rfl
theorem M_ref1n {k : Int32} (h : gI S2 0 58 ≠ 0) : m_refuse g S2 1 k = some S2 := by
  unfold m_refuse
  rw [if_neg (by decide), if_neg h]
theorem M_tAt {x : Int32} {q : Nat} (h : m_text g S2 x = some (nI q)) (hq : q < 2 ^ 31) : m_textAt g S2 x = some (S2, nI q) := by
  unfold m_textAt
  rw [h, Option.bind_some, if_pos (nI_pos' hq)]
  unfold m_textAt_16
  rw [M_ref0, Option.bind_some, if_pos (nI_pos' hq)]
theorem M_tAt0 {x : Int32} (h : m_text g S2 x = some (-1)) (h0 : gI S2 0 58 = 0) : m_textAt g S2 x = some (sI S2 0 58 4, 0) := by
  unfold m_textAt
  rw [h, Option.bind_some, if_neg (by decide +kernel)]
  unfold m_textAt_16
  rw [M_ref1 h0, Option.bind_some, if_neg (by decide +kernel)]
theorem M_tAt0n {x : Int32} (h : m_text g S2 x = some (-1)) (h0 : gI S2 0 58 ≠ 0) : m_textAt g S2 x = some (S2, 0) := by
  unfold m_textAt
  rw [h, Option.bind_some, if_neg (by decide +kernel)]
  unfold m_textAt_16
  rw [M_ref1n h0, Option.bind_some, if_neg (by decide +kernel)]
theorem sI_58 {v : Int32} : gI (sI S2 0 58 v) 0 58 = v := by simp [gI, sI]
/-- the text of both sides that a T tells -/
theorem tRel_c {x y : Int32} (h : tRel φ x y) : (x = -1 ∧ y = -1) ∨ ∃ p q, x = nI p ∧ y = nI q ∧ φ p = some q ∧ p < 1465 ∧ q < 1700 := h
theorem m1_ne {p : Nat} (h : p < 2 ^ 31) : ¬ nI p = -1 := nI_m1 h
end HLP
section DOC
variable {U : Nat → Prop} {g k s : Nat} {S S2 S2b : St} {ws : List Wd} {a : Nat} {φ : Nat → Option Nat} {cs ts : List (List Int32)} {u : Nat} {pl pm ps qs : List Nat}
theorem doC_no (h : m_Bn_lacksText g S s = some (S, 1)) : doC g S s = some (S, nI 4) := by
  unfold doC
  rw [h, Option.bind_some]
  rfl
theorem doC_W (h : m_Bn_lacksText g S s = some (S, 0)) (hg : grT.getD s 0 = 1) : doC g S s = m_WS_give g S s := by
  unfold doC
  rw [h, Option.bind_some, if_pos rfl, hg, if_neg (by decide), if_neg (by decide), if_pos rfl]
theorem doC_T (h : m_Bn_lacksText g S s = some (S, 0)) (hg : grT.getD s 0 = 0) : doC g S s = m_TS_give g S s := by
  unfold doC
  rw [h, Option.bind_some, if_pos rfl, hg, if_pos rfl]
theorem doC_P (h : m_Bn_lacksText g S s = some (S, 0)) (hg : grT.getD s 0 = 3) : doC g S s = m_TS_giveParts g S s := by
  unfold doC
  rw [h, Option.bind_some, if_pos rfl, hg, if_neg (by decide), if_pos rfl]
theorem doC_B (h : m_Bn_lacksText g S s = some (S, 0)) (hg : grT.getD s 0 = 2) : doC g S s = m_BS_change g S s := by
  unfold doC
  rw [h, Option.bind_some, if_pos rfl, hg, if_neg (by decide), if_neg (by decide), if_neg (by decide), if_pos rfl]
/-- a whole is given: all that StOK asks behind it -/
theorem fin_gw {n : Nat} {x : Int64} (r : RS U S S2 φ cs ts u pl pm ps qs) (bd : Bd k cs ts u pl) (hm : F0M S2 S2b) (h0 : gI S2b 0 58 = 0) (hn : n < 12) : gI (sG S2b 32 n x) 0 58 = nI 0 ∧ (0 : Nat) ≤ 5 ∧ RSx U (k + 1) (sG S 75 n x) (sG S2b 32 n x) ∧ FC S (sG S 75 n x) ∧ FS S2 (sG S2b 32 n x) := by
  have r' := RS_gw (x := x) (RS_0 r F0C.rf r.2.2.2.2.2.2.2.2.2.2.2.2.2 hm) hn
  exact ⟨h0, by decide, ⟨φ, cs, ts, u, pl, pm, ps, qs, r', bd.up⟩, FC_sG (Or.inl rfl), (FS.f0 hm).tr (FS_sG (by unfold stpAr; omega))⟩
/-- it is refused -/
theorem fin_no {kd : Nat} {S' : St} (r : RS U S S2 φ cs ts u pl pm ps qs) (bd : Bd k cs ts u pl) (hc : F0C S S') (hx : XR S') (hm : F0M S2 S2b) (h0 : gI S2b 0 58 = nI kd) (hk : kd ≤ 5) : gI S2b 0 58 = nI kd ∧ kd ≤ 5 ∧ RSx U (k + 1) S' S2b ∧ FC S S' ∧ FS S2 S2b :=
  ⟨h0, hk, ⟨φ, cs, ts, u, pl, pm, ps, qs, RS_0 r hc hx hm, bd.up⟩, FC.f0 hc, FS.f0 hm⟩
/-- no T is asked: nothing lacks -/
theorem lacks0 (hg : 100000 ≤ g) (c : CurC S ws) (h : ∀ j, j < ws.length → ¬ lett s (nI j) = 84) : m_Bn_lacksText g S s = some (S, 0) := by
  rw [lacks hg c (fun j w hw hT => absurd hT (h j (List.getElem?_eq_some_iff.mp hw).1)), c01_f]
  rintro ⟨j, q1, q2, -⟩
  exact h j q1 q2
/-- one T is asked, at place j0 -/
theorem lacks1 {j0 : Nat} {x : Int32} (hg : 100000 ≤ g) (c : CurC S ws) (hj : j0 < ws.length) (h : ∀ j, j < ws.length → j ≠ j0 → ¬ lett s (nI j) = 84) (hT : lett s (nI j0) = 84) (hx : m_Bn_textAt g S (nI j0) = some x) : m_Bn_lacksText g S s = some (S, c01 (x = -1)) := by
  rw [lacks hg c (fun j w hw hT => by
    by_cases e : j = j0
    · subst e
      exact ⟨x, hx⟩
    · exact absurd hT (h j (List.getElem?_eq_some_iff.mp hw).1 e))]
  refine congrArg (fun z => some (S, z)) (c01_iff ⟨?_, ?_⟩)
  · rintro ⟨j, q1, q2, q3⟩
    by_cases e : j = j0
    · subst e
      rw [hx] at q3
      exact Option.some.inj q3
    · exact absurd q2 (h j q1 e)
  · intro q
    exact ⟨j0, hj, hT, by rw [hx, q]⟩
end DOC
