/-! the judge: what a STEP gives -/
theorem le1 : ∀ s, s < 56 → 1 ≤ (leT.getD s 0).toNatClampNeg := by decide +kernel
theorem l66 : ∀ s, s < 56 → lett s 0 = 66 → s = 34 ∨ s = 35 := by decide +kernel
theorem opn0 {s : Nat} (h : ¬ (s = 53 ∨ s = 54)) : opn s = 0 := by
  unfold opn
  rw [if_neg (by omega), if_neg (by omega)]
theorem lit01 {L : Int64} : L ||| 0 = L := by simp
def adG (G : Nat → Bool) (m : Nat) : Nat → Bool := fun k => G k || decide (m = k)
section PAS
variable {g p q i s : Nat} {P : Prg} {ws : List Wd} {w : Wd} {U : Nat → Prop} {G : Nat → Bool} {st : List JT} {S S2 : St}
theorem JC.add {x : Int64} {m : Nat} (jc : JC S p G st) (hx : ∀ k, bL x k = decide (m = k)) : JC (sL S p 12 (gL S p 12 ||| x)) p (adG G m) st := by
  refine ⟨fun k hk => ?_, jc.2.1, jc.2.2⟩
  rw [gL_s, bL_or hx, jc.1 k hk]
  rfl
theorem M_give {r : Int32} {x : Int64} {n m : Nat} (jm : JM S2 G st) (hx : x.toInt = (n : Int)) (hr : (r = 1 ∧ n < 20 ∧ m = n) ∨ (r = 2 ∧ n < 12 ∧ m = 20 + n) ∨ (r = 3 ∧ n < 6 ∧ m = 32 + n)) : ∃ S2', m_gives_60 g S2 r ((1 : Int32) <<< (((x &&& (31 : Int64)).toInt32) &&& 31)) = some S2' ∧ FJm S2 S2' ∧ JM S2' (adG G m) st := by
  have hb := b32J hx (show n < 31 by omega)
  generalize ((1 : Int32) <<< (((x &&& (31 : Int64)).toInt32) &&& 31)) = y at *
  have nb : ∀ {a b : Nat}, a ≠ b → decide (a = b) = false := fun h => by simp [h]
  unfold m_gives_60 m_gives_76 m_gives_91
  rcases hr with ⟨h, hn, e⟩ | ⟨h, hn, e⟩ | ⟨h, hn, e⟩ <;> subst h <;> subst e
  · rw [if_pos rfl, lt_d, if_neg (by decide), if_neg (by decide)]
    refine ⟨_, rfl, FJm.sI (by omega), ⟨fun k hk => ?_, fun k hk => ?_, fun k hk => ?_⟩, (gI_ne (by decide)).trans jm.2.1, jm.2.2⟩
    · rw [sI_g, bI_or hb, jm.1.1 k hk]; rfl
    · rw [gI_ne (by decide), jm.1.2.1 k hk]
      unfold adG
      rw [nb (by omega), Bool.or_false]
    · rw [gI_ne (by decide), jm.1.2.2 k hk]
      unfold adG
      rw [nb (by omega), Bool.or_false]
  · rw [if_neg (by decide), if_pos rfl, lt_d, if_neg (by decide)]
    refine ⟨_, rfl, FJm.sI (by omega), ⟨fun k hk => ?_, fun k hk => ?_, fun k hk => ?_⟩, (gI_ne (by decide)).trans jm.2.1, jm.2.2⟩
    · rw [gI_ne (by decide), jm.1.1 k hk]
      unfold adG
      rw [nb (by omega), Bool.or_false]
    · rw [sI_g, bI_or hb, jm.1.2.1 k hk]
      unfold adG
      rw [show decide (n = k) = decide (20 + n = 20 + k) by simp]
    · rw [gI_ne (by decide), jm.1.2.2 k hk]
      unfold adG
      rw [nb (by omega), Bool.or_false]
  · rw [if_neg (by decide), if_neg (by decide), if_pos rfl, lt_d]
    refine ⟨_, rfl, FJm.sI (by omega), ⟨fun k hk => ?_, fun k hk => ?_, fun k hk => ?_⟩, (gI_ne (by decide)).trans jm.2.1, jm.2.2⟩
    · rw [gI_ne (by decide), jm.1.1 k hk]
      unfold adG
      rw [nb (by omega), Bool.or_false]
    · rw [gI_ne (by decide), jm.1.2.1 k hk]
      unfold adG
      rw [nb (by omega), Bool.or_false]
    · rw [sI_g, bI_or hb, jm.1.2.2 k hk]
      unfold adG
      rw [show decide (n = k) = decide (32 + n = 32 + k) by simp]
theorem M_gno {r y : Int32} (h1 : r ≠ 1) (h2 : r ≠ 2) (h3 : r ≠ 3) : m_gives_60 g S2 r y = some S2 := by
  unfold m_gives_60 m_gives_76 m_gives_91
  rw [if_neg h1, if_neg h2, if_neg h3]
theorem w0 (pk : PrgOK U P) (hi : P[i]? = some (s, ws)) : ∃ w, ws[0]? = some w := by
  obtain ⟨hs, hW, hR⟩ := pk i s ws hi
  have := le1 s hs
  have := hW.1
  exact ⟨ws[0], List.getElem?_eq_getElem (by omega)⟩
/-- a STEP that opens no RANGE -/
theorem pass_n (hg : 100000 ≤ g) (tb : TabM S2) (pk : PrgOK U P) (pc : PrC S p P) (hl : LC S) (pm : PrM S2 q P) (hm : LM S2) (hi : P[i]? = some (s, ws)) (hn : ¬ (s = 53 ∨ s = 54)) (jc : JC S p G st) (jm : JM S2 G st) : ∃ S' S2' G', m_Pg_passStep g S p (nI i) = some S' ∧ m_gives g S2 (nI (60 * q + i)) = some S2' ∧ FJc p S S' ∧ FJm S2 S2' ∧ JC S' p G' st ∧ JM S2' G' st ∧ ∀ b, b < 6 → G' (32 + b) = true → G (32 + b) = true ∨ gvB P i b := by
  obtain ⟨w, hw⟩ := w0 pk hi
  obtain ⟨hs, hW, hR⟩ := pk i s ws hi
  have hwl := (List.getElem?_eq_some_iff.mp hw).1
  have hil := (List.getElem?_eq_some_iff.mp hi).1
  have hjb : 0 < (byT.getD (wdT.getD s 0) []).length := by have := hW.2.1; omega
  have ok := hW.2.2 0 w hw
  have nm := okL_nm ok
  have hq := pm.1
  have h60 := pm.2.1
  have h7 : gN S2 7 = 180 := LMn hm 7
  have h6 : gN S2 6 = 180 := LMn hm 6
  have h10 : gN S2 10 = 1800 := LMn hm 10
  obtain ⟨y1, y2, y3, y4⟩ := pm.2.2.2 i s ws hi
  obtain ⟨z1, z2, z3⟩ := y4 0 w hw
  obtain ⟨n0, n1, -⟩ := LCp hl pc.1
  have hp60 := pc.2.1
  have rl := rol_lt hs hjb
  have eC0 : ∃ F, m_Pg_passStep g S p (nI i) = F := ⟨_, rfl⟩
  obtain ⟨F, hF⟩ := eC0
  have eC := hF
  unfold m_Pg_passStep at eC
  rw [sOf pc hl hi hs, Option.bind_some] at eC
  have eM0 : ∃ F, m_gives g S2 (nI (60 * q + i)) = F := ⟨_, rfl⟩
  obtain ⟨F2, hF2⟩ := eM0
  have eM := hF2
  unfold m_gives at eM
  rw [aI_at (by omega) (by omega), y3, Option.bind_some, if_neg (nI_ne0 (by omega) (by omega)), aI_at (by omega) (by omega), y2, Option.bind_some, if_neg (show ¬ nI s = 54 from fun h => hn (Or.inr ((nI_eq (b := 54) (by omega) (by omega)).mp h))), Option.bind_some, show m_roleOf g S2 (nI s) 0 = some (rolF s 0) from M_role (j := 0) hg hm tb hs (by omega), Option.bind_some] at eM
  unfold m_gives_35 at eM
  rw [if_neg (show ¬ rolF s 0 = 0 by
    intro h
    unfold rlL at rl
    rw [h] at rl
    rcases rl with h | h | h | h | h | h | h | h <;> exact absurd h.1 (by decide)), show (10 : Int32) * nI (60 * q + i) = nI (10 * (60 * q + i) + 0) from nI_mulE 10 _, aJ_at (by omega) (by omega), z2, Option.bind_some] at eM
  obtain ⟨x, x1, x2⟩ := C_bit (g := g) pc hl hi hw nm
  rw [hF, hF2]
  have key : ∀ (r c : Int32) (k : Nat), rolF s 0 = r → lett s 0 = c → (c = 118 ∨ c = 119 ∨ c = 66) → w.1 = k → ((r = 1 ∧ k = 0) ∨ (r = 2 ∧ k = 1) ∨ (r = 3 ∧ k = 2)) → (c = 66 → r = 3) → ((r = 3) → s = 34 ∨ s = 35) → ∃ S' S2' G', F = some S' ∧ F2 = some S2' ∧ FJc p S S' ∧ FJm S2 S2' ∧ JC S' p G' st ∧ JM S2' G' st ∧ ∀ b, b < 6 → G' (32 + b) = true → G (32 + b) = true ∨ gvB P i b := by
    intro r c k e1 e2 e3 e4 e5 e6 e7
    have hgv : ¬ giv s = 0 := by
      unfold giv
      rw [e2]
      rcases e3 with h | h | h <;> rw [h] <;> decide
    obtain ⟨o0, o1, o2, o3⟩ := nm
    have hN : ∃ n m : Nat, w.2.1.toInt = (n : Int) ∧ gbit w = some m ∧ ((r = 1 ∧ n < 20 ∧ m = n) ∨ (r = 2 ∧ n < 12 ∧ m = 20 + n) ∨ (r = 3 ∧ n < 6 ∧ m = 32 + n)) := by
      rcases e5 with ⟨a, b⟩ | ⟨a, b⟩ | ⟨a, b⟩
      · obtain ⟨q1, q2⟩ := argN_n (o1 (by omega))
        refine ⟨_, _, q2, ?_, Or.inl ⟨a, q1, rfl⟩⟩
        unfold gbit
        rw [if_pos (by omega)]
      · obtain ⟨q1, q2⟩ := argN_n (o2 (by omega))
        refine ⟨_, _, q2, ?_, Or.inr (Or.inl ⟨a, q1, rfl⟩)⟩
        unfold gbit
        rw [if_neg (by omega), if_pos (by omega)]
      · obtain ⟨q1, q2⟩ := argN_n (o3 (by omega))
        refine ⟨_, _, q2, ?_, Or.inr (Or.inr ⟨a, q1, rfl⟩)⟩
        unfold gbit
        rw [if_neg (by omega), if_neg (by omega), if_pos (by omega)]
    obtain ⟨n, m, v1, v2, v3⟩ := hN
    rcases x2 with ⟨u1, -⟩ | ⟨m', u1, u2, u3⟩
    · rw [v2] at u1; exact absurd u1 (by simp)
    · have em : m' = m := by rw [v2] at u2; exact (Option.some.inj u2).symm
      subst em
      rw [if_neg hgv, aI_at (by omega) (by omega), pc.2.2.2.2.1 i (by omega), Option.bind_some, show m_Pg_givenBit g S p (nI (fsP P i)) = some x from x1, Option.bind_some] at eC
      unfold m_Pg_passStep_27 at eC
      rw [if_pos (opn0 hn), lt_d] at eC
      obtain ⟨S2', b1, b2, b3⟩ := M_give (g := g) jm v1 v3
      rw [e1, b1] at eM
      refine ⟨_, S2', _, eC.symm, eM.symm, FJc.sL, b2, jc.add u3, b3, fun b hb hG => ?_⟩
      unfold adG at hG
      rw [Bool.or_eq_true] at hG
      rcases hG with hG | hG
      · exact Or.inl hG
      · have : m' = 32 + b := of_decide_eq_true hG
        have h3 : r = 3 ∧ n = b := by
          rcases v3 with h | h | h
          · omega
          · omega
          · exact ⟨h.1, by omega⟩
        exact Or.inr ⟨s, ws, w, hi, e7 h3.1, hw, by rw [v1, h3.2]⟩
  have none3 : ∀ r c : Int32, rolF s 0 = r → lett s 0 = c → ¬ (c = 118 ∨ c = 119 ∨ c = 66) → r ≠ 1 → r ≠ 2 → r ≠ 3 → ∃ S' S2' G', F = some S' ∧ F2 = some S2' ∧ FJc p S S' ∧ FJm S2 S2' ∧ JC S' p G' st ∧ JM S2' G' st ∧ ∀ b, b < 6 → G' (32 + b) = true → G (32 + b) = true ∨ gvB P i b := by
    intro r c e1 e2 e3 r1 r2 r3
    have hgv : giv s = 0 := by
      unfold giv
      rw [e2, if_neg (fun h => e3 (Or.inl h)), if_neg (fun h => e3 (Or.inr (Or.inl h))), if_neg (fun h => e3 (Or.inr (Or.inr h)))]
    rw [if_pos hgv] at eC
    unfold m_Pg_passStep_27 at eC
    rw [if_pos (opn0 hn), lt_d, lit01] at eC
    rw [e1, M_gno r1 r2 r3] at eM
    refine ⟨_, S2, G, eC.symm, eM.symm, FJc.sL, FJm.rf, ⟨fun k hk => ?_, jc.2.1, jc.2.2⟩, jm, fun b hb h => Or.inl h⟩
    rw [gL_s]
    exact jc.1 k hk
  have rl' : rlL (rolF s 0) (lett s 0) := rl
  have ok' : okL U (lett s 0) w := ok
  rcases rl' with ⟨a, b⟩ | ⟨a, b⟩ | ⟨a, b⟩ | ⟨a, b⟩ | ⟨a, b⟩ | ⟨a, b⟩ | ⟨a, b⟩ | ⟨a, b⟩
  · rw [b] at ok'
    exact key 1 118 0 a b (Or.inl rfl) (okL_v ok').1 (Or.inl ⟨rfl, rfl⟩) (by decide) (fun h => absurd h (by decide))
  · rw [b] at ok'
    exact key 2 119 1 a b (Or.inr (Or.inl rfl)) (okL_w ok').1 (Or.inr (Or.inl ⟨rfl, rfl⟩)) (by decide) (fun h => absurd h (by decide))
  · rw [b] at ok'
    exact key 3 66 2 a b (Or.inr (Or.inr rfl)) (okL_b ok' (Or.inr rfl)).1 (Or.inr (Or.inr ⟨rfl, rfl⟩)) (fun _ => rfl) (fun _ => l66 s hs b)
  · refine none3 4 (lett s 0) a rfl ?_ (by decide) (by decide) (by decide)
    rcases b with b | b <;> rw [b] <;> decide
  · exact none3 5 87 a b (by decide) (by decide) (by decide) (by decide)
  · exact none3 6 88 a b (by decide) (by decide) (by decide) (by decide)
  · exact none3 7 98 a b (by decide) (by decide) (by decide) (by decide)
  · exact none3 8 78 a b (by decide) (by decide) (by decide) (by decide)
end PAS
