/-! the judge: RANGES are opened -/
theorem snocL {α : Type} {l : List α} {a b : α} {m : Nat} (h : (l ++ [a])[m]? = some b) : (m < l.length ∧ l[m]? = some b) ∨ (m = l.length ∧ a = b) := by
  by_cases hm : m < l.length
  · exact Or.inl ⟨hm, by rw [List.getElem?_append_left hm] at h; exact h⟩
  · have hl := (List.getElem?_eq_some_iff.mp h).1
    rw [List.length_append, List.length_singleton] at hl
    have e : m = l.length := by omega
    subst e
    refine Or.inr ⟨rfl, ?_⟩
    simpa using h
section PSO
variable {g p q i s : Nat} {P : Prg} {ws : List Wd} {w : Wd} {U : Nat → Prop} {G Gs : Nat → Bool} {st : List JT} {S S2 : St}
theorem push_C {x : Int64} (pk : PrgOK U P) (pc : PrC S p P) (hl : LC S) (hi : P[i]? = some (s, ws)) (hs : s = 53 ∨ s = 54) (jc : JC S p G st) (hst : st.length < 60) (hx : ∀ k, k < 38 → bL (gL S p 12 ||| x) k = Gs k) : ∃ S', m_Pg_passStep_27 g S p (nI i) s x = some S' ∧ FJc p S S' ∧ JC S' p G (st ++ [(rgP P i, Gs, i)]) := by
  obtain ⟨n0, n1, -, -, -, -, l6, l7⟩ := LCp hl pc.1
  obtain ⟨w1, n, a1, a2, a3, a4⟩ := rg_w pk hi hs
  have ho : ¬ opn s = 0 := by
    unfold opn
    rcases hs with h | h
    · rw [if_pos h]; decide
    · rw [if_neg (by omega), if_pos h]; decide
  unfold m_Pg_passStep_27
  rw [if_neg ho, jc.2.1, if_neg (show ¬ (60 : Int32) ≤ nI st.length from nI_ge (b := 60) (by omega) (by omega)), C_rgE pc hl hi a1 a2 a3, Option.bind_some, tI_at (by omega) (by omega), Option.bind_some, show gI (sF S (50 + 8 * p + 6) st.length (nI (rgP P i))) p 11 = nI st.length from jc.2.1, tJ_at (by show st.length < gN S (50 + 8 * p + 7); omega) (by show gN S (50 + 8 * p + 7) < 2 ^ 31; omega), Option.bind_some, lt_d]
  refine ⟨_, rfl, (FJc.sF.tr FJc.sG).tr FJc.sI, fun k hk => jc.1 k hk, ?_, fun m t hm => ?_⟩
  · rw [sI_g, List.length_append, List.length_singleton]
    show gI S p 11 + 1 = _
    rw [jc.2.1, nI_1]
  · show gF (sF S (50 + 8 * p + 6) st.length (nI (rgP P i))) (50 + 8 * p + 6) m = nI t.1 ∧ ∀ k, k < 38 → bL (gG (sG (sF S (50 + 8 * p + 6) st.length (nI (rgP P i))) (50 + 8 * p + 7) st.length (gL S p 12 ||| x)) (50 + 8 * p + 7) m) k = t.2.1 k
    rcases snocL hm with ⟨h1, h2⟩ | ⟨h1, h2⟩
    · obtain ⟨b1, b2⟩ := jc.2.2 m t h2
      rw [gF_sFi (by omega), gG_sGi (by omega)]
      exact ⟨b1, b2⟩
    · subst h1
      rw [← h2, gF_sF, gG_sG]
      exact ⟨rfl, hx⟩
theorem push_M {y z : Int32} {x : Int32} {v : Int64} (hq : 60 * q + i < 180) (hm : LM S2) (jm : JM S2 G st) (hst : st.length < 60) (h6 : gF S2 6 (60 * q + i) = nI s) (hs : s = 53 ∨ s = 54) (h10 : gG S2 10 (10 * (60 * q + i)) = v) (hy : y = nI (rgP P i)) (h27 : ∀ n, n < 20 → bI (gI S2 0 27) n = Gs n) (h28 : ∀ n, n < 12 → bI (if s = 54 then gI S2 0 28 ||| ((1 : Int32) <<< ((v.toInt32) &&& 31)) else gI S2 0 28) n = Gs (20 + n)) (h29 : ∀ n, n < 6 → bI (gI S2 0 29) n = Gs (32 + n)) : ∃ S2', m_opens g S2 (nI (60 * q + i)) y = some S2' ∧ FJm S2 S2' ∧ JM S2' G (st ++ [(rgP P i, Gs, i)]) := by
  have g18 : gN S2 18 = 61 := LMn hm 18
  have g19 : gN S2 19 = 61 := LMn hm 19
  have g20 : gN S2 20 = 61 := LMn hm 20
  have g21 : gN S2 21 = 61 := LMn hm 21
  have g6 : gN S2 6 = 180 := LMn hm 6
  have g10 : gN S2 10 = 1800 := LMn hm 10
  have e30 : gI S2 0 30 = nI st.length := jm.2.1
  have e66 : ∀ x : Int32, m_opens_66 g (sF (sF S2 18 st.length y) 19 st.length (gI S2 0 27)) (nI st.length) x = some (sI (sF (sF (sF (sF S2 18 st.length y) 19 st.length (gI S2 0 27)) 20 st.length x) 21 st.length (gI S2 0 29)) 0 30 (nI (st.length + 1))) := by
    intro x
    unfold m_opens_66
    rw [tI_at (by show st.length < gN S2 20; omega) (by show gN S2 20 < 2 ^ 31; omega), Option.bind_some, show gI (sF (sF (sF S2 18 st.length y) 19 st.length (gI S2 0 27)) 20 st.length x) 0 30 = nI st.length from e30, tI_at (by show st.length < gN S2 21; omega) (by show gN S2 21 < 2 ^ 31; omega), Option.bind_some, lt_d, show gI (sF (sF (sF (sF S2 18 st.length y) 19 st.length (gI S2 0 27)) 20 st.length x) 21 st.length (gI (sF (sF (sF S2 18 st.length y) 19 st.length (gI S2 0 27)) 20 st.length x) 0 29)) 0 30 = nI st.length from e30, nI_1]
    rfl
  have eO : m_opens g S2 (nI (60 * q + i)) y = some (sI (sF (sF (sF (sF S2 18 st.length y) 19 st.length (gI S2 0 27)) 20 st.length (if s = 54 then gI S2 0 28 ||| ((1 : Int32) <<< ((v.toInt32) &&& 31)) else gI S2 0 28)) 21 st.length (gI S2 0 29)) 0 30 (nI (st.length + 1))) := by
    unfold m_opens
    rw [e30, tI_at (by omega) (by omega), Option.bind_some, show gI (sF S2 18 st.length y) 0 30 = nI st.length from e30, tI_at (by show st.length < gN S2 19; omega) (by show gN S2 19 < 2 ^ 31; omega), Option.bind_some, aI_at (by show 60 * q + i < gN S2 6; omega) (by show gN S2 6 < 2 ^ 31; omega), Option.bind_some, gF_ne (by decide), gF_ne (by decide), h6]
    by_cases h : s = 54
    · rw [if_pos (show nI s = 54 by rw [h]; rfl), if_pos h, show (10 : Int32) * nI (60 * q + i) = nI (10 * (60 * q + i)) from nI_mulE 10 _, aJ_at (by show 10 * (60 * q + i) < gN S2 10; omega) (by show gN S2 10 < 2 ^ 31; omega), Option.bind_some]
      show m_opens_66 g (sF (sF S2 18 st.length y) 19 st.length (gI S2 0 27)) (gI S2 0 30) (gI S2 0 28 ||| ((1 : Int32) <<< (((gG S2 10 (10 * (60 * q + i))).toInt32) &&& 31))) = _
      rw [e30, h10, e66]
    · rw [if_neg (show ¬ nI s = 54 from fun q => h ((nI_eq (b := 54) (by omega) (by omega)).mp q)), if_neg h]
      show m_opens_66 g (sF (sF S2 18 st.length y) 19 st.length (gI S2 0 27)) (gI S2 0 30) (gI S2 0 28) = _
      rw [e30, e66]
  refine ⟨_, eO, ((((FJm.sF (by omega)).tr (FJm.sF (by omega))).tr (FJm.sF (by omega))).tr (FJm.sF (by omega))).tr (FJm.sI (by omega)), ⟨fun n hn => ?_, fun n hn => ?_, fun n hn => ?_⟩, ?_, fun m t ht => ?_⟩
  · rw [gI_ne (by decide)]; exact jm.1.1 n hn
  · rw [gI_ne (by decide)]; exact jm.1.2.1 n hn
  · rw [gI_ne (by decide)]; exact jm.1.2.2 n hn
  · rw [sI_g, List.length_append, List.length_singleton]
  · generalize hX : (if s = 54 then gI S2 0 28 ||| ((1 : Int32) <<< ((v.toInt32) &&& 31)) else gI S2 0 28) = X at *
    show gF (sF (sF (sF (sF S2 18 st.length y) 19 st.length (gI S2 0 27)) 20 st.length X) 21 st.length (gI S2 0 29)) 18 m = nI t.1 ∧ (∀ n, n < 20 → bI (gF (sF (sF (sF (sF S2 18 st.length y) 19 st.length (gI S2 0 27)) 20 st.length X) 21 st.length (gI S2 0 29)) 19 m) n = t.2.1 n) ∧ (∀ n, n < 12 → bI (gF (sF (sF (sF (sF S2 18 st.length y) 19 st.length (gI S2 0 27)) 20 st.length X) 21 st.length (gI S2 0 29)) 20 m) n = t.2.1 (20 + n)) ∧ ∀ n, n < 6 → bI (gF (sF (sF (sF (sF S2 18 st.length y) 19 st.length (gI S2 0 27)) 20 st.length X) 21 st.length (gI S2 0 29)) 21 m) n = t.2.1 (32 + n)
    rw [gF_ne (show (18 : Nat) ≠ 21 by decide), gF_ne (show (18 : Nat) ≠ 20 by decide), gF_ne (show (18 : Nat) ≠ 19 by decide), gF_ne (show (19 : Nat) ≠ 21 by decide), gF_ne (show (19 : Nat) ≠ 20 by decide), gF_ne (show (20 : Nat) ≠ 21 by decide)]
    rcases snocL ht with ⟨h1, h2⟩ | ⟨h1, h2⟩
    · obtain ⟨b1, b2, b3, b4⟩ := jm.2.2 m t h2
      rw [gF_sFi (by omega), gF_sFi (by omega), gF_sFi (by omega), gF_sFi (by omega), gF_ne (by decide), gF_ne (by decide), gF_ne (by decide), gF_ne (by decide), gF_ne (by decide), gF_ne (by decide)]
      exact ⟨b1, b2, b3, b4⟩
    · subst h1
      rw [← h2, gF_sF, gF_sF, gF_sF, gF_sF]
      exact ⟨hy, h27, h28, h29⟩
/-- a STEP that opens a RANGE -/
theorem pass_o {k22 : St → Int32 → Int32 → Option (St × Int32)} (hg : 100000 ≤ g) (tb : TabM S2) (pk : PrgOK U P) (pc : PrC S p P) (hl : LC S) (pm : PrM S2 q P) (hm : LM S2) (hi : P[i]? = some (s, ws)) (hs5 : s = 53 ∨ s = 54) (jc : JC S p G st) (jm : JM S2 G st) (hst : st.length < 60) : ∃ S' S2' Gs, m_Pg_passStep g S p (nI i) = some S' ∧ m_gives g S2 (nI (60 * q + i)) = some S2 ∧ m_judge_229 g k22 S2 (nI q) (nI i) (nI (60 * q + i)) = k22 S2' (nI q) (nI (i + 1)) ∧ FJc p S S' ∧ FJm S2 S2' ∧ JC S' p G (st ++ [(rgP P i, Gs, i)]) ∧ JM S2' G (st ++ [(rgP P i, Gs, i)]) ∧ ∀ b, b < 6 → Gs (32 + b) = G (32 + b) := by
  obtain ⟨w, hw⟩ := w0 pk hi
  obtain ⟨hs, hW, hR⟩ := pk i s ws hi
  have hwl := (List.getElem?_eq_some_iff.mp hw).1
  have hil := (List.getElem?_eq_some_iff.mp hi).1
  have ok := hW.2.2 0 w hw
  have nm := okL_nm ok
  have hq := pm.1
  have h60 := pm.2.1
  have h7 : gN S2 7 = 180 := LMn hm 7
  have h6 : gN S2 6 = 180 := LMn hm 6
  have h10 : gN S2 10 = 1800 := LMn hm 10
  obtain ⟨y1, y2, y3, y4⟩ := pm.2.2.2 i s ws hi
  obtain ⟨z1, z2, z3⟩ := y4 0 w hw
  obtain ⟨n0, n1, -⟩ := LCp hl pc.1
  have hp60 := pc.2.1
  obtain ⟨w1, n, a1, a2, a3, a4⟩ := rg_w pk hi hs5
  obtain ⟨v, v1, v2⟩ := M_rgE pm hm hi a1 a2 a3
  have eG : m_gives g S2 (nI (60 * q + i)) = some S2 := by
    unfold m_gives m_gives_20 m_gives_35
    rw [aI_at (by omega) (by omega), y3, Option.bind_some, if_neg (nI_ne0 (by omega) (by omega)), aI_at (by omega) (by omega), y2, Option.bind_some]
    rcases hs5 with h | h
    · subst h
      rw [if_neg (by decide), Option.bind_some, show m_roleOf g S2 (nI 53) 0 = some (rolF 53 0) from M_role (j := 0) hg hm tb (by decide) (by omega), Option.bind_some, show rolF 53 0 = 5 from by decide +kernel, if_neg (by decide), show (10 : Int32) * nI (60 * q + i) = nI (10 * (60 * q + i) + 0) from nI_mulE 10 _, aJ_at (by omega) (by omega), Option.bind_some, M_gno (by decide) (by decide) (by decide)]
    · subst h
      rw [if_pos (by rfl), if_pos rfl, M_gno (by decide) (by decide) (by decide)]
  have e229 : ∀ S2', m_opens g S2 (nI (60 * q + i)) (nI (rgP P i)) = some S2' → m_judge_229 g k22 S2 (nI q) (nI i) (nI (60 * q + i)) = k22 S2' (nI q) (nI (i + 1)) := by
    intro S2' h
    unfold m_judge_229
    rw [v1, Option.bind_some, v2, h, Option.bind_some, lt_d, nI_1]
  rcases hs5 with h | h
  · subst h
    obtain ⟨S', b1, b2, b3⟩ := push_C (g := g) (Gs := G) (x := 0) pk pc hl hi (Or.inl rfl) jc hst (fun k hk => by rw [lit01]; exact jc.1 k hk)
    obtain ⟨S2', c1, c2, c3⟩ := push_M (g := g) (P := P) (Gs := G) (y := nI (rgP P i)) (z := 0) (x := 0) (v := gG S2 10 (10 * (60 * q + i))) (by omega) hm jm hst y2 (Or.inl rfl) rfl rfl jm.1.1 (fun n hn => by rw [if_neg (by decide)]; exact jm.1.2.1 n hn) jm.1.2.2
    refine ⟨S', S2', G, ?_, eG, e229 S2' c1, b2, c2, b3, c3, fun _ _ => rfl⟩
    unfold m_Pg_passStep
    rw [sOf pc hl hi hs, Option.bind_some, if_pos (by decide +kernel), b1]
  · subst h
    have ok' : okL U 119 w := ok
    obtain ⟨ow, oa⟩ := okL_w ok'
    obtain ⟨q1, q2⟩ := argN_n oa
    obtain ⟨x, x1, x2⟩ := C_bit (g := g) pc hl hi hw nm
    have hgb : gbit w = some (20 + w.2.1.toInt.toNat) := by
      unfold gbit
      rw [if_neg (by omega), if_pos (by omega)]
    rcases x2 with ⟨u1, -⟩ | ⟨m', u1, u2, u3⟩
    · rw [hgb] at u1; exact absurd u1 (by simp)
    · have em : m' = 20 + w.2.1.toInt.toNat := by rw [hgb] at u2; exact (Option.some.inj u2).symm
      subst em
      have nb : ∀ {a b : Nat}, a ≠ b → decide (a = b) = false := fun h => by simp [h]
      obtain ⟨S', b1, b2, b3⟩ := push_C (g := g) (Gs := adG G (20 + w.2.1.toInt.toNat)) (x := x) pk pc hl hi (Or.inr rfl) jc hst (fun k hk => by rw [bL_or u3, jc.1 k hk]; rfl)
      obtain ⟨S2', c1, c2, c3⟩ := push_M (g := g) (P := P) (Gs := adG G (20 + w.2.1.toInt.toNat)) (y := nI (rgP P i)) (z := 0) (x := 0) (v := w.2.1) (by omega) hm jm hst y2 (Or.inr rfl) z2 rfl (fun n hn => by
        rw [jm.1.1 n hn]
        unfold adG
        rw [nb (by omega), Bool.or_false]) (fun n hn => by
        rw [if_pos rfl, j32 q2 (by omega), bI_or (b32 (by omega)), jm.1.2.1 n hn]
        unfold adG
        rw [show decide (w.2.1.toInt.toNat = n) = decide (20 + w.2.1.toInt.toNat = 20 + n) by simp]) (fun n hn => by
        rw [jm.1.2.2 n hn]
        unfold adG
        rw [nb (by omega), Bool.or_false])
      refine ⟨S', S2', _, ?_, eG, e229 S2' c1, b2, c2, b3, c3, fun b hb => ?_⟩
      · unfold m_Pg_passStep
        rw [sOf pc hl hi hs, Option.bind_some, if_neg (by decide +kernel), aI_at (by omega) (by omega), pc.2.2.2.2.1 i (by omega), Option.bind_some, show m_Pg_givenBit g S p (nI (fsP P i)) = some x from x1, Option.bind_some, b1]
      · unfold adG
        rw [nb (by omega), Bool.or_false]
end PSO
