/-! the judge: what it has; RANGES are shut -/
theorem gL_s {S : St} {o k : Nat} {v : Int64} : gL (sL S o k v) o k = v := by simp [gL, sL]
theorem gL_ne {S : St} {o k x y : Nat} {v : Int64} (h : ¬ (x = o ∧ y = k)) : gL (sL S o k v) x y = gL S x y := by
  unfold gL sL
  show (if x = o ∧ y = k then v else S.2.1 x y) = _
  rw [if_neg h]
theorem gG_sG {S : St} {a i : Nat} {v : Int64} : gG (sG S a i v) a i = v := by simp [gG, sG]
theorem gG_sGi {S : St} {a i j : Nat} {v : Int64} (h : j ≠ i) : gG (sG S a i v) a j = gG S a j := by simp [gG, sG, h]
/-- an open RANGE: where it ends, what is GIVEN behind it, its STEP -/
abbrev JT : Type := Nat × (Nat → Bool) × Nat
def JC (S : St) (p : Nat) (G : Nat → Bool) (st : List JT) : Prop := CG S p G ∧ gI S p 11 = nI st.length ∧ ∀ (m : Nat) (t : JT), st[m]? = some t → gF S (50 + 8 * p + 6) m = nI t.1 ∧ ∀ k, k < 38 → bL (gG S (50 + 8 * p + 7) m) k = t.2.1 k
def JM (S : St) (G : Nat → Bool) (st : List JT) : Prop := MG S G ∧ gI S 0 30 = nI st.length ∧ ∀ (m : Nat) (t : JT), st[m]? = some t → gF S 18 m = nI t.1 ∧ (∀ n, n < 20 → bI (gF S 19 m) n = t.2.1 n) ∧ (∀ n, n < 12 → bI (gF S 20 m) n = t.2.1 (20 + n)) ∧ ∀ n, n < 6 → bI (gF S 21 m) n = t.2.1 (32 + n)
/-- what the judge changes -/
def FJc (p : Nat) (S S' : St) : Prop := (∀ o k, ¬ (o = p ∧ k = 11) → gI S' o k = gI S o k) ∧ (∀ o k, ¬ (o = p ∧ k = 12) → gL S' o k = gL S o k) ∧ S'.2.2.1 = S.2.2.1 ∧ S'.2.2.2.1 = S.2.2.2.1 ∧ (∀ a, a ≠ 50 + 8 * p + 6 → ∀ i, gF S' a i = gF S a i) ∧ ∀ a, a ≠ 50 + 8 * p + 7 → ∀ i, gG S' a i = gG S a i
def FJm (S S' : St) : Prop := (∀ k, k ≠ 27 → k ≠ 28 → k ≠ 29 → k ≠ 30 → gI S' 0 k = gI S 0 k) ∧ S'.2.1 = S.2.1 ∧ S'.2.2.1 = S.2.2.1 ∧ S'.2.2.2.1 = S.2.2.2.1 ∧ (∀ a, a ≠ 18 → a ≠ 19 → a ≠ 20 → a ≠ 21 → ∀ i, gF S' a i = gF S a i) ∧ S'.2.2.2.2.2 = S.2.2.2.2.2
theorem FJc.rf {p : Nat} {S : St} : FJc p S S := ⟨fun _ _ _ => rfl, fun _ _ _ => rfl, rfl, rfl, fun _ _ _ => rfl, fun _ _ _ => rfl⟩
theorem FJc.tr {p : Nat} {S S1 S2 : St} (h1 : FJc p S S1) (h2 : FJc p S1 S2) : FJc p S S2 := ⟨fun o k a => (h2.1 o k a).trans (h1.1 o k a), fun o k a => (h2.2.1 o k a).trans (h1.2.1 o k a), h2.2.2.1.trans h1.2.2.1, h2.2.2.2.1.trans h1.2.2.2.1, fun a b i => (h2.2.2.2.2.1 a b i).trans (h1.2.2.2.2.1 a b i), fun a b i => (h2.2.2.2.2.2 a b i).trans (h1.2.2.2.2.2 a b i)⟩
theorem FJm.rf {S : St} : FJm S S := ⟨fun _ _ _ _ _ => rfl, rfl, rfl, rfl, fun _ _ _ _ _ _ => rfl, rfl⟩
theorem FJm.tr {S S1 S2 : St} (h1 : FJm S S1) (h2 : FJm S1 S2) : FJm S S2 := ⟨fun k a b c d => (h2.1 k a b c d).trans (h1.1 k a b c d), h2.2.1.trans h1.2.1, h2.2.2.1.trans h1.2.2.1, h2.2.2.2.1.trans h1.2.2.2.1, fun a b c d e i => (h2.2.2.2.2.1 a b c d e i).trans (h1.2.2.2.2.1 a b c d e i), h2.2.2.2.2.2.trans h1.2.2.2.2.2⟩
theorem FJc.sI {p : Nat} {S : St} {v : Int32} : FJc p S (sI S p 11 v) := ⟨fun o k h => gI_ne h, fun _ _ _ => rfl, rfl, rfl, fun _ _ _ => rfl, fun _ _ _ => rfl⟩
theorem FJc.sL {p : Nat} {S : St} {v : Int64} : FJc p S (sL S p 12 v) := ⟨fun _ _ _ => rfl, fun o k h => gL_ne h, rfl, rfl, fun _ _ _ => rfl, fun _ _ _ => rfl⟩
theorem FJc.sF {p i : Nat} {S : St} {v : Int32} : FJc p S (sF S (50 + 8 * p + 6) i v) := ⟨fun _ _ _ => rfl, fun _ _ _ => rfl, rfl, rfl, fun a h i => gF_ne h, fun _ _ _ => rfl⟩
theorem FJc.sG {p i : Nat} {S : St} {v : Int64} : FJc p S (sG S (50 + 8 * p + 7) i v) := ⟨fun _ _ _ => rfl, fun _ _ _ => rfl, rfl, rfl, fun _ _ _ => rfl, fun a h i => gG_ne h⟩
theorem FJm.sI {S : St} {k : Nat} {v : Int32} (h : k = 27 ∨ k = 28 ∨ k = 29 ∨ k = 30) : FJm S (sI S 0 k v) := ⟨fun j a b c d => gI_ne (by omega), rfl, rfl, rfl, fun _ _ _ _ _ _ => rfl, rfl⟩
theorem FJm.sF {S : St} {a i : Nat} {v : Int32} (h : a = 18 ∨ a = 19 ∨ a = 20 ∨ a = 21) : FJm S (sF S a i v) := ⟨fun _ _ _ _ _ => rfl, rfl, rfl, rfl, fun b _ _ _ _ j => gF_ne (by omega), rfl⟩
theorem LC.fj {p : Nat} {S S' : St} (w : LC S) (h : FJc p S S') : LC S' := fun a ha => by
  have := w a ha
  unfold gN at *
  rw [h.2.2.2.1]
  exact this
theorem gOK.fj {p : Nat} {S S' : St} (w : gOK S) (h : FJc p S S') : gOK S' := by
  unfold gOK gR at *
  rw [h.2.2.1]
  exact w
theorem LM.fj {S S' : St} (w : LM S) (h : FJm S S') : LM S' := w.of h.2.2.2.1
theorem PrC.fj {p : Nat} {S S' : St} {P : Prg} (w : PrC S p P) (h : FJc p S S') : PrC S' p P := by
  obtain ⟨x1, x2, x3, x4, x5, x6⟩ := w
  have hf : ∀ k i, k < 6 → gF S' (50 + 8 * p + k) i = gF S (50 + 8 * p + k) i := fun k i hk => h.2.2.2.2.1 _ (by omega) i
  have hgg : ∀ k i, k < 6 → gG S' (50 + 8 * p + k) i = gG S (50 + 8 * p + k) i := fun k i hk => h.2.2.2.2.2 _ (by omega) i
  refine ⟨x1, x2, x3, (h.1 p 8 (by omega)).trans x4, fun i hi => (hf 1 i (by omega)).trans (x5 i hi), fun i s ws hi => ⟨(hf 0 i (by omega)).trans (x6 i s ws hi).1, fun j w hw => ?_⟩⟩
  obtain ⟨q1, q2, q3, q4⟩ := (x6 i s ws hi).2 j w hw
  exact ⟨(hf 2 _ (by omega)).trans q1, (hf 3 _ (by omega)).trans q2, (hgg 4 _ (by omega)).trans q3, (hf 5 _ (by omega)).trans q4⟩
theorem PrC.fj2 {p p' : Nat} {S S' : St} {P : Prg} (w : PrC S p' P) (h : FJc p S S') : PrC S' p' P := by
  obtain ⟨x1, x2, x3, x4, x5, x6⟩ := w
  have hf : ∀ k i, k < 6 → gF S' (50 + 8 * p' + k) i = gF S (50 + 8 * p' + k) i := fun k i hk => h.2.2.2.2.1 _ (by omega) i
  have hgg : ∀ k i, k < 6 → gG S' (50 + 8 * p' + k) i = gG S (50 + 8 * p' + k) i := fun k i hk => h.2.2.2.2.2 _ (by omega) i
  refine ⟨x1, x2, x3, (h.1 p' 8 (by omega)).trans x4, fun i hi => (hf 1 i (by omega)).trans (x5 i hi), fun i s ws hi => ⟨(hf 0 i (by omega)).trans (x6 i s ws hi).1, fun j w hw => ?_⟩⟩
  obtain ⟨q1, q2, q3, q4⟩ := (x6 i s ws hi).2 j w hw
  exact ⟨(hf 2 _ (by omega)).trans q1, (hf 3 _ (by omega)).trans q2, (hgg 4 _ (by omega)).trans q3, (hf 5 _ (by omega)).trans q4⟩
theorem PrM.fj {S S' : St} {q : Nat} {P : Prg} (w : PrM S q P) (h : FJm S S') : PrM S' q P := by
  obtain ⟨x1, x2, x3, x4⟩ := w
  have hf : ∀ a i, 6 ≤ a → a ≤ 11 → gF S' a i = gF S a i := fun a i h1 h2 => h.2.2.2.2.1 a (by omega) (by omega) (by omega) (by omega) i
  have hgg : ∀ a i, gG S' a i = gG S a i := fun a i => by unfold gG; rw [h.2.2.2.2.2]
  refine ⟨x1, x2, (hf 11 q (by omega) (by omega)).trans x3, fun i s ws hi => ?_⟩
  obtain ⟨y1, y2, y3, y4⟩ := x4 i s ws hi
  refine ⟨y1, (hf 6 _ (by omega) (by omega)).trans y2, (hf 7 _ (by omega) (by omega)).trans y3, fun j w hw => ?_⟩
  obtain ⟨z1, z2, z3⟩ := y4 j w hw
  exact ⟨(hf 8 _ (by omega) (by omega)).trans z1, (hgg 10 _).trans z2, (hf 9 _ (by omega) (by omega)).trans z3⟩
theorem TabM.fj {S S' : St} (w : TabM S) (h : FJm S S') : TabM S' := by
  have hgg : ∀ a i, gG S' a i = gG S a i := fun a i => by unfold gG; rw [h.2.2.2.2.2]
  exact ⟨fun i => (h.2.2.2.2.1 3 (by decide) (by decide) (by decide) (by decide) i).trans (w.1 i), fun i => (h.2.2.2.2.1 4 (by decide) (by decide) (by decide) (by decide) i).trans (w.2.1 i), fun i => (hgg 1 i).trans (w.2.2.1 i), fun i => (hgg 2 i).trans (w.2.2.2 i)⟩
section SHT
variable {g p q i : Nat}
theorem shut_l {k12 : St → Nat → Int32 → Option (St × Int32)} {k22 : St → Int32 → Int32 → Option (St × Int32)} {x1 : Int32} (hp : p = 1 ∨ p = 2) (hi : i ≤ 60) : ∀ (m n1 n2 : Nat) (st : List JT) (S S2 : St) (G : Nat → Bool), st.length = m → m < n1 → m < n2 → m ≤ 60 → (∀ t ∈ st, i ≤ t.1 ∧ t.1 ≤ 2000) → st.Pairwise (fun a b => b.1 ≤ a.1) → LC S → LM S2 → JC S p G st → JM S2 G st → ∃ S' S2' st' G' r, m_Pg_judged_25 g k12 n1 S p (nI i) (nI m) = ((aI S' (50 + 8 * p + 1) (nI i)).bind fun v => m_Pg_judged_74 g k12 g S' p (nI i) v) ∧ m_judge_32 g k22 n2 S2 x1 (nI i) = m_judge_61 g k22 S2' x1 (nI i) ∧ FJc p S S' ∧ FJm S2 S2' ∧ JC S' p G' st' ∧ JM S2' G' st' ∧ st = st' ++ r ∧ (∀ t ∈ st', i < t.1) ∧ (∀ t ∈ r, t.1 = i) ∧ ((r = [] ∧ G' = G) ∨ ∃ t r', r = t :: r' ∧ G' = t.2.1) := by
  intro m
  induction m with
  | zero =>
    intro n1 n2 st S S2 G hst h1 h2 _ _ _ hl hm jc jm
    obtain ⟨n1, rfl⟩ : ∃ z, n1 = z + 1 := ⟨n1 - 1, by omega⟩
    obtain ⟨n2, rfl⟩ : ∃ z, n2 = z + 1 := ⟨n2 - 1, by omega⟩
    have hn : st = [] := List.eq_nil_of_length_eq_zero hst
    subst hn
    refine ⟨S, S2, [], G, [], ?_, ?_, FJc.rf, FJm.rf, jc, jm, rfl, by simp, by simp, Or.inl ⟨rfl, rfl⟩⟩
    · show b_Pg_judged_25 g k12 (m_Pg_judged_25 g k12 n1) S p (nI i) (nI 0) = _
      unfold b_Pg_judged_25
      rw [if_pos (by decide)]
    · show b_judge_32 g k22 (m_judge_32 g k22 n2) S2 x1 (nI i) = _
      unfold b_judge_32
      rw [jm.2.1, if_pos (by decide)]
  | succ m ih =>
    intro n1 n2 st S S2 G hst h1 h2 h60 hE hpw hl hm jc jm
    obtain ⟨n1, rfl⟩ : ∃ z, n1 = z + 1 := ⟨n1 - 1, by omega⟩
    obtain ⟨n2, rfl⟩ : ∃ z, n2 = z + 1 := ⟨n2 - 1, by omega⟩
    have hem : st ≠ [] := by intro h; rw [h] at hst; simp at hst
    obtain ⟨st0, t, rfl⟩ : ∃ st0 t, st = st0 ++ [t] := ⟨st.dropLast, st.getLast hem, (List.dropLast_concat_getLast hem).symm⟩
    have hm0 : st0.length = m := by rw [List.length_append, List.length_singleton] at hst; omega
    obtain ⟨ti, tb⟩ := hE t (by simp)
    obtain ⟨-, l1, -, -, -, -, l6, l7⟩ := LCp hl hp
    have hlast : (st0 ++ [t])[m]? = some t := by rw [← hm0]; simp
    obtain ⟨c6, c7⟩ := jc.2.2 m t hlast
    obtain ⟨d18, d19, d20, d21⟩ := jm.2.2 m t hlast
    have h18 : gN S2 18 = 61 := LMn hm 18
    have h19 : gN S2 19 = 61 := LMn hm 19
    have h20 : gN S2 20 = 61 := LMn hm 20
    have h21 : gN S2 21 = 61 := LMn hm 21
    have eC : m_Pg_judged_25 g k12 (n1 + 1) S p (nI i) (nI (m + 1)) = b_Pg_judged_25 g k12 (m_Pg_judged_25 g k12 n1) S p (nI i) (nI (m + 1)) := rfl
    have eM : m_judge_32 g k22 (n2 + 1) S2 x1 (nI i) = b_judge_32 g k22 (m_judge_32 g k22 n2) S2 x1 (nI i) := rfl
    unfold b_Pg_judged_25 at eC
    unfold b_judge_32 at eM
    rw [if_neg (show ¬ nI (m + 1) ≤ 0 from nI_ge (a := 0) (by omega) (by omega)), show nI (m + 1) - (1 : Int32) = nI m from nI_pred m, aI_at (by omega) (by omega), c6, Option.bind_some] at eC
    rw [jm.2.1, hst, if_neg (show ¬ nI (m + 1) ≤ 0 from nI_ge (a := 0) (by omega) (by omega)), show nI (m + 1) - (1 : Int32) = nI m from nI_pred m, aI_at (by omega) (by omega), d18, Option.bind_some] at eM
    by_cases hlt : i < t.1
    · rw [if_pos (nI_lt hlt (by omega))] at eC
      rw [if_neg (fun h => absurd ((nI_eq (by omega) (by omega)).mp h) (by omega))] at eM
      refine ⟨S, S2, st0 ++ [t], G, [], eC, eM, FJc.rf, FJm.rf, jc, jm, by simp, ?_, by simp, Or.inl ⟨rfl, rfl⟩⟩
      intro t' ht'
      rcases List.mem_append.mp ht' with h | h
      · have := (List.pairwise_append.mp hpw).2.2 t' h t (by simp)
        omega
      · rw [List.mem_singleton] at h
        rw [h]; exact hlt
    · have hti : t.1 = i := by omega
      rw [if_neg (nI_nlt (by omega) (by omega)), lt_d, sI_g, aJ_at (S := sI S p 11 (nI m)) (show m < gN S (50 + 8 * p + 7) by omega) (show gN S (50 + 8 * p + 7) < 2 ^ 31 by omega), Option.bind_some, lt_d, lt_d, nI_dn] at eC
      rw [if_pos (show nI t.1 = nI i by rw [hti])] at eM
      have fc : FJc p S (sL (sI S p 11 (nI m)) p 12 (gG (sI S p 11 (nI m)) (50 + 8 * p + 7) m)) := FJc.sI.tr FJc.sL
      have fm : FJm S2 (sI (sI (sI (sI S2 0 30 (nI m)) 0 27 (gF S2 19 m)) 0 28 (gF S2 20 m)) 0 29 (gF S2 21 m)) := (((FJm.sI (by omega)).tr (FJm.sI (by omega))).tr (FJm.sI (by omega))).tr (FJm.sI (by omega))
      have jc1 : JC (sL (sI S p 11 (nI m)) p 12 (gG (sI S p 11 (nI m)) (50 + 8 * p + 7) m)) p t.2.1 st0 := by
        refine ⟨fun k hk => ?_, ?_, fun z t' hz => jc.2.2 z t' (get_app hz)⟩
        · rw [gL_s]
          exact c7 k hk
        · show gI (sI S p 11 (nI m)) p 11 = nI st0.length
          rw [sI_g, hm0]
      have jm1 : JM (sI (sI (sI (sI S2 0 30 (nI m)) 0 27 (gF S2 19 m)) 0 28 (gF S2 20 m)) 0 29 (gF S2 21 m)) t.2.1 st0 := by
        refine ⟨⟨fun n hn => ?_, fun n hn => ?_, fun n hn => ?_⟩, ?_, fun z t' hz => jm.2.2 z t' (get_app hz)⟩
        · rw [gI_ne (by decide), gI_ne (by decide), sI_g]; exact d19 n hn
        · rw [gI_ne (by decide), sI_g]; exact d20 n hn
        · rw [sI_g]; exact d21 n hn
        · rw [gI_ne (by decide), gI_ne (by decide), gI_ne (by decide), sI_g, hm0]
      have eS : m_shut g S2 = some (sI (sI (sI (sI S2 0 30 (nI m)) 0 27 (gF S2 19 m)) 0 28 (gF S2 20 m)) 0 29 (gF S2 21 m)) := by
        unfold m_shut
        rw [jm.2.1, hst, show nI (m + 1) - (1 : Int32) = nI m from nI_pred m, lt_d, sI_g, aI_at (S := sI S2 0 30 (nI m)) (show m < gN S2 19 by omega) (show gN S2 19 < 2 ^ 31 by omega), Option.bind_some, lt_d, gI_ne (by decide), sI_g, aI_at (S := sI (sI S2 0 30 (nI m)) 0 27 (gF (sI S2 0 30 (nI m)) 19 m)) (show m < gN S2 20 by omega) (show gN S2 20 < 2 ^ 31 by omega), Option.bind_some, lt_d, gI_ne (by decide), gI_ne (by decide), sI_g]
        rw [show ∀ X : St, X.2.2.2.1 = S2.2.2.2.1 → aI X 21 (nI m) = some (gF X 21 m) from fun X hX => aI_at (by unfold gN; rw [hX]; exact (show m < gN S2 21 by omega)) (by unfold gN; rw [hX]; exact (show gN S2 21 < 2 ^ 31 by omega))]
        · rw [Option.bind_some, lt_d]
          rfl
        · rfl
      rw [eS, Option.bind_some] at eM
      obtain ⟨S', S2', st', G', r, a1, a2, a3, a4, a5, a6, a7, a8, a9, a10⟩ := ih n1 n2 st0 _ _ t.2.1 hm0 (by omega) (by omega) (by omega) (fun t' ht' => hE t' (by simp [ht'])) (List.pairwise_append.mp hpw).1 (hl.fj fc) (hm.fj fm) jc1 jm1
      refine ⟨S', S2', st', G', r ++ [t], eC.trans a1, eM.trans a2, fc.tr a3, fm.tr a4, a5, a6, by rw [a7, List.append_assoc], a8, fun t' ht' => ?_, ?_⟩
      · rcases List.mem_append.mp ht' with h | h
        · exact a9 t' h
        · rw [List.mem_singleton] at h
          rw [h]; exact hti
      · rcases a10 with ⟨b1, b2⟩ | ⟨t0, r0, b1, b2⟩
        · exact Or.inr ⟨t, [], by rw [b1]; rfl, b2⟩
        · exact Or.inr ⟨t0, r0 ++ [t], by rw [b1]; rfl, b2⟩
end SHT
