/-! pairs; a Row to which units are added, beyond its limit too -/
def hiU (u : Int32) : Prop := ¬ u < 55296 ∧ ¬ 56319 < u
def loU (u : Int32) : Prop := ¬ u < 56320 ∧ ¬ 57343 < u
def b01 (p : Prop) [Decidable p] : Int32 := if p then 1 else 0
noncomputable def c01 (p : Prop) : Int32 := @ite _ p (Classical.propDecidable p) 1 0
theorem c01_t {p : Prop} (h : p) : c01 p = 1 := by unfold c01; rw [if_pos h]
theorem c01_f {p : Prop} (h : ¬ p) : c01 p = 0 := by unfold c01; rw [if_neg h]
theorem c01_ne {p : Prop} : c01 p = 0 ↔ ¬ p := by
  by_cases h : p
  · rw [c01_t h]
    exact ⟨fun q => absurd q (by decide), fun q => absurd h q⟩
  · rw [c01_f h]
    exact ⟨fun _ => h, fun _ => rfl⟩
theorem c01_z {p : Prop} : c01 p = 0 ∨ c01 p = 1 := by
  by_cases h : p
  · exact Or.inr (c01_t h)
  · exact Or.inl (c01_f h)
theorem c01_iff {p q : Prop} (h : p ↔ q) : c01 p = c01 q := by rw [propext h]
theorem high_s {g : Nat} {u : Int32} : m_isHigh g u = some (c01 (hiU u)) := by
  unfold m_isHigh
  by_cases h1 : u < 55296
  · rw [if_pos h1, c01_f (fun q => q.1 h1)]
  · rw [if_neg h1]
    by_cases h2 : 56319 < u
    · rw [if_pos h2, c01_f (fun q => q.2 h2)]
    · rw [if_neg h2, c01_t ⟨h1, h2⟩]
theorem low_s {g : Nat} {u : Int32} : m_isLow g u = some (c01 (loU u)) := by
  unfold m_isLow
  by_cases h1 : u < 56320
  · rw [if_pos h1, c01_f (fun q => q.1 h1)]
  · rw [if_neg h1]
    by_cases h2 : 57343 < u
    · rw [if_pos h2, c01_f (fun q => q.2 h2)]
    · rw [if_neg h2, c01_t ⟨h1, h2⟩]
/-- a PAIR at place p of the list, ending before e -/
def prL (l : List Int32) (p e : Nat) : Prop := p + 1 < e ∧ hiU (l.getD p 0) ∧ loU (l.getD (p + 1) 0)
theorem R_pair {g o p e : Nat} {S : St} {l : List Int32} {ov : Int32} (w : Rw S o l ov) (he : e ≤ l.length) (hp : p < 2 ^ 31) : m_Row_hasPair g S o (nI p) (nI e) = some (c01 (prL l p e)) := by
  obtain ⟨w0, w1, w2, w3, w4, w5, w6, w7, w8⟩ := w
  have hb := lim_b o w0.2 w0.1
  unfold m_Row_hasPair
  rw [if_neg (nI_pos hp)]
  by_cases h : p + 1 < e
  · have e1 : nI e - 1 = nI (e - 1) := nI_sub (b := 1) (by omega)
    have e2 : nI p + 1 = nI (p + 1) := nI_1 p
    rw [e1, if_neg (nI_ge (by omega) (by omega)), w2, if_neg (nI_nlt he (by omega)), aI_at (by omega) (by omega), w8 p (by omega), Option.bind_some, high_e, high_s, Option.bind_some]
    by_cases h1 : hiU (l.getD p 0)
    · rw [c01_t h1, if_neg (by decide), e2, aI_at (by omega) (by omega), w8 (p + 1) (by omega), Option.bind_some, lowu_e, low_s, Option.bind_some]
      by_cases h2 : loU (l.getD (p + 1) 0)
      · rw [c01_t h2, if_neg (by decide), c01_t ⟨h, h1, h2⟩]
      · rw [c01_f h2, if_pos rfl, c01_f (fun q => h2 q.2.2)]
    · rw [c01_f h1, if_pos rfl, c01_f (fun q => h1 q.2.1)]
  · rw [c01_f (fun q => h q.1), if_pos]
    by_cases h0 : e = 0
    · subst h0
      rw [Int32.le_iff_toInt_le, nI_toInt hp, show (nI 0 - 1).toInt = -1 from by decide +kernel]
      omega
    · rw [show nI e - 1 = nI (e - 1) from nI_sub (b := 1) (by omega)]
      exact nI_le (by omega) hp
theorem R_pair0 {g o : Nat} {S : St} {x y : Int32} (h : x < 0) : m_Row_hasPair g S o x y = some 0 := by
  unfold m_Row_hasPair
  rw [if_pos h]
def prV (a b : Int32) : Int32 := ((65536 : Int32) + ((1024 : Int32) * (a - (55296 : Int32)))) + (b - (56320 : Int32))
theorem R_pairAt {g o p : Nat} {S : St} {l : List Int32} {ov : Int32} (w : Rw S o l ov) (hp : p + 1 < l.length) : m_Row_pairAt g S o (nI p) = some (prV (l.getD p 0) (l.getD (p + 1) 0)) := by
  have hb := lim_b o w.1.2 w.1.1
  have hl := w.2.2.2.2.1
  unfold m_Row_pairAt
  rw [R_at w, Option.bind_some, show nI p + 1 = nI (p + 1) from nI_1 p, R_at w, Option.bind_some, atR_nI (by omega), atR_nI (by omega), getD_lt (d' := 0) (by omega), getD_lt (d' := 0) hp]
  rfl
/-- units v were added to Row o since it was cleared: they stand there, or it is over -/
def Scr (S : St) (o : Nat) (v : List Int32) : Prop := (v.length ≤ limC o ∧ Rw S o v 0) ∨ (limC o < v.length ∧ ∃ l, Rw S o l 1)
theorem Scr.fr {o x : Nat} {S S' : St} {v : List Int32} (h : Fr o S S') (hx : x ≠ o) (w : Scr S x v) : Scr S' x v := by
  rcases w with ⟨h1, h2⟩ | ⟨h1, l, h2⟩
  · exact Or.inl ⟨h1, h2.fr h hx⟩
  · exact Or.inr ⟨h1, l, h2.fr h hx⟩
theorem Scr.nil {o : Nat} {S : St} (w : Rw S o [] 0) : Scr S o [] := Or.inl ⟨Nat.zero_le _, w⟩
theorem Scr_add {g o : Nat} {S : St} {v : List Int32} {u : Int32} (w : Scr S o v) (hk : gOK S) : ∃ S', m_Row_add g S o u = some S' ∧ Fr o S S' ∧ Scr S' o (v ++ [u]) := by
  rcases w with ⟨h1, h2⟩ | ⟨h1, l, h2⟩
  · obtain ⟨S', a, b, c⟩ := R_add (g := g) (v := u) h2 hk
    refine ⟨S', a, b, ?_⟩
    by_cases h : v.length < limC o
    · rw [if_pos h, if_pos h] at c
      exact Or.inl ⟨by rw [List.length_append, List.length_singleton]; omega, c⟩
    · rw [if_neg h, if_neg h] at c
      exact Or.inr ⟨by rw [List.length_append, List.length_singleton]; omega, _, c⟩
  · obtain ⟨S', a, b, c⟩ := R_add (g := g) (v := u) h2 hk
    rw [ite_self] at c
    exact ⟨S', a, b, Or.inr ⟨by rw [List.length_append]; omega, _, c⟩⟩
theorem Scr_ins {g o x s n : Nat} {S : St} {v l2 : List Int32} {ov2 : Int32} (w : Scr S o v) (w2 : Rw S x l2 ov2) (hx : x ≠ o) (hk : gOK S) (hs : s + n ≤ l2.length) : ∃ S', m_Row_insert g S o (gI S o 2) x (nI s) (nI (s + n)) = some S' ∧ Fr o S S' ∧ Scr S' o (v ++ seg l2 s n) := by
  rcases w with ⟨h1, h2⟩ | ⟨h1, l, h2⟩
  · obtain ⟨S', a, b, c⟩ := R_insert (g := g) (p := v.length) h2 w2 hx hk (Nat.le_refl _) hs
    rw [← h2.2.2.1] at a
    refine ⟨S', a, b, ?_⟩
    rw [List.take_of_length_le (Nat.le_refl _), List.drop_of_length_le (Nat.le_refl _), List.append_nil] at c
    by_cases h : v.length + n ≤ limC o
    · rw [if_pos h, if_pos h] at c
      exact Or.inl ⟨by rw [List.length_append, seg_len hs]; exact h, c⟩
    · rw [if_neg h, if_neg h] at c
      exact Or.inr ⟨by rw [List.length_append, seg_len hs]; omega, _, c⟩
  · obtain ⟨S', a, b, c⟩ := R_insert (g := g) (p := l.length) h2 w2 hx hk (Nat.le_refl _) hs
    rw [← h2.2.2.1] at a
    rw [ite_self] at c
    exact ⟨S', a, b, Or.inr ⟨by rw [List.length_append]; omega, _, c⟩⟩
/-- the units of POINT n -/
def ptU (x : Int32) : List Int32 := if (65535 : Int32) < x then [(55296 : Int32) + ((x - (65536 : Int32)) / (1024 : Int32)), (56320 : Int32) + ((x - (65536 : Int32)) - (x - (65536 : Int32)) / (1024 : Int32) * (1024 : Int32))] else [x]
theorem Scr_point {g o : Nat} {S : St} {v : List Int32} {x : Int32} (w : Scr S o v) (hk : gOK S) : ∃ S', m_Row_addPoint g S o x = some S' ∧ Fr o S S' ∧ Scr S' o (v ++ ptU x) := by
  unfold m_Row_addPoint ptU
  by_cases h : (65535 : Int32) < x
  · rw [if_pos h, if_pos h]
    obtain ⟨S1, a1, b1, c1⟩ := Scr_add (g := g) (u := (55296 : Int32) + ((x - (65536 : Int32)) / (1024 : Int32))) w hk
    obtain ⟨S2, a2, b2, c2⟩ := Scr_add (g := g) (u := (56320 : Int32) + ((x - (65536 : Int32)) - (x - (65536 : Int32)) / (1024 : Int32) * (1024 : Int32))) c1 (hk.fr b1)
    refine ⟨S2, ?_, b1.tr b2, ?_⟩
    · unfold m_Lt_highOf
      rw [Option.bind_some, a1, Option.bind_some]
      unfold m_Row_addPoint_22 m_Lt_lowOf
      rw [Option.bind_some, a2]
      rfl
    · rw [List.append_assoc] at c2
      exact c2
  · rw [if_neg h, if_neg h]
    obtain ⟨S1, a1, b1, c1⟩ := Scr_add (g := g) (u := x) w hk
    refine ⟨S1, ?_, b1, c1⟩
    rw [a1]
    rfl
theorem cC_at {j i : Nat} (h : i < (byT.getD j []).length) (hl : (byT.getD j []).length < 2 ^ 31) : cC j (nI i) = some (sCh j (nI i)) := by
  unfold cC
  rw [if_neg (nI_in h hl)]
theorem Scr_chars_l {g o j : Nat} (hj : j < 101) : ∀ (k n i : Nat) (S : St) (v : List Int32), i + k = (byT.getD j []).length → k < n → Scr S o v → gOK S → ∃ S', m_Row_addChars_2 g n S o j (nI i) = some S' ∧ Fr o S S' ∧ Scr S' o (v ++ ((List.range k).map (fun q => sCh j (nI (i + q))))) := by
  have hl := byT_len j hj
  intro k
  induction k with
  | zero =>
    intro n i S v hi hn w hk
    obtain ⟨n, rfl⟩ : ∃ m, n = m + 1 := ⟨n - 1, by omega⟩
    refine ⟨S, ?_, Fr.rf, by simpa using w⟩
    show b_Row_addChars_2 g (m_Row_addChars_2 g n) S o j (nI i) = _
    unfold b_Row_addChars_2
    rw [if_pos (show sLen j ≤ nI i from nI_le (by omega) (by omega))]
  | succ k ih =>
    intro n i S v hi hn w hk
    obtain ⟨n, rfl⟩ : ∃ m, n = m + 1 := ⟨n - 1, by omega⟩
    obtain ⟨S1, a1, b1, c1⟩ := Scr_add (g := g) (u := sCh j (nI i)) w hk
    obtain ⟨S2, a2, b2, c2⟩ := ih n (i + 1) S1 _ (by omega) (by omega) c1 (hk.fr b1)
    refine ⟨S2, ?_, b1.tr b2, ?_⟩
    · show b_Row_addChars_2 g (m_Row_addChars_2 g n) S o j (nI i) = _
      unfold b_Row_addChars_2
      rw [if_neg (show ¬ sLen j ≤ nI i from nI_ge (by omega) (by omega)), cC_at (by omega) (by omega), Option.bind_some, a1, Option.bind_some]
      unfold m_Row_addChars_19
      rw [lt_d, show nI i + 1 = nI (i + 1) from nI_1 i]
      exact a2
    · rw [List.append_assoc] at c2
      have e : (List.range (k + 1)).map (fun q => sCh j (nI (i + q))) = [sCh j (nI i)] ++ (List.range k).map (fun q => sCh j (nI (i + 1 + q))) := by
        rw [List.range_succ_eq_map, List.map_cons, List.map_map]
        simp only [List.singleton_append, Nat.add_zero]
        congr 1
        apply List.map_congr_left
        intro a _
        show sCh j (nI (i + (a + 1))) = _
        congr 2
        omega
      rw [e]
      exact c2
def chrU (j : Nat) : List Int32 := (List.range (byT.getD j []).length).map (fun q => sCh j (nI q))
theorem Scr_chars {g o j : Nat} {S : St} {v : List Int32} (hj : j < 101) (hg : 100000 ≤ g) (w : Scr S o v) (hk : gOK S) : ∃ S', m_Row_addChars g S o j = some S' ∧ Fr o S S' ∧ Scr S' o (v ++ chrU j) := by
  have hl := byT_len j hj
  have := Scr_chars_l (g := g) (o := o) hj (byT.getD j []).length g 0 S v (by omega) (by omega) w hk
  simp only [Nat.zero_add] at this
  exact this
theorem chr_5 : chrU 5 = [102, 97, 108, 115, 101] ∧ chrU 6 = [116, 114, 117, 101] ∧ chrU 7 = [110, 117, 108, 108] := by decide +kernel
