/-! a run begins: the reference -/
/-- what begin leaves as it was, in the reference -/
def FBM (S S' : St) : Prop := (∀ k, ¬ stpSl k → k ≠ 52 → k ≠ 53 → k ≠ 54 → k ≠ 55 → gI S' 0 k = gI S 0 k) ∧ S'.2.1 = S.2.1 ∧ S'.2.2.1 = S.2.2.1 ∧ S'.2.2.2.1 = S.2.2.2.1 ∧ ∀ a, ¬ stpAr a → a ≠ 16 → a ≠ 31 → (∀ i, gF S' a i = gF S a i) ∧ ∀ i, gG S' a i = gG S a i
theorem FBM.rf {S : St} : FBM S S := ⟨fun _ _ _ _ _ _ => rfl, rfl, rfl, rfl, fun _ _ _ _ => ⟨fun _ => rfl, fun _ => rfl⟩⟩
theorem FBM.tr {S S1 S2 : St} (h1 : FBM S S1) (h2 : FBM S1 S2) : FBM S S2 := ⟨fun k a b c d e => (h2.1 k a b c d e).trans (h1.1 k a b c d e), h2.2.1.trans h1.2.1, h2.2.2.1.trans h1.2.2.1, h2.2.2.2.1.trans h1.2.2.2.1, fun a b c d => ⟨fun i => ((h2.2.2.2.2 a b c d).1 i).trans ((h1.2.2.2.2 a b c d).1 i), fun i => ((h2.2.2.2.2 a b c d).2 i).trans ((h1.2.2.2.2 a b c d).2 i)⟩⟩
theorem FBM.fs {S S' : St} (h : FS S S') : FBM S S' := ⟨fun k a _ _ _ _ => h.1 k a, h.2.1, h.2.2.1, h.2.2.2.1, fun a b _ _ => h.2.2.2.2 a b⟩
theorem FBM.sI {S : St} {k : Nat} {v : Int32} (h : k = 52 ∨ k = 53 ∨ k = 54 ∨ k = 55) : FBM S (sI S 0 k v) := ⟨fun j _ _ _ _ _ => gI_ne (by omega), rfl, rfl, rfl, fun _ _ _ _ => ⟨fun _ => rfl, fun _ => rfl⟩⟩
theorem FBM.sF {S : St} {a i : Nat} {v : Int32} (h : a = 16 ∨ a = 31) : FBM S (sF S a i v) := ⟨fun _ _ _ _ _ _ => rfl, rfl, rfl, rfl, fun b _ _ _ => ⟨fun j => gF_ne (by omega), fun _ => rfl⟩⟩
theorem LM.fb {S S' : St} (w : LM S) (h : FBM S S') : LM S' := w.of h.2.2.2.1
theorem PrM.fb {S S' : St} {q : Nat} {P : Prg} (w : PrM S q P) (h : FBM S S') : PrM S' q P := by
  obtain ⟨x1, x2, x3, x4⟩ := w
  have hf : ∀ a i, 6 ≤ a → a ≤ 11 → gF S' a i = gF S a i := fun a i h1 h2 => (h.2.2.2.2 a (by unfold stpAr; omega) (by omega) (by omega)).1 i
  have hgg : ∀ a i, 6 ≤ a → a ≤ 11 → gG S' a i = gG S a i := fun a i h1 h2 => (h.2.2.2.2 a (by unfold stpAr; omega) (by omega) (by omega)).2 i
  refine ⟨x1, x2, (hf 11 q (by omega) (by omega)).trans x3, fun i s ws hi => ?_⟩
  obtain ⟨y1, y2, y3, y4⟩ := x4 i s ws hi
  refine ⟨y1, (hf 6 _ (by omega) (by omega)).trans y2, (hf 7 _ (by omega) (by omega)).trans y3, fun j w hw => ?_⟩
  obtain ⟨z1, z2, z3⟩ := y4 j w hw
  exact ⟨(hf 8 _ (by omega) (by omega)).trans z1, (hgg 10 _ (by omega) (by omega)).trans z2, (hf 9 _ (by omega) (by omega)).trans z3⟩
/-- the reference has a program's LITERALS -/
def LitM (S : St) (lits : List (List Int32)) : Prop := gF S 15 0 = nI lits.length ∧ lits.length ≤ 24 ∧ lits.flatten.length ≤ 3000 ∧ ∀ n l, lits[n]? = some l → l.length ≤ 400 ∧ ∃ f, f + l.length ≤ 3000 ∧ gF S 13 n = nI f ∧ gF S 14 n = nI l.length ∧ ∀ i, i < l.length → gF S 12 (f + i) = l.getD i 0
theorem LitM.fb {S S' : St} {lits : List (List Int32)} (w : LitM S lits) (h : FBM S S') : LitM S' lits := by
  obtain ⟨x1, x2, x3, x4⟩ := w
  have hf : ∀ a i, 12 ≤ a → a ≤ 15 → gF S' a i = gF S a i := fun a i h1 h2 => (h.2.2.2.2 a (by unfold stpAr; omega) (by omega) (by omega)).1 i
  refine ⟨(hf 15 0 (by omega) (by omega)).trans x1, x2, x3, fun n l hn => ?_⟩
  obtain ⟨y1, f, y2, y3, y4, y5⟩ := x4 n l hn
  exact ⟨y1, f, y2, (hf 13 n (by omega) (by omega)).trans y3, (hf 14 n (by omega) (by omega)).trans y4, fun i hi => (hf 12 _ (by omega) (by omega)).trans (y5 i hi)⟩
/-- the LITERALS in the order of their first use, the empty one aside -/
def usS (lits : List (List Int32)) : List Nat → List Nat → List Nat
  | [], us => us
  | n :: r, us => usS lits r (if lits.getD n [] = [] ∨ n ∈ us then us else us ++ [n])
theorem usS_app {lits : List (List Int32)} : ∀ {a b us : List Nat}, usS lits (a ++ b) us = usS lits b (usS lits a us) := by
  intro a
  induction a with
  | nil => intro b us; rfl
  | cons c a ih => intro b us; exact ih
def txU (lits : List (List Int32)) (us : List Nat) : List (List Int32) := us.map fun n => lits.getD n []
theorem sum_erase {f : Nat → Nat} : ∀ {l : List Nat} {a : Nat}, a ∈ l → (l.map f).sum = f a + ((l.erase a).map f).sum := by
  intro l
  induction l with
  | nil => intro a h; simp at h
  | cons c l ih =>
    intro a h
    by_cases e : c = a
    · subst e
      rw [List.erase_cons_head]
      simp
    · rw [List.erase_cons_tail (by simpa using e)]
      have := ih (a := a) (by
        rcases List.mem_cons.mp h with h | h
        · exact absurd h.symm e
        · exact h)
      simp only [List.map_cons, List.sum_cons]
      omega
theorem sum_nodup {f : Nat → Nat} : ∀ (n : Nat) (l : List Nat), l.Nodup → (∀ x ∈ l, x < n) → (l.map f).sum ≤ ((List.range n).map f).sum := by
  intro n
  induction n with
  | zero =>
    intro l _ h
    cases l with
    | nil => exact Nat.le_refl _
    | cons a r => exact absurd (h a (by simp)) (by omega)
  | succ n ih =>
    intro l hn h
    rw [List.range_succ, List.map_append, List.sum_append]
    by_cases hm : n ∈ l
    · rw [sum_erase hm]
      have h1 := ih (l.erase n) (hn.erase n) (fun x hx => by
        have h2 := (hn.mem_erase_iff).mp hx
        have := h x h2.2
        have := h2.1
        omega)
      simp only [List.map_cons, List.map_nil, List.sum_cons, List.sum_nil]
      omega
    · have := ih l hn (fun x hx => by
        have := h x hx
        have : x ≠ n := fun e => hm (e ▸ hx)
        omega)
      omega
theorem range_sum : ∀ {ls : List (List Int32)}, ((List.range ls.length).map fun n => (ls.getD n []).length).sum = ls.flatten.length := by
  intro ls
  rw [List.length_flatten]
  congr 1
  apply List.ext_getElem?
  intro i
  rw [List.getElem?_map, List.getElem?_map]
  by_cases h : i < ls.length
  · rw [List.getElem?_range h, List.getElem?_eq_getElem h]
    simp [h]
  · rw [List.getElem?_eq_none (by rw [List.length_range]; omega), List.getElem?_eq_none (by omega)]
    rfl
theorem txU_len {lits : List (List Int32)} {us : List Nat} (h1 : us.Nodup) (h2 : ∀ x ∈ us, x < lits.length) : (txU lits us).flatten.length ≤ lits.flatten.length := by
  have := sum_nodup (f := fun n => (lits.getD n []).length) lits.length us h1 h2
  rw [range_sum] at this
  unfold txU
  rw [List.length_flatten, List.map_map]
  exact this
/-- what the reference has while LITERALS become texts -/
def MB (S : St) (lits : List (List Int32)) (us : List Nat) : Prop := TXs S ([] :: txU lits us) (txU lits us).flatten.length ∧ PoM S (List.range (us.length + 1)) ∧ us.Nodup ∧ (∀ n ∈ us, n < lits.length ∧ ¬ lits.getD n [] = []) ∧ ∀ n, n < lits.length → (gF S 16 n = -1 ∧ n ∉ us) ∨ (gF S 16 n = nI 0 ∧ lits.getD n [] = []) ∨ ∃ j, us[j]? = some n ∧ gF S 16 n = nI (1 + j)
/-- beside texts nothing changes there -/
def FT5 (S S' : St) : Prop := (∀ k, k ≠ 38 → k ≠ 39 → k ≠ 41 → k ≠ 57 → gI S' 0 k = gI S 0 k) ∧ S'.2.1 = S.2.1 ∧ S'.2.2.1 = S.2.2.1 ∧ S'.2.2.2.1 = S.2.2.2.1 ∧ ∀ a, a ≠ 22 → a ≠ 23 → a ≠ 24 → a ≠ 25 → a ≠ 34 → a ≠ 37 → a ≠ 16 → (∀ i, gF S' a i = gF S a i) ∧ ∀ i, gG S' a i = gG S a i
theorem FT5.rf {S : St} : FT5 S S := ⟨fun _ _ _ _ _ => rfl, rfl, rfl, rfl, fun _ _ _ _ _ _ _ _ => ⟨fun _ => rfl, fun _ => rfl⟩⟩
theorem FT5.tr {S S1 S2 : St} (h1 : FT5 S S1) (h2 : FT5 S1 S2) : FT5 S S2 := ⟨fun k a b c d => (h2.1 k a b c d).trans (h1.1 k a b c d), h2.2.1.trans h1.2.1, h2.2.2.1.trans h1.2.2.1, h2.2.2.2.1.trans h1.2.2.2.1, fun a b c d e f i j => ⟨fun x => ((h2.2.2.2.2 a b c d e f i j).1 x).trans ((h1.2.2.2.2 a b c d e f i j).1 x), fun x => ((h2.2.2.2.2 a b c d e f i j).2 x).trans ((h1.2.2.2.2 a b c d e f i j).2 x)⟩⟩
theorem FT5.b {S S' : St} (h : FT5 S S') : FBM S S' := ⟨fun k a _ _ _ _ => h.1 k (fun e => a (by unfold stpSl; omega)) (fun e => a (by unfold stpSl; omega)) (fun e => a (by unfold stpSl; omega)) (fun e => a (by unfold stpSl; omega)), h.2.1, h.2.2.1, h.2.2.2.1, fun a b c _ => h.2.2.2.2 a (fun e => b (by unfold stpAr; omega)) (fun e => b (by unfold stpAr; omega)) (fun e => b (by unfold stpAr; omega)) (fun e => b (by unfold stpAr; omega)) (fun e => b (by unfold stpAr; omega)) (fun e => b (by unfold stpAr; omega)) c⟩
theorem FT5.fe {S S' : St} (h : FE S S') : FT5 S S' := ⟨fun k _ _ _ d => h.1 k d, h.2.1, h.2.2.1, h.2.2.2.1, fun a _ _ _ _ e f _ => ⟨fun i => h.2.2.2.2.1 a e f i, fun i => by unfold gG; rw [h.2.2.2.2.2]⟩⟩
theorem FT5.md {S S' : St} (h : FMd S S') : FT5 S S' := ⟨fun k a b _ _ => h.1 k a b, h.2.1, h.2.2.1, h.2.2.2.1, fun a b c d _ _ _ _ => ⟨fun i => h.2.2.2.2.1 a b c d i, fun i => by unfold gG; rw [h.2.2.2.2.2]⟩⟩
theorem FT5.sI {S : St} {k : Nat} {v : Int32} (h : k = 38 ∨ k = 39 ∨ k = 41 ∨ k = 57) : FT5 S (sI S 0 k v) := ⟨fun j _ _ _ _ => gI_ne (by omega), rfl, rfl, rfl, fun _ _ _ _ _ _ _ _ => ⟨fun _ => rfl, fun _ => rfl⟩⟩
theorem FT5.sF {S : St} {a i : Nat} {v : Int32} (h : a = 16 ∨ a = 25) : FT5 S (sF S a i v) := ⟨fun _ _ _ _ _ => rfl, rfl, rfl, rfl, fun b _ _ _ _ _ _ _ => ⟨fun j => gF_ne (by omega), fun _ => rfl⟩⟩
section BGM
variable {g q : Nat} {P : Prg} {lits : List (List Int32)}
theorem TXs.s57 {S : St} {ts : List (List Int32)} {u : Nat} {v : Int32} (w : TXs S ts u) : TXs (sI S 0 57 v) ts u := by
  obtain ⟨a, b, c, d, e⟩ := w
  exact ⟨a, b, c, d, e⟩
theorem M_l60 {k2 : St → Int32 → Int32 → Option St} {x1 x2 : Int32} {c : Nat} {l : List Int32} (hl : lits[c]? = some l) : ∀ (k n i : Nat) (S : St) (v : List Int32), i + k = l.length → LitM S lits → LM S → Out S v → v.length + k < 2 ^ 31 → ∃ S', m_literals_60 g k2 (n + k) S x1 x2 (nI c) (nI i) = m_literals_60 g k2 n S' x1 x2 (nI c) (nI l.length) ∧ FE S S' ∧ Out S' (v ++ seg l i k) := by
  intro k
  induction k with
  | zero =>
    intro n i S v hi _ _ w _
    refine ⟨S, ?_, FE.rf, ?_⟩
    · rw [show i = l.length by omega]
      rfl
    · rw [seg_0, List.append_nil]; exact w
  | succ k ih =>
    intro n i S v hi lm hm w hv
    obtain ⟨y1, f, y2, y3, y4, y5⟩ := lm.2.2.2 c l hl
    have hc := (List.getElem?_eq_some_iff.mp hl).1
    have hc24 := lm.2.1
    have h12 : gN S 12 = 6000 := LMn hm 12
    have h13 : gN S 13 = 48 := LMn hm 13
    have h14 : gN S 14 = 48 := LMn hm 14
    obtain ⟨S1, a1, a2, a3⟩ := O_add (g := g) (u := l.getD i 0) w hm (by omega)
    obtain ⟨S', b1, b2, b3⟩ := ih n (i + 1) S1 _ (by omega) (lm.fb (FT5.b (FT5.fe a2))) (hm.fe a2) a3 (by rw [List.length_append, List.length_singleton]; omega)
    refine ⟨S', ?_, a2.tr b2, ?_⟩
    · show b_literals_60 g k2 (m_literals_60 g k2 (n + k)) S x1 x2 (nI c) (nI i) = _
      unfold b_literals_60
      rw [aI_at (by omega) (by omega), Option.bind_some, y4, if_neg (nI_ge (by omega) (by omega)), aI_at (by omega) (by omega), Option.bind_some, y3, nI_add, aI_at (by omega) (by omega), Option.bind_some, y5 i (by omega), a1, Option.bind_some, lt_d, nI_1, b1]
    · rw [seg_cons (by omega), List.append_cons]
      exact b3
theorem MB.sz {S : St} {us : List Nat} (w : MB S lits us) (h24 : lits.length ≤ 24) : us.length ≤ 24 := by
  have := nodup_len lits.length us w.2.2.1 (fun x hx => (w.2.2.2.1 x hx).1)
  omega
/-- a LITERAL is used for the first time -/
theorem M_lit {k2 : St → Int32 → Int32 → Option St} {x1 x2 : Int32} {c : Nat} {S : St} {us : List Nat} (hg : 100000 ≤ g) (hc : c < lits.length) (lm : LitM S lits) (hm : LM S) (w : MB S lits us) (h16 : gF S 16 c = -1) : ∃ S', m_literals_60 g k2 g (sI S 0 57 0) x1 x2 (nI c) 0 = k2 S' x1 (x2 + 1) ∧ FT5 S S' ∧ MB S' lits (usS lits [c] us) ∧ (∀ n, ¬ gF S 16 n = -1 → ¬ gF S' 16 n = -1) ∧ ¬ gF S' 16 c = -1 := by
  have hl : lits[c]? = some (lits.getD c []) := by
    rw [List.getD_eq_getElem?_getD, List.getElem?_eq_getElem hc]
    rfl
  generalize hlv : lits.getD c [] = l at hl
  have hsz := w.sz lm.2.1
  have h24 := lm.2.1
  have h3000 := lm.2.2.1
  obtain ⟨y1, f, y2, y3, y4, y5⟩ := lm.2.2.2 c l hl
  obtain ⟨w1, w2, w3, w4, w5⟩ := w
  have hcu : c ∉ us := by
    rcases w5 c hc with h | h | ⟨j, h1, h2⟩
    · exact h.2
    · rw [h16] at h; exact absurd h.1.symm (nI_m1 (by omega))
    · have := (List.getElem?_eq_some_iff.mp h1).1
      rw [h16] at h2; exact absurd h2.symm (nI_m1 (by omega))
  have f0 : FT5 S (sI S 0 57 0) := FT5.sI (by omega)
  have hm0 : LM (sI S 0 57 0) := hm
  obtain ⟨S1, a1, a2, a3⟩ := M_l60 (g := g) (k2 := k2) (x1 := x1) (x2 := x2) hl l.length (g - l.length) 0 (sI S 0 57 0) [] (by omega) (lm.fb f0.b) hm0 ⟨by rw [sI_g]; rfl, fun i hi => by simp at hi⟩ (by simp; omega)
  rw [show g - l.length + l.length = g by omega] at a1
  have hseg : seg l 0 l.length = l := by unfold seg; rw [List.drop_zero, List.take_length]
  rw [hseg, List.nil_append] at a3
  have hm1 : LM S1 := hm0.fe a2
  have f1 : FT5 S S1 := f0.tr (FT5.fe a2)
  have h14 : gN S1 14 = 48 := LMn hm1 14
  have e14 : aI S1 14 (nI c) = some (nI l.length) := by
    rw [aI_at (by omega) (by omega), (f1.2.2.2.2 14 (by decide) (by decide) (by decide) (by decide) (by decide) (by decide) (by decide)).1, y4]
  have T1 : TXs S1 ([] :: txU lits us) (txU lits us).flatten.length := w1.s57.fe a2
  have P1 : PoM S1 (List.range (us.length + 1)) := by
    refine ⟨(a2.1 41 (by decide)).trans w2.1, w2.2.1, fun i hi => (a2.2.2.2.2.1 25 (by decide) (by decide) i).trans (w2.2.2 i hi)⟩
  have e16 : ∀ n, gF S1 16 n = gF S 16 n := fun n => a2.2.2.2.2.1 16 (by decide) (by decide) n
  have step : m_literals_60 g k2 g (sI S 0 57 0) x1 x2 (nI c) 0 = b_literals_60 g k2 (m_literals_60 g k2 (g - l.length - 1)) S1 x1 x2 (nI c) (nI l.length) := by
    refine a1.trans ?_
    rw [show g - l.length = (g - l.length - 1) + 1 by omega]
    rfl
  have h161 : gN S1 16 = 24 := LMn hm1 16
  by_cases he : l = []
  · subst he
    have hus : usS lits [c] us = us := by
      show (if lits.getD c [] = [] ∨ c ∈ us then us else us ++ [c]) = us
      rw [if_pos (Or.inl hlv)]
    rw [hus]
    refine ⟨sF S1 16 c (nI 0), ?_, f1.tr (FT5.sF (by omega)), ⟨?_, ?_, w3, w4, fun n hn => ?_⟩, fun n hn => ?_, ?_⟩
    · rw [step]
      unfold b_literals_60 m_became
      have e57 : gI S1 0 57 = 0 := a3.1
      rw [e14, Option.bind_some, if_pos (show nI ([] : List Int32).length ≤ nI ([] : List Int32).length from by decide), if_pos e57, Option.bind_some]
      show (tI S1 16 (nI c) (nI 0)).bind _ = _
      rw [tI_at (by omega) (by omega), Option.bind_some, aI_at (S := sF S1 16 c (nI 0)) (i := c) (show c < gN S1 16 by omega) (show gN S1 16 < 2 ^ 31 by omega), Option.bind_some, gF_sF, if_pos (by decide), lt_d]
    · obtain ⟨b1, b2, b3, b4, b5⟩ := T1
      exact ⟨b1, b2, b3, b4, b5⟩
    · exact P1
    · by_cases e : n = c
      · subst e
        exact Or.inr (Or.inl ⟨gF_sF, hlv⟩)
      · rw [gF_sFi e, e16]
        exact w5 n hn
    · by_cases e : n = c
      · subst e
        rw [gF_sF]
        exact nI_m1 (by omega)
      · rw [gF_sFi e, e16]
        exact hn
    · rw [gF_sF]
      exact nI_m1 (by omega)
  · have hus : usS lits [c] us = us ++ [c] := by
      show (if lits.getD c [] = [] ∨ c ∈ us then us else us ++ [c]) = us ++ [c]
      rw [if_neg (fun h => by
        rcases h with h | h
        · rw [hlv] at h; exact he h
        · exact hcu h)]
    rw [hus]
    have hnd : (us ++ [c]).Nodup := List.nodup_append.mpr ⟨w3, by simp, fun a ha b hb => by
      rw [List.mem_singleton] at hb
      rw [hb]
      exact fun e => hcu (e ▸ ha)⟩
    have hlt : ∀ x ∈ us ++ [c], x < lits.length := fun x hx => by
      rcases List.mem_append.mp hx with h | h
      · exact (w4 x h).1
      · rw [List.mem_singleton] at h; omega
    have htx : txU lits (us ++ [c]) = txU lits us ++ [l] := by
      unfold txU
      rw [List.map_append, List.map_cons, List.map_nil, hlv]
    have hfl : (txU lits (us ++ [c])).flatten.length = (txU lits us).flatten.length + l.length := by
      rw [htx, List.flatten_append, List.length_append]
      simp
    have hb := txU_len hnd hlt
    have htl : (txU lits us).length = us.length := by unfold txU; rw [List.length_map]
    obtain ⟨S2, c1, c2, c3⟩ := O_made (g := g) hg T1 hm1 a3 (by omega) (by omega) (by rw [List.length_cons]; omega)
    have hn2 : ([] :: txU lits us).length = 1 + us.length := by rw [List.length_cons]; omega
    rw [hn2] at c1
    have hm2 : LM S2 := hm1.of c2.2.2.2.1
    have h162 : gN S2 16 = 24 := LMn hm2 16
    have P2 : PoM (sF S2 16 c (nI (1 + us.length))) (List.range (us.length + 1)) := by
      refine ⟨(c2.1 41 (by decide) (by decide)).trans P1.1, P1.2.1, fun i hi => ?_⟩
      rw [gF_ne (by decide), c2.2.2.2.2.1 25 (by decide) (by decide) (by decide)]
      exact P1.2.2 i hi
    obtain ⟨S3, d1, d2, d3⟩ := M_pools (g := g) (S := sF S2 16 c (nI (1 + us.length))) (t := 1 + us.length) hm2 P2 (by rw [List.length_range]; omega)
    have e163 : ∀ n, gF S3 16 n = if n = c then nI (1 + us.length) else gF S 16 n := by
      intro n
      rw [d2]
      show gF (sF (sF S2 16 c (nI (1 + us.length))) 25 (List.range (us.length + 1)).length (nI (1 + us.length))) 16 n = _
      rw [gF_ne (by decide)]
      by_cases e : n = c
      · subst e
        rw [gF_sF, if_pos rfl]
      · rw [gF_sFi e, if_neg e, c2.2.2.2.2.1 16 (by decide) (by decide) (by decide), e16]
    have f3 : FT5 S S3 := by
      rw [d2]
      exact ((f1.tr (FT5.md c2)).tr (FT5.sF (by omega))).tr ((FT5.sF (by omega)).tr (FT5.sI (by omega)))
    refine ⟨S3, ?_, f3, ⟨?_, ?_, hnd, ?_, fun n hn => ?_⟩, fun n hn => ?_, ?_⟩
    · rw [step]
      unfold b_literals_60 m_became
      rw [e14, Option.bind_some, if_pos (nI_le (by omega) (by omega)), if_neg (show ¬ gI S1 0 57 = 0 from by
        rw [a3.1]
        intro h
        have : nI l.length = nI 0 := h
        have hl0 : l.length ≠ 0 := by
          intro h0
          exact he (List.eq_nil_of_length_eq_zero h0)
        exact hl0 ((nI_eq (by omega) (by omega)).mp this)), c1, Option.bind_some, Option.bind_some]
      show (tI S2 16 (nI c) (nI (1 + us.length))).bind _ = _
      rw [tI_at (by omega) (by omega), Option.bind_some, aI_at (S := sF S2 16 c (nI (1 + us.length))) (i := c) (show c < gN S2 16 by omega) (show gN S2 16 < 2 ^ 31 by omega), Option.bind_some, gF_sF, if_neg (show ¬ nI (1 + us.length) ≤ 0 from nI_ge (a := 0) (by omega) (by omega)), Option.bind_some, d1, Option.bind_some, lt_d]
    · rw [hfl, htx, ← List.cons_append]
      rw [d2]
      obtain ⟨b1, b2, b3, b4, b5⟩ := c3
      refine ⟨b1, b2, b3, b4, fun t l' ht => ?_⟩
      obtain ⟨f', z1, z2, z3, z4⟩ := b5 t l' ht
      refine ⟨f', ?_, ?_, z3, fun i hi => ?_⟩
      · show gF (sF (sF S2 16 c _) 25 _ _) 23 t = _
        rw [gF_ne (by decide), gF_ne (by decide), z1]
      · show gF (sF (sF S2 16 c _) 25 _ _) 24 t = _
        rw [gF_ne (by decide), gF_ne (by decide), z2]
      · show gF (sF (sF S2 16 c _) 25 _ _) 22 (f' + i) = _
        rw [gF_ne (by decide), gF_ne (by decide), z4 i hi]
    · rw [List.length_append, List.length_singleton, List.range_succ, Nat.add_comm us.length 1]
      rw [Nat.add_comm us.length 1] at d3
      exact d3
    · intro n hn
      rcases List.mem_append.mp hn with h | h
      · exact w4 n h
      · rw [List.mem_singleton] at h
        subst h
        exact ⟨hc, by rw [hlv]; exact he⟩
    · rw [e163]
      by_cases e : n = c
      · subst e
        rw [if_pos rfl]
        exact Or.inr (Or.inr ⟨us.length, by simp, rfl⟩)
      · rw [if_neg e]
        rcases w5 n hn with h | h | ⟨j, h1, h2⟩
        · refine Or.inl ⟨h.1, fun hx => ?_⟩
          rcases List.mem_append.mp hx with h' | h'
          · exact h.2 h'
          · rw [List.mem_singleton] at h'; exact e h'
        · exact Or.inr (Or.inl h)
        · exact Or.inr (Or.inr ⟨j, get_app h1, h2⟩)
    · rw [e163]
      by_cases e : n = c
      · rw [if_pos e]
        exact nI_m1 (by omega)
      · rw [if_neg e]
        exact hn
    · rw [e163, if_pos rfl]
      exact nI_m1 (by omega)
end BGM
