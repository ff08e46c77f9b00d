/-! shrink on both sides -/
/-- places on the TAPE -/
def PlOK (P : Prg) : Prop := ∀ (i s : Nat) (ws : List Wd) (j : Nat) (w : Wd), P[i]? = some (s, ws) → ws[j]? = some w → ∃ n : Nat, n < 3000 ∧ w.2.2 = nI n
theorem wout_mem {P : Prg} {k i s : Nat} {ws : List Wd} (h : (wout P k)[i]? = some (s, ws)) : ∃ i' ws', P[i']? = some (s, ws') ∧ (ws = ws' ∨ ∃ w, i = i' ∧ i < k ∧ k < rgP P i ∧ (s = 53 ∨ s = 54) ∧ ws'[1]? = some w ∧ ws = ws'.set 1 (w.1, w.2.1 - 1, w.2.2)) := by
  rw [wout_get] at h
  by_cases hik : i < k
  · rw [if_pos hik] at h
    cases hP : P[i]? with
    | none => rw [hP] at h; simp at h
    | some x =>
      obtain ⟨s0, ws0⟩ := x
      rw [hP] at h
      have h' : redS P k i (s0, ws0) = (s, ws) := by simpa using h
      unfold redS at h'
      by_cases hc : (s0 = 53 ∨ s0 = 54) ∧ k < rgP P i
      · rw [if_pos hc] at h'
        unfold decS at h'
        have h2 : (match ws0[1]? with | some w => (s0, ws0.set 1 (w.1, w.2.1 - 1, w.2.2)) | none => (s0, ws0)) = (s, ws) := h'
        cases hw : ws0[1]? with
        | none =>
          rw [hw] at h2
          have e1 : s0 = s := congrArg Prod.fst h2
          have e2 : ws0 = ws := congrArg Prod.snd h2
          subst e1
          subst e2
          exact ⟨i, ws0, hP, Or.inl rfl⟩
        | some w =>
          rw [hw] at h2
          have e1 : s0 = s := congrArg Prod.fst h2
          have e2 : ws0.set 1 (w.1, w.2.1 - 1, w.2.2) = ws := congrArg Prod.snd h2
          subst e1
          exact ⟨i, ws0, hP, Or.inr ⟨w, rfl, hik, hc.2, hc.1, hw, e2.symm⟩⟩
      · rw [if_neg hc] at h'
        have e1 : s0 = s := congrArg Prod.fst h'
        have e2 : ws0 = ws := congrArg Prod.snd h'
        subst e1
        subst e2
        exact ⟨i, ws0, hP, Or.inl rfl⟩
  · rw [if_neg hik] at h
    exact ⟨i + 1, ws, h, Or.inl rfl⟩
theorem PlOK.wout {P : Prg} {k : Nat} (h : PlOK P) : PlOK (wout P k) := by
  intro i s ws j w hi hw
  obtain ⟨i', ws', h1, h2 | ⟨w0, -, -, -, -, h3, h4⟩⟩ := wout_mem hi
  · subst h2
    exact h i' s ws j w h1 hw
  · rw [h4, List.getElem?_set] at hw
    have hl := (List.getElem?_eq_some_iff.mp h3).1
    by_cases e : 1 = j
    · subst e
      rw [if_pos rfl, if_pos hl] at hw
      rw [← Option.some.inj hw]
      exact h i' s ws' 1 w0 h1 h3
    · rw [if_neg e] at hw
      exact h i' s ws' j w h1 hw
/-- how many bytes spell a unit of a LITERAL -/
def ulen (x : Int32) : Nat := if x = 34 ∨ x = 92 ∨ x = 10 ∨ x = 9 then 2 else if x < 32 ∨ 126 < x then 6 else 1
def llen (l : List Int32) : Nat := (l.map ulen).sum
def wlL (lits : List (List Int32)) (w : Wd) : Nat := if w.1 = 3 then llen (lits.getD w.2.1.toInt.toNat []) else 0
/-- LITERALS of a STEP are not too long -/
def SpOK (P : Prg) (lits : List (List Int32)) : Prop := ∀ (i s : Nat) (ws : List Wd), P[i]? = some (s, ws) → s ≠ 53 → s ≠ 54 → (ws.map (wlL lits)).sum ≤ 3000
theorem SpOK.wout {P : Prg} {lits : List (List Int32)} {k : Nat} (h : SpOK P lits) : SpOK (wout P k) lits := by
  intro i s ws hi h53 h54
  obtain ⟨i', ws', a1, a2⟩ := wout_mem hi
  rcases a2 with rfl | ⟨w, -, -, -, a, -⟩
  · exact h i' s ws a1 h53 h54
  · omega
theorem PrgOK.wout {U : Nat → Prop} {P : Prg} {k : Nat} (h : PrgOK U P) : PrgOK U (wout P k) := by
  intro i s ws hi
  obtain ⟨i', ws', h1, h2 | ⟨w0, e, hik, hr, h5, h3, h4⟩⟩ := wout_mem hi
  · subst h2
    exact h i' s ws h1
  · subst e
    obtain ⟨hs, hW, hR⟩ := h i s ws' h1
    have hl := (List.getElem?_eq_some_iff.mp h3).1
    obtain ⟨w1, n, b1, b2, b3, b4⟩ := rg_w h h1 h5
    have ew : w0 = w1 := by rw [h3] at b1; exact Option.some.inj b1
    subst ew
    have h78 : lett s (nI 1) = 78 := by
      rcases h5 with h | h <;> subst h <;> decide +kernel
    refine ⟨hs, ⟨by rw [h4, List.length_set]; exact hW.1, by rw [h4, List.length_set]; exact hW.2.1, fun j w hw => ?_⟩, fun _ => ⟨(w0.1, w0.2.1 - 1, w0.2.2), n - 1, ?_, by omega, ?_⟩⟩
    · rw [h4, List.getElem?_set] at hw
      by_cases e : 1 = j
      · subst e
        rw [if_pos rfl, if_pos hl] at hw
        rw [← Option.some.inj hw]
        have ok := hW.2.2 1 w0 h3
        rw [h78] at ok ⊢
        unfold okL at ok ⊢
        rcases ok with ⟨h, -⟩ | ⟨h, -⟩ | ⟨h | h, -⟩ | ⟨h | h, -⟩ | ⟨h, -⟩ | ⟨h, -⟩ | ⟨-, h⟩
        · exact absurd h (by decide)
        · exact absurd h (by decide)
        · exact absurd h (by decide)
        · exact absurd h (by decide)
        · exact absurd h (by decide)
        · exact absurd h (by decide)
        · exact absurd h (by decide)
        · exact absurd h (by decide)
        · exact Or.inr (Or.inr (Or.inr (Or.inr (Or.inr (Or.inr ⟨rfl, h⟩)))))
      · rw [if_neg e] at hw
        exact hW.2.2 j w hw
    · rw [h4, List.getElem?_set, if_pos rfl, if_pos hl]
    · show (w0.2.1 - 1).toInt = _
      rw [Int64.toInt_sub, b3, show (1 : Int64).toInt = 1 from by decide +kernel, bm64 (by omega) (by omega)]
      omega
/-- what shrink leaves as it was -/
def FSh (S S' : St) : Prop := (∀ o k, o < 10 → ¬ (o = 4 ∧ (k = 7 ∨ k = 10 ∨ k = 11)) → ¬ ((o = 1 ∨ o = 2) ∧ (k = 8 ∨ k = 11)) → gI S' o k = gI S o k) ∧ (∀ o, 10 ≤ o → o < 18 → (∀ k, gI S' o k = gI S o k) ∧ gN S' (o + 24) = gN S (o + 24) ∧ ∀ i, gF S' (o + 24) i = gF S (o + 24) i) ∧ ∀ o k, ¬ (o = 4 ∧ k = 9) → gR S' o k = gR S o k
theorem FSh.rf {S : St} : FSh S S := ⟨fun _ _ _ _ _ => rfl, fun _ _ _ => ⟨fun _ => rfl, rfl, fun _ => rfl⟩, fun _ _ _ => rfl⟩
theorem FSh.tr {S S1 S2 : St} (h1 : FSh S S1) (h2 : FSh S1 S2) : FSh S S2 := ⟨fun o k a b c => (h2.1 o k a b c).trans (h1.1 o k a b c), fun o a b => ⟨fun k => ((h2.2.1 o a b).1 k).trans ((h1.2.1 o a b).1 k), (h2.2.1 o a b).2.1.trans (h1.2.1 o a b).2.1, fun i => ((h2.2.1 o a b).2.2 i).trans ((h1.2.1 o a b).2.2 i)⟩, fun o k a => (h2.2.2 o k a).trans (h1.2.2 o k a)⟩
theorem FSh.g {S S' : St} (h : FBg S S') : FSh S S' := ⟨fun o k a b _ => h.1 o k a (by omega), fun o a b => h.2.1 o a (by omega) (by unfold stpRow; omega) (by omega) (by omega), fun o k a => h.2.2.2.1 o k a⟩
theorem FSh.j {d : Nat} {S S' : St} (hd : d = 1 ∨ d = 2) (h : FJc d S S') : FSh S S' := ⟨fun o k a _ b => h.1 o k (by omega), fun o a b => ⟨fun k => h.1 o k (by omega), by unfold gN; rw [h.2.2.2.1], fun i => h.2.2.2.2.1 _ (by omega) i⟩, fun o k _ => by unfold gR; rw [h.2.2.1]⟩
theorem FSh.p {d : Nat} {S S' : St} (hd : d = 1 ∨ d = 2) (h : FPc d S S') : FSh S S' := ⟨fun o k a _ b => h.1 o k (by omega), fun o a b => ⟨fun k => h.1 o k (by omega), by unfold gN; rw [h.2.2.2.1], fun i => (h.2.2.2.2 _ (by omega)).1 i⟩, fun o k _ => by unfold gR; rw [h.2.2.1]⟩
def FSm (S S' : St) : Prop := (∀ k, ¬ stpSl k → k ≠ 52 → k ≠ 53 → k ≠ 54 → k ≠ 55 → k ≠ 61 → k ≠ 27 → k ≠ 28 → k ≠ 29 → k ≠ 30 → gI S' 0 k = gI S 0 k) ∧ S'.2.1 = S.2.1 ∧ S'.2.2.1 = S.2.2.1 ∧ S'.2.2.2.1 = S.2.2.2.1 ∧ ∀ a, ¬ stpAr a → a ≠ 16 → a ≠ 31 → a ≠ 35 → a ≠ 36 → ¬ (18 ≤ a ∧ a ≤ 21) → ¬ (6 ≤ a ∧ a ≤ 11) → (∀ i, gF S' a i = gF S a i) ∧ ∀ i, gG S' a i = gG S a i
theorem FSm.rf {S : St} : FSm S S := ⟨fun _ _ _ _ _ _ _ _ _ _ _ => rfl, rfl, rfl, rfl, fun _ _ _ _ _ _ _ _ => ⟨fun _ => rfl, fun _ => rfl⟩⟩
theorem FSm.tr {S S1 S2 : St} (h1 : FSm S S1) (h2 : FSm S1 S2) : FSm S S2 := ⟨fun k a b c d e f x y z u => (h2.1 k a b c d e f x y z u).trans (h1.1 k a b c d e f x y z u), h2.2.1.trans h1.2.1, h2.2.2.1.trans h1.2.2.1, h2.2.2.2.1.trans h1.2.2.2.1, fun a b c d e f x y => ⟨fun i => ((h2.2.2.2.2 a b c d e f x y).1 i).trans ((h1.2.2.2.2 a b c d e f x y).1 i), fun i => ((h2.2.2.2.2 a b c d e f x y).2 i).trans ((h1.2.2.2.2 a b c d e f x y).2 i)⟩⟩
theorem FSm.x {S S' : St} (h : FX S S') : FSm S S' := ⟨fun k a b c d e f _ _ _ _ => h.1 k a b c d e f, h.2.1, h.2.2.1, h.2.2.2.1, fun a b c d e f _ _ => h.2.2.2.2 a b c d e f⟩
theorem FSm.j {S S' : St} (h : FJm S S') : FSm S S' := ⟨fun k _ _ _ _ _ _ x y z u => h.1 k x y z u, h.2.1, h.2.2.1, h.2.2.2.1, fun a _ _ _ _ _ x _ => ⟨fun i => h.2.2.2.2.1 a (by omega) (by omega) (by omega) (by omega) i, fun i => by unfold gG; rw [h.2.2.2.2.2]⟩⟩
theorem FSm.p {q : Nat} {S S' : St} (h : FPm q S S') : FSm S S' := ⟨fun k _ _ _ _ _ _ _ _ _ _ => by unfold gI; rw [h.1], h.2.1, h.2.2.1, h.2.2.2.1, fun a _ _ _ _ _ _ x => ⟨fun i => h.2.2.2.2.1 a (by omega) (by omega) (by omega) (by omega) (by omega) i, fun i => h.2.2.2.2.2.1 a (by omega) i⟩⟩
theorem TabM.fx {S S' : St} (w : TabM S) (h : FX S S') : TabM S' := ⟨fun i => ((h.2.2.2.2 3 (by unfold stpAr; omega) (by decide) (by decide) (by decide) (by decide)).1 i).trans (w.1 i), fun i => ((h.2.2.2.2 4 (by unfold stpAr; omega) (by decide) (by decide) (by decide) (by decide)).1 i).trans (w.2.1 i), fun i => ((h.2.2.2.2 1 (by unfold stpAr; omega) (by decide) (by decide) (by decide) (by decide)).2 i).trans (w.2.2.1 i), fun i => ((h.2.2.2.2 2 (by unfold stpAr; omega) (by decide) (by decide) (by decide) (by decide)).2 i).trans (w.2.2.2 i)⟩
theorem Rw.fj {d x : Nat} {S S' : St} {l : List Int32} {ov : Int32} (w : Rw S x l ov) (h : FJc d S S') (hd : d = 1 ∨ d = 2) : Rw S' x l ov := by
  obtain ⟨w0, w1, w2, w3, w4, w5, w6, w7, w8⟩ := w
  have hn : ∀ a, gN S' a = gN S a := fun a => by unfold gN; rw [h.2.2.2.1]
  unfold Rw
  rw [h.1 x 0 (by omega), h.1 x 2 (by omega), h.1 x 3 (by omega), hn]
  exact ⟨w0, w1, w2, w3, w4, w5, w6, w7, fun i hi => (h.2.2.2.2.1 (x + 24) (by omega) i).trans (w8 i hi)⟩
theorem RwX.of {S S' : St} (w : RwX S) (h : ∀ x l ov, Rw S x l ov → Rw S' x l ov) : RwX S' := by
  have key : ∀ x, (∃ l ov, Rw S x l ov) → ∃ l ov, Rw S' x l ov := fun x ⟨l', ov', wx⟩ => ⟨l', ov', h _ _ _ wx⟩
  obtain ⟨a, b, ⟨c, d, e⟩, f, i, j⟩ := w
  exact ⟨key 20 a, key 22 b, ⟨key 23 c, key 30 d, key 31 e⟩, fun z hz => key _ (f z hz), key 32 i, key 33 j⟩
theorem LoadC.of {S S' : St} {lits : List (List Int32)} (w : LoadC S lits) (h : ∀ x l ov, Rw S x l ov → Rw S' x l ov) (h5 : gI S' 5 4 = gI S 5 4) : LoadC S' lits := by
  obtain ⟨a, b, ⟨r, c⟩, r', d⟩ := w
  exact ⟨h _ _ _ a, h5.trans b, ⟨r, h _ _ _ c⟩, r', h _ _ _ d⟩
/-- what shrink has -/
def ShI (S S2 : St) (p d : Nat) (P : Prg) (lits : List (List Int32)) : Prop := HasP S S2 p 0 P lits ∧ (PlOK P ∧ SpOK P lits) ∧ LC S ∧ gOK S ∧ RwX S ∧ LM S2 ∧ TabM S2 ∧ gR S 0 4 = p ∧ gR S 0 5 = d ∧ (d = 1 ∨ d = 2) ∧ d ≠ p
section SHL
variable {g p d : Nat} {P : Prg} {lits : List (List Int32)}
/-- one STEP is tried -/
theorem shr_1 {k28 : St → Int32 → Int32 → Int32 → Option (St × Int32)} {k24 : St → Int32 → Int32 → Option (St × Int32)} {S S2 : St} {x2 x3 : Int32} {k kd n m : Nat} (hg : 100000 ≤ g) (h : ShI S S2 p d P lits) (hk : k < P.length) (hkd : kd ≠ 0 ∧ kd ≤ 5) : ∃ S' S2' P' x2', m_TL_shrink_51 g k28 (n + 1) S (nI kd) x2 x3 (nI k) = m_TL_shrink_51 g k28 n S' (nI kd) x2' x3 (nI k + (-1 : Int32)) ∧ m_shrink_39 g k24 (m + 1) S2 (nI kd) x2 (nI k) = m_shrink_39 g k24 m S2' (nI kd) x2' (nI k + (-1 : Int32)) ∧ ShI S' S2' p d P' lits ∧ FSh S S' ∧ FSm S2 S2' ∧ ((x2' = x2 ∧ P' = P) ∨ (x2' = 1 ∧ P' = wout P k)) := by
  obtain ⟨hp, pl, hl, hk0, rx, hm, tb, r4, r5, hd, hne⟩ := h
  obtain ⟨h1, h2, h3, h4, h5, h6, h7⟩ := hp
  have hp12 := h1.1
  have h60 := h1.2.1
  obtain ⟨S1, a1, a2, a3⟩ := C_copy (g := g) h1 hl hd hne
  obtain ⟨S3, b1, b2, b3⟩ := C_out (g := g) (k := k) hg h6 a3 (hl.fp a2) hk
  obtain ⟨T1, c1, c2, c3⟩ := M_out (g := g) (k := k) hg h6 h2 hm hk
  have fp3 := a2.tr b2
  have hl3 := hl.fp fp3
  have hmT := hm.fp c2
  obtain ⟨S4, T4, r, r2, e1, e2, e3, e4, e5⟩ := jdg_all (g := g) (p := d) (q := 2) hg h6.wout b3 hl3 c3 hmT (tb.fp c2)
  have rS3 : ∀ o k, gR S3 o k = gR S o k := fun o k => by unfold gR; rw [fp3.2.2.1]
  have rS1 : ∀ o k, gR S1 o k = gR S o k := fun o k => by unfold gR; rw [a2.2.2.1]
  have rS4 : ∀ o k, gR S4 o k = gR S o k := fun o k => by
    have : gR S4 o k = gR S3 o k := by unfold gR; rw [e3.2.2.1]
    rw [this, rS3]
  have pc4 : PrC S4 p P := (h1.fp fp3 (by omega)).fj2 e3
  have pm4 : PrM S4 p P ∨ True := Or.inr trivial
  have pmT4 : PrM T4 0 P := (h2.fp c2 (by decide)).fj e4
  have up4 : ∀ x l ov, Rw S x l ov → Rw S4 x l ov := fun x l ov w => (w.fp fp3 hd).fj e3 hd
  have i54 : gI S4 5 4 = gI S 5 4 := (e3.1 5 4 (by omega)).trans (fp3.1 5 4 (by omega))
  have ld4 : LoadC S4 lits := h3.of up4 i54
  have rx4 : RwX S4 := rx.of up4
  have hl4 := hl3.fj e3
  have hk4 : gOK S4 := (hk0.fp fp3).fj e3
  have hm4 := hmT.fj e4
  have tb4 : TabM T4 := (tb.fp c2).fj e4
  have lm4 : LitM T4 lits := by
    have := h4.fp c2
    obtain ⟨x1, x2, x3, x4⟩ := this
    have hf : ∀ a i, 12 ≤ a → a ≤ 15 → gF T4 a i = gF T1 a i := fun a i h1 h2 => e4.2.2.2.2.1 a (by omega) (by omega) (by omega) (by omega) i
    refine ⟨(hf 15 0 (by omega) (by omega)).trans x1, x2, x3, fun n l hn => ?_⟩
    obtain ⟨y1, f, y2, y3, y4, y5⟩ := x4 n l hn
    exact ⟨y1, f, y2, (hf 13 n (by omega) (by omega)).trans y3, (hf 14 n (by omega) (by omega)).trans y4, fun i hi => (hf 12 _ (by omega) (by omega)).trans (y5 i hi)⟩
  have fs4 : FSh S S4 := (FSh.p hd fp3).tr (FSh.j hd e3)
  have fm4 : FSm S2 T4 := (FSm.p c2).tr (FSm.j e4)
  have q4 : gR S 0 4 = 1 ∨ gR S 0 4 = 2 := by rw [r4]; exact hp12
  have q5 : gR S 0 5 = 1 ∨ gR S 0 5 = 2 := by rw [r5]; exact hd
  have eC : m_TL_shrink_51 g k28 (n + 1) S (nI kd) x2 x3 (nI k) = m_TL_shrink_83 g k28 (m_TL_shrink_51 g k28 n) S4 (nI kd) x2 x3 (nI k) r := by
    show b_TL_shrink_51 g k28 (m_TL_shrink_51 g k28 n) S (nI kd) x2 x3 (nI k) = _
    unfold b_TL_shrink_51 m_TL_shrink_76
    rw [if_neg (nI_pos (by omega)), if_pos q5, lt_d, if_pos q4, lt_d, r4, r5, a1, Option.bind_some, if_pos (by rw [rS1]; exact q5), lt_d, rS1, r5, b1, Option.bind_some, if_pos (by rw [rS3]; exact q5), lt_d, rS3, r5, e1, Option.bind_some]
  have eM : m_shrink_39 g k24 (m + 1) S2 (nI kd) x2 (nI k) = (if 0 ≤ r2 then m_shrink_39 g k24 m T4 (nI kd) x2 (nI k + (-1 : Int32)) else (m_runs g T4 (2 : Int32)).bind fun z => if z.2 < 0 then m_shrink_39 g k24 m z.1 (nI kd) x2 (nI k + (-1 : Int32)) else if gI z.1 0 53 = nI kd then (m_copyProgram g z.1 (2 : Int32) (0 : Int32)).bind fun S_14 => m_shrink_39 g k24 m S_14 (nI kd) (1 : Int32) (nI k + (-1 : Int32)) else m_shrink_39 g k24 m z.1 (nI kd) x2 (nI k + (-1 : Int32))) := by
    show b_shrink_39 g k24 (m_shrink_39 g k24 m) S2 (nI kd) x2 (nI k) = _
    unfold b_shrink_39
    rw [if_neg (nI_pos (by omega)), c1, Option.bind_some, show m_judge g T1 (2 : Int32) = some (T4, r2) from e2, Option.bind_some]
    rfl
  unfold m_TL_shrink_83 at eC
  rcases e5 with ⟨v1, v2, v3⟩ | ⟨i, s, ws, j, w, v1, v2, v3, v4⟩
  · -- the judge has no fault
    have hp4 : HasP S4 T4 d 2 (wout P k) lits := ⟨b3.fj e3, c3.fj e4, ld4, lm4, h5, h6.wout, v3⟩
    obtain ⟨S5, T5, i1, i2, i3, i4, i5, i6, i7⟩ := run_all (g := g) hg hp4 hl4 hk4 rx4 hm4
    have rS5 : ∀ o k, ¬ (o = 4 ∧ k = 9) → gR S5 o k = gR S o k := fun o k h => by rw [i4.2.2.2.1 o k h, rS4]
    have hk5 : gOK S5 := by
      obtain ⟨φ, cs, ts, u, pl, pm, ps, qs, r, -⟩ := i3.1
      exact r.1
    have pc5 : PrC S5 p P := pc4.fg i4
    have pm5 : PrM T5 0 P := pmT4.fx i5
    have hl5 := hl4.fg i4
    have hm5 := hm4.fx i5
    have tb5 := tb4.fx i5
    have fs5 := fs4.tr (FSh.g i4)
    have fm5 := fm4.tr (FSm.x i5)
    have q5' : gR S4 0 5 = 1 ∨ gR S4 0 5 = 2 := by rw [rS4]; exact q5
    rw [if_pos v1, if_pos q5', lt_d, rS4, r5, i1, Option.bind_some] at eC
    rw [v2, if_neg (by decide), show m_runs g T4 (2 : Int32) = some (T5, gI T5 0 52) from i2, Option.bind_some] at eM
    have base : ShI S5 T5 p d P lits := ⟨⟨pc5, pm5, i6.2.2.1, i6.2.2.2.1, h5, h6, h7⟩, pl, hl5, hk5, i7, hm5, tb5, (rS5 0 4 (by decide)).trans r4, (rS5 0 5 (by decide)).trans r5, hd, hne⟩
    have eC2 : m_TL_shrink_51 g k28 (n + 1) S (nI kd) x2 x3 (nI k) = m_TL_shrink_98 g k28 (m_TL_shrink_51 g k28 n) S5 (nI kd) x2 x3 (nI k) (gF S5 79 1) := eC
    unfold m_TL_shrink_98 at eC2
    rw [i3.2.2.2.1] at eC2
    by_cases hkk : gI T5 0 53 = nI kd
    · -- the same end: the STEP goes out
      have h52 : ¬ gI T5 0 52 < 0 := by
        rcases i3.2.2.2.2.1 with ⟨u1, u2⟩ | ⟨i', kd', u1, u2, u3, u4, u5⟩
        · rw [u2] at hkk
          exact absurd hkk.symm (nI_ne0 (by omega) (by omega))
        · rw [u2]; exact nI_pos (by omega)
      obtain ⟨S6, j1, j2, j3⟩ := C_out (g := g) (k := k) hg h6 pc5 hl5 hk
      obtain ⟨T6, l1, l2, l3⟩ := M_copyP (g := g) (q := 2) (q' := 0) hg hm5 i6.2.1 (by decide) (by decide)
      have q45 : gR S5 0 4 = 1 ∨ gR S5 0 4 = 2 := by rw [rS5 0 4 (by decide)]; exact q4
      rw [if_pos hkk, if_pos q45, lt_d, rS5 0 4 (by decide), r4, j1, Option.bind_some] at eC2
      unfold m_TL_shrink_111 at eC2
      rw [lt_d] at eC2
      dsimp only at eM
      rw [if_neg h52, if_pos hkk, show m_copyProgram g T5 (2 : Int32) (0 : Int32) = some T6 from l1, Option.bind_some] at eM
      have up6 : ∀ x l ov, Rw S5 x l ov → Rw S6 x l ov := fun x l ov w => w.fp j2 hp12
      have rS6 : ∀ o k, gR S6 o k = gR S5 o k := fun o k => by unfold gR; rw [j2.2.2.1]
      refine ⟨S6, T6, wout P k, 1, eC2, eM, ⟨⟨j3, l3, i6.2.2.1.of up6 (j2.1 5 4 (by omega)), i6.2.2.2.1.fp l2, h5, h6.wout, v3⟩, ⟨pl.1.wout, pl.2.wout⟩, hl5.fp j2, hk5.fp j2, i7.of up6, hm5.fp l2, tb5.fp l2, by rw [rS6, rS5 0 4 (by decide)]; exact r4, by rw [rS6, rS5 0 5 (by decide)]; exact r5, hd, hne⟩, fs5.tr (FSh.p hp12 j2), fm5.tr (FSm.p l2), Or.inr ⟨rfl, rfl⟩⟩
    · rw [if_neg hkk, lt_d] at eC2
      dsimp only at eM
      refine ⟨S5, T5, P, x2, eC2, ?_, base, fs5, fm5, Or.inl ⟨rfl, rfl⟩⟩
      rw [eM]
      by_cases h52 : gI T5 0 52 < 0
      · rw [if_pos h52]
      · rw [if_neg h52, if_neg hkk]
  · -- a fault
    have hlw := (List.getElem?_eq_some_iff.mp v1).1
    rw [wout_len hk] at hlw
    have hws := (b3.fj e3).2.1
    obtain ⟨pln, pl1, pl2⟩ := (pl.1.wout (k := k)) i s ws j w v1 v2
    have h9 := (c3.2.2.2 i s ws v1).1
    have hjl := (List.getElem?_eq_some_iff.mp v2).1
    rw [if_neg (show ¬ r = -1 by rw [v3, pl2]; exact nI_m1 (by omega)), lt_d] at eC
    rw [if_pos (show 0 ≤ r2 by rw [v4]; exact nI_pos' (by omega))] at eM
    exact ⟨S4, T4, P, x2, eC, eM, ⟨⟨pc4, pmT4, ld4, lm4, h5, h6, h7⟩, pl, hl4, hk4, rx4, hm4, tb4, (rS4 0 4).trans r4, (rS4 0 5).trans r5, hd, hne⟩, fs4, fm4, Or.inl ⟨rfl, rfl⟩⟩
end SHL
