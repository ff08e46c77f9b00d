/-! a text is made on both sides; the pools grow -/
def φs (φ : Nat → Option Nat) (p q : Nat) : Nat → Option Nat := fun z => if z = p then some q else φ z
theorem tRel.up {φ : Nat → Option Nat} {p q : Nat} {x y : Int32} (h : tRel φ x y) (hp : φ p = none) : tRel (φs φ p q) x y := by
  rcases h with h | ⟨a, b, h1, h2, h3, h4⟩
  · exact Or.inl h
  · refine Or.inr ⟨a, b, h1, h2, ?_, h4⟩
    unfold φs
    rw [if_neg (fun z => by rw [z, hp] at h3; cases h3)]
    exact h3
theorem map_up {φ : Nat → Option Nat} {p q : Nat} {l : List Nat} {m : List Nat} (h : l.map φ = m.map some) (hp : φ p = none) : l.map (φs φ p q) = m.map some := by
  rw [← h]
  apply List.map_congr_left
  intro a ha
  unfold φs
  rw [if_neg]
  intro z
  have : φ a ∈ l.map φ := List.mem_map_of_mem ha
  rw [h] at this
  obtain ⟨b, -, hb⟩ := List.mem_map.mp this
  rw [z, hp] at hb
  cases hb
theorem frT_a {S S' : St} (h : FrT S S') {a : Nat} (h1 : a ≠ 42) (h2 : a ≠ 43) : gN S' a = gN S a ∧ ∀ i, gF S' a i = gF S a i := by
  obtain ⟨S1, x, y⟩ := h
  exact ⟨(y.2.2.2.1 a h2).1.trans (x.2.2.2.1 a h1).1, fun i => ((y.2.2.2.1 a h2).2 i).trans ((x.2.2.2.1 a h1).2 i)⟩
theorem frT_i {S S' : St} (h : FrT S S') {x k : Nat} (h1 : x ≠ 18) (h2 : x ≠ 19) : gI S' x k = gI S x k := by
  obtain ⟨S1, a, b⟩ := h
  exact (b.1 x k h2).trans (a.1 x k h1)
theorem frT_g {S S' : St} (h : FrT S S') : (∀ a i, gG S' a i = gG S a i) ∧ S'.2.1 = S.2.1 ∧ S'.2.2.1 = S.2.2.1 := by
  obtain ⟨S1, a, b⟩ := h
  exact ⟨fun x i => by unfold gG; rw [b.2.2.2.2, a.2.2.2.2], b.2.1.trans a.2.1, b.2.2.1.trans a.2.2.1⟩
theorem Rw.uq {S : St} {o : Nat} {l l' : List Int32} {ov ov' : Int32} (w : Rw S o l ov) (w' : Rw S o l' ov') : l = l' := by
  have hb := lim_b o w.1.2 w.1.1
  have h1 : l.length = l'.length := (nI_eq (by have := w.2.2.2.2.1; omega) (by have := w'.2.2.2.2.1; omega)).mp (w.2.2.1.symm.trans w'.2.2.1)
  refine List.ext_getElem h1 (fun i h2 h3 => ?_)
  have e1 := w.2.2.2.2.2.2.2.2 i h2
  have e2 := w'.2.2.2.2.2.2.2.2 i h3
  rw [e1, List.getD_eq_getElem?_getD, List.getD_eq_getElem?_getD, List.getElem?_eq_getElem h2, List.getElem?_eq_getElem h3] at e2
  exact e2
theorem FC.frT {S S' : St} {cs : List (List Int32)} {l : List Int32} (h : FrT S S') (hT : TXc S cs) (hT' : TXc S' (cs ++ [l])) : FC S S' := by
  have hGr : Gro S S' := by
    intro o ho m w
    rcases ho with rfl | rfl
    · have e := w.uq hT.1
      subst e
      refine ⟨l, ?_⟩
      have := hT'.1
      rw [List.flatten_append, show ([l] : List (List Int32)).flatten = l from by simp] at this
      exact this
    · have e := w.uq hT.2
      subst e
      have := hT'.2
      rw [endsC_snoc] at this
      exact ⟨_, this⟩
  refine ⟨fun o k a b => frT_i h (by omega) (by omega), fun o a b c => ?_, (frT_g h).2.1, (frT_g h).2.2, fun a b => (frT_a h (by omega) (by omega)).1, fun a b => ⟨fun i => (frT_a h (by omega) (by omega)).2 i, fun i => (frT_g h).1 a i⟩, fun b hb => by rw [(frT_a h (by decide) (by decide)).2 b]; exact hb, hGr⟩
  have h18 : o ≠ 18 := fun z => c (by unfold stpRow; omega)
  have h19 : o ≠ 19 := fun z => c (by unfold stpRow; omega)
  exact ⟨fun k => frT_i h h18 h19, (frT_a h (by omega) (by omega)).1, fun i => (frT_a h (by omega) (by omega)).2 i⟩
section MK2
variable {U : Nat → Prop} {S S' S2 S2' : St} {φ : Nat → Option Nat} {cs ts : List (List Int32)} {u : Nat} {pl pm ps qs : List Nat} {l : List Int32}
/-- what is not texts stays when texts are made -/
theorem RS_md (r : RS U S S2 φ cs ts u pl pm ps qs) (hc : FrT S S') (hm : FMd S2 S2') {φ' : Nat → Option Nat} {cs' ts' : List (List Int32)} {u' : Nat} (ht : TR S' S2' φ' cs' ts' u') (hpl : pl.map φ' = pm.map some) (hps : ps.map φ' = qs.map some) (hup : ∀ x y, tRel φ x y → tRel φ' x y) : RS U S' S2' φ' cs' ts' u' pl pm ps qs := by
  obtain ⟨a1, a2, a3, a4, a5, a6, a7, a8, a9, a10, ⟨p1, p2, p3, p4, p5⟩, ⟨m, m1, m2, m3, m4⟩, ⟨ls, l1, l2⟩, ⟨⟨x1, y1, z1⟩, ⟨x2, y2, z2⟩, x3, y3, z3⟩⟩ := r
  have mf := hm.2.2.2.2.1
  have mg : ∀ a i, gG S2' a i = gG S2 a i := fun a i => by unfold gG; rw [hm.2.2.2.2.2]
  refine ⟨gOK.frT hc a1, fun a ha => (frT_a hc (by omega) (by omega)).1.trans (a2 a ha), a3.of hm.2.2.2.1, ht, Rw.frT hc (by decide) (by decide) a5, ⟨?_, a6.2.1, fun i hi => ?_⟩, hpl, fun v hv => ?_, fun i hi => ?_, fun b hb => ?_, ⟨Rw.frT hc (by decide) (by decide) p1, ?_, p3, fun i hi => ?_, hps⟩, ⟨m, m1, ?_, ?_, fun i hi => ?_⟩, ⟨ls, Rw.frT hc (by decide) (by decide) l1, fun n hn => ?_⟩, ⟨x1, y1, Rw.frT hc (by decide) (by decide) z1⟩, ⟨x2, y2, Rw.frT hc (by decide) (by decide) z2⟩, x3, y3, Rw.frT hc (by decide) (by decide) z3⟩
  · rw [hm.1 41 (by decide) (by decide)]; exact a6.1
  · rw [mf 25 (by decide) (by decide) (by decide)]; exact a6.2.2 i hi
  · rw [(frT_a hc (by decide) (by decide)).2, mf 26 (by decide) (by decide) (by decide)]; exact hup _ _ (a8 v hv)
  · rw [(frT_g hc).1, mg]; exact a9 i hi
  · obtain ⟨lb, ov, b1, b2⟩ := a10 b hb
    refine ⟨lb, ov, Rw.frT hc (by omega) (by omega) b1, ?_⟩
    rw [(frT_a hc (by decide) (by decide)).2, mf 28 (by decide) (by decide) (by decide), mf 29 (by decide) (by decide) (by decide)]
    rcases b2 with b2 | ⟨r, r1, r2, r3, r4, r5, r6, r7⟩
    · exact Or.inl b2
    · exact Or.inr ⟨r, r1, r2, r3, r4, r5, r6, fun i hi => by rw [mf 30 (by decide) (by decide) (by decide)]; exact r7 i hi⟩
  · rw [hm.1 50 (by decide) (by decide)]; exact p2
  · rw [mf 27 (by decide) (by decide) (by decide)]; exact p4 i hi
  · rw [frT_i hc (by decide) (by decide)]; exact m2
  · rw [hm.1 51 (by decide) (by decide)]; exact m3
  · rw [(frT_g hc).1, mg]; exact m4 i hi
  · rw [mf 16 (by decide) (by decide) (by decide)]
    obtain ⟨n1, n2, n3⟩ := l2 n hn
    exact ⟨n1, hup _ _ n2, n3⟩
theorem get_app {α : Type} {c : List α} {p : Nat} {x y : α} (h : c[p]? = some x) : (c ++ [y])[p]? = some x := by
  rw [List.getElem?_append_left (List.getElem?_eq_some_iff.mp h).1]
  exact h
/-- both sides make a text -/
theorem RS_mk (r : RS U S S2 φ cs ts u pl pm ps qs) (hc : FrT S S') (hC : TXc S' (cs ++ [l])) (hm : FMd S2 S2') (hM : TXs S2' (ts ++ [l]) (u + l.length)) (hl : l.length ≤ 400) (hu : usL l) (h1 : cs.length < 1465) (h2 : ts.length < 1700) : RS U S' S2' (φs φ cs.length ts.length) (cs ++ [l]) (ts ++ [l]) (u + l.length) pl pm ps qs ∧ tRel (φs φ cs.length ts.length) (nI cs.length) (nI ts.length) := by
  have r' := r
  obtain ⟨-, -, -, ⟨t1, t2, t3, t4, t5, t6⟩, -, -, a7, -, -, -, ⟨-, -, -, -, p5⟩, -⟩ := r'
  have hp : φ cs.length = none := by
    cases hq : φ cs.length with
    | none => rfl
    | some q =>
      obtain ⟨l', e1, -⟩ := t3 _ _ hq
      have := (List.getElem?_eq_some_iff.mp e1).1
      omega
  have hq : ∀ p q, φ p = some q → p < cs.length ∧ q < ts.length := by
    intro p q h
    obtain ⟨l', e1, e2, -⟩ := t3 _ _ h
    exact ⟨(List.getElem?_eq_some_iff.mp e1).1, (List.getElem?_eq_some_iff.mp e2).1⟩
  have hz : 0 ≠ cs.length := by
    have := (hq 0 0 t5).1
    omega
  refine ⟨RS_md r hc hm ⟨hC, hM, fun p q h => ?_, fun p p' q h h' => ?_, ?_, get_app t6⟩ (map_up a7 hp) (map_up p5 hp) (fun x y h => h.up hp), Or.inr ⟨cs.length, ts.length, rfl, rfl, by unfold φs; rw [if_pos rfl], h1, h2⟩⟩
  · unfold φs at h
    by_cases e : p = cs.length
    · rw [if_pos e] at h
      have := Option.some.inj h
      subst this
      subst e
      refine ⟨l, ?_, ?_, hl, hu⟩
      · rw [List.getElem?_append_right (Nat.le_refl _), Nat.sub_self]; rfl
      · rw [List.getElem?_append_right (Nat.le_refl _), Nat.sub_self]; rfl
    · rw [if_neg e] at h
      obtain ⟨l', e1, e2, e3⟩ := t3 p q h
      exact ⟨l', get_app e1, get_app e2, e3⟩
  · unfold φs at h h'
    by_cases e : p = cs.length <;> by_cases e' : p' = cs.length
    · omega
    · rw [if_pos e] at h
      rw [if_neg e'] at h'
      have := Option.some.inj h
      have := (hq p' q h').2
      omega
    · rw [if_neg e] at h
      rw [if_pos e'] at h'
      have := Option.some.inj h'
      have := (hq p q h).2
      omega
    · rw [if_neg e] at h
      rw [if_neg e'] at h'
      exact t4 p p' q h h'
  · unfold φs
    rw [if_neg hz]
    exact t5
/-- the reference makes a text that nobody has -/
theorem RS_mkM (r : RS U S S2 φ cs ts u pl pm ps qs) (hm : FMd S2 S2') (hM : TXs S2' (ts ++ [l]) (u + l.length)) : RS U S S2' φ cs (ts ++ [l]) (u + l.length) pl pm ps qs := by
  have r' := r
  obtain ⟨-, -, -, ⟨t1, t2, t3, t4, t5, t6⟩, -, -, a7, -, -, -, ⟨-, -, -, -, p5⟩, -⟩ := r'
  refine RS_md r ⟨S, Fr.rf, Fr.rf⟩ hm ⟨t1, hM, fun p q h => ?_, t4, t5, t6⟩ a7 p5 (fun x y h => h)
  obtain ⟨l', e1, e2, e3⟩ := t3 p q h
  exact ⟨l', e1, get_app e2, e3⟩
/-- a text comes to the pools -/
theorem RS_pool (r : RS U S S2 φ cs ts u pl pm ps qs) {p q : Nat} (hpq : φ p = some q) (hc : Fr 20 S S') (hC : PoC S' (pl ++ [p])) (hM : PoM (sI (sF S2 25 pm.length (nI q)) 0 41 (nI (pm.length + 1))) (pm ++ [q])) : RS U S' (sI (sF S2 25 pm.length (nI q)) 0 41 (nI (pm.length + 1))) φ cs ts u (pl ++ [p]) (pm ++ [q]) ps qs := by
  obtain ⟨a1, a2, a3, ⟨t1, t2, t3, t4, t5, t6⟩, a5, a6, a7, a8, a9, a10, ⟨p1, p2, p3, p4, p5⟩, ⟨m, m1, m2, m3, m4⟩, ⟨ls, l1, l2⟩, ⟨⟨x1, y1, z1⟩, ⟨x2, y2, z2⟩, x3, y3, z3⟩⟩ := r
  have fc := FC.row hc (by unfold stpRow; omega)
  have hf : ∀ a, a ≠ 44 → ∀ i, gF S' a i = gF S a i := fun a h i => (hc.2.2.2.1 a h).2 i
  have hg : ∀ a i, gG S' a i = gG S a i := fun a i => by unfold gG; rw [hc.2.2.2.2]
  have mi : ∀ k, k ≠ 41 → gI (sI (sF S2 25 pm.length (nI q)) 0 41 (nI (pm.length + 1))) 0 k = gI S2 0 k := fun k hk => gI_ne (by omega)
  have mf : ∀ a, a ≠ 25 → ∀ i, gF (sI (sF S2 25 pm.length (nI q)) 0 41 (nI (pm.length + 1))) a i = gF S2 a i := fun a ha i => gF_ne ha
  refine ⟨a1.fc fc, a2.fc fc, a3.of rfl, ⟨⟨t1.1.fr hc (by decide), t1.2.fr hc (by decide)⟩, ?_, t3, t4, t5, t6⟩, hC, hM, ?_, fun v hv => ?_, fun i hi => ?_, fun b hb => ?_, ⟨p1.fr hc (by decide), ?_, p3, fun i hi => ?_, p5⟩, ⟨m, m1, ?_, ?_, fun i hi => ?_⟩, ⟨ls, l1.fr hc (by decide), fun n hn => ?_⟩, ⟨x1, y1, z1.fr hc (by decide)⟩, ⟨x2, y2, z2.fr hc (by decide)⟩, x3, y3, z3.fr hc (by decide)⟩
  · obtain ⟨b1, b2, b3, b4, b5⟩ := t2
    refine ⟨by rw [mi 38 (by decide)]; exact b1, b2, b3, by rw [mi 39 (by decide)]; exact b4, fun t l ht => ?_⟩
    obtain ⟨f, f1, f2, f3, f4⟩ := b5 t l ht
    exact ⟨f, by rw [mf 23 (by decide)]; exact f1, by rw [mf 24 (by decide)]; exact f2, f3, fun i hi => by rw [mf 22 (by decide)]; exact f4 i hi⟩
  · rw [List.map_append, List.map_append, a7, List.map_singleton, List.map_singleton, hpq]
  · rw [hf 74 (by decide), mf 26 (by decide)]; exact a8 v hv
  · rw [hg]; exact a9 i hi
  · obtain ⟨lb, ov, b1, b2⟩ := a10 b hb
    refine ⟨lb, ov, b1.fr hc (by omega), ?_⟩
    rw [hf 77 (by decide), mf 28 (by decide), mf 29 (by decide)]
    rcases b2 with b2 | ⟨r, r1, r2, r3, r4, r5, r6, r7⟩
    · exact Or.inl b2
    · exact Or.inr ⟨r, r1, r2, r3, r4, r5, r6, fun i hi => by rw [mf 30 (by decide)]; exact r7 i hi⟩
  · rw [mi 50 (by decide)]; exact p2
  · rw [mf 27 (by decide)]; exact p4 i hi
  · rw [hc.1 4 7 (by decide)]; exact m2
  · rw [mi 51 (by decide)]; exact m3
  · rw [hg]; exact m4 i hi
  · rw [mf 16 (by decide)]; exact l2 n hn
end MK2
