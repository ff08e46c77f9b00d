/-! cuts of a text; parts are taken -/
def cutL : List (Nat × Nat) → Nat
  | [] => 0
  | c :: r => (c.2 - c.1) + cutL r
theorem cutL_app {a b : List (Nat × Nat)} : cutL (a ++ b) = cutL a + cutL b := by
  induction a with
  | nil => simp [cutL]
  | cons c a ih => simp only [List.cons_append, cutL, ih]; omega
theorem cutL_take {a : List (Nat × Nat)} {n : Nat} : cutL (a.take n) ≤ cutL a := by
  have := cutL_app (a := a.take n) (b := a.drop n)
  rw [List.take_append_drop] at this
  omega
/-- the cuts of both sides -/
def CutC (S : St) (xs : List (Nat × Nat)) : Prop := Rw S 30 (xs.map fun c => nI c.1) 0 ∧ Rw S 31 (xs.map fun c => nI c.2) 0
def CutM (S : St) (xs : List (Nat × Nat)) : Prop := gI S 0 65 = nI xs.length ∧ ∀ i c, xs[i]? = some c → gF S 38 i = nI c.1 ∧ gF S 39 i = nI c.2
def CutOK (N : Nat) (xs : List (Nat × Nat)) : Prop := ∀ c ∈ xs, c.1 ≤ c.2 ∧ c.2 ≤ N
section CUT
variable {g s e : Nat} {S S2 : St} {xs : List (Nat × Nat)}
theorem lim30 : limC 30 = 401 ∧ limC 31 = 401 := by decide +kernel
theorem C_cut (w : CutC S xs) (hk : gOK S) (hx : ∃ l ov, Rw S 23 l ov) (h : xs.length < 401) : ∃ S', m_TS_addCut g S (nI s) (nI e) = some S' ∧ F0C S S' ∧ XR S' ∧ CutC S' (xs ++ [(s, e)]) ∧ gOK S' ∧ ∀ l ov, Rw S 23 l ov → Rw S' 23 l ov := by
  obtain ⟨S1, a1, a2, a3⟩ := R_add (g := g) (v := nI s) w.1 hk
  rw [lim30.1, if_pos (by rw [List.length_map]; exact h), if_pos (by rw [List.length_map]; exact h)] at a3
  obtain ⟨S3, b1, b2, b3⟩ := R_add (g := g) (v := nI e) (w.2.fr a2 (by decide)) (hk.fr a2)
  rw [lim30.2, if_pos (by rw [List.length_map]; exact h), if_pos (by rw [List.length_map]; exact h)] at b3
  have a4 := a3.fr b2 (by decide)
  obtain ⟨l, ov, hl⟩ := hx
  refine ⟨S3, ?_, (F0C.fr a2 (Or.inr (Or.inl rfl))).tr (F0C.fr b2 (Or.inr (Or.inr rfl))), ⟨⟨l, ov, (hl.fr a2 (by decide)).fr b2 (by decide)⟩, ⟨_, _, a4⟩, _, _, b3⟩, ⟨?_, ?_⟩, (hk.fr a2).fr b2, fun l ov h => (h.fr a2 (by decide)).fr b2 (by decide)⟩
  · unfold m_TS_addCut m_TS_addCut_8 m_TS_addCut_16
    rw [a1, Option.bind_some, b1]
    rfl
  · rw [List.map_append]; exact a4
  · rw [List.map_append]; exact b3
theorem M_slice (w : CutM S2 xs) (hm : LM S2) (h : xs.length < 401) : ∃ S', m_slice g S2 (nI s) (nI e) = some S' ∧ F0M S2 S' ∧ gI S' 0 58 = gI S2 0 58 ∧ CutM S' (xs ++ [(s, e)]) := by
  have h38 : 401 ≤ gN S2 38 ∧ gN S2 38 < 2 ^ 31 := by rw [LMn hm 38]; decide +kernel
  have h39 : 401 ≤ gN S2 39 ∧ gN S2 39 < 2 ^ 31 := by rw [LMn hm 39]; decide +kernel
  refine ⟨sI (sF (sF S2 38 xs.length (nI s)) 39 xs.length (nI e)) 0 65 (nI (xs.length + 1)), ?_, ?_, gI_ne (by decide), ?_, ?_⟩
  · unfold m_slice
    rw [w.1, tI_at (by omega) h38.2, Option.bind_some, show gI (sF S2 38 xs.length (nI s)) 0 65 = nI xs.length from w.1, tI_at (by show xs.length < gN S2 39; omega) (by show gN S2 39 < 2 ^ 31; omega), Option.bind_some, lt_d, show gI (sF (sF S2 38 xs.length (nI s)) 39 xs.length (nI e)) 0 65 = nI xs.length from w.1, nI_1]
  · exact ((F0M_sF (by omega)).tr (F0M_sF (by omega))).tr (F0M_sI (by omega))
  · rw [sI_g, List.length_append, List.length_singleton]
  · intro i c hc
    show gF (sF (sF S2 38 xs.length (nI s)) 39 xs.length (nI e)) 38 i = _ ∧ gF (sF (sF S2 38 xs.length (nI s)) 39 xs.length (nI e)) 39 i = _
    by_cases hi : i < xs.length
    · rw [List.getElem?_append_left hi] at hc
      rw [gF_ne (by decide), gF_sFi (by omega), gF_sFi (by omega), gF_ne (by decide)]
      exact w.2 i c hc
    · have hlt := (List.getElem?_eq_some_iff.mp hc).1
      rw [List.length_append, List.length_singleton] at hlt
      have hi : i = xs.length := by omega
      subst hi
      simp at hc
      subst hc
      rw [gF_ne (by decide), gF_sF, gF_sF]
      exact ⟨rfl, rfl⟩
theorem CutM.f50 {v : Int32} (w : CutM S2 xs) : CutM (sI S2 0 50 v) xs := ⟨(gI_ne (by decide)).trans w.1, w.2⟩
theorem CutM.fe {S' : St} (w : CutM S2 xs) (h : FE S2 S') : CutM S' xs := ⟨(h.1 65 (by decide)).trans w.1, fun i c hc => ⟨(h.2.2.2.2.1 38 (by decide) (by decide) i).trans (w.2 i c hc).1, (h.2.2.2.2.1 39 (by decide) (by decide) i).trans (w.2 i c hc).2⟩⟩
theorem CutM.md {S' : St} (w : CutM S2 xs) (h : FMd S2 S') : CutM S' xs := ⟨(h.1 65 (by decide) (by decide)).trans w.1, fun i c hc => ⟨(h.2.2.2.2.1 38 (by decide) (by decide) (by decide) i).trans (w.2 i c hc).1, (h.2.2.2.2.1 39 (by decide) (by decide) (by decide) i).trans (w.2 i c hc).2⟩⟩
theorem CutM.s27 {i : Nat} {v : Int32} (w : CutM S2 xs) : CutM (sF S2 27 i v) xs := ⟨w.1, fun i c hc => ⟨(gF_ne (by decide)).trans (w.2 i c hc).1, (gF_ne (by decide)).trans (w.2 i c hc).2⟩⟩
theorem CutM.s57 {v : Int32} (w : CutM S2 xs) : CutM (sI S2 0 57 v) xs := ⟨(gI_ne (by decide)).trans w.1, w.2⟩
theorem F0M.c50 {S S' : St} {v : Int32} (h : F0M S S') : F0M (sI S 0 50 v) (sI S' 0 50 v) := by
  refine ⟨fun k a b c => ?_, h.2.1, h.2.2.1, h.2.2.2.1, h.2.2.2.2.1, h.2.2.2.2.2⟩
  by_cases e : k = 50
  · subst e
    rw [sI_g, sI_g]
  · rw [gI_ne (by omega), gI_ne (by omega)]
    exact h.1 k a b c
theorem FMd.c50 {S S' : St} {v : Int32} (h : FMd S S') : FMd (sI S 0 50 v) (sI S' 0 50 v) := by
  refine ⟨fun k a b => ?_, h.2.1, h.2.2.1, h.2.2.2.1, h.2.2.2.2.1, h.2.2.2.2.2⟩
  by_cases e : k = 50
  · subst e
    rw [sI_g, sI_g]
  · rw [gI_ne (by omega), gI_ne (by omega)]
    exact h.1 k a b
theorem TXs.c50 {ts : List (List Int32)} {u : Nat} {v : Int32} (w : TXs S2 ts u) : TXs (sI S2 0 50 v) ts u := ⟨(gI_ne (by decide)).trans w.1, w.2.1, w.2.2.1, (gI_ne (by decide)).trans w.2.2.2.1, w.2.2.2.2⟩
theorem TXs.d50 {ts : List (List Int32)} {u : Nat} {v : Int32} (w : TXs (sI S2 0 50 v) ts u) : TXs S2 ts u := ⟨(gI_ne (by decide)).symm.trans w.1, w.2.1, w.2.2.1, (gI_ne (by decide)).symm.trans w.2.2.2.1, w.2.2.2.2⟩
end CUT
section PRT
variable {U : Nat → Prop} {g : Nat} {φ : Nat → Option Nat} {cs ts : List (List Int32)} {u : Nat} {pl pm ps qs : List Nat}
/-- a part is added on both sides -/
theorem RS_part {S S' T : St} {p q : Nat} (r : RS U S (sI T 0 50 (nI qs.length)) φ cs ts u pl pm ps qs) (hpq : φ p = some q) (hq : qs.length < 24) (hc : Fr 22 S S') (hC : Rw S' 22 ((ps ++ [p]).map nI) 0) : RS U S' (sI (sF T 27 qs.length (nI q)) 0 50 (nI (qs.length + 1))) φ cs ts u pl pm (ps ++ [p]) (qs ++ [q]) := by
  obtain ⟨a1, a2, a3, ⟨t1, t2, t3⟩, a5, a6, a7, a8, a9, a10, ⟨p1, p2, p3, p4, p5⟩, ⟨m, m1, m2, m3, m4⟩, ⟨ls, l1, l2⟩, ⟨x1, o1, y1⟩, ⟨x2, o2, y2⟩, x3, o3, y3⟩ := r
  have fc : FC S S' := FC.row hc (by unfold stpRow; omega)
  have gc : ∀ a, a ≠ 46 → ∀ i, gF S' a i = gF S a i := fun a h i => (hc.2.2.2.1 a h).2 i
  have gg : ∀ a i, gG S' a i = gG S a i := fun a i => by unfold gG; rw [hc.2.2.2.2]
  refine ⟨a1.fc fc, a2.fc fc, a3, ⟨⟨t1.1.fr hc (by decide), t1.2.fr hc (by decide)⟩, ?_, t3⟩, Rw.fr hc (by decide) a5, ⟨(gI_ne (by decide)).trans ((gI_ne (by decide)).symm.trans a6.1), a6.2.1, fun i hi => ?_⟩, a7, fun v hv => ?_, fun i hi => ?_, fun b hb => ?_, ⟨hC, ?_, ?_, fun i hi => ?_, ?_⟩, ⟨m, m1, ?_, ?_, fun i hi => ?_⟩, ⟨ls, l1.fr hc (by decide), fun n hn => ?_⟩, ⟨x1, o1, y1.fr hc (by decide)⟩, ⟨x2, o2, y2.fr hc (by decide)⟩, x3, o3, y3.fr hc (by decide)⟩
  · exact (t2.d50.sFx (by decide) (by decide) (by decide)).c50
  · show gF (sF T 27 qs.length (nI q)) 25 i = _
    rw [gF_ne (by decide)]; exact a6.2.2 i hi
  · show tRel φ (gF S' 74 v) (gF (sF T 27 qs.length (nI q)) 26 v)
    rw [gc 74 (by decide), gF_ne (by decide)]; exact a8 v hv
  · rw [gg]; exact a9 i hi
  · obtain ⟨lb, ov, b1, b2⟩ := a10 b hb
    refine ⟨lb, ov, b1.fr hc (by omega), ?_⟩
    rw [gc 77 (by decide)]
    show (gF S 77 b = -1 ∧ gF (sF T 27 qs.length (nI q)) 28 b = -1) ∨ ∃ r, r ≤ 1000 ∧ gF S 77 b = nI r ∧ gF (sF T 27 qs.length (nI q)) 29 b = nI r ∧ gF (sF T 27 qs.length (nI q)) 28 b = nI lb.length ∧ lb.length ≤ 400 ∧ usL lb ∧ ∀ i, i < lb.length → gF (sF T 27 qs.length (nI q)) 30 (400 * b + i) = lb.getD i 0
    rw [gF_ne (by decide), gF_ne (by decide)]
    rcases b2 with b2 | ⟨r, r1, r2, r3, r4, r5, r6, r7⟩
    · exact Or.inl b2
    · exact Or.inr ⟨r, r1, r2, r3, r4, r5, r6, fun i hi => by rw [gF_ne (by decide)]; exact r7 i hi⟩
  · rw [sI_g, List.length_append, List.length_singleton]
  · rw [List.length_append, List.length_singleton]; omega
  · show gF (sF T 27 qs.length (nI q)) 27 i = _
    rw [List.length_append, List.length_singleton] at hi
    by_cases e : i = qs.length
    · subst e
      rw [gF_sF, List.getD_eq_getElem?_getD, List.getElem?_append_right (Nat.le_refl _)]
      simp
    · rw [gF_sFi e, List.getD_eq_getElem?_getD, List.getElem?_append_left (by omega), ← List.getD_eq_getElem?_getD]
      exact p4 i (by omega)
  · rw [List.map_append, List.map_append, p5]
    simp [hpq]
  · rw [hc.1 4 7 (by decide)]; exact m2
  · exact (gI_ne (by decide)).trans ((gI_ne (by decide)).symm.trans m3)
  · rw [gg]; exact m4 i hi
  · show n < 24 ∧ tRel φ (atR ls (nI n)) (gF (sF T 27 qs.length (nI q)) 16 n) ∧ _
    rw [gF_ne (by decide)]; exact l2 n hn
end PRT
