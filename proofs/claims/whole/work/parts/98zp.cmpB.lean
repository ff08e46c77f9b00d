/-! compile on both sides -/
theorem sR_g {S : St} {o k v : Nat} : gR (sR S o k v) o k = v := by simp [gR, sR]
theorem gR_ne {S : St} {o k v x y : Nat} (h : ¬ (x = o ∧ y = k)) : gR (sR S o k v) x y = gR S x y := by simp [gR, sR, h]
theorem RwP.rd {d : Nat} {S S' : St} (w : RwP S) (h : FRd d S S') (hd : d = 1 ∨ d = 2) (r : RwR S' d) : RwP S' := by
  intro o h1 h2
  by_cases q1 : o = 17
  · rw [q1]; exact r.1
  by_cases q2 : o = 8 + 3 * d + 0
  · rw [q2]; exact r.2.1
  by_cases q3 : o = 8 + 3 * d + 1
  · rw [q3]; exact r.2.2
  obtain ⟨l, ov, w⟩ := w o h1 h2
  exact ⟨l, ov, w.rd h hd q1 (by omega) (by omega)⟩
theorem RwP.of {S S' : St} (w : RwP S) (h : ∀ x l ov, 11 ≤ x → x ≤ 17 → Rw S x l ov → Rw S' x l ov) : RwP S' := fun o h1 h2 => by
  obtain ⟨l, ov, w⟩ := w o h1 h2
  exact ⟨l, ov, h o l ov h1 h2 w⟩
section CMP
variable {g p d : Nat}
theorem C_clr {S : St} (hl : LC S) (hd : d = 1 ∨ d = 2) (w0 : ∃ l ov, Rw S (8 + 3 * d + 0) l ov) (w1 : ∃ l ov, Rw S (8 + 3 * d + 1) l ov) : ∃ S', m_Pg_clear g S d = some S' ∧ FRd d S S' ∧ PrC S' d [] ∧ LitsC S' d [] ∧ ∀ x l ov, x ≠ 8 + 3 * d + 0 → x ≠ 8 + 3 * d + 1 → Rw S x l ov → Rw S' x l ov := by
  obtain ⟨l0, o0, w0⟩ := w0
  obtain ⟨l1, o1, w1⟩ := w1
  have hl1 := (LCp hl hd).2.1
  have f1 : FPc d S (sF (sI S d 8 (0 : Int32)) (50 + 8 * d + 1) 0 (0 : Int32)) := FPc.sI.tr (FPc.fa ⟨rfl, rfl, rfl, rfl, fun b hb j => gF_ne hb, fun _ _ _ => rfl⟩ (by omega))
  obtain ⟨S1, a1, a2, a3⟩ := R_clear (g := g) (w0.fp f1 hd)
  obtain ⟨S3, b1, b2, b3⟩ := R_clear (g := g) ((w1.fp f1 hd).fr a2 (by omega))
  refine ⟨S3, ?_, ((FRd.fp f1).tr (FRd.fr a2 (by omega))).tr (FRd.fr b2 (by omega)), ⟨hd, Nat.zero_le _, Nat.zero_le _, ?_, fun i hi => ?_, fun i s ws h => by cases h⟩, ⟨a3.fr b2 (by omega), b3⟩, fun x l ov h1 h2 w => ((w.fp f1 hd).fr a2 h1).fr b2 h2⟩
  · unfold m_Pg_clear
    rw [lt_d, show (0 : Int32) = nI 0 from rfl, tI_at (show 0 < gN (sI S d 8 (nI 0)) (50 + 8 * d + 1) from by show 0 < gN S (50 + 8 * d + 1); omega) (show gN (sI S d 8 (nI 0)) (50 + 8 * d + 1) < 2 ^ 31 from by show gN S (50 + 8 * d + 1) < 2 ^ 31; omega), Option.bind_some]
    have a1 : m_Row_clear g (sF (sI S d 8 (nI 0)) (50 + 8 * d + 1) 0 (nI 0)) (8 + 3 * d + 0) = some S1 := a1
    rw [a1, Option.bind_some, b1, Option.bind_some]
  · rw [b2.1 d 8 (by omega), a2.1 d 8 (by omega)]
    show gI (sI S d 8 0) d 8 = _
    rw [sI_g]
    rfl
  · have hi : i = 0 := by simpa using hi
    subst hi
    rw [(b2.2.2.2.1 _ (by omega)).2, (a2.2.2.2.1 _ (by omega)).2, gF_sF]
    rfl
/-- a compile that fails -/
theorem cmp_bad {S S2 S' T' : St} {tp : List Int32} {P0 : Prg} {lits0 : List (List Int32)} {x : Int32} (r : RelD S S2 tp p d P0 lits0) (hc : FZc p S S') (hm : FZm S2 T') (h3 : gR S' 3 2 < 3) (w : Rw S' 10 tp 0) (hr : RwP S') (hx : ¬ x = -1) (h19 : ¬ x < 0) (e19 : gI T' 0 19 = x) : ∃ S5, m_TL_compile_25 g S' x = some (S5, -1 - x) ∧ m_compile_114 g T' = some (sI T' 0 5 0, -1 - x) ∧ RelD S5 (sI T' 0 5 0) [] p d P0 lits0 := by
  have hp := r.1.1.1.1
  obtain ⟨S5, a1, a2, a3⟩ := R_clear (g := g) w
  refine ⟨S5, ?_, ?_, r.z (hc.tr (FZc.fr a2 hp)) (hm.tr (FZm.sI (by omega))) (by unfold gR; rw [a2.2.2.1]; exact h3) ⟨a3, by rw [sI_g]; rfl, by simp, fun i hi => by simp at hi, fun x hx => by cases hx⟩ (hr.of fun x l ov h1 h2 w => w.fr a2 (by omega))⟩
  · unfold m_TL_compile_25
    rw [a1, Option.bind_some, if_neg hx]
  · unfold m_compile_114
    rw [lt_d, gI_ne (by omega), e19, if_neg h19]
theorem PrM.cl {S S' : St} {P : Prg} {q : Nat} (w : PrM S q P) (h : Fcl S S') : PrM S' q P := w.of (fun a i _ _ => h.2.2.2.2.1 a i (by omega) (by omega) (by omega)) (fun i => by unfold gG; rw [h.2.2.2.2.2])
theorem TabM.cl {S S' : St} (w : TabM S) (h : Fcl S S') : TabM S' := ⟨fun i => (h.2.2.2.2.1 3 i (by omega) (by omega) (by omega)).trans (w.1 i), fun i => (h.2.2.2.2.1 4 i (by omega) (by omega) (by omega)).trans (w.2.1 i), fun i => by unfold gG; rw [h.2.2.2.2.2]; exact w.2.2.1 i, fun i => by unfold gG; rw [h.2.2.2.2.2]; exact w.2.2.2 i⟩
/-- the reference keeps what it has read -/
theorem M_copyL {T : St} {P : Prg} {lits : List (List Int32)} (hg : 100000 ≤ g) (pm : PrM T 1 P) (lm : LitsM T lits) (hm : LM T) (tb : TabM T) (h5 : gI T 0 5 = nI 0) (h19 : gI T 0 19 < 0) (hL : lits.length ≤ 24) (hfl : lits.flatten.length ≤ 3000) (h400 : ∀ l ∈ lits, l.length ≤ 400) : ∃ U, ((m_copyProgram g T (1 : Int32) (0 : Int32)).bind fun S_6 => (aI S_6 15 (1 : Int32)).bind fun v_7 => (tI S_6 15 (0 : Int32) v_7).bind fun S_8 => m_compile_153 g g S_8 (0 : Int32)) = (m_begin g U 0).bind (fun S_11 => (aI S_11 11 (0 : Int32)).bind fun v_12 => some (S_11, v_12)) ∧ PrM U 0 P ∧ LitM U lits ∧ LM U ∧ TabM U ∧ gI U 0 12 = 1 ∧ gI U 0 5 = nI 0 := by
  obtain ⟨T1, a1, a2, a3⟩ := M_copyP (g := g) (q := 1) (q' := 0) hg hm pm (by omega) (by omega)
  have a1 : m_copyProgram g T (1 : Int32) (0 : Int32) = some T1 := a1
  have hm1 := hm.fp a2
  have g15 : gN T1 15 = 2 := LMn hm1 15
  have e15 : gF T1 15 1 = nI lits.length := by rw [a2.2.2.2.2.1 15 (by decide) (by decide) (by decide) (by decide) (by decide)]; exact lm.1
  have lm1 : LitsM T1 lits := lm.of (fun a i h1 h2 => a2.2.2.2.2.1 a (by omega) (by omega) (by omega) (by omega) (by omega) i)
  have f2 : Fcl T1 (sF T1 15 0 (nI lits.length)) := Fcl.sF (by omega)
  have hm2 : LM (sF T1 15 0 (nI lits.length)) := hm1.of rfl
  obtain ⟨T3, c1, c2, c3, c4, -⟩ := M_153 (g := g) (L := lits.length) hL lits.length g 0 (sF T1 15 0 (nI lits.length)) (by omega) (by omega) hm2 (by rw [gF_sFi (by decide)]; exact e15)
  obtain ⟨T4, d1, d2, d3, d4⟩ := M_205 (g := g) 3000 g 0 T3 (by omega) (by omega) (hm2.of c2.2.2.2.1)
  have f4 := (f2.tr c2).tr d2
  have hm4 : LM T4 := hm1.of f4.2.2.2.1
  have I4 : ∀ o k, gI T4 o k = gI T o k := fun o k => by unfold gI; rw [f4.1, a2.1]
  refine ⟨sI T4 0 12 1, ?_, (a3.cl f4).of (fun a i _ _ => rfl) (fun i => rfl), ⟨?_, hL, hfl, fun n l hn => ?_⟩, hm4.of rfl, (show TabM (sI T4 0 12 1) from (show TabM T4 from (tb.fp a2).cl f4)), sI_g, by rw [gI_ne (by omega), I4]; exact h5⟩
  · rw [a1, Option.bind_some, show (1 : Int32) = nI 1 from rfl, aI_at (S := T1) (a := 15) (by omega) (by omega), Option.bind_some, e15, show (0 : Int32) = nI 0 from rfl, tI_at (S := T1) (a := 15) (by omega) (by omega), Option.bind_some, c1]
    exact d1
  · show gF T4 15 0 = _
    rw [d4 15 0 (by omega), c4 15 0 (by decide) (by decide), gF_sF]
  · have hnl := (List.getElem?_eq_some_iff.mp hn).1
    obtain ⟨z1, z2, z3⟩ := lm1.2 n l hn
    have hst := stC_le (cs := lits) (t := n + 1)
    rw [stC_succ hn] at hst
    have c3n := c3 n (Nat.zero_le _) hnl
    refine ⟨h400 l (List.mem_of_getElem? hn), stC lits n, by omega, ?_, ?_, fun i hi => ?_⟩
    · show gF T4 13 n = _
      rw [d4 13 n (by omega), c3n.1, gF_ne (by decide), z1, show (3000 : Int32) = nI 3000 from rfl, nI_sub (by omega), Nat.add_sub_cancel_left]
    · show gF T4 14 n = _
      rw [d4 14 n (by omega), c3n.2, gF_ne (by decide), z2]
    · show gF T4 12 (stC lits n + i) = _
      rw [d3 _ (Nat.zero_le _) (by omega), c4 12 _ (by decide) (by decide), gF_ne (by decide), ← Nat.add_assoc]
      exact z3 i hi
end CMP
