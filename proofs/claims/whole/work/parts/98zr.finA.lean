/-! the calls, the size, the start -/
section FIN
variable {g p d : Nat} {S S2 : St} {tp : List Int32} {P : Prg} {lits : List (List Int32)}
theorem R_tape {S' S2' : St} {tp' : List Int32} (r : RelD S S2 tp p d P lits) (h : Fr 10 S S') (hf : FTp S2 S2') (ht : TpR S' S2' tp') : RelD S' S2' tp' p d P lits := r.z (FZc.fr h r.1.1.1.1) (FZm.tp hf) (by unfold gR; rw [h.2.2.1]; exact r.1.2.2.2.1.2.2.1) ht (r.2.2.2.2.1.of fun x l ov h1 h2 w => w.fr h (by omega))
theorem Rw.fg {x : Nat} {S' : St} {l : List Int32} {ov : Int32} (w : Rw S x l ov) (h : FBg S S') (hx : x < 18) : Rw S' x l ov := by
  have hb := w.1
  obtain ⟨z1, z2, z3⟩ := h.2.1 x hb.1 (by omega) (by unfold stpRow; omega) (by omega) (by omega)
  obtain ⟨w0, w1, w2, w3, w4, w5, w6, w7, w8⟩ := w
  unfold Rw
  rw [z1, z1, z1, z2]
  exact ⟨w0, w1, w2, w3, w4, w5, w6, w7, fun i hi => by rw [z3]; exact w8 i hi⟩
theorem Rw.sh {x : Nat} {S' : St} {l : List Int32} {ov : Int32} (w : Rw S x l ov) (h : FSh S S') (hx : x < 18) : Rw S' x l ov := by
  have hb := w.1
  obtain ⟨z1, z2, z3⟩ := h.2.1 x hb.1 (by omega)
  obtain ⟨w0, w1, w2, w3, w4, w5, w6, w7, w8⟩ := w
  unfold Rw
  rw [z1, z1, z1, z2]
  exact ⟨w0, w1, w2, w3, w4, w5, w6, w7, fun i hi => by rw [z3]; exact w8 i hi⟩
theorem c_run (hg : 100000 ≤ g) (r : RelD S S2 tp p d P lits) : ∃ S' S2' x, m_TL_run g S = some (S', x) ∧ m_run g S2 = some (S2', x) ∧ RelD S' S2' tp p d P lits := by
  obtain ⟨⟨hp, pl, hl, hk, rx, hm, tb, r4, r5, hd, hne⟩, tR, re, lc, rw, fl⟩ := id r
  unfold m_TL_run m_run
  rcases fl with ⟨f1, f2, -⟩ | ⟨f1, f2⟩
  · rw [if_pos f1, if_pos f2]
    exact ⟨S, S2, _, rfl, rfl, r⟩
  · obtain ⟨S', T', i1, i2, i3, i4, i5, i6, i7⟩ := run_all (g := g) hg hp hl hk rx hm
    have i2 : m_runs g S2 0 = some (T', gI T' 0 52) := i2
    have R' : ∀ o k, ¬ (o = 4 ∧ k = 9) → gR S' o k = gR S o k := i4.2.2.2.1
    have hk' : gOK S' := by
      obtain ⟨φ, cs, ts, u, pl, pm, ps, qs, r, -⟩ := i3.1
      exact r.1
    have l' := hl.fg i4
    have h79 : gN S' 79 = 4 := l' 79 (by decide)
    have rel : RelD S' T' tp p d P lits := ⟨⟨i6, pl, l', hk', i7, hm.fx i5, tb.fx i5, (R' 0 4 (by omega)).trans r4, (R' 0 5 (by omega)).trans r5, hd, hne⟩, ⟨tR.1.fg i4 (by omega), by rw [i5.1 5 (by unfold stpSl; omega) (by omega) (by omega) (by omega) (by omega) (by omega)]; exact tR.2.1, tR.2.2.1, fun i hi => by rw [(i5.2.2.2.2 5 (by unfold stpAr; omega) (by omega) (by omega) (by omega) (by omega)).1]; exact tR.2.2.2.1 i hi, tR.2.2.2.2⟩, i3, ⟨lc.1.fg i4 (by have := hp.1.1; omega), lc.2.fg i4 (by have := hp.1.1; omega)⟩, rw.of (fun x l ov h1 h2 w => w.fg i4 (by omega)), Or.inr ⟨by rw [i4.1 0 6 (by omega) (by omega)]; exact f1, by rw [i5.1 12 (by unfold stpSl; omega) (by omega) (by omega) (by omega) (by omega) (by omega)]; exact f2⟩⟩
    rw [if_neg (show ¬ gI S 0 6 = 0 by rw [f1]; decide), if_neg (show ¬ gI S2 0 12 = 0 by rw [f2]; decide), r4, if_pos hp.1.1, lt_d, i1, Option.bind_some, i2, Option.bind_some]
    show ∃ S'' S2' x, m_TL_run_21 g S' (gF S' 79 1) = some (S'', x) ∧ _
    unfold m_TL_run_21
    rw [show (0 : Int32) = nI 0 from rfl, aI_at (S := S') (a := 79) (by omega) (by omega), Option.bind_some, i3.2.2.1]
    rcases i3.2.2.2.2.1 with ⟨z, -⟩ | ⟨i, kd, z1, z2, -⟩
    · refine ⟨S', T', _, rfl, ?_, rel⟩
      show (if nI 0 ≤ gI T' 0 52 then _ else _) = _
      rw [z, if_neg (by decide)]
      rfl
    · refine ⟨S', T', _, rfl, ?_, rel⟩
      show (if nI 0 ≤ gI T' 0 52 then _ else _) = _
      rw [z2, if_pos (nI_le (by omega) (by omega))]
theorem c_shrink (hg : 100000 ≤ g) (r : RelD S S2 tp p d P lits) : ∃ S' S2' x P', m_TL_shrink g S = some (S', x) ∧ m_shrink g S2 = some (S2', x) ∧ RelD S' S2' tp p d P' lits := by
  obtain ⟨sh, tR, re, lc, rw, fl⟩ := id r
  have hp1 := sh.1.1.1
  have hl := sh.2.2.1
  have h79 : gN S 79 = 4 := hl 79 (by decide)
  unfold m_TL_shrink m_shrink
  rw [show aI S 79 (1 : Int32) = some (gF S 79 1) from aI_at (i := 1) (by omega) (by omega), Option.bind_some, re.2.2.2.1]
  rcases fl with ⟨f1, f2, -⟩ | ⟨f1, f2⟩
  · rw [if_pos f1, if_pos f2]
    exact ⟨S, S2, _, P, rfl, rfl, r⟩
  · rw [if_neg (show ¬ gI S 0 6 = 0 by rw [f1]; decide), if_neg (show ¬ gI S2 0 12 = 0 by rw [f2]; decide)]
    rcases re.2.2.2.2.1 with ⟨-, z⟩ | ⟨i, kd, -, -, z1, z2, z3⟩
    · rw [if_pos z, if_pos z]
      exact ⟨S, S2, _, P, rfl, rfl, r⟩
    · have hkn : ¬ nI kd = (0 : Int32) := i_lit (b := 0) (by omega) (by omega) z2
      rw [z3, if_neg hkn, if_neg hkn, lt_d]
      have hP60 := sh.1.1.2.1
      obtain ⟨S', T', P', a1, a2, a3, a4, a5, a6⟩ := shr_3 (g := g) (kd := kd) hg ⟨z2, z1⟩ P.length g g 0 S S2 P (Nat.le_refl _) (by omega) (by omega) (by omega) sh
      refine ⟨S', T', _, P', a1, a2, a3, ⟨tR.1.sh a5 (by omega), by rw [a6.1 5 (by unfold stpSl; omega) (by omega) (by omega) (by omega) (by omega) (by omega) (by omega) (by omega) (by omega) (by omega)]; exact tR.2.1, tR.2.2.1, fun i hi => by rw [(a6.2.2.2.2 5 (by unfold stpAr; omega) (by omega) (by omega) (by omega) (by omega) (by omega) (by omega)).1]; exact tR.2.2.2.1 i hi, tR.2.2.2.2⟩, a4, ⟨lc.1.sh a5 (by omega), lc.2.sh a5 (by omega)⟩, rw.of (fun x l ov h1 h2 w => w.sh a5 (by omega)), Or.inr ⟨by rw [a5.1 0 6 (by omega) (by omega) (by omega)]; exact f1, by rw [a6.1 12 (by unfold stpSl; omega) (by omega) (by omega) (by omega) (by omega) (by omega) (by omega) (by omega) (by omega) (by omega)]; exact f2⟩⟩
theorem c_step (r : RelD S S2 tp p d P lits) (x y : Int32) : ∃ z, m_TL_step g S x y = some z ∧ m_step g S2 x y = some z := by
  obtain ⟨⟨hp, -, hl, -, -, hm, -, r4, -⟩, -, -, -, -, fl⟩ := r
  rcases fl with ⟨-, f2, f3⟩ | ⟨-, f2⟩
  · exact q_step0 hp.1.1 r4 (by rw [hp.1.2.2.2.1, f3]; rfl) f2 x y
  · exact q_step hp.1 hl hp.2.1 hm r4 f2 x y
theorem sum_leN {f h : Nat → Nat} : ∀ {l : List Nat}, (∀ x ∈ l, f x ≤ h x) → (l.map f).sum ≤ (l.map h).sum
  | [], _ => Nat.le_refl _
  | a :: l, H => by
    have h1 := H a (List.mem_cons_self ..)
    have h2 := sum_leN (l := l) (fun x hx => H x (List.mem_cons_of_mem _ hx))
    rw [List.map_cons, List.map_cons, List.sum_cons, List.sum_cons]
    omega
theorem c_kap (r : RelD S S2 tp p d P lits) : kap S ≤ 100000 := by
  obtain ⟨⟨⟨-, -, hld, -⟩, -, -, -, rx, -⟩, tR, -, -, rw, -⟩ := r
  have one : ∀ o, 10 ≤ o → o < 34 → ∃ l ov, Rw S o l ov := by
    intro o h1 h2
    obtain ⟨x20, x22, ⟨x23, x30, x31⟩, xb, x32, x33⟩ := rx
    obtain ⟨y21, -, ⟨r18, y18⟩, r19, y19⟩ := hld
    by_cases q : o = 10
    · rw [q]; exact ⟨_, _, tR.1⟩
    by_cases q : o ≤ 17
    · exact rw o (by omega) q
    by_cases q : o = 18
    · rw [q]; exact ⟨_, _, y18⟩
    by_cases q : o = 19
    · rw [q]; exact ⟨_, _, y19⟩
    by_cases q : o = 20
    · rw [q]; exact x20
    by_cases q : o = 21
    · rw [q]; exact ⟨_, _, y21⟩
    by_cases q : o = 22
    · rw [q]; exact x22
    by_cases q : o = 23
    · rw [q]; exact x23
    by_cases q : o = 30
    · rw [q]; exact x30
    by_cases q : o = 31
    · rw [q]; exact x31
    by_cases q : o = 32
    · rw [q]; exact x32
    by_cases q : o = 33
    · rw [q]; exact x33
    have := xb (o - 24) (by omega)
    rw [show 24 + (o - 24) = o by omega] at this
    exact this
  have all : ∀ i, i < 24 → gN S (34 + i) ≤ 2 * limC (10 + i) + 16 := by
    intro i hi
    obtain ⟨l, ov, w⟩ := one (10 + i) (by omega) (by omega)
    have := w.2.2.2.2.2.2.2.1
    rw [show 10 + i + 24 = 34 + i by omega] at this
    exact this
  have e : ((List.range 24).map (fun i => 2 * limC (10 + i) + 16)).sum = 84000 := by decide +kernel
  have s : kap S ≤ ((List.range 24).map (fun i => 2 * limC (10 + i) + 16)).sum   := sum_leN (fun x hx => all x (List.mem_range.mp hx))
  omega
end FIN
theorem SC_row {o n : Nat} {l : List Int32} (h : (10 ≤ o ∧ o < 34) ∧ gI SC0 o 0 = nI (limC o) ∧ gI SC0 o 2 = nI l.length ∧ gI SC0 o 3 = 0 ∧ l.length ≤ limC o ∧ gN SC0 (o + 24) = n ∧ l.length ≤ n ∧ 16 ≤ n ∧ n ≤ 2 * limC o + 16 ∧ ∀ i, i < l.length → gF SC0 (o + 24) i = l.getD i 0) : Rw SC0 o l 0 := ⟨h.1, h.2.1, h.2.2.1, h.2.2.2.1, h.2.2.2.2.1, by rw [h.2.2.2.2.2.1]; exact h.2.2.2.2.2.2.1, by rw [h.2.2.2.2.2.1]; exact h.2.2.2.2.2.2.2.1, by rw [h.2.2.2.2.2.1]; exact h.2.2.2.2.2.2.2.2.1, h.2.2.2.2.2.2.2.2.2⟩
theorem SC_e {o : Nat} (h : (10 ≤ o ∧ o < 34) ∧ gI SC0 o 0 = nI (limC o) ∧ gI SC0 o 2 = nI 0 ∧ gI SC0 o 3 = 0 ∧ gN SC0 (o + 24) = 16 ∧ 16 ≤ 2 * limC o + 16) : Rw SC0 o [] 0 := SC_row (n := 16) ⟨h.1, h.2.1, h.2.2.1, h.2.2.2.1, Nat.zero_le _, h.2.2.2.2.1, Nat.zero_le _, by omega, h.2.2.2.2.2, fun i hi => by simp at hi⟩
theorem SC_all0 : (List.range 34).all (fun o => decide (o < 10) || decide (o = 19) || decide (o = 20) || (decide (gI SC0 o 0 = nI (limC o)) && decide (gI SC0 o 2 = nI 0) && decide (gI SC0 o 3 = 0) && decide (gN SC0 (o + 24) = 16))) = true := by decide +kernel
theorem SC_all (o : Nat) (h1 : o < 34) (h2 : 10 ≤ o) (h3 : o ≠ 19) (h4 : o ≠ 20) : (10 ≤ o ∧ o < 34) ∧ gI SC0 o 0 = nI (limC o) ∧ gI SC0 o 2 = nI 0 ∧ gI SC0 o 3 = 0 ∧ gN SC0 (o + 24) = 16 ∧ 16 ≤ 2 * limC o + 16 := by
  have h := List.all_eq_true.mp SC_all0 o (List.mem_range.mpr h1)
  simp only [Bool.or_eq_true, Bool.and_eq_true, decide_eq_true_eq] at h
  rcases h with ((h | h) | h) | ⟨⟨⟨a, b⟩, c⟩, e⟩
  · omega
  · omega
  · omega
  · exact ⟨⟨h2, h1⟩, a, b, c, e, by omega⟩
theorem SC_rw {o : Nat} (h1 : 10 ≤ o) (h2 : o < 34) (h3 : o ≠ 19) (h4 : o ≠ 20) : Rw SC0 o [] 0 := SC_e (SC_all o h2 h1 h3 h4)
theorem SC_19 : Rw SC0 19 [nI 0] 0 := SC_row (n := 16) ⟨by omega, by decide +kernel, by decide +kernel, by decide +kernel, by decide +kernel, by decide +kernel, by simp, by omega, by decide +kernel, fun i hi => by
  have : i = 0 := by simpa using hi
  subst this
  decide +kernel⟩
theorem SC_20 : Rw SC0 20 [nI 0] 0 := SC_row (n := 16) ⟨by omega, by decide +kernel, by decide +kernel, by decide +kernel, by decide +kernel, by decide +kernel, by simp, by omega, by decide +kernel, fun i hi => by
  have : i = 0 := by simpa using hi
  subst this
  decide +kernel⟩
theorem SC_X : RwX SC0 := ⟨⟨_, _, SC_20⟩, ⟨_, _, SC_rw (by omega) (by omega) (by omega) (by omega)⟩, ⟨⟨_, _, SC_rw (by omega) (by omega) (by omega) (by omega)⟩, ⟨_, _, SC_rw (by omega) (by omega) (by omega) (by omega)⟩, _, _, SC_rw (by omega) (by omega) (by omega) (by omega)⟩, fun b hb => ⟨_, _, SC_rw (by omega) (by omega) (by omega) (by omega)⟩, ⟨_, _, SC_rw (by omega) (by omega) (by omega) (by omega)⟩, _, _, SC_rw (by omega) (by omega) (by omega) (by omega)⟩
theorem SC_F : (∀ v, v < 20 → gF SC0 74 v = -1) ∧ (∀ b, b < 6 → gF SC0 77 b = -1) ∧ (∀ s, s < 56 → gF SC0 80 s = 0) ∧ gF SC0 79 0 = -1 ∧ (∀ j, j < 4 → (j = 1 ∨ j = 2 ∨ j = 3) → gF SC0 79 j = 0) ∧ gI SC0 4 7 = nI 0 ∧ gI SC0 5 4 = nI 1 ∧ gI SC0 1 8 = nI 0 ∧ gI SC0 0 6 = 0 ∧ gF SC0 59 0 = nI 0 := by decide +kernel
theorem SC_ok : gOK SC0 := ⟨by decide, by decide, by decide, by decide⟩
theorem SC_beg : BegC SC0 1 [] [] := ⟨⟨SC_rw (by omega) (by omega) (by omega) (by omega), SC_19⟩, SC_20, SC_rw (by omega) (by omega) (by omega) (by omega), SC_rw (by omega) (by omega) (by omega) (by omega), SC_rw (by omega) (by omega) (by omega) (by omega), SC_F.1, fun w _ => rfl, SC_F.2.1, SC_F.2.2.2.2.2.1, SC_F.2.2.1, SC_F.2.2.2.1, fun j hj => SC_F.2.2.2.2.1 j (by omega) hj, rfl, SC_rw (by omega) (by omega) (by omega) (by omega), SC_X, fun _ _ => rfl, SC_ok⟩
theorem c_start {g : Nat} (hg : 100000 ≤ g) : ∃ SM, m_begin g SM0 0 = some SM ∧ RelD SC0 SM [] 1 2 [] [] := by
  have lm0 : LitM SM0 [] := ⟨rfl, by simp, by simp, fun n l h => by cases h⟩
  have hm0 : LM SM0 := rfl
  obtain ⟨SM, a1, a2, a3⟩ := M_begin (g := g) (q := 0) (P := []) (lits := []) (S := SM0) hg ⟨by omega, by simp, rfl, (fun i s ws h => by cases h)⟩ lm0 hm0 (fun i s ws h => by cases h)
  have lm := lm0.fb a2
  obtain ⟨r1, r2⟩ := beg_R (P := []) (lits := []) (p := 1) (S := SC0) (S2 := SM) (fun i s ws h => by cases h) (fun l h => by cases h) lm SC_beg a3
  have tb0 : TabM SM0 := ⟨fun i => rfl, fun i => rfl, fun i => rfl, fun i => rfl⟩
  refine ⟨SM, a1, ⟨⟨⟨Or.inl rfl, by simp, by simp [fsP], SC_F.2.2.2.2.2.2.2.1, fun i hi => ?_, fun i s ws h => by cases h⟩, ?_, ⟨SC_rw (by omega) (by omega) (by omega) (by omega), SC_F.2.2.2.2.2.2.1, ⟨[], SC_rw (by omega) (by omega) (by omega) (by omega)⟩, [], SC_19⟩, lm, (fun l h => by cases h), (fun i s ws h => by cases h), ⟨fun i h => ?_, fun i s ws j w b h => (by cases h)⟩⟩, ⟨fun i s ws j w h => (by cases h), fun i s ws h => (by cases h)⟩, fun _ _ => rfl, SC_ok, SC_X, hm0.fb a2, tb0.fx (FX.b a2), rfl, rfl, Or.inr rfl, by omega⟩, ⟨SC_rw (by omega) (by omega) (by omega) (by omega), ?_, by simp, fun i hi => by simp at hi, fun x hx => by cases hx⟩, RunE.beg SC_beg a3 r1 r2, ⟨SC_rw (by omega) (by omega) (by omega) (by omega), SC_rw (by omega) (by omega) (by omega) (by omega)⟩, fun o h1 h2 => ⟨_, _, SC_rw (by omega) (by omega) (by omega) (by omega)⟩, Or.inl ⟨SC_F.2.2.2.2.2.2.2.2.1, ?_, rfl⟩⟩
  · have : i = 0 := by simpa using hi
    subst this
    exact SC_F.2.2.2.2.2.2.2.2.2
  · exact PrM.fb ⟨by omega, by simp, rfl, fun i s ws h => by cases h⟩ a2
  · obtain ⟨s, ws, h, -⟩ := h
    cases h
  · rw [a2.1 5 (by unfold stpSl; omega) (by omega) (by omega) (by omega) (by omega)]
    rfl
  · rw [a2.1 12 (by unfold stpSl; omega) (by omega) (by omega) (by omega) (by omega)]
    rfl
