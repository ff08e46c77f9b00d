/-! the STEPS: builders are changed; fresh, put, delete -/
/-- only Row 24 + b and rooms[b] have changed -/
def FBc (b : Nat) (S S' : St) : Prop := (∀ x k, x ≠ 24 + b → gI S' x k = gI S x k) ∧ S'.2.1 = S.2.1 ∧ S'.2.2.1 = S.2.2.1 ∧ (∀ a, a ≠ 48 + b → gN S' a = gN S a) ∧ (∀ a, a ≠ 48 + b → a ≠ 77 → ∀ i, gF S' a i = gF S a i) ∧ (∀ i, i ≠ b → gF S' 77 i = gF S 77 i) ∧ S'.2.2.2.2.2 = S.2.2.2.2.2
theorem FBc.tr {b : Nat} {S S1 S2 : St} (h1 : FBc b S S1) (h2 : FBc b S1 S2) : FBc b S S2 := ⟨fun x k h => (h2.1 x k h).trans (h1.1 x k h), h2.2.1.trans h1.2.1, h2.2.2.1.trans h1.2.2.1, fun a h => (h2.2.2.2.1 a h).trans (h1.2.2.2.1 a h), fun a h h' i => (h2.2.2.2.2.1 a h h' i).trans (h1.2.2.2.2.1 a h h' i), fun i h => (h2.2.2.2.2.2.1 i h).trans (h1.2.2.2.2.2.1 i h), h2.2.2.2.2.2.2.trans h1.2.2.2.2.2.2⟩
theorem FBc.fr {b : Nat} (hb : b < 6) {S S' : St} (h : Fr (24 + b) S S') : FBc b S S' := ⟨fun x k hx => h.1 x k hx, h.2.1, h.2.2.1, fun a ha => (h.2.2.2.1 a (by omega)).1, fun a ha _ i => (h.2.2.2.1 a (by omega)).2 i, fun i _ => (h.2.2.2.1 77 (by omega)).2 i, h.2.2.2.2⟩
theorem gF_sF {S : St} {a i : Nat} {v : Int32} : gF (sF S a i v) a i = v := by simp [gF, sF]
theorem gF_sFi {S : St} {a i j : Nat} {v : Int32} (h : j ≠ i) : gF (sF S a i v) a j = gF S a j := by simp [gF, sF, h]
theorem FBc.s77 {b : Nat} (hb : b < 6) {S : St} {v : Int32} : FBc b S (sF S 77 b v) := ⟨fun _ _ _ => rfl, rfl, rfl, fun _ _ => rfl, fun a _ h i => gF_ne h, fun i h => gF_sFi h, rfl⟩
theorem Rw.fbc {b x : Nat} {S S' : St} {l : List Int32} {ov : Int32} (w : Rw S x l ov) (h : FBc b S S') (hx : x ≠ 24 + b) : Rw S' x l ov := by
  obtain ⟨w0, w1, w2, w3, w4, w5, w6, w7, w8⟩ := w
  unfold Rw
  rw [h.1 x 0 hx, h.1 x 2 hx, h.1 x 3 hx, h.2.2.2.1 (x + 24) (by omega)]
  exact ⟨w0, w1, w2, w3, w4, w5, w6, w7, fun i hi => (h.2.2.2.2.1 (x + 24) (by omega) (by omega) i).trans (w8 i hi)⟩
/-- only builder b of the reference has changed -/
def FBm (b : Nat) (S S' : St) : Prop := (∀ k, gI S' 0 k = gI S 0 k) ∧ S'.2.1 = S.2.1 ∧ S'.2.2.1 = S.2.2.1 ∧ S'.2.2.2.1 = S.2.2.2.1 ∧ (∀ a, a ≠ 28 → a ≠ 29 → a ≠ 30 → ∀ i, gF S' a i = gF S a i) ∧ (∀ i, i ≠ b → gF S' 28 i = gF S 28 i ∧ gF S' 29 i = gF S 29 i) ∧ (∀ i, (i < 400 * b ∨ 400 * b + 400 ≤ i) → gF S' 30 i = gF S 30 i) ∧ S'.2.2.2.2.2 = S.2.2.2.2.2
theorem FBm.rf {b : Nat} {S : St} : FBm b S S := ⟨fun _ => rfl, rfl, rfl, rfl, fun _ _ _ _ _ => rfl, fun _ _ => ⟨rfl, rfl⟩, fun _ _ => rfl, rfl⟩
theorem FBm.tr {b : Nat} {S S1 S2 : St} (h1 : FBm b S S1) (h2 : FBm b S1 S2) : FBm b S S2 := ⟨fun k => (h2.1 k).trans (h1.1 k), h2.2.1.trans h1.2.1, h2.2.2.1.trans h1.2.2.1, h2.2.2.2.1.trans h1.2.2.2.1, fun a x y z i => (h2.2.2.2.2.1 a x y z i).trans (h1.2.2.2.2.1 a x y z i), fun i h => ⟨(h2.2.2.2.2.2.1 i h).1.trans (h1.2.2.2.2.2.1 i h).1, (h2.2.2.2.2.2.1 i h).2.trans (h1.2.2.2.2.2.1 i h).2⟩, fun i h => (h2.2.2.2.2.2.2.1 i h).trans (h1.2.2.2.2.2.2.1 i h), h2.2.2.2.2.2.2.2.trans h1.2.2.2.2.2.2.2⟩
theorem FBm.s28 {b : Nat} {S : St} {v : Int32} : FBm b S (sF S 28 b v) := ⟨fun _ => rfl, rfl, rfl, rfl, fun a h _ _ i => gF_ne h, fun i h => ⟨gF_sFi h, gF_ne (by decide)⟩, fun i _ => gF_ne (by decide), rfl⟩
theorem FBm.s29 {b : Nat} {S : St} {v : Int32} : FBm b S (sF S 29 b v) := ⟨fun _ => rfl, rfl, rfl, rfl, fun a _ h _ i => gF_ne h, fun i h => ⟨gF_ne (by decide), gF_sFi h⟩, fun i _ => gF_ne (by decide), rfl⟩
theorem FBm.s30 {b j : Nat} {S : St} {v : Int32} (hj : j < 400) : FBm b S (sF S 30 (400 * b + j) v) := ⟨fun _ => rfl, rfl, rfl, rfl, fun a _ _ h i => gF_ne h, fun i h => ⟨gF_ne (by decide), gF_ne (by decide)⟩, fun i h => gF_sFi (by omega), rfl⟩
theorem LM.fbm {b : Nat} {S S' : St} (w : LM S) (h : FBm b S S') : LM S' := w.of h.2.2.2.1
theorem TXs.fbm {b : Nat} {S S' : St} {ts : List (List Int32)} {u : Nat} (w : TXs S ts u) (e : FBm b S S') : TXs S' ts u := by
  obtain ⟨h1, -, -, -, h5, -⟩ := e
  obtain ⟨a, b, c, d, f⟩ := w
  refine ⟨by rw [h1 38]; exact a, b, c, by rw [h1 39]; exact d, fun t l ht => ?_⟩
  obtain ⟨q, q1, q2, q3, q4⟩ := f t l ht
  exact ⟨q, by rw [h5 23 (by decide) (by decide) (by decide)]; exact q1, by rw [h5 24 (by decide) (by decide) (by decide)]; exact q2, q3, fun i hi => by rw [h5 22 (by decide) (by decide) (by decide)]; exact q4 i hi⟩
theorem Out.fbm {b : Nat} {S S' : St} {v : List Int32} (w : Out S v) (e : FBm b S S') : Out S' v := ⟨(e.1 57).trans w.1, fun i h1 h2 => (e.2.2.2.2.1 34 (by decide) (by decide) (by decide) i).trans (w.2 i h1 h2)⟩
theorem FS.fbm {b : Nat} {S S' : St} (h : FBm b S S') : FS S S' := ⟨fun k _ => h.1 k, h.2.1, h.2.2.1, h.2.2.2.1, fun a ha => ⟨fun i => h.2.2.2.2.1 a (fun q => ha (by unfold stpAr; omega)) (fun q => ha (by unfold stpAr; omega)) (fun q => ha (by unfold stpAr; omega)) i, fun i => by unfold gG; rw [h.2.2.2.2.2.2.2]⟩⟩
theorem gOK.fbc {b : Nat} {S S' : St} (w : gOK S) (h : FBc b S S') : gOK S' := by
  unfold gOK gR at *
  rw [h.2.2.1]
  exact w
theorem LC.fbc {b : Nat} (hb : b < 6) {S S' : St} (w : LC S) (h : FBc b S S') : LC S' := fun a ha => (h.2.2.2.1 a (by omega)).trans (w a ha)
theorem FC.fbc {b : Nat} (hb : b < 6) {S S' : St} (h : FBc b S S') (h7 : ¬ gF S' 77 b = -1) : FC S S' := by
  refine ⟨fun o k a _ => h.1 o k (by omega), fun o a b' c => ?_, h.2.1, h.2.2.1, fun a ha => h.2.2.2.1 a (by omega), fun a ha => ⟨fun i => h.2.2.2.2.1 a (by omega) (by omega) i, fun i => by unfold gG; rw [h.2.2.2.2.2.2]⟩, fun i hi => ?_, Gro.same fun o l ho w => w.fbc h (by omega)⟩
  · unfold stpRow at c
    exact ⟨fun k => h.1 o k (by omega), h.2.2.2.1 (o + 24) (by omega), fun i => h.2.2.2.2.1 (o + 24) (by omega) (by omega) i⟩
  · by_cases e : i = b
    · subst e
      exact h7
    · rw [h.2.2.2.2.2.1 i e]
      exact hi
section RSB
variable {U : Nat → Prop} {b k : Nat} {S S1 S' S2 T1 T' : St} {φ : Nat → Option Nat} {cs ts : List (List Int32)} {u : Nat} {pl pm ps qs : List Nat}
theorem RS_b (hb : b < 6) (r : RS U S S2 φ cs ts u pl pm ps qs) (hc : FBc b S S') (hm : FBm b S2 T') (h : BRb S' T' b) : RS U S' T' φ cs ts u pl pm ps qs := by
  obtain ⟨a1, a2, a3, ⟨t1, t2, t3, t4, t5, t6⟩, a5, a6, a7, a8, a9, a10, ⟨p1, p2, p3, p4, p5⟩, ⟨m, m1, m2, m3, m4⟩, ⟨ls, l1, l2⟩, ⟨⟨x1, o1, y1⟩, ⟨x2, o2, y2⟩, x3, o3, y3⟩⟩ := r
  have gg : ∀ a i, gG S' a i = gG S a i := fun a i => by unfold gG; rw [hc.2.2.2.2.2.2]
  have mg : ∀ a i, gG T' a i = gG S2 a i := fun a i => by unfold gG; rw [hm.2.2.2.2.2.2.2]
  have mf := hm.2.2.2.2.1
  refine ⟨a1.fbc hc, a2.fbc hb hc, a3.fbm hm, ⟨⟨t1.1.fbc hc (by omega), t1.2.fbc hc (by omega)⟩, t2.fbm hm, t3, t4, t5, t6⟩, a5.fbc hc (by omega), ⟨?_, a6.2.1, fun i hi => ?_⟩, a7, fun v hv => ?_, fun i hi => ?_, fun b' hb' => ?_, ⟨p1.fbc hc (by omega), ?_, p3, fun i hi => ?_, p5⟩, ⟨m, m1, ?_, ?_, fun i hi => ?_⟩, ⟨ls, l1.fbc hc (by omega), fun n hn => ?_⟩, ⟨x1, o1, y1.fbc hc (by omega)⟩, ⟨x2, o2, y2.fbc hc (by omega)⟩, x3, o3, y3.fbc hc (by omega)⟩
  · rw [hm.1]; exact a6.1
  · rw [mf 25 (by decide) (by decide) (by decide)]; exact a6.2.2 i hi
  · rw [hc.2.2.2.2.1 74 (by omega) (by decide), mf 26 (by decide) (by decide) (by decide)]; exact a8 v hv
  · rw [gg, mg]; exact a9 i hi
  · by_cases e : b' = b
    · subst e
      exact h
    · obtain ⟨lb, ov, b1, b2⟩ := a10 b' hb'
      refine ⟨lb, ov, b1.fbc hc (by omega), ?_⟩
      rw [hc.2.2.2.2.2.1 b' e, (hm.2.2.2.2.2.1 b' e).1, (hm.2.2.2.2.2.1 b' e).2]
      rcases b2 with b2 | ⟨r, r1, r2, r3, r4, r5, r6, r7⟩
      · exact Or.inl b2
      · exact Or.inr ⟨r, r1, r2, r3, r4, r5, r6, fun i hi => by rw [hm.2.2.2.2.2.2.1 _ (by omega)]; exact r7 i hi⟩
  · rw [hm.1]; exact p2
  · rw [mf 27 (by decide) (by decide) (by decide)]; exact p4 i hi
  · rw [hc.1 4 7 (by omega)]; exact m2
  · rw [hm.1]; exact m3
  · rw [gg, mg]; exact m4 i hi
  · rw [mf 16 (by decide) (by decide) (by decide)]; exact l2 n hn
/-- a builder on both sides, and it is there -/
def BRo (S T : St) (b : Nat) : Prop := BRb S T b ∧ ¬ gF S 77 b = -1
theorem fin_b (hb : b < 6) (r : RS U S S2 φ cs ts u pl pm ps qs) (bd : Bd k cs ts u pl) (hc : F0C S S1) (hx : XR S1) (hm : F0M S2 T1) (h0 : gI T1 0 58 = 0) (fc : FBc b S1 S') (fm : FBm b T1 T') (h : BRo S' T' b) : Tl U k S S2 S' T' 0 :=
  ⟨(fm.1 58).trans h0, by decide, ⟨φ, cs, ts, u, pl, pm, ps, qs, RS_b hb (RS_0 r hc hx hm) fc fm h.1, bd.up⟩, (FC.f0 hc).tr (FC.fbc hb fc h.2), (FS.f0 hm).tr (FS.fbm fm)⟩
/-- a builder that is there -/
theorem BRb.mk {lb : List Int32} {ov : Int32} {rm : Nat} (w : Rw S' (24 + b) lb ov) (h1 : rm ≤ 1000) (h2 : gF S' 77 b = nI rm) (h3 : gF T' 29 b = nI rm) (h4 : gF T' 28 b = nI lb.length) (h5 : lb.length ≤ 400) (h6 : usL lb) (h7 : ∀ i, i < lb.length → gF T' 30 (400 * b + i) = lb.getD i 0) : BRo S' T' b := ⟨⟨lb, ov, w, Or.inr ⟨rm, h1, h2, h3, h4, h5, h6, h7⟩⟩, by rw [h2]; exact m1_ne (by omega)⟩
end RSB
theorem b30 {S : St} {b j : Nat} (hm : LM S) (hb : b < 6) (hj : j < 400) : aI S 30 (((400 : Int32) * nI b) + nI j) = some (gF S 30 (400 * b + j)) ∧ ∀ v, tI S 30 (((400 : Int32) * nI b) + nI j) v = some (sF S 30 (400 * b + j) v) := by
  have h30 : gN S 30 = 2400 := LMn hm 30
  rw [show (400 : Int32) = nI 400 from rfl, nI_mulE, nI_add]
  exact ⟨aI_at (by omega) (by omega), fun v => tI_at (by omega) (by omega)⟩
theorem St34 : StOK 34 := by
  intro g U k S S2 ws a hg hk hR c cm hW h0
  obtain ⟨φ, cs, ts, u, pl, pm, ps, qs, r, bd⟩ := hR
  obtain ⟨q1, q2, q3⟩ := hW
  have q1 : 2 ≤ ws.length := q1
  have q2 : ws.length ≤ 2 := q2
  obtain ⟨w0, w1, rfl⟩ := ls2 (show ws.length = 2 by omega)
  change ∃ S' S2' kd, doC g S 34 = some (S', nI kd) ∧ m_does g S2 (nI 34) (nI a) (nI 2) = some S2' ∧ gI S2' 0 58 = nI kd ∧ kd ≤ 5 ∧ RSx U (k + 1) S' S2' ∧ FC S S' ∧ FS S2 S2'
  have hl := r.2.1
  have hm := r.2.2.1
  have hT := r.2.2.2.1
  have hx := r.2.2.2.2.2.2.2.2.2.2.2.2.2
  have f1 : F0M S2 (sI S2 0 57 0) := F0M_sI (Or.inl rfl)
  have f2 : F0M S2 (sI (sI S2 0 57 0) 0 58 4) := f1.tr (F0M_sI (Or.inr (Or.inl rfl)))
  have f3 : F0M S2 (sI (sI S2 0 57 0) 0 58 1) := f1.tr (F0M_sI (Or.inr (Or.inl rfl)))
  have h0' : gI (sI S2 0 57 0) 0 58 = 0 := by rw [gI_ne (by decide)]; exact h0
  have cm' := cm.fs (FS.f0 f1)
  have hm' := hm.fs (FS.f0 f1)
  have T2 := hT.2.1.f0 f1
  have o1 : okW w1 := okL_W (show okL U 87 w1 from q3 1 w1 rfl)
  have m1 : m_value g (sI S2 0 57 0) (nI a + (1 : Int32)) = some (valW S2 w1) := by rw [show (1 : Int32) = nI 1 from rfl, nI_add]; exact M_value (g := g) (j := 1) (w := w1) cm' hm' rfl o1
  obtain ⟨kb, bi, hb, hbv⟩ := okL_b (show okL U 66 w0 from q3 0 w0 rfl) (Or.inr rfl)
  have hbld : m_Bn_builderAt g S 0 = some (nI bi) := B_bld (j := 0) (w := w0) c hl rfl hb hbv
  have ea : aJ (sI S2 0 57 0) 10 (nI a) = some w0.2.1 := (M_word (j := 0) (w := w0) cm' hm' rfl).2
  have hM := dM_34 (g := g) (S := S2) (x2 := nI a) (x3 := nI 2)
  rw [dM2_34 ea, bS, bS, j32 hbv (by omega)] at hM
  obtain ⟨S1, s1, s2, s3, s4⟩ := clr (g := g) hx
  have fc := F0C.fr s2 (Or.inl rfl)
  have rc := RS_0 r fc s4 f1
  have cS := c.fc (FC.f0 fc)
  have hlS := rc.2.1
  have hTc := rc.2.2.2.1
  have hWR : WR S1 (sI S2 0 57 0) := rc.2.2.2.2.2.2.2.2.1
  have hBR : BR S1 (sI S2 0 57 0) := rc.2.2.2.2.2.2.2.2.2.1
  have h77 : gN S1 77 = 6 := hlS 77 (by decide)
  have hlk := lacks0 (s := 34) hg c (show ∀ j, j < 2 → ¬ lett 34 (nI j) = 84 from by decide +kernel)
  have hC := doC_B hlk (by decide +kernel)
  rw [dC_34 hbld (bR_at hl hb) s1] at hC
  rw [bS2] at hC
  unfold m_BS_makeFresh at hC
  rw [show m_Bn_wholeAt g S1 1 = some (valW S2 w1) from B_whole (S2 := sI S2 0 57 0) (j := 1) (w := w1) cS hlS rfl o1 hWR, Option.bind_some, bR_at hlS hb, Option.bind_some] at hC
  unfold m_opensBuilder m_opensBuilder_17 m_opensBuilder_47 at hM
  rw [if_neg (by decide), if_pos (show nI 34 = 34 from rfl), m1, Option.bind_some, if_pos (show nI 34 = 34 from rfl), isIn_s, Option.bind_some, z64, show (400 : Int64).toInt = 400 from by decide +kernel] at hM
  have h28 : gN (sI S2 0 57 0) 28 = 6 := LMn hm' 28
  by_cases hin : 0 ≤ (valW S2 w1).toInt ∧ (valW S2 w1).toInt ≤ 400
  · obtain ⟨R, hR⟩ : ∃ R : Nat, (valW S2 w1).toInt = (R : Int) := ⟨(valW S2 w1).toInt.toNat, by omega⟩
    obtain ⟨lb0, ov0, wb, -⟩ := hBR bi hb
    obtain ⟨S3, c1, c2, c3⟩ := R_clear (g := g) wb
    have h773 : gN S3 77 = 6 := (c2.2.2.2.1 77 (by omega)).1.trans h77
    refine ⟨sF S3 77 bi (nI R), sF (sF (sI S2 0 57 0) 28 bi 0) 29 bi (nI R), 0, ?_, ?_, fin_b hb r bd fc s4 f1 h0' ((FBc.fr hb c2).tr (FBc.s77 hb)) (FBm.s28.tr FBm.s29) (BRb.mk (c3.sFx (by decide)) (rm := R) (by omega) gF_sF gF_sF (by rw [gF_ne (by decide)]; exact gF_sF) (by simp) usL_nil (fun i hi => absurd hi (by simp)))⟩
    · rw [hC, if_neg (fun z => by rw [neg64] at z; omega), if_neg (fun z => by rw [Int64.lt_iff_toInt_lt, show (400 : Int64).toInt = 400 from by decide +kernel] at z; omega), c1, Option.bind_some, j32 hR (by omega), tI_at (by omega) (by omega)]
      rfl
    · rw [hM, c01_t hin, if_neg (by decide)]
      unfold m_opensBuilder_72 m_opensBuilder_73
      rw [M_ref0, Option.bind_some, if_pos h0', if_pos (show nI 34 = 34 from rfl)]
      unfold m_opensBuilder_107
      have h29 : gN (sF (sI S2 0 57 0) 28 bi 0) 29 = 6 := LMn hm' 29
      rw [tI_at (by omega) (by omega), Option.bind_some, j32 hR (by omega), tI_at (by omega) (by omega), Option.bind_some]
      obtain ⟨g', hg'⟩ : ∃ g', g = g' + 1 := ⟨g - 1, by omega⟩
      rw [show m_opensBuilder_120 g g = m_opensBuilder_120 g (g' + 1) from by rw [← hg']]
      show b_opensBuilder_120 g (m_opensBuilder_120 g g') _ _ _ _ = _
      unfold b_opensBuilder_120
      rw [aI_at (show bi < gN (sF (sF (sI S2 0 57 0) 28 bi 0) 29 bi (nI R)) 28 from by show bi < gN (sI S2 0 57 0) 28; omega) (by show gN (sI S2 0 57 0) 28 < 2 ^ 31; omega), Option.bind_some, gF_ne (by decide), gF_sF, if_pos (by decide)]
  · refine ⟨S1, sI (sI S2 0 57 0) 0 58 3, 3, ?_, ?_, fin_no r bd fc s4 (f1.tr (F0M_sI (Or.inr (Or.inl rfl)))) sI_58 (by decide)⟩
    · rw [hC]
      by_cases h1 : valW S2 w1 < 0
      · rw [if_pos h1]
        rfl
      · rw [if_neg h1, if_pos (by
          rw [neg64] at h1
          rw [Int64.lt_iff_toInt_lt, show (400 : Int64).toInt = 400 from by decide +kernel]
          omega)]
        rfl
    · rw [hM, c01_f hin, if_pos rfl]
      unfold m_opensBuilder_73
      rw [M_ref1 h0', Option.bind_some, if_neg (by rw [sI_58]; decide)]
theorem St39 : StOKb 39 := by
  intro g U k S S2 ws a hg hk hR c cm hW hO h0
  obtain ⟨φ, cs, ts, u, pl, pm, ps, qs, r, bd⟩ := hR
  obtain ⟨q1, q2, q3⟩ := hW
  have q1 : 3 ≤ ws.length := q1
  have q2 : ws.length ≤ 3 := q2
  obtain ⟨w0, w1, w2, rfl⟩ := ls3 (show ws.length = 3 by omega)
  change ∃ S' S2' kd, doC g S 39 = some (S', nI kd) ∧ m_does g S2 (nI 39) (nI a) (nI 3) = some S2' ∧ gI S2' 0 58 = nI kd ∧ kd ≤ 5 ∧ RSx U (k + 1) S' S2' ∧ FC S S' ∧ FS S2 S2'
  have hl := r.2.1
  have hm := r.2.2.1
  have hT := r.2.2.2.1
  have hx := r.2.2.2.2.2.2.2.2.2.2.2.2.2
  have f1 : F0M S2 (sI S2 0 57 0) := F0M_sI (Or.inl rfl)
  have f2 : F0M S2 (sI (sI S2 0 57 0) 0 58 4) := f1.tr (F0M_sI (Or.inr (Or.inl rfl)))
  have f3 : F0M S2 (sI (sI S2 0 57 0) 0 58 1) := f1.tr (F0M_sI (Or.inr (Or.inl rfl)))
  have h0' : gI (sI S2 0 57 0) 0 58 = 0 := by rw [gI_ne (by decide)]; exact h0
  have cm' := cm.fs (FS.f0 f1)
  have hm' := hm.fs (FS.f0 f1)
  have T2 := hT.2.1.f0 f1
  have o1 : okW w1 := okL_W (show okL U 87 w1 from q3 1 w1 rfl)
  have m1 : m_value g (sI S2 0 57 0) (nI a + (1 : Int32)) = some (valW S2 w1) := by rw [show (1 : Int32) = nI 1 from rfl, nI_add]; exact M_value (g := g) (j := 1) (w := w1) cm' hm' rfl o1
  have o2 : okW w2 := okL_W (show okL U 87 w2 from q3 2 w2 rfl)
  have m2 : m_value g (sI S2 0 57 0) (nI a + (2 : Int32)) = some (valW S2 w2) := by rw [show (2 : Int32) = nI 2 from rfl, nI_add]; exact M_value (g := g) (j := 2) (w := w2) cm' hm' rfl o2
  obtain ⟨kb, bi, hb, hbv⟩ := okL_b (show okL U 98 w0 from q3 0 w0 rfl) (Or.inl rfl)
  have hbld : m_Bn_builderAt g S 0 = some (nI bi) := B_bld (j := 0) (w := w0) c hl rfl hb hbv
  have ea : aJ (sI S2 0 57 0) 10 (nI a) = some w0.2.1 := (M_word (j := 0) (w := w0) cm' hm' rfl).2
  have hM := dM_39 (g := g) (S := S2) (x2 := nI a) (x3 := nI 3)
  rw [dM2_39 ea, bS, bS, j32 hbv (by omega)] at hM
  obtain ⟨S1, s1, s2, s3, s4⟩ := clr (g := g) hx
  have fc := F0C.fr s2 (Or.inl rfl)
  have rc := RS_0 r fc s4 f1
  have cS := c.fc (FC.f0 fc)
  have hlS := rc.2.1
  have hTc := rc.2.2.2.1
  have hWR : WR S1 (sI S2 0 57 0) := rc.2.2.2.2.2.2.2.2.1
  have hBR : BR S1 (sI S2 0 57 0) := rc.2.2.2.2.2.2.2.2.2.1
  have h77 : gN S1 77 = 6 := hlS 77 (by decide)
  have hop : ¬ gF S1 77 bi = -1 := by
    rw [(fc.2.2.2.1 77 (by decide) (by decide) (by decide)).2 bi]
    exact hO 0 w0 bi rfl kb (by decide +kernel) hbv
  obtain ⟨lb, ov, rm, b1, b2, b3, b4, b5, b6⟩ := hBR.op hb hop
  have hlb := b5.2.1
  have b5z := b5.sz hm' hb
  have hlk := lacks0 (s := 39) hg c (show ∀ j, j < 3 → ¬ lett 39 (nI j) = 84 from by decide +kernel)
  have hC := doC_B hlk (by decide +kernel)
  rw [dC_39 hbld (bR_at hl hb) s1] at hC
  rw [bS2] at hC
  unfold m_BS_put at hC
  obtain ⟨z, z1, z2⟩ := B_place (g := g) (j := 1) (w := w1) (n := lb.length) cS hlS rfl o1 hWR (by omega)
  rw [show valW (sI S2 0 57 0) w1 = valW S2 w1 from rfl] at z2
  rw [b1.2.2.1, show m_Bn_placeAt g S1 1 (nI lb.length) = some z from z1, Option.bind_some, show m_Bn_wholeAt g S1 2 = some (valW S2 w2) from B_whole (S2 := sI S2 0 57 0) (j := 2) (w := w2) cS hlS rfl o2 hWR, Option.bind_some, isUnit_s, Option.bind_some] at hC
  unfold m_puts at hM
  have hv1 : ((nI lb.length - (1 : Int32)).toInt64).toInt = (lb.length : Int) - 1 := by rw [j64, show (1 : Int32) = nI 1 from rfl, nI_subI (by omega) (by omega)]; rfl
  rw [m1, Option.bind_some, m2, Option.bind_some, b5z, Option.bind_some, isIn_s, Option.bind_some, hv1, z64] at hM
  unfold m_puts_40 at hM
  by_cases hin : (0 : Int) ≤ (valW S2 w1).toInt ∧ (valW S2 w1).toInt ≤ (lb.length : Int) - 1
  · obtain ⟨i, hi⟩ : ∃ m : Nat, (valW S2 w1).toInt = (m : Int) := ⟨(valW S2 w1).toInt.toNat, by omega⟩
    have hz : z = nI i := Int32.toInt_inj.mp (by rw [z2, nI_toInt (by omega)]; omega)
    subst hz
    rw [if_neg (nI_pos (by omega)), if_pos (nI_lt (by omega) (by omega))] at hC
    rw [c01_t hin, if_neg (by decide), M_ref0, Option.bind_some, isIn_s, Option.bind_some, z64, show (65535 : Int64).toInt = 65535 from by decide +kernel] at hM
    unfold m_puts_62 at hM
    by_cases hun : 0 ≤ (valW S2 w2).toInt ∧ (valW S2 w2).toInt ≤ 65535
    · obtain ⟨S3, c1, c2, c3⟩ := R_change (g := g) (v := (valW S2 w2).toInt32) b1 (show i < lb.length by omega)
      refine ⟨S3, sF (sI S2 0 57 0) 30 (400 * bi + i) (valW S2 w2).toInt32, 0, ?_, ?_, fin_b hb r bd fc s4 f1 h0' (FBc.fr hb c2) (FBm.s30 (by omega)) (BRb.mk c3 b2 ((c2.2.2.2.1 77 (by omega)).2 bi ▸ b3) (by rw [gF_ne (by decide)]; exact b4) (by rw [gF_ne (by decide), List.length_set]; exact b5.1) (by rw [List.length_set]; exact hlb) ?_ ?_)⟩
      · rw [hC, c01_t hun, if_neg (by decide), c1]
        rfl
      · rw [hM, c01_t hun, if_neg (by decide), M_ref0, Option.bind_some, if_pos h0', j32 hi (by omega), (b30 hm' hb (by omega)).2]
        rfl
      · intro j hj
        rw [List.length_set] at hj
        by_cases e : j = i
        · subst e
          rw [List.getD_eq_getElem?_getD, List.getElem?_set_self hj]
          exact isU_of hun
        · rw [List.getD_eq_getElem?_getD, List.getElem?_set_ne (by omega), ← List.getD_eq_getElem?_getD]
          exact b6 j hj
      · intro j hj
        rw [List.length_set] at hj
        by_cases e : j = i
        · subst e
          rw [gF_sF, List.getD_eq_getElem?_getD, List.getElem?_set_self hj]
          rfl
        · rw [gF_sFi (by omega), List.getD_eq_getElem?_getD, List.getElem?_set_ne (by omega), ← List.getD_eq_getElem?_getD]
          exact b5.2.2 j hj
    · refine ⟨S1, sI (sI S2 0 57 0) 0 58 3, 3, ?_, ?_, fin_no r bd fc s4 (f1.tr (F0M_sI (Or.inr (Or.inl rfl)))) sI_58 (by decide)⟩
      · rw [hC, c01_f hun, if_pos rfl]
        rfl
      · rw [hM, c01_f hun, if_pos rfl, M_ref1 h0', Option.bind_some, if_neg (by rw [sI_58]; decide)]
  · refine ⟨S1, sI (sI S2 0 57 0) 0 58 1, 1, ?_, ?_, fin_no r bd fc s4 f3 sI_58 (by decide)⟩
    · rw [hC]
      by_cases h1 : z < 0
      · rw [if_pos h1]
        rfl
      · rw [if_neg h1, if_neg (fun h2 => by
          rw [Int32.lt_iff_toInt_lt, show (0 : Int32).toInt = 0 from rfl] at h1
          rw [Int32.lt_iff_toInt_lt, nI_toInt (by omega)] at h2
          omega)]
        rfl
    · have h4 : ¬ gI (sI (sI S2 0 57 0) 0 58 1) 0 58 = 0 := by rw [sI_58]; decide
      rw [hM, c01_f hin, if_pos rfl, M_ref1 h0', Option.bind_some, isIn_s, Option.bind_some]
      unfold m_puts_62
      rw [M_ref0, M_ref1n h4, Option.bind_some, if_neg h4]
      exact ifo rfl rfl
