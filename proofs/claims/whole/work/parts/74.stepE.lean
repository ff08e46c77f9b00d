/-! the STEPS: builders that are asked -/
/-- the builders that a STEP uses are there -/
def OpB (S : St) (s : Nat) (ws : List Wd) : Prop := ∀ (j : Nat) (w : Wd) (b : Nat), ws[j]? = some w → w.1 = 2 → ¬ lett s (nI j) = 66 → w.2.1.toInt = (b : Int) → ¬ gF S 77 b = -1
def StOKb (s : Nat) : Prop := ∀ (g : Nat) (U : Nat → Prop) (k : Nat) (S S2 : St) (ws : List Wd) (a : Nat), 100000 ≤ g → k < 60 → RSx U k S S2 → CurC S ws → CurM S2 a ws → WOK U s ws → OpB S s ws → gI S2 0 58 = 0 → ∃ S' S2' kd, doC g S s = some (S', nI kd) ∧ m_does g S2 (nI s) (nI a) (nI ws.length) = some S2' ∧ gI S2' 0 58 = nI kd ∧ kd ≤ 5 ∧ RSx U (k + 1) S' S2' ∧ FC S S' ∧ FS S2 S2'
theorem StOK.b {s : Nat} (h : StOK s) : StOKb s := fun g U k S S2 ws a hg hk hR c cm hW _ h0 => h g U k S S2 ws a hg hk hR c cm hW h0
theorem nI_mulE (a b : Nat) : nI a * nI b = nI (a * b) := (Int32.ofNat_mul a b).symm
section BLD
variable {U : Nat → Prop} {g k s j b : Nat} {S S2 : St} {ws : List Wd} {w : Wd} {a : Nat}
theorem B_bld (c : CurC S ws) (hl : LC S) (hw : ws[j]? = some w) (hb : b < 6) (hv : w.2.1.toInt = (b : Int)) : m_Bn_builderAt g S (nI j) = some (nI b) := by
  unfold m_Bn_builderAt
  rw [B_val c hl hw, Option.bind_some, lt_d, j32 hv (by omega), if_neg (nI_pos (by omega)), if_pos (show nI b < (6 : Int32) from nI_lt (b := 6) hb (by omega))]
theorem bR_at (hl : LC S) (hb : b < 6) : bR S (nI b) = some (24 + b) := by
  have h76 : gN S 76 = 6 := hl 76 (by decide)
  unfold bR
  rw [nI_clamp (by omega), h76, if_neg (by rintro (h | h); exact nI_pos (by omega) h; omega), if_pos hb]
/-- builder b of the reference holds lb -/
def BQ (S2 : St) (b : Nat) (lb : List Int32) : Prop := gF S2 28 b = nI lb.length ∧ lb.length ≤ 400 ∧ ∀ i, i < lb.length → gF S2 30 (400 * b + i) = lb.getD i 0
theorem BQ.sz {lb : List Int32} (q : BQ S2 b lb) (hm : LM S2) (hb : b < 6) : aI S2 28 (nI b) = some (nI lb.length) := by
  have h : gN S2 28 = 6 := LMn hm 28
  rw [aI_at (by omega) (by omega)]
  exact congrArg some q.1
theorem BQ.un {lb : List Int32} {i : Nat} (q : BQ S2 b lb) (hm : LM S2) (hb : b < 6) (hi : i < lb.length) : aI S2 30 (((400 : Int32) * nI b) + nI i) = some (lb.getD i 0) := by
  have h : gN S2 30 = 2400 := LMn hm 30
  have := q.2.1
  rw [show (400 : Int32) = nI 400 from rfl, nI_mulE, nI_add, aI_at (by omega) (by omega)]
  exact congrArg some (q.2.2 i hi)
theorem M_orderOf_l {b2 : Nat} {l1 l2 : List Int32} (hm : LM S2) (q1 : BQ S2 b l1) (q2 : BQ S2 b2 l2) (hb : b < 6) (hb2 : b2 < 6) : ∀ (k n i : Nat), i + k = min l1.length l2.length → k < n → m_orderOf_2 g S2 n (nI b) (nI b2) (nI i) = some (ordL (seg l1 i (l1.length - i)) (seg l2 i (l2.length - i))).toInt64 := by
  have hl1 := q1.2.1
  have hl2 := q2.2.1
  have nilE : ∀ (a b : List Int32), (a = [] ∨ b = []) → ordL a b = nI a.length - nI b.length := by
    intro a b h
    rcases h with rfl | rfl
    · rfl
    · cases a <;> rfl
  have lenE : ∀ (l : List Int32) (i : Nat), i ≤ l.length → (seg l i (l.length - i)).length = l.length - i := fun l i hi => seg_len (by omega)
  intro k
  induction k with
  | zero =>
    intro n i hi hn
    obtain ⟨n, rfl⟩ : ∃ m, n = m + 1 := ⟨n - 1, by omega⟩
    have fin : ordL (seg l1 i (l1.length - i)) (seg l2 i (l2.length - i)) = nI l1.length - nI l2.length := by
      rw [nilE, lenE l1 i (by omega), lenE l2 i (by omega)]
      · have e3 : nI l1.length = nI (l1.length - i) + nI i := by rw [nI_add]; congr 1; omega
        have e4 : nI l2.length = nI (l2.length - i) + nI i := by rw [nI_add]; congr 1; omega
        rw [e3, e4]
        generalize nI (l1.length - i) = a
        generalize nI (l2.length - i) = b
        generalize nI i = c
        grind
      · rcases Nat.le_total l1.length l2.length with h | h
        · left
          apply List.eq_nil_of_length_eq_zero
          rw [lenE l1 i (by omega)]
          omega
        · right
          apply List.eq_nil_of_length_eq_zero
          rw [lenE l2 i (by omega)]
          omega
    have e64 : m_orderOf_64 g S2 (nI b) (nI b2) = some (nI l1.length - nI l2.length).toInt64 := by
      unfold m_orderOf_64
      rw [q1.sz hm hb, q2.sz hm hb2]
      rfl
    show b_orderOf_2 g S2 (m_orderOf_2 g S2 n) (nI b) (nI b2) (nI i) = _
    unfold b_orderOf_2
    rw [q1.sz hm hb, q2.sz hm hb2, Option.bind_some, Option.bind_some, e64, fin]
    by_cases hq : l1.length ≤ i
    · rw [if_pos (nI_le hq (by omega))]
    · rw [if_neg (nI_ge (by omega) (by omega)), if_pos (nI_le (by omega) (by omega))]
  | succ k ih =>
    intro n i hi hn
    obtain ⟨n, rfl⟩ : ∃ m, n = m + 1 := ⟨n - 1, by omega⟩
    show b_orderOf_2 g S2 (m_orderOf_2 g S2 n) (nI b) (nI b2) (nI i) = _
    unfold b_orderOf_2
    rw [q1.sz hm hb, q2.sz hm hb2, Option.bind_some, Option.bind_some, if_neg (nI_ge (by omega) (by omega)), if_neg (nI_ge (by omega) (by omega)), q1.un hm hb (by omega), q2.un hm hb2 (by omega), Option.bind_some, Option.bind_some, lt_d]
    rw [show l1.length - i = (l1.length - (i + 1)) + 1 by omega, show l2.length - i = (l2.length - (i + 1)) + 1 by omega, seg_cons (by omega), seg_cons (by omega)]
    unfold ordL
    by_cases he : l1.getD i 0 - l2.getD i 0 = 0
    · rw [if_pos he, if_pos he, lt_d, show nI i + 1 = nI (i + 1) from nI_1 i, ih n (i + 1) (by omega) (by omega)]
    · rw [if_neg he, if_neg he]
theorem M_orderOf {b2 : Nat} {l1 l2 : List Int32} (hg : 100000 ≤ g) (hm : LM S2) (q1 : BQ S2 b l1) (q2 : BQ S2 b2 l2) (hb : b < 6) (hb2 : b2 < 6) : m_orderOf g S2 (nI b) (nI b2) = some (ordL l1 l2).toInt64 := by
  have hl1 := q1.2.1
  have hl2 := q2.2.1
  have := M_orderOf_l (g := g) hm q1 q2 hb hb2 (min l1.length l2.length) g 0 (by omega) (by omega)
  rw [Nat.sub_zero, Nat.sub_zero, seg_all, seg_all] at this
  exact this
theorem BR.op (h : BR S S2) (hb : b < 6) (ho : ¬ gF S 77 b = -1) : ∃ lb ov r, Rw S (24 + b) lb ov ∧ r ≤ 1000 ∧ gF S 77 b = nI r ∧ gF S2 29 b = nI r ∧ BQ S2 b lb ∧ usL lb := by
  obtain ⟨lb, ov, h1, h2 | ⟨r, h2, h3, h4, h5, h6, h7, h8⟩⟩ := h b hb
  · exact absurd h2.1 ho
  · exact ⟨lb, ov, r, h1, h2, h3, h4, ⟨h5, h6, h8⟩, h7⟩
end BLD
theorem St43 : StOKb 43 := by
  intro g U k S S2 ws a hg hk hR c cm hW hO h0
  obtain ⟨φ, cs, ts, u, pl, pm, ps, qs, r, bd⟩ := hR
  obtain ⟨q1, q2, q3⟩ := hW
  have q1 : 2 ≤ ws.length := q1
  have q2 : ws.length ≤ 2 := q2
  obtain ⟨w0, w1, rfl⟩ := ls2 (show ws.length = 2 by omega)
  have hl := r.2.1
  have hm := r.2.2.1
  obtain ⟨-, n, hn, hv⟩ := okL_w (show okL U 119 w0 from q3 0 w0 rfl)
  have f1 : F0M S2 (sI S2 0 57 0) := F0M_sI (Or.inl rfl)
  have h0' : gI (sI S2 0 57 0) 0 58 = 0 := by rw [gI_ne (by decide)]; exact h0
  have cm' := cm.fs (FS.f0 f1)
  have hm' := hm.fs (FS.f0 f1)
  have r1 := RS_0 r F0C.rf r.2.2.2.2.2.2.2.2.2.2.2.2.2 f1
  have hB := r1.2.2.2.2.2.2.2.2.2.1
  obtain ⟨k1, b, hb, hbv⟩ := okL_b (show okL U 98 w1 from q3 1 w1 rfl) (Or.inl rfl)
  obtain ⟨lb, ov, rm, p1, p2, p3, p4, p5, p6⟩ := hB.op hb (hO 1 w1 b rfl k1 (by decide +kernel) hbv)
  have h77 : gN S 77 = 6 := hl 77 (by decide)
  have h29 : gN (sI S2 0 57 0) 29 = 6 := LMn hm' 29
  refine ⟨sG S 75 n (nI rm).toInt64, sG (sI S2 0 57 0) 32 n (nI rm).toInt64, 0, ?_, ?_, fin_gw r bd f1 h0' hn⟩
  · rw [doC_W (lacks0 hg c (show ∀ j, j < 2 → ¬ lett 43 (nI j) = 84 from by decide +kernel)) (by decide +kernel), dC_43, show (1 : Int32) = nI 1 from rfl, B_bld c hl (w := w1) rfl hb hbv, Option.bind_some, aI_at (by omega) (by omega), Option.bind_some, p3, B_gw c hl (w := w0) rfl hn hv]
    rfl
  · rw [dM_43, dM2_43]
    unfold m_builds_12
    rw [show (1 : Int32) = nI 1 from rfl, nI_add, (M_word (j := 1) (w := w1) cm' hm' rfl).2, Option.bind_some, lt_d, j32 hbv (by omega), if_pos (by decide +kernel), aI_at (by omega) (by omega), Option.bind_some, p4, M_gw cm' hm' (w := w0) rfl hn hv h0', Option.bind_some]
    unfold m_builds_55
    rw [if_neg (by decide +kernel)]
    rfl
theorem St44 : StOKb 44 := by
  intro g U k S S2 ws a hg hk hR c cm hW hO h0
  obtain ⟨φ, cs, ts, u, pl, pm, ps, qs, r, bd⟩ := hR
  obtain ⟨q1, q2, q3⟩ := hW
  have q1 : 3 ≤ ws.length := q1
  have q2 : ws.length ≤ 3 := q2
  obtain ⟨w0, w1, w2, rfl⟩ := ls3 (show ws.length = 3 by omega)
  have hl := r.2.1
  have hm := r.2.2.1
  obtain ⟨-, n, hn, hv⟩ := okL_w (show okL U 119 w0 from q3 0 w0 rfl)
  have f1 : F0M S2 (sI S2 0 57 0) := F0M_sI (Or.inl rfl)
  have h0' : gI (sI S2 0 57 0) 0 58 = 0 := by rw [gI_ne (by decide)]; exact h0
  have cm' := cm.fs (FS.f0 f1)
  have hm' := hm.fs (FS.f0 f1)
  have r1 := RS_0 r F0C.rf r.2.2.2.2.2.2.2.2.2.2.2.2.2 f1
  have hB := r1.2.2.2.2.2.2.2.2.2.1
  obtain ⟨k1, b, hb, hbv⟩ := okL_b (show okL U 98 w1 from q3 1 w1 rfl) (Or.inl rfl)
  obtain ⟨lb, ov, rm, p1, p2, p3, p4, p5, p6⟩ := hB.op hb (hO 1 w1 b rfl k1 (by decide +kernel) hbv)
  obtain ⟨k1', b', hb', hbv'⟩ := okL_b (show okL U 98 w2 from q3 2 w2 rfl) (Or.inl rfl)
  obtain ⟨lb', ov', rm', p1', p2', p3', p4', p5', p6'⟩ := hB.op hb' (hO 2 w2 b' rfl k1' (by decide +kernel) hbv')
  have o1 := R_order (g := g) (s := 0) (t := 0) (n := lb.length) (m := lb'.length) p1 p1' hg (by omega) (by omega)
  rw [seg_all, seg_all, Nat.zero_add, Nat.zero_add] at o1
  refine ⟨sG S 75 n (ordL lb lb').toInt64, sG (sI S2 0 57 0) 32 n (ordL lb lb').toInt64, 0, ?_, ?_, fin_gw r bd f1 h0' hn⟩
  · rw [doC_W (lacks0 hg c (show ∀ j, j < 3 → ¬ lett 44 (nI j) = 84 from by decide +kernel)) (by decide +kernel), dC_44]
    unfold m_WS_giveFirst
    rw [show (1 : Int32) = nI 1 from rfl, B_bld c hl (w := w1) rfl hb hbv, Option.bind_some, bR_at hl hb, Option.bind_some, show (2 : Int32) = nI 2 from rfl, B_bld c hl (w := w2) rfl hb' hbv', Option.bind_some, bR_at hl hb', Option.bind_some, p1.2.2.1, p1'.2.2.1, show (0 : Int32) = nI 0 from rfl, o1, Option.bind_some, B_gw c hl (w := w0) rfl hn hv]
    rfl
  · rw [dM_44, dM2_44 (show aJ (sI S2 0 57 0) 10 (nI a) = some w0.2.1 from (M_word (j := 0) (w := w0) cm' hm' rfl).2), show (1 : Int32) = nI 1 from rfl, show (2 : Int32) = nI 2 from rfl, nI_add, nI_add, (M_word (j := 1) (w := w1) cm' hm' rfl).2, Option.bind_some, (M_word (j := 2) (w := w2) cm' hm' rfl).2, Option.bind_some, j32 hbv (by omega), j32 hbv' (by omega), M_orderOf hg hm' p5 p5' hb hb', Option.bind_some, M_gw cm' hm' (w := w0) rfl hn hv h0']
    rfl
