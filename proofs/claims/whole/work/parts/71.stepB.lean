/-! the STEPS: two texts -/
theorem tRel_det {φ : Nat → Option Nat} {x y y' : Int32} (h : tRel φ x y) (h' : tRel φ x y') : y = y' := by
  rcases h with ⟨h1, h2⟩ | ⟨p, q, h1, h2, h3, h4, h5⟩ <;> rcases h' with ⟨k1, k2⟩ | ⟨p', q', k1, k2, k3, k4, k5⟩
  · rw [h2, k2]
  · exact absurd (k1.symm.trans h1) (m1_ne (by omega))
  · exact absurd (h1.symm.trans k1) (m1_ne (by omega))
  · have e : p = p' := (nI_eq (by omega) (by omega)).mp (h1.symm.trans k1)
    subst e
    rw [h3] at k3
    rw [h2, k2, Option.some.inj k3]
theorem tRel_inj {φ : Nat → Option Nat} {x x' y : Int32} (hi : ∀ p p' q, φ p = some q → φ p' = some q → p = p') (h : tRel φ x y) (h' : tRel φ x' y) : x = x' := by
  rcases h with ⟨h1, h2⟩ | ⟨p, q, h1, h2, h3, h4, h5⟩ <;> rcases h' with ⟨k1, k2⟩ | ⟨p', q', k1, k2, k3, k4, k5⟩
  · rw [h1, k1]
  · exact absurd (k2.symm.trans h2) (m1_ne (by omega))
  · exact absurd (h2.symm.trans k2) (m1_ne (by omega))
  · have e : q = q' := (nI_eq (by omega) (by omega)).mp (h2.symm.trans k2)
    subst e
    rw [h1, k1, hi p p' q h3 k3]
def TT (φ : Nat → Option Nat) (cs ts : List (List Int32)) (x y : Int32) : Prop := (x = -1 ∧ y = -1) ∨ ∃ p q l, x = nI p ∧ y = nI q ∧ φ p = some q ∧ p < 1465 ∧ q < 1700 ∧ cs[p]? = some l ∧ ts[q]? = some l ∧ l.length ≤ 400 ∧ usL l
section GT
variable {U : Nat → Prop} {g k s : Nat} {S S2 S2b : St} {ws : List Wd} {a : Nat} {φ : Nat → Option Nat} {cs ts : List (List Int32)} {u : Nat} {pl pm ps qs : List Nat}
theorem getT {j : Nat} {w : Wd} {ch : Int32} (r : RS U S S2 φ cs ts u pl pm ps qs) (c : CurC S ws) (cm : CurM S2 a ws) (hw : ws[j]? = some w) (h : okL U ch w) (hc : ch = 84 ∨ ch = 116) : ∃ x y, m_Bn_textAt g S (nI j) = some x ∧ (∀ S3, F0M S2 S3 → m_text g S3 (nI a + nI j) = some y) ∧ tRel φ x y ∧ TT φ cs ts x y := by
  have key : ∀ S3, F0M S2 S3 → ∃ x y, m_Bn_textAt g S (nI j) = some x ∧ m_text g S3 (nI a + nI j) = some y ∧ tRel φ x y := by
    intro S3 f
    have r1 := RS_0 r F0C.rf r.2.2.2.2.2.2.2.2.2.2.2.2.2 f
    have o1 : okT φ S S3 w := okL_T h hc r1.2.2.2.2.2.2.2.2.2.2.2.2.1
    obtain ⟨x, y, e1, e2, e3, -⟩ := MB_text (g := g) c (cm.fs (FS.f0 f)) r.2.1 r1.2.2.1 hw o1 r1.2.2.2.2.2.2.2.1
    exact ⟨x, y, e1, by rw [nI_add]; exact e2, e3⟩
  obtain ⟨x, y, e1, e2, e3⟩ := key S2 F0M.rf
  refine ⟨x, y, e1, ?_, e3, ?_⟩
  · intro S3 f
    obtain ⟨x', y', d1, d2, d3⟩ := key S3 f
    rw [e1] at d1
    cases Option.some.inj d1
    rw [d2, tRel_det e3 d3]
  · rcases e3 with e3 | ⟨p, q, h1, h2, h3, h4, h5⟩
    · exact Or.inl e3
    · obtain ⟨l, l1, l2, l3, l4⟩ := r.2.2.2.1.2.2.1 p q h3
      exact Or.inr ⟨p, q, l, h1, h2, h3, h4, h5, l1, l2, l3, l4⟩
noncomputable def j01 (p : Prop) : Int64 := @ite _ p (Classical.propDecidable p) 1 0
theorem j01_t {p : Prop} (h : p) : j01 p = 1 := by unfold j01; rw [if_pos h]
theorem j01_f {p : Prop} (h : ¬ p) : j01 p = 0 := by unfold j01; rw [if_neg h]
theorem B_gtr {p : Prop} {w : Wd} {n : Nat} (c : CurC S ws) (hl : LC S) (hw : ws[0]? = some w) (hn : n < 12) (hv : w.2.1.toInt = (n : Int)) : m_WS_giveTruth g S (c01 p) = some (sG S 75 n (j01 p), 0) := by
  unfold m_WS_giveTruth
  by_cases h : p
  · rw [c01_t h, j01_t h, if_neg (by decide)]
    unfold m_WS_giveTruth_13
    rw [B_gw c hl hw hn hv]
    rfl
  · rw [c01_f h, j01_f h, if_pos rfl]
    unfold m_WS_giveTruth_13
    rw [B_gw c hl hw hn hv]
    rfl
/-- two T are asked, at 1 and 2 -/
theorem lacks2 {x y : Int32} (hg : 100000 ≤ g) (c : CurC S ws) (hj : 2 < ws.length) (h : ∀ j, j < ws.length → j ≠ 1 → j ≠ 2 → ¬ lett s (nI j) = 84) (hT : lett s (nI 1) = 84) (hT2 : lett s (nI 2) = 84) (hx : m_Bn_textAt g S (nI 1) = some x) (hy : m_Bn_textAt g S (nI 2) = some y) : m_Bn_lacksText g S s = some (S, c01 (x = -1 ∨ y = -1)) := by
  rw [lacks hg c (fun j w hw hT => by
    by_cases e : j = 1
    · subst e
      exact ⟨x, hx⟩
    · by_cases e2 : j = 2
      · subst e2
        exact ⟨y, hy⟩
      · exact absurd hT (h j (List.getElem?_eq_some_iff.mp hw).1 e e2))]
  refine congrArg (fun z => some (S, z)) (c01_iff ⟨?_, ?_⟩)
  · rintro ⟨j, q1, q2, q3⟩
    by_cases e : j = 1
    · subst e
      rw [hx] at q3
      exact Or.inl (Option.some.inj q3)
    · by_cases e2 : j = 2
      · subst e2
        rw [hy] at q3
        exact Or.inr (Option.some.inj q3)
      · exact absurd q2 (h j q1 e e2)
  · rintro (q | q)
    · exact ⟨1, by omega, hT, by rw [hx, q]⟩
    · exact ⟨2, hj, hT2, by rw [hy, q]⟩
/-- the reference asks for two texts: one lacks -/
theorem M_tA2 {x1 x2 y1 y2 : Int32} (e1 : m_text g S2b x1 = some y1) (e2 : m_text g S2b x2 = some y2) (e2' : m_text g (sI S2b 0 58 4) x2 = some y2) (h0 : gI S2b 0 58 = 0) (t1 : y1 = -1 ∨ ∃ q, q < 2 ^ 31 ∧ y1 = nI q) (t2 : y2 = -1 ∨ ∃ q, q < 2 ^ 31 ∧ y2 = nI q) (hn : y1 = -1 ∨ y2 = -1) : ∃ T v1 v2, m_textAt g S2b x1 = some (T, v1) ∧ m_textAt g T x2 = some (sI S2b 0 58 4, v2) := by
  have h4 : gI (sI S2b 0 58 4) 0 58 ≠ 0 := by rw [sI_58]; decide
  rcases t1 with t1 | ⟨q1, b1, t1⟩
  · subst t1
    rcases t2 with t2 | ⟨q2, b2, t2⟩
    · subst t2
      exact ⟨_, _, _, M_tAt0 e1 h0, M_tAt0n e2' h4⟩
    · subst t2
      exact ⟨_, _, _, M_tAt0 e1 h0, M_tAt e2' b2⟩
  · rcases t2 with t2 | ⟨q2, b2, t2⟩
    · subst t2 t1
      exact ⟨_, _, _, M_tAt e1 b1, M_tAt0 e2 h0⟩
    · subst t2 t1
      rcases hn with hn | hn
      · exact absurd hn (m1_ne b1)
      · exact absurd hn (m1_ne b2)
theorem TT.nn {x y : Int32} (h : TT φ cs ts x y) : y = -1 ∨ ∃ q, q < 2 ^ 31 ∧ y = nI q := by
  rcases h with h | ⟨p, q, l, h1, h2, h3, h4, h5, -⟩
  · exact Or.inl h.2
  · exact Or.inr ⟨q, by omega, h2⟩
theorem TT.eq1 {x y : Int32} (h : TT φ cs ts x y) : x = -1 ↔ y = -1 := by
  rcases h with h | ⟨p, q, l, h1, h2, h3, h4, h5, -⟩
  · exact ⟨fun _ => h.2, fun _ => h.1⟩
  · constructor
    · intro e
      exact absurd (h1.symm.trans e) (m1_ne (by omega))
    · intro e
      exact absurd (h2.symm.trans e) (m1_ne (by omega))
end GT
theorem St5 : StOK 5 := by
  intro g U k S S2 ws a hg hk hR c cm hW h0
  obtain ⟨φ, cs, ts, u, pl, pm, ps, qs, r, bd⟩ := hR
  obtain ⟨q1, q2, q3⟩ := hW
  have q1 : 3 ≤ ws.length := q1
  have q2 : ws.length ≤ 3 := q2
  obtain ⟨w0, w1, w2, rfl⟩ := ls3 (show ws.length = 3 by omega)
  have hl := r.2.1
  have hm := r.2.2.1
  have hT := r.2.2.2.1
  obtain ⟨-, n, hn, hv⟩ := okL_w (show okL U 119 w0 from q3 0 w0 rfl)
  have f1 : F0M S2 (sI S2 0 57 0) := F0M_sI (Or.inl rfl)
  have f2 : F0M S2 (sI (sI S2 0 57 0) 0 58 4) := f1.tr (F0M_sI (Or.inr (Or.inl rfl)))
  have h0' : gI (sI S2 0 57 0) 0 58 = 0 := by rw [gI_ne (by decide)]; exact h0
  have cm' := cm.fs (FS.f0 f1)
  have hm' := hm.fs (FS.f0 f1)
  have T2 := hT.2.1.f0 f1
  obtain ⟨x, y, e1, e2, e3, e4⟩ := getT (g := g) (j := 1) (w := w1) r c cm rfl (show okL U 116 w1 from q3 1 w1 rfl) (by decide)
  obtain ⟨x', y', d1, d2, d3, d4⟩ := getT (g := g) (j := 2) (w := w2) r c cm rfl (show okL U 116 w2 from q3 2 w2 rfl) (by decide)
  refine ⟨sG S 75 n (j01 (x = x')), sG (sI S2 0 57 0) 32 n (j01 (x = x')), 0, ?_, ?_, fin_gw r bd f1 h0' hn⟩
  · rw [doC_W (lacks0 hg c (show ∀ j, j < 3 → ¬ lett 5 (nI j) = 84 from by decide +kernel)) (by decide +kernel), dC_5, show (1 : Int32) = nI 1 from rfl, show (2 : Int32) = nI 2 from rfl, e1, d1, Option.bind_some, Option.bind_some, dC2_5]
    unfold m_WS_giveOfTwo_67
    by_cases h : x = x'
    · rw [if_pos h, show (1 : Int32) = c01 (x = x') from (c01_t h).symm, B_gtr c hl (w := w0) rfl hn hv]
      rfl
    · rw [if_neg h, show (0 : Int32) = c01 (x = x') from (c01_f h).symm, B_gtr c hl (w := w0) rfl hn hv]
      rfl
  · rw [dM_5, dM2_5, show (1 : Int32) = nI 1 from rfl, show (2 : Int32) = nI 2 from rfl, e2 _ f1, d2 _ f1, Option.bind_some, Option.bind_some]
    unfold m_compares_29
    by_cases h : x = x'
    · subst h
      rw [if_pos (tRel_det e3 d3), j01_t rfl, M_gw cm' hm' (w := w0) rfl hn hv h0']
      rfl
    · rw [if_neg (show ¬ y = y' from fun e => h (tRel_inj hT.2.2.2.1 e3 (by rw [e]; exact d3))), j01_f h, M_gw cm' hm' (w := w0) rfl hn hv h0']
      rfl
theorem St6 : StOK 6 := by
  intro g U k S S2 ws a hg hk hR c cm hW h0
  obtain ⟨φ, cs, ts, u, pl, pm, ps, qs, r, bd⟩ := hR
  obtain ⟨q1, q2, q3⟩ := hW
  have q1 : 3 ≤ ws.length := q1
  have q2 : ws.length ≤ 3 := q2
  obtain ⟨w0, w1, w2, rfl⟩ := ls3 (show ws.length = 3 by omega)
  have hl := r.2.1
  have hm := r.2.2.1
  have hT := r.2.2.2.1
  obtain ⟨-, n, hn, hv⟩ := okL_w (show okL U 119 w0 from q3 0 w0 rfl)
  have f1 : F0M S2 (sI S2 0 57 0) := F0M_sI (Or.inl rfl)
  have f2 : F0M S2 (sI (sI S2 0 57 0) 0 58 4) := f1.tr (F0M_sI (Or.inr (Or.inl rfl)))
  have h0' : gI (sI S2 0 57 0) 0 58 = 0 := by rw [gI_ne (by decide)]; exact h0
  have cm' := cm.fs (FS.f0 f1)
  have hm' := hm.fs (FS.f0 f1)
  have T2 := hT.2.1.f0 f1
  obtain ⟨x, y, e1, e2, e3, e4⟩ := getT (g := g) (j := 1) (w := w1) r c cm rfl (show okL U 84 w1 from q3 1 w1 rfl) (by decide)
  obtain ⟨x', y', d1, d2, d3, d4⟩ := getT (g := g) (j := 2) (w := w2) r c cm rfl (show okL U 116 w2 from q3 2 w2 rfl) (by decide)
  have hlk := lacks1 (s := 6) (j0 := 1) hg c (show 1 < 3 by decide) (show ∀ j, j < 3 → j ≠ 1 → ¬ lett 6 (nI j) = 84 from by decide +kernel) (by decide +kernel) e1
  rcases e4 with ⟨rfl, rfl⟩ | ⟨p, q, l, rfl, rfl, hpq, hp, hq, l1, l2, l3, l4⟩
  · rw [c01_t rfl] at hlk
    refine ⟨S, sI (sI S2 0 57 0) 0 58 4, 4, doC_no hlk, ?_, fin_no r bd F0C.rf r.2.2.2.2.2.2.2.2.2.2.2.2.2 f2 sI_58 (by decide)⟩
    rw [dM_6, dM2_6 (M_tAt0 (e2 _ f1) h0'), show (2 : Int32) = nI 2 from rfl, d2 _ f2, Option.bind_some]
    unfold m_compares_74
    rw [if_neg (by rw [sI_58]; decide)]
    rfl
  · rw [c01_f (m1_ne (by omega))] at hlk
    rcases d4 with ⟨rfl, rfl⟩ | ⟨p', q', l', rfl, rfl, hpq', hp', hq', l1', l2', l3', l4'⟩
    · refine ⟨sG S 75 n (j01 False), sG (sI S2 0 57 0) 32 n (j01 False), 0, ?_, ?_, fin_gw r bd f1 h0' hn⟩
      · rw [doC_W hlk (by decide +kernel), dC_6, show (1 : Int32) = nI 1 from rfl, show (2 : Int32) = nI 2 from rfl, e1, d1, Option.bind_some, Option.bind_some, dC2_6, if_pos rfl]
        unfold m_WS_giveOfTwo_93 m_WS_giveOfTwo_94
        rw [show (0 : Int32) = c01 False from (c01_f id).symm, B_gtr c hl (w := w0) rfl hn hv]
        rfl
      · rw [dM_6, dM2_6 (M_tAt (e2 _ f1) (by omega)), show (2 : Int32) = nI 2 from rfl, d2 _ f1, Option.bind_some, j01_f id]
        unfold m_compares_74
        rw [if_pos h0', (T_size T2 hm' l2).1, Option.bind_some, lt_d, if_pos (by decide +kernel), if_pos (by decide +kernel)]
        unfold m_compares_118 m_compares_119
        unfold m_compares_121
        rw [if_neg (by decide +kernel)]
        unfold m_compares_149
        rw [if_neg (by decide +kernel)]
        unfold m_compares_164
        rw [if_neg (by decide +kernel)]
        unfold m_compares_178
        rw [M_gw cm' hm' (w := w0) rfl hn hv h0']
        rfl
    · refine ⟨sG S 75 n (j01 (Eq l l')), sG (sI S2 0 57 0) 32 n (j01 (Eq l l')), 0, ?_, ?_, fin_gw r bd f1 h0' hn⟩
      · rw [doC_W hlk (by decide +kernel), dC_6, show (1 : Int32) = nI 1 from rfl, show (2 : Int32) = nI 2 from rfl, e1, d1, Option.bind_some, Option.bind_some, dC2_6, if_neg (m1_ne (by omega)), C_equal hg hT.1 l1 l1', Option.bind_some]
        unfold m_WS_giveOfTwo_93 m_WS_giveOfTwo_94
        by_cases h : Eq l l'
        · rw [c01_t h, if_neg (by decide), show (1 : Int32) = c01 (Eq l l') from (c01_t h).symm, B_gtr c hl (w := w0) rfl hn hv]
          rfl
        · rw [c01_f h, if_pos rfl, show (0 : Int32) = c01 (Eq l l') from (c01_f h).symm, B_gtr c hl (w := w0) rfl hn hv]
          rfl
      · rw [dM_6, dM2_6 (M_tAt (e2 _ f1) (by omega)), show (2 : Int32) = nI 2 from rfl, d2 _ f1, Option.bind_some]
        unfold m_compares_74
        rw [if_pos h0', (T_size T2 hm' l2).1, Option.bind_some, lt_d, if_pos (by decide +kernel), if_neg (nI_pos (by omega)), M_equal hg T2 hm' l2 l2', Option.bind_some]
        by_cases h : Eq l l'
        · rw [c01_t h, if_neg (by decide), j01_t h]
          unfold m_compares_119
          unfold m_compares_121
          rw [if_neg (by decide +kernel)]
          unfold m_compares_149
          rw [if_neg (by decide +kernel)]
          unfold m_compares_164
          rw [if_neg (by decide +kernel)]
          unfold m_compares_178
          rw [M_gw cm' hm' (w := w0) rfl hn hv h0']
          rfl
        · rw [c01_f h, if_pos rfl, j01_f h]
          unfold m_compares_118 m_compares_119
          unfold m_compares_121
          rw [if_neg (by decide +kernel)]
          unfold m_compares_149
          rw [if_neg (by decide +kernel)]
          unfold m_compares_164
          rw [if_neg (by decide +kernel)]
          unfold m_compares_178
          rw [M_gw cm' hm' (w := w0) rfl hn hv h0']
          rfl
theorem St7 : StOK 7 := by
  intro g U k S S2 ws a hg hk hR c cm hW h0
  obtain ⟨φ, cs, ts, u, pl, pm, ps, qs, r, bd⟩ := hR
  obtain ⟨q1, q2, q3⟩ := hW
  have q1 : 3 ≤ ws.length := q1
  have q2 : ws.length ≤ 3 := q2
  obtain ⟨w0, w1, w2, rfl⟩ := ls3 (show ws.length = 3 by omega)
  have hl := r.2.1
  have hm := r.2.2.1
  have hT := r.2.2.2.1
  obtain ⟨-, n, hn, hv⟩ := okL_w (show okL U 119 w0 from q3 0 w0 rfl)
  have f1 : F0M S2 (sI S2 0 57 0) := F0M_sI (Or.inl rfl)
  have f2 : F0M S2 (sI (sI S2 0 57 0) 0 58 4) := f1.tr (F0M_sI (Or.inr (Or.inl rfl)))
  have h0' : gI (sI S2 0 57 0) 0 58 = 0 := by rw [gI_ne (by decide)]; exact h0
  have cm' := cm.fs (FS.f0 f1)
  have hm' := hm.fs (FS.f0 f1)
  have T2 := hT.2.1.f0 f1
  obtain ⟨x, y, e1, e2, e3, e4⟩ := getT (g := g) (j := 1) (w := w1) r c cm rfl (show okL U 84 w1 from q3 1 w1 rfl) (by decide)
  obtain ⟨x', y', d1, d2, d3, d4⟩ := getT (g := g) (j := 2) (w := w2) r c cm rfl (show okL U 116 w2 from q3 2 w2 rfl) (by decide)
  have hlk := lacks1 (s := 7) (j0 := 1) hg c (show 1 < 3 by decide) (show ∀ j, j < 3 → j ≠ 1 → ¬ lett 7 (nI j) = 84 from by decide +kernel) (by decide +kernel) e1
  rcases e4 with ⟨rfl, rfl⟩ | ⟨p, q, l, rfl, rfl, hpq, hp, hq, l1, l2, l3, l4⟩
  · rw [c01_t rfl] at hlk
    refine ⟨S, sI (sI S2 0 57 0) 0 58 4, 4, doC_no hlk, ?_, fin_no r bd F0C.rf r.2.2.2.2.2.2.2.2.2.2.2.2.2 f2 sI_58 (by decide)⟩
    rw [dM_7, dM2_7 (M_tAt0 (e2 _ f1) h0'), show (2 : Int32) = nI 2 from rfl, d2 _ f2, Option.bind_some]
    unfold m_compares_74
    rw [if_neg (by rw [sI_58]; decide)]
    rfl
  · rw [c01_f (m1_ne (by omega))] at hlk
    rcases d4 with ⟨rfl, rfl⟩ | ⟨p', q', l', rfl, rfl, hpq', hp', hq', l1', l2', l3', l4'⟩
    · refine ⟨sG S 75 n (j01 False), sG (sI S2 0 57 0) 32 n (j01 False), 0, ?_, ?_, fin_gw r bd f1 h0' hn⟩
      · rw [doC_W hlk (by decide +kernel), dC_7, show (1 : Int32) = nI 1 from rfl, show (2 : Int32) = nI 2 from rfl, e1, d1, Option.bind_some, Option.bind_some, dC2_7, if_pos rfl]
        unfold m_WS_giveOfTwo_120 m_WS_giveOfTwo_121
        rw [show (0 : Int32) = c01 False from (c01_f id).symm, B_gtr c hl (w := w0) rfl hn hv]
        rfl
      · rw [dM_7, dM2_7 (M_tAt (e2 _ f1) (by omega)), show (2 : Int32) = nI 2 from rfl, d2 _ f1, Option.bind_some, j01_f id]
        unfold m_compares_74
        rw [if_pos h0', (T_size T2 hm' l2).1, Option.bind_some, lt_d, if_neg (by decide +kernel)]
        unfold m_compares_121
        rw [if_pos (by decide +kernel), if_pos (by decide +kernel)]
        unfold m_compares_146 m_compares_147
        unfold m_compares_149
        rw [if_neg (by decide +kernel)]
        unfold m_compares_164
        rw [if_neg (by decide +kernel)]
        unfold m_compares_178
        rw [M_gw cm' hm' (w := w0) rfl hn hv h0']
        rfl
    · refine ⟨sG S 75 n (j01 (alkL l l')), sG (sI S2 0 57 0) 32 n (j01 (alkL l l')), 0, ?_, ?_, fin_gw r bd f1 h0' hn⟩
      · rw [doC_W hlk (by decide +kernel), dC_7, show (1 : Int32) = nI 1 from rfl, show (2 : Int32) = nI 2 from rfl, e1, d1, Option.bind_some, Option.bind_some, dC2_7, if_neg (m1_ne (by omega)), C_alike hg hT.1 l1 l1' l4 l4', Option.bind_some]
        unfold m_WS_giveOfTwo_120 m_WS_giveOfTwo_121
        by_cases h : alkL l l'
        · rw [c01_t h, if_neg (by decide), show (1 : Int32) = c01 (alkL l l') from (c01_t h).symm, B_gtr c hl (w := w0) rfl hn hv]
          rfl
        · rw [c01_f h, if_pos rfl, show (0 : Int32) = c01 (alkL l l') from (c01_f h).symm, B_gtr c hl (w := w0) rfl hn hv]
          rfl
      · rw [dM_7, dM2_7 (M_tAt (e2 _ f1) (by omega)), show (2 : Int32) = nI 2 from rfl, d2 _ f1, Option.bind_some]
        unfold m_compares_74
        rw [if_pos h0', (T_size T2 hm' l2).1, Option.bind_some, lt_d, if_neg (by decide +kernel)]
        unfold m_compares_121
        rw [if_pos (by decide +kernel), if_neg (nI_pos (by omega)), M_alike hg T2 hm' l2 l2' l4 l4', Option.bind_some]
        by_cases h : alkL l l'
        · rw [c01_t h, if_neg (by decide), j01_t h]
          unfold m_compares_147
          unfold m_compares_149
          rw [if_neg (by decide +kernel)]
          unfold m_compares_164
          rw [if_neg (by decide +kernel)]
          unfold m_compares_178
          rw [M_gw cm' hm' (w := w0) rfl hn hv h0']
          rfl
        · rw [c01_f h, if_pos rfl, j01_f h]
          unfold m_compares_146 m_compares_147
          unfold m_compares_149
          rw [if_neg (by decide +kernel)]
          unfold m_compares_164
          rw [if_neg (by decide +kernel)]
          unfold m_compares_178
          rw [M_gw cm' hm' (w := w0) rfl hn hv h0']
          rfl
theorem St8 : StOK 8 := by
  intro g U k S S2 ws a hg hk hR c cm hW h0
  obtain ⟨φ, cs, ts, u, pl, pm, ps, qs, r, bd⟩ := hR
  obtain ⟨q1, q2, q3⟩ := hW
  have q1 : 3 ≤ ws.length := q1
  have q2 : ws.length ≤ 3 := q2
  obtain ⟨w0, w1, w2, rfl⟩ := ls3 (show ws.length = 3 by omega)
  have hl := r.2.1
  have hm := r.2.2.1
  have hT := r.2.2.2.1
  obtain ⟨-, n, hn, hv⟩ := okL_w (show okL U 119 w0 from q3 0 w0 rfl)
  have f1 : F0M S2 (sI S2 0 57 0) := F0M_sI (Or.inl rfl)
  have f2 : F0M S2 (sI (sI S2 0 57 0) 0 58 4) := f1.tr (F0M_sI (Or.inr (Or.inl rfl)))
  have h0' : gI (sI S2 0 57 0) 0 58 = 0 := by rw [gI_ne (by decide)]; exact h0
  have cm' := cm.fs (FS.f0 f1)
  have hm' := hm.fs (FS.f0 f1)
  have T2 := hT.2.1.f0 f1
  obtain ⟨x, y, e1, e2, e3, e4⟩ := getT (g := g) (j := 1) (w := w1) r c cm rfl (show okL U 84 w1 from q3 1 w1 rfl) (by decide)
  obtain ⟨x', y', d1, d2, d3, d4⟩ := getT (g := g) (j := 2) (w := w2) r c cm rfl (show okL U 84 w2 from q3 2 w2 rfl) (by decide)
  have hlk := lacks2 (s := 8) hg c (show 2 < 3 by decide) (show ∀ j, j < 3 → j ≠ 1 → j ≠ 2 → ¬ lett 8 (nI j) = 84 from by decide +kernel) (by decide +kernel) (by decide +kernel) e1 d1
  by_cases hn2 : x = -1 ∨ x' = -1
  · rw [c01_t hn2] at hlk
    rw [e4.eq1, d4.eq1] at hn2
    obtain ⟨T, v1, v2, t1, t2⟩ := M_tA2 (e2 _ f1) (d2 _ f1) (d2 _ f2) h0' e4.nn d4.nn hn2
    refine ⟨S, sI (sI S2 0 57 0) 0 58 4, 4, doC_no hlk, ?_, fin_no r bd F0C.rf r.2.2.2.2.2.2.2.2.2.2.2.2.2 f2 sI_58 (by decide)⟩
    rw [dM_8, dM2_8 t1, show (2 : Int32) = nI 2 from rfl, t2, Option.bind_some]
    dsimp only
    unfold m_compares_74
    rw [if_neg (by rw [sI_58]; decide)]
    rfl
  · rw [c01_f hn2] at hlk
    rcases e4 with ⟨rfl, rfl⟩ | ⟨p, q, l, rfl, rfl, hpq, hp, hq, l1, l2, l3, l4⟩
    · exact absurd (Or.inl rfl) hn2
    rcases d4 with ⟨rfl, rfl⟩ | ⟨p', q', l', rfl, rfl, hpq', hp', hq', l1', l2', l3', l4'⟩
    · exact absurd (Or.inr rfl) hn2
    have b1 := C_bounds hT.1 l1
    have b2 := C_bounds hT.1 l1'
    refine ⟨sG S 75 n (ordL l l').toInt64, sG (sI S2 0 57 0) 32 n (ordL l l').toInt64, 0, ?_, ?_, fin_gw r bd f1 h0' hn⟩
    · rw [doC_W hlk (by decide +kernel), dC_8, show (1 : Int32) = nI 1 from rfl, show (2 : Int32) = nI 2 from rfl, e1, d1, Option.bind_some, Option.bind_some, dC2_8, C_start hT.1 b1.1, Option.bind_some, C_end hT.1 b1.1, Option.bind_some, C_start hT.1 b2.1, Option.bind_some, C_end hT.1 b2.1, Option.bind_some, stC_succ l1, stC_succ l1', R_order hT.1.1 hT.1.1 hg b1.2.2.1 b2.2.2.1, Option.bind_some, segC l1, segC l1', B_gw c hl (w := w0) rfl hn hv]
      rfl
    · rw [dM_8, dM2_8 (M_tAt (e2 _ f1) (by omega)), show (2 : Int32) = nI 2 from rfl, M_tAt (d2 _ f1) (by omega), Option.bind_some]
      dsimp only
      unfold m_compares_74
      rw [if_pos h0', (T_size T2 hm' l2).1, Option.bind_some, lt_d, if_neg (by decide +kernel)]
      unfold m_compares_121
      rw [if_neg (by decide +kernel)]
      unfold m_compares_149
      rw [if_pos (by decide +kernel), M_order hg T2 hm' l2 l2', Option.bind_some]
      unfold m_compares_164
      rw [if_neg (by decide +kernel)]
      unfold m_compares_178
      rw [M_gw cm' hm' (w := w0) rfl hn hv h0']
      rfl
