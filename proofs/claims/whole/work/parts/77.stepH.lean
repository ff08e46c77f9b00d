/-! the STEPS: units are given; part, trim, strip -/
abbrev Tl (U : Nat → Prop) (k : Nat) (S S2 S4 T4 : St) (kd : Nat) : Prop := gI T4 0 58 = nI kd ∧ kd ≤ 5 ∧ RSx U (k + 1) S4 T4 ∧ FC S S4 ∧ FS S2 T4
theorem bS {α : Type} {x : Option α} : (x.bind fun a => some a) = x := by cases x <;> rfl
theorem bS2 {α β : Type} {x : Option (α × β)} : (x.bind fun (a, b) => some (a, b)) = x := by cases x <;> rfl
theorem seg_seg {x : List Int32} {s L i m : Nat} (h : i + m ≤ L) : seg (seg x s L) i m = seg x (s + i) m := by
  unfold seg
  rw [List.drop_take, List.take_take, List.drop_drop, Nat.min_eq_left (by omega)]
theorem usL_seg {l : List Int32} {i m : Nat} (h : usL l) (hi : i + m ≤ l.length) : usL (seg l i m) := by
  intro j hj
  rw [seg_len hi] at hj
  rw [seg_get hj]
  exact h (i + j) (by omega)
theorem usL_app {l m : List Int32} (h1 : usL l) (h2 : usL m) : usL (l ++ m) := by
  intro j hj
  by_cases e : j < l.length
  · rw [List.getD_eq_getElem?_getD, List.getElem?_append_left e, ← List.getD_eq_getElem?_getD]
    exact h1 j e
  · rw [List.getD_eq_getElem?_getD, List.getElem?_append_right (by omega), ← List.getD_eq_getElem?_getD]
    exact h2 (j - l.length) (by rw [List.length_append] at hj; omega)
theorem usL_nil : usL [] := fun j hj => absurd hj (by simp)
section FUN
variable {U : Nat → Prop} {g k s n : Nat} {S S1 S2 S2b : St} {ws : List Wd} {w0 : Wd} {a : Nat} {φ : Nat → Option Nat} {cs ts : List (List Int32)} {u : Nat} {pl pm ps qs : List Nat} {l : List Int32}
theorem Scr.rw {v : List Int32} {o : Nat} (w : Scr S o v) : ∃ l ov, Rw S o l ov := by
  rcases w with ⟨-, w⟩ | ⟨-, l, w⟩
  · exact ⟨v, 0, w⟩
  · exact ⟨l, 1, w⟩
theorem XR.scr {v : List Int32} (h : XR S) (f : Fr 23 S S1) (w : Scr S1 23 v) : XR S1 := by
  obtain ⟨-, ⟨a2, o2, x2⟩, a3, o3, x3⟩ := h
  exact ⟨w.rw, ⟨a2, o2, x2.fr f (by decide)⟩, a3, o3, x3.fr f (by decide)⟩
theorem M_gu {T3 : St} {y : Int32} (hm : LM S2b) (cm : CurM S2b a ws) (hw : ws[0]? = some w0) (hn : n < 20) (hv : w0.2.1.toInt = (n : Int)) (hcr : m_checkRoom g S2b = some S2b) (h0 : gI S2b 0 58 = 0) (hb : m_became g S2b = some (T3, y)) (hm3 : LM T3) : m_givesUnits g S2b (nI a) = some (sF T3 26 n y) := by
  have h26 : gN T3 26 = 20 := LMn hm3 26
  have e := (M_word cm hm hw).2
  unfold m_givesUnits
  rw [hcr, Option.bind_some, if_pos h0, show nI a = nI (a + 0) from rfl, e, Option.bind_some, hb, Option.bind_some]
  dsimp only
  rw [j32 hv (by omega), tI_at (by omega) (by omega)]
  rfl
theorem M_room (ho : Out S2b l) (hl : l.length ≤ 400) : m_checkRoom g S2b = some S2b := by
  unfold m_checkRoom
  rw [ho.1, if_pos (show nI l.length ≤ (400 : Int32) from nI_le (b := 400) (by omega) (by omega))]
  unfold m_checkRoom_16
  rw [M_ref0]
  rfl
theorem M_room5 (ho : Out S2b l) (hl : 400 < l.length) (hl2 : l.length < 2 ^ 31) (h0 : gI S2b 0 58 = 0) : m_checkRoom g S2b = some (sI S2b 0 58 5) := by
  unfold m_checkRoom
  rw [ho.1, if_neg (show ¬ nI l.length ≤ (400 : Int32) from nI_ge (a := 400) hl hl2)]
  unfold m_checkRoom_16
  rw [M_ref1 h0]
  rfl
/-- units are given: a text that is made, EMPTY, or too long -/
theorem fin_units (hg : 100000 ≤ g) (hk : k < 60) (r : RS U S S2 φ cs ts u pl pm ps qs) (bd : Bd k cs ts u pl) (c : CurC S ws) (cm : CurM S2 a ws) (hw : ws[0]? = some w0) (hn : n < 20) (hv : w0.2.1.toInt = (n : Int)) (hc : F0C S S1) (hx : XR S1) (w : Scr S1 23 l) (hm : F0M S2 S2b) (h0 : gI S2b 0 58 = 0) (ho : Out S2b l) (hl2 : l.length < 2 ^ 31) (hu : l.length ≤ 400 → usL l) {x : Int32} : ∃ S4 T4 kd, m_TS_become g S1 x 1 = some (S4, nI kd) ∧ m_givesUnits g S2b (nI a) = some T4 ∧ Tl U k S S2 S4 T4 kd := by
  have h400 : limC 23 = 400 := by decide +kernel
  have r1 := RS_0 r hc hx hm
  have hT := r1.2.2.2.1
  have cm1 := cm.fs (FS.f0 hm)
  rcases w with ⟨w1, w⟩ | ⟨w1, l', w⟩
  · rw [h400] at w1
    have hcr := M_room (g := g) ho w1
    by_cases e : l = []
    · subst e
      refine ⟨sF S1 74 n 0, sF S2b 26 n 0, 0, ?_, ?_, fin_gt r bd hc hx hm h0 hn (Or.inr ⟨0, 0, rfl, rfl, r.2.2.2.1.2.2.2.2.1, by omega, by omega⟩)⟩
      · unfold m_TS_become
        rw [if_neg (by decide), if_pos w.2.2.2.1, C_make0 w, Option.bind_some]
        dsimp only
        unfold m_TS_become_43
        rw [B_gt (c.fc (FC.f0 hc)) r1.2.1 hw hn hv]
        rfl
      · refine M_gu r1.2.2.1 cm1 hw hn hv hcr h0 ?_ r1.2.2.1
        unfold m_became
        rw [ho.1, if_pos (by rfl)]
    · obtain ⟨b1, b2, b3, b4, b5⟩ := bd
      obtain ⟨S3, s1, s2, s3⟩ := C_make (g := g) (own := 0) hT.1 w (by decide) (by decide) r1.1 (by omega) (by omega) (Or.inr e)
      obtain ⟨T3, t1, t2, t3⟩ := O_made hg hT.2.1 r1.2.2.1 ho (by omega) (by omega) (by omega)
      obtain ⟨r2, er⟩ := RS_mk r1 s2 s3 t2 t3 w1 (hu w1) (by omega) (by omega)
      have fc : FC S S3 := (FC.f0 hc).tr (FC.frT s2 hT.1 s3)
      have fs : FS S2 T3 := (FS.f0 hm).tr (FS.md t2)
      have h0' : gI T3 0 58 = 0 := (t2.1 58 (by decide) (by decide)).trans h0
      have r3 := RS_gt r2 hn er
      refine ⟨_, _, 0, ?_, M_gu r1.2.2.1 cm1 hw hn hv hcr h0 (T3 := T3) (y := nI ts.length) ?_ r2.2.2.1, h0', by decide, ⟨_, _, _, _, pl, pm, ps, qs, r3, ?_⟩, fc.tr (FC_sF (Or.inl rfl)), fs.tr (FS_sF (by unfold stpAr; omega))⟩
      · unfold m_TS_become
        rw [if_neg (by decide), if_pos w.2.2.2.1, s1, Option.bind_some]
        dsimp only
        unfold m_TS_become_43
        rw [B_gt (c.fc fc) r2.2.1 hw hn hv]
        rfl
      · unfold m_became
        have : l.length ≠ 0 := fun z => e (List.length_eq_zero_iff.mp z)
        rw [ho.1, if_neg (show ¬ nI l.length = (0 : Int32) from i_lit (b := 0) (by omega) (by omega) this), t1]
        rfl
      · unfold Bd
        rw [List.length_append, List.length_append, List.flatten_append, List.length_append, show ([l] : List (List Int32)).flatten = l from by simp, List.length_singleton]
        omega
  · rw [h400] at w1
    have f5 : F0M S2 (sI S2b 0 58 5) := hm.tr (F0M_sI (Or.inr (Or.inl rfl)))
    refine ⟨S1, sI S2b 0 58 5, 5, ?_, ?_, fin_no r bd hc hx f5 sI_58 (by decide)⟩
    · unfold m_TS_become
      rw [if_neg (by decide), w.2.2.2.1, if_neg (by decide)]
      rfl
    · unfold m_givesUnits
      rw [M_room5 ho w1 hl2 h0, Option.bind_some, if_neg (by rw [sI_58]; decide)]
/-- a text is changed, or it stays -/
theorem fin_chg {same : Prop} {p q : Nat} (hg : 100000 ≤ g) (hk : k < 60) (r : RS U S S2 φ cs ts u pl pm ps qs) (bd : Bd k cs ts u pl) (c : CurC S ws) (cm : CurM S2 a ws) (hw : ws[0]? = some w0) (hn : n < 20) (hv : w0.2.1.toInt = (n : Int)) (hc : F0C S S1) (hx : XR S1) (hm : F0M S2 S2b) (h0 : gI S2b 0 58 = 0) (hpq : φ p = some q) (hp : p < 1465) (hq : q < 1700) (w : ¬ same → Scr S1 23 l ∧ Out S2b l ∧ l.length < 2 ^ 31 ∧ (l.length ≤ 400 → usL l)) : ∃ S4 T4 kd, m_TS_become g S1 (nI p) (c01 (¬ same)) = some (S4, nI kd) ∧ m_changes_137 g S2b (nI a) (nI q) (c01 same) = some T4 ∧ Tl U k S S2 S4 T4 kd := by
  have r1 := RS_0 r hc hx hm
  by_cases e : same
  · refine ⟨sF S1 74 n (nI p), sF S2b 26 n (nI q), 0, ?_, ?_, fin_gt r bd hc hx hm h0 hn (Or.inr ⟨p, q, rfl, rfl, hpq, hp, hq⟩)⟩
    · unfold m_TS_become
      rw [c01_f (fun z => z e), if_pos rfl, B_gt (c.fc (FC.f0 hc)) r1.2.1 hw hn hv]
      rfl
    · unfold m_changes_137
      rw [if_pos h0, c01_t e, if_neg (by decide), M_gt (cm.fs (FS.f0 hm)) r1.2.2.1 hw hn hv h0]
      rfl
  · obtain ⟨w1, w2, w3, w4⟩ := w e
    obtain ⟨S4, T4, kd, z1, z2, z3⟩ := fin_units hg hk r bd c cm hw hn hv hc hx w1 hm h0 w2 w3 w4 (x := nI p)
    refine ⟨S4, T4, kd, ?_, ?_, z3⟩
    · rw [c01_t e, z1]
    · unfold m_changes_137
      rw [if_pos h0, c01_f e, if_pos rfl, z2]
      rfl
/-- a stretch of a text comes to both sides -/
theorem C_stretch {v : List Int32} {p i m : Nat} (hT : TXc S cs) (w : Scr S 23 v) (hk : gOK S) (hp : cs[p]? = some l) (h : i + m ≤ l.length) : ∃ S', m_Row_insert g S 23 (gI S 23 2) 18 (nI (stC cs p + i)) (nI (stC cs p + (i + m))) = some S' ∧ Fr 23 S S' ∧ Scr S' 23 (v ++ seg l i m) := by
  have b := C_bounds hT hp
  obtain ⟨S', s1, s2, s3⟩ := Scr_ins (g := g) (s := stC cs p + i) (n := m) w hT.1 (by decide) hk (by omega)
  refine ⟨S', by rw [← Nat.add_assoc]; exact s1, s2, ?_⟩
  rw [← seg_seg (L := l.length) h, segC hp] at s3
  exact s3
end FUN
theorem St16 : StOK 16 := by
  intro g U k S S2 ws a hg hk hR c cm hW h0
  obtain ⟨φ, cs, ts, u, pl, pm, ps, qs, r, bd⟩ := hR
  obtain ⟨q1, q2, q3⟩ := hW
  have q1 : 4 ≤ ws.length := q1
  have q2 : ws.length ≤ 4 := q2
  obtain ⟨w0, w1, w2, w3, rfl⟩ := ls4 (show ws.length = 4 by omega)
  change ∃ S' S2' kd, doC g S 16 = some (S', nI kd) ∧ m_does g S2 (nI 16) (nI a) (nI 4) = some S2' ∧ gI S2' 0 58 = nI kd ∧ kd ≤ 5 ∧ RSx U (k + 1) S' S2' ∧ FC S S' ∧ FS S2 S2'
  have hl := r.2.1
  have hm := r.2.2.1
  have hT := r.2.2.2.1
  have hx := r.2.2.2.2.2.2.2.2.2.2.2.2.2
  have f1 : F0M S2 (sI S2 0 57 0) := F0M_sI (Or.inl rfl)
  have f2 : F0M S2 (sI (sI S2 0 57 0) 0 58 4) := f1.tr (F0M_sI (Or.inr (Or.inl rfl)))
  have f3 : F0M S2 (sI (sI S2 0 57 0) 0 58 1) := f1.tr (F0M_sI (Or.inr (Or.inl rfl)))
  have h0' : gI (sI S2 0 57 0) 0 58 = 0 := by rw [gI_ne (by decide)]; exact h0
  have cm' := cm.fs (FS.f0 f1)
  have hm' := hm.fs (FS.f0 f1)
  have T2 := hT.2.1.f0 f1
  obtain ⟨-, n, hn, hv⟩ := okL_v (show okL U 118 w0 from q3 0 w0 rfl)
  obtain ⟨x, y, e1, e2, e3, e4⟩ := getT (g := g) (j := 1) (w := w1) r c cm rfl (show okL U 84 w1 from q3 1 w1 rfl) (by decide)
  have o2 : okW w2 := okL_W (show okL U 87 w2 from q3 2 w2 rfl)
  have m2 : m_value g (sI S2 0 57 0) (nI a + (2 : Int32)) = some (valW S2 w2) := by rw [show (2 : Int32) = nI 2 from rfl, nI_add]; exact M_value (g := g) (j := 2) (w := w2) cm' hm' rfl o2
  have o3 : okW w3 := okL_W (show okL U 87 w3 from q3 3 w3 rfl)
  have m3 : m_value g (sI S2 0 57 0) (nI a + (3 : Int32)) = some (valW S2 w3) := by rw [show (3 : Int32) = nI 3 from rfl, nI_add]; exact M_value (g := g) (j := 3) (w := w3) cm' hm' rfl o3
  have hlk := lacks1 (s := 16) (j0 := 1) hg c (show 1 < 4 by decide) (show ∀ j, j < 4 → j ≠ 1 → ¬ lett 16 (nI j) = 84 from by decide +kernel) (by decide +kernel) e1
  rcases e4 with ⟨rfl, rfl⟩ | ⟨p, q, l, rfl, rfl, hpq, hp, hq, l1, l2, l3, l4⟩
  · rw [c01_t rfl] at hlk
    refine ⟨S, sI (sI S2 0 57 0) 0 58 4, 4, doC_no hlk, ?_, fin_no r bd F0C.rf hx f2 sI_58 (by decide)⟩
    rw [dM_16]
    unfold m_does_68
    rw [dM2_16 (M_tAt0 (e2 _ f1) h0')]
    unfold m_changes_25
    rw [if_neg (by decide +kernel)]
    unfold m_changes_44
    rw [if_neg (by rw [sI_58]; decide)]
    rfl
  · rw [c01_f (m1_ne (by omega))] at hlk
    obtain ⟨S1, s1, s2, s3, s4⟩ := clr (g := g) hx
    have fc := F0C.fr s2 (Or.inl rfl)
    have rc := RS_0 r fc s4 f1
    have cS := c.fc (FC.f0 fc)
    have hlS := rc.2.1
    have hTc := rc.2.2.2.1
    have hWR : WR S1 (sI S2 0 57 0) := rc.2.2.2.2.2.2.2.2.1
    have b := C_bounds hTc.1 l1
    have hM : m_does g S2 (nI 16) (nI a) (nI 4) = m_changes_44 g (sI S2 0 57 0) (nI 16) (nI a) (nI q) 0 0 := by
      rw [dM_16]
      unfold m_does_68
      rw [dM2_16 (M_tAt (e2 _ f1) (by omega))]
      unfold m_changes_25
      rw [if_neg (by decide +kernel), bS]
    unfold m_changes_44 at hM
    rw [if_pos h0'] at hM
    rw [if_neg (by decide +kernel)] at hM
    obtain ⟨z, z1, z2⟩ := B_place (g := g) (j := 2) (w := w2) (n := l.length) cS hlS rfl o2 hWR (by omega)
    obtain ⟨z', z1', z2'⟩ := B_place (g := g) (j := 3) (w := w3) (n := l.length) cS hlS rfl o3 hWR (by omega)
    rw [show valW (sI S2 0 57 0) w2 = valW S2 w2 from rfl] at z2
    rw [show valW (sI S2 0 57 0) w3 = valW S2 w3 from rfl] at z2'
    unfold m_cutOut at hM
    rw [(T_size T2 hm' l2).1, Option.bind_some, if_pos (by decide +kernel), m2, Option.bind_some, m3, Option.bind_some, isIn_s, Option.bind_some] at hM
    have hC : doC g S 16 = m_TS_part g S1 (nI p) := by
      rw [doC_T hlk (by decide +kernel), dC_16 e1 s1]
      unfold m_TS_give_166
      rw [bS2]
    unfold m_TS_part at hC
    rw [C_size hTc.1 l1, Option.bind_some, show (2 : Int32) = nI 2 from rfl, show (3 : Int32) = nI 3 from rfl, z1, Option.bind_some, z1', Option.bind_some] at hC
    by_cases hin : 0 ≤ (valW S2 w2).toInt ∧ (valW S2 w2).toInt ≤ (valW S2 w3).toInt ∧ (valW S2 w3).toInt ≤ (l.length : Int)
    · obtain ⟨i, hi⟩ : ∃ i : Nat, (valW S2 w2).toInt = (i : Int) := ⟨(valW S2 w2).toInt.toNat, by omega⟩
      obtain ⟨m, hj⟩ : ∃ m : Nat, (valW S2 w3).toInt = ((i + m : Nat) : Int) := ⟨((valW S2 w3).toInt - (valW S2 w2).toInt).toNat, by omega⟩
      have hz : z = nI i := Int32.toInt_inj.mp (by rw [z2, nI_toInt (by omega)]; omega)
      have hz' : z' = nI (i + m) := Int32.toInt_inj.mp (by rw [z2', nI_toInt (by omega)]; omega)
      subst hz hz'
      have him : i + m ≤ l.length := by omega
      obtain ⟨S3, t1, t2, t3⟩ := C_stretch (g := g) (v := []) hTc.1 (Scr.nil s3) rc.1 l1 him
      obtain ⟨T3, v1, v2, v3⟩ := O_text (g := g) (t := q) (a := i) (b := i + m) (v := []) hg T2 hm' l2 (by omega) him Out_0 (by simp; omega)
      rw [List.nil_append] at t3
      rw [List.nil_append, show i + m - i = m by omega] at v3
      have fc3 := fc.tr (F0C.fr t2 (Or.inl rfl))
      have fm := f1.tr (F0M.fe v2)
      have h03 : gI T3 0 58 = 0 := (v2.1 58 (by decide)).trans h0'
      obtain ⟨S4, T4, kd, y1, y2, y3⟩ := fin_chg (same := m = l.length) hg hk r bd c cm (w0 := w0) rfl hn hv fc3 (s4.scr t2 t3) fm h03 hpq hp hq (fun _ => ⟨t3, v3, by rw [seg_len him]; omega, fun _ => usL_seg l4 him⟩)
      refine ⟨S4, T4, kd, ?_, ?_, y3⟩
      · rw [hC, if_neg (nI_pos (by omega)), if_neg (nI_nlt (by omega) (by omega)), if_pos (nI_le (by omega) (by omega))]
        unfold m_TS_addStretch
        rw [C_start hTc.1 b.1, Option.bind_some, nI_add, nI_add, t1]
        unfold m_TS_addStretch_39
        rw [Option.bind_some, Option.bind_some]
        unfold m_TS_part_56
        rw [nI_sub (by omega), show i + m - i = m by omega]
        unfold m_TS_part_71 m_TS_part_74
        by_cases e : m = l.length
        · rw [c01_f (fun z => z e)] at y1
          rw [if_pos (nI_le (by omega) (by omega)), bS2, y1]
        · rw [c01_t e] at y1
          rw [if_neg (nI_ge (by omega) (by omega)), bS2, y1]
      · rw [hM, c01_t ⟨by rw [z64]; omega, by omega⟩, if_neg (by decide), if_neg (fun q => by
          have := Int64.lt_iff_toInt_lt.mp q
          rw [j64, nI_toInt (by omega)] at this
          omega)]
        unfold m_cutOut_61
        rw [M_ref0, Option.bind_some, if_pos h0', lt_d, lt_d, j32 hi (by omega), j32 hj (by omega)]
        unfold m_cutOut_143
        rw [v1, Option.bind_some, (T_size (T2.fe v2) (hm'.fe v2) l2).1, Option.bind_some, nI_sub (by omega), show i + m - i = m by omega]
        by_cases e : m = l.length
        · rw [c01_t e] at y2
          rw [if_pos (by rw [e]), Option.bind_some]
          exact y2
        · rw [c01_f e] at y2
          rw [if_neg (i_lit (by omega) (by omega) e), Option.bind_some]
          exact y2
    · refine ⟨S1, sI (sI S2 0 57 0) 0 58 1, 1, ?_, ?_, fin_no r bd fc s4 f3 sI_58 (by decide)⟩
      · rw [hC]
        by_cases h1 : z < 0
        · rw [if_pos h1]
          rfl
        rw [if_neg h1]
        by_cases h2 : z' < z
        · rw [if_pos h2]
          rfl
        rw [if_neg h2]
        by_cases h3 : z' ≤ nI l.length
        · exfalso
          rw [Int32.lt_iff_toInt_lt] at h1 h2
          rw [Int32.le_iff_toInt_le, nI_toInt (by omega)] at h3
          rw [show (0 : Int32).toInt = 0 from rfl] at h1
          omega
        · rw [if_neg h3]
          rfl
      · have key : m_cutOut_56 g (sI S2 0 57 0) (nI q) (valW S2 w2) (valW S2 w3) = some (sI (sI S2 0 57 0) 0 58 1, 0) := by
          unfold m_cutOut_56 m_cutOut_61
          rw [M_ref1 h0', Option.bind_some, if_neg (by rw [sI_58]; decide)]
        have fin : m_changes_137 g (sI (sI S2 0 57 0) 0 58 1) (nI a) (nI q) 0 = some (sI (sI S2 0 57 0) 0 58 1) := by
          unfold m_changes_137
          rw [if_neg (by rw [sI_58]; decide)]
        rw [hM]
        by_cases h1 : (0 : Int64).toInt ≤ (valW S2 w2).toInt ∧ (valW S2 w2).toInt ≤ (valW S2 w3).toInt
        · rw [c01_t h1, if_neg (by decide), if_pos (by
            rw [Int64.lt_iff_toInt_lt, j64, nI_toInt (by omega)]
            rw [z64] at h1
            omega), key, Option.bind_some]
          exact fin
        · rw [c01_f h1, if_pos rfl, key, Option.bind_some]
          exact fin
def B01 (x : Option Int32) : Prop := ∃ b, (b = 0 ∨ b = 1) ∧ x = some b
theorem B01.ite {p : Prop} [Decidable p] {x y : Option Int32} (hx : B01 x) (hy : B01 y) : B01 (if p then x else y) := by
  split <;> assumption
theorem blk_01 {g : Nat} {u : Int32} : B01 (m_isBlank g u) := by
  have b0 : B01 (some 0) := ⟨0, Or.inl rfl, rfl⟩
  have b1 : B01 (some 1) := ⟨1, Or.inr rfl, rfl⟩
  unfold m_isBlank m_isBlank_12 m_isBlank_24 m_isBlank_52
  repeat' apply B01.ite
  all_goals first | exact b1 | exact b0
theorem goes_17 : ∃ G : Int32 → Prop, ∀ g u, m_goes g (nI 17) u = some (c01 (G u)) ∧ m_TS_isLeftOut g u 0 = some (c01 (G u)) := by
  refine ⟨fun u => ¬ (32 : Int32) < u, fun g u => ?_⟩
  unfold m_goes m_TS_isLeftOut
  rw [if_pos (by decide +kernel), if_pos rfl]
  by_cases h : (32 : Int32) < u
  · rw [if_pos h, c01_f (fun z => z h)]
    exact ⟨rfl, rfl⟩
  · rw [if_neg h, c01_t h]
    exact ⟨rfl, rfl⟩
theorem goes_18 : ∃ G : Int32 → Prop, ∀ g u, m_goes g (nI 18) u = some (c01 (G u)) ∧ m_TS_isLeftOut g u 1 = some (c01 (G u)) := by
  refine ⟨fun u => m_isBlank 0 u = some 1, fun g u => ?_⟩
  show m_goes g (nI 18) u = some (c01 (m_isBlank 0 u = some 1)) ∧ m_TS_isLeftOut g u 1 = some (c01 (m_isBlank 0 u = some 1))
  unfold m_goes m_TS_isLeftOut
  rw [if_neg (by decide +kernel), if_neg (by decide), blk_e, show m_isBlank g u = m_isBlank 0 u from rfl]
  obtain ⟨b, h1, h⟩ := blk_01 (g := 0) (u := u)
  rcases h1 with rfl | rfl
  · rw [h, c01_f (by decide)]
    exact ⟨rfl, rfl⟩
  · rw [h, c01_t rfl]
    exact ⟨rfl, rfl⟩
theorem nI_dn (n : Nat) : nI (n + 1) + (-1 : Int32) = nI n := by
  rw [nI_succ]
  grind
section TRM
variable {g : Nat} {S S2 : St} {cs ts : List (List Int32)} {u p q s : Nat} {l : List Int32} {G : Int32 → Prop} {x2 : Int32}
theorem C_at (hT : TXc S cs) (l1 : cs[p]? = some l) {i : Nat} (hi : i < l.length) : m_Row_at g S 18 (nI (stC cs p + i)) = some (l.getD i 0) := by
  have b := C_bounds hT l1
  rw [R_at hT.1, atR_nI (by omega), getC l1 hi, getD_d hi]
theorem trm_a (hT : TXc S cs) (hM : TXs S2 ts u) (hm : LM S2) (l1 : cs[p]? = some l) (l2 : ts[q]? = some l) (hl : l.length ≤ 400) (hG : ∀ g u, m_goes g (nI s) u = some (c01 (G u)) ∧ m_TS_isLeftOut g u x2 = some (c01 (G u))) : ∀ (k n1 n2 i : Nat), i + k = l.length → k < n1 → k < n2 → ∃ i', i' ≤ l.length ∧ m_TS_trim_28 g n1 S (nI p) x2 (nI (stC cs p + i)) (nI (stC cs p + l.length)) = m_TS_trim_54 g g S (nI p) x2 (nI (stC cs p + i')) (nI (stC cs p + l.length)) ∧ m_cutOut_87 g n2 S2 (nI s) (nI q) (nI i) (nI l.length) = m_cutOut_114 g g S2 (nI s) (nI q) (nI i') (nI l.length) := by
  have b := C_bounds hT l1
  intro k
  induction k with
  | zero =>
    intro n1 n2 i hi h1 h2
    obtain ⟨n1, rfl⟩ : ∃ m, n1 = m + 1 := ⟨n1 - 1, by omega⟩
    obtain ⟨n2, rfl⟩ : ∃ m, n2 = m + 1 := ⟨n2 - 1, by omega⟩
    refine ⟨i, by omega, ?_, ?_⟩
    · show b_TS_trim_28 g (m_TS_trim_28 g n1) S (nI p) x2 _ _ = _
      unfold b_TS_trim_28
      rw [if_pos (nI_le (by omega) (by omega))]
    · show b_cutOut_87 g (m_cutOut_87 g n2) S2 (nI s) (nI q) _ _ = _
      unfold b_cutOut_87
      rw [if_pos (nI_le (by omega) (by omega))]
  | succ k ih =>
    intro n1 n2 i hi h1 h2
    obtain ⟨n1, rfl⟩ : ∃ m, n1 = m + 1 := ⟨n1 - 1, by omega⟩
    obtain ⟨n2, rfl⟩ : ∃ m, n2 = m + 1 := ⟨n2 - 1, by omega⟩
    have eC : m_TS_trim_28 g (n1 + 1) S (nI p) x2 (nI (stC cs p + i)) (nI (stC cs p + l.length)) = if c01 (G (l.getD i 0)) = 0 then m_TS_trim_54 g g S (nI p) x2 (nI (stC cs p + i)) (nI (stC cs p + l.length)) else m_TS_trim_28 g n1 S (nI p) x2 (nI (stC cs p + (i + 1))) (nI (stC cs p + l.length)) := by
      show b_TS_trim_28 g (m_TS_trim_28 g n1) S (nI p) x2 _ _ = _
      unfold b_TS_trim_28
      rw [if_neg (nI_ge (by omega) (by omega)), C_at hT l1 (by omega), Option.bind_some, (hG g _).2, Option.bind_some, lt_d, nI_1]
      rfl
    have eM : m_cutOut_87 g (n2 + 1) S2 (nI s) (nI q) (nI i) (nI l.length) = if c01 (G (l.getD i 0)) = 0 then m_cutOut_114 g g S2 (nI s) (nI q) (nI i) (nI l.length) else m_cutOut_87 g n2 S2 (nI s) (nI q) (nI (i + 1)) (nI l.length) := by
      show b_cutOut_87 g (m_cutOut_87 g n2) S2 (nI s) (nI q) _ _ = _
      unfold b_cutOut_87
      rw [if_neg (nI_ge (by omega) (by omega)), T_unit hM hm l2 (by omega), Option.bind_some, (hG g _).1, Option.bind_some, lt_d, nI_1]
    by_cases h : G (l.getD i 0)
    · obtain ⟨i', a1, a2, a3⟩ := ih n1 n2 (i + 1) (by omega) (by omega) (by omega)
      refine ⟨i', a1, ?_, ?_⟩
      · rw [eC, c01_t h, if_neg (by decide), a2]
      · rw [eM, c01_t h, if_neg (by decide), a3]
    · refine ⟨i, by omega, ?_, ?_⟩
      · rw [eC, c01_f h, if_pos rfl]
      · rw [eM, c01_f h, if_pos rfl]
theorem trm_b (hT : TXc S cs) (hM : TXs S2 ts u) (hm : LM S2) (l1 : cs[p]? = some l) (l2 : ts[q]? = some l) (hl : l.length ≤ 400) (hG : ∀ g u, m_goes g (nI s) u = some (c01 (G u)) ∧ m_TS_isLeftOut g u x2 = some (c01 (G u))) {i : Nat} : ∀ (k n1 n2 e : Nat), i + k = e → e ≤ l.length → k < n1 → k < n2 → ∃ m, i + m ≤ l.length ∧ m_TS_trim_54 g n1 S (nI p) x2 (nI (stC cs p + i)) (nI (stC cs p + e)) = m_TS_trim_82 g S (nI p) (nI (stC cs p + i)) (nI (stC cs p + (i + m))) ∧ m_cutOut_114 g n2 S2 (nI s) (nI q) (nI i) (nI e) = m_cutOut_143 g S2 (nI q) (nI i) (nI (i + m)) := by
  have b := C_bounds hT l1
  intro k
  induction k with
  | zero =>
    intro n1 n2 e he hle h1 h2
    obtain ⟨n1, rfl⟩ : ∃ m, n1 = m + 1 := ⟨n1 - 1, by omega⟩
    obtain ⟨n2, rfl⟩ : ∃ m, n2 = m + 1 := ⟨n2 - 1, by omega⟩
    have he : e = i := by omega
    subst he
    refine ⟨0, by omega, ?_, ?_⟩
    · show b_TS_trim_54 g (m_TS_trim_54 g n1) S (nI p) x2 _ _ = _
      unfold b_TS_trim_54
      rw [if_pos (nI_le (by omega) (by omega))]
      rfl
    · show b_cutOut_114 g (m_cutOut_114 g n2) S2 (nI s) (nI q) _ _ = _
      unfold b_cutOut_114
      rw [if_pos (nI_le (by omega) (by omega))]
      rfl
  | succ k ih =>
    intro n1 n2 e he hle h1 h2
    obtain ⟨n1, rfl⟩ : ∃ m, n1 = m + 1 := ⟨n1 - 1, by omega⟩
    obtain ⟨n2, rfl⟩ : ∃ m, n2 = m + 1 := ⟨n2 - 1, by omega⟩
    obtain ⟨e, rfl⟩ : ∃ e', e = e' + 1 := ⟨e - 1, by omega⟩
    have eC : m_TS_trim_54 g (n1 + 1) S (nI p) x2 (nI (stC cs p + i)) (nI (stC cs p + (e + 1))) = if c01 (G (l.getD e 0)) = 0 then m_TS_trim_82 g S (nI p) (nI (stC cs p + i)) (nI (stC cs p + (e + 1))) else m_TS_trim_54 g n1 S (nI p) x2 (nI (stC cs p + i)) (nI (stC cs p + e)) := by
      show b_TS_trim_54 g (m_TS_trim_54 g n1) S (nI p) x2 _ _ = _
      unfold b_TS_trim_54
      rw [if_neg (nI_ge (by omega) (by omega)), lt_d, ← Nat.add_assoc, nI_pred, C_at hT l1 (by omega), Option.bind_some, (hG g _).2, Option.bind_some, nI_dn]
    have eM : m_cutOut_114 g (n2 + 1) S2 (nI s) (nI q) (nI i) (nI (e + 1)) = if c01 (G (l.getD e 0)) = 0 then m_cutOut_143 g S2 (nI q) (nI i) (nI (e + 1)) else m_cutOut_114 g n2 S2 (nI s) (nI q) (nI i) (nI e) := by
      show b_cutOut_114 g (m_cutOut_114 g n2) S2 (nI s) (nI q) _ _ = _
      unfold b_cutOut_114
      rw [if_neg (nI_ge (by omega) (by omega)), lt_d, nI_pred, T_unit hM hm l2 (by omega), Option.bind_some, (hG g _).1, Option.bind_some, nI_dn]
    by_cases h : G (l.getD e 0)
    · obtain ⟨m, a1, a2, a3⟩ := ih n1 n2 e (by omega) (by omega) (by omega) (by omega)
      refine ⟨m, a1, ?_, ?_⟩
      · rw [eC, c01_t h, if_neg (by decide), a2]
      · rw [eM, c01_t h, if_neg (by decide), a3]
    · refine ⟨e + 1 - i, by omega, ?_, ?_⟩
      · rw [eC, c01_f h, if_pos rfl, show i + (e + 1 - i) = e + 1 by omega]
      · rw [eM, c01_f h, if_pos rfl, show i + (e + 1 - i) = e + 1 by omega]
end TRM
theorem St17 : StOK 17 := by
  intro g U k S S2 ws a hg hk hR c cm hW h0
  obtain ⟨φ, cs, ts, u, pl, pm, ps, qs, r, bd⟩ := hR
  obtain ⟨q1, q2, q3⟩ := hW
  have q1 : 2 ≤ ws.length := q1
  have q2 : ws.length ≤ 2 := q2
  obtain ⟨w0, w1, rfl⟩ := ls2 (show ws.length = 2 by omega)
  change ∃ S' S2' kd, doC g S 17 = some (S', nI kd) ∧ m_does g S2 (nI 17) (nI a) (nI 2) = some S2' ∧ gI S2' 0 58 = nI kd ∧ kd ≤ 5 ∧ RSx U (k + 1) S' S2' ∧ FC S S' ∧ FS S2 S2'
  have hl := r.2.1
  have hm := r.2.2.1
  have hT := r.2.2.2.1
  have hx := r.2.2.2.2.2.2.2.2.2.2.2.2.2
  have f1 : F0M S2 (sI S2 0 57 0) := F0M_sI (Or.inl rfl)
  have f2 : F0M S2 (sI (sI S2 0 57 0) 0 58 4) := f1.tr (F0M_sI (Or.inr (Or.inl rfl)))
  have f3 : F0M S2 (sI (sI S2 0 57 0) 0 58 1) := f1.tr (F0M_sI (Or.inr (Or.inl rfl)))
  have h0' : gI (sI S2 0 57 0) 0 58 = 0 := by rw [gI_ne (by decide)]; exact h0
  have cm' := cm.fs (FS.f0 f1)
  have hm' := hm.fs (FS.f0 f1)
  have T2 := hT.2.1.f0 f1
  obtain ⟨-, n, hn, hv⟩ := okL_v (show okL U 118 w0 from q3 0 w0 rfl)
  obtain ⟨x, y, e1, e2, e3, e4⟩ := getT (g := g) (j := 1) (w := w1) r c cm rfl (show okL U 84 w1 from q3 1 w1 rfl) (by decide)
  have hlk := lacks1 (s := 17) (j0 := 1) hg c (show 1 < 2 by decide) (show ∀ j, j < 2 → j ≠ 1 → ¬ lett 17 (nI j) = 84 from by decide +kernel) (by decide +kernel) e1
  rcases e4 with ⟨rfl, rfl⟩ | ⟨p, q, l, rfl, rfl, hpq, hp, hq, l1, l2, l3, l4⟩
  · rw [c01_t rfl] at hlk
    refine ⟨S, sI (sI S2 0 57 0) 0 58 4, 4, doC_no hlk, ?_, fin_no r bd F0C.rf hx f2 sI_58 (by decide)⟩
    rw [dM_17]
    unfold m_does_68
    rw [dM2_17 (M_tAt0 (e2 _ f1) h0')]
    unfold m_changes_25
    rw [if_neg (by decide +kernel)]
    unfold m_changes_44
    rw [if_neg (by rw [sI_58]; decide)]
    rfl
  · rw [c01_f (m1_ne (by omega))] at hlk
    obtain ⟨S1, s1, s2, s3, s4⟩ := clr (g := g) hx
    have fc := F0C.fr s2 (Or.inl rfl)
    have rc := RS_0 r fc s4 f1
    have cS := c.fc (FC.f0 fc)
    have hlS := rc.2.1
    have hTc := rc.2.2.2.1
    have hWR : WR S1 (sI S2 0 57 0) := rc.2.2.2.2.2.2.2.2.1
    have b := C_bounds hTc.1 l1
    have hM : m_does g S2 (nI 17) (nI a) (nI 2) = m_changes_44 g (sI S2 0 57 0) (nI 17) (nI a) (nI q) 0 0 := by
      rw [dM_17]
      unfold m_does_68
      rw [dM2_17 (M_tAt (e2 _ f1) (by omega))]
      unfold m_changes_25
      rw [if_neg (by decide +kernel), bS]
    unfold m_changes_44 at hM
    rw [if_pos h0'] at hM
    rw [if_neg (by decide +kernel)] at hM
    unfold m_cutOut at hM
    rw [(T_size T2 hm' l2).1, Option.bind_some, if_neg (by decide +kernel)] at hM
    have hC : doC g S 17 = m_TS_trim g S1 (nI p) 0 := by
      rw [doC_T hlk (by decide +kernel), dC_17 e1 s1]
      unfold m_TS_give_173
      rw [bS2]
    unfold m_TS_trim at hC
    rw [C_start hTc.1 b.1, Option.bind_some, C_end hTc.1 b.1, Option.bind_some, stC_succ l1] at hC
    obtain ⟨G, hG⟩ := goes_17
    obtain ⟨i, i1, i2, i3⟩ := trm_a (g := g) (s := 17) hTc.1 T2 hm' l1 l2 l3 hG l.length g g 0 (by omega) (by omega) (by omega)
    obtain ⟨m, him, j2, j3⟩ := trm_b (g := g) (s := 17) (i := i) hTc.1 T2 hm' l1 l2 l3 hG (l.length - i) g g l.length (by omega) (by omega) (by omega) (by omega)
    rw [show nI (stC cs p) = nI (stC cs p + 0) from rfl, i2, j2] at hC
    rw [nI_0] at i3
    rw [i3, j3] at hM
    obtain ⟨S3, t1, t2, t3⟩ := C_stretch (g := g) (v := []) hTc.1 (Scr.nil s3) rc.1 l1 him
    rw [s3.2.2.1] at t1
    obtain ⟨T3, v1, v2, v3⟩ := O_text (g := g) (t := q) (a := i) (b := i + m) (v := []) hg T2 hm' l2 (by omega) him Out_0 (by simp; omega)
    rw [List.nil_append] at t3
    rw [List.nil_append, show i + m - i = m by omega] at v3
    have fc3 := fc.tr (F0C.fr t2 (Or.inl rfl))
    have fm := f1.tr (F0M.fe v2)
    have h03 : gI T3 0 58 = 0 := (v2.1 58 (by decide)).trans h0'
    have x3 := s4.scr t2 t3
    have r3 := RS_0 r fc3 x3 f1
    obtain ⟨S4, T4, kd, y1, y2, y3⟩ := fin_chg (same := m = l.length) hg hk r bd c cm (w0 := w0) rfl hn hv fc3 x3 fm h03 hpq hp hq (fun _ => ⟨t3, v3, by rw [seg_len him]; omega, fun _ => usL_seg l4 him⟩)
    refine ⟨S4, T4, kd, ?_, ?_, y3⟩
    · rw [hC]
      unfold m_TS_trim_82
      rw [show (0 : Int32) = nI ([] : List Int32).length from rfl, t1, Option.bind_some]
      unfold m_TS_trim_95
      rw [C_size r3.2.2.2.1.1 l1, Option.bind_some, nI_sub (by omega), show stC cs p + (i + m) - (stC cs p + i) = m by omega]
      unfold m_TS_trim_118 m_TS_trim_121
      by_cases e : m = l.length
      · rw [c01_f (fun z => z e)] at y1
        rw [if_pos (nI_le (by omega) (by omega)), bS2, y1]
      · rw [c01_t e] at y1
        rw [if_neg (nI_ge (by omega) (by omega)), bS2, y1]
    · rw [hM]
      unfold m_cutOut_143
      rw [v1, Option.bind_some, (T_size (T2.fe v2) (hm'.fe v2) l2).1, Option.bind_some, nI_sub (by omega), show i + m - i = m by omega]
      by_cases e : m = l.length
      · rw [c01_t e] at y2
        rw [if_pos (by rw [e]), Option.bind_some]
        exact y2
      · rw [c01_f e] at y2
        rw [if_neg (i_lit (by omega) (by omega) e), Option.bind_some]
        exact y2
theorem St18 : StOK 18 := by
  intro g U k S S2 ws a hg hk hR c cm hW h0
  obtain ⟨φ, cs, ts, u, pl, pm, ps, qs, r, bd⟩ := hR
  obtain ⟨q1, q2, q3⟩ := hW
  have q1 : 2 ≤ ws.length := q1
  have q2 : ws.length ≤ 2 := q2
  obtain ⟨w0, w1, rfl⟩ := ls2 (show ws.length = 2 by omega)
  change ∃ S' S2' kd, doC g S 18 = some (S', nI kd) ∧ m_does g S2 (nI 18) (nI a) (nI 2) = some S2' ∧ gI S2' 0 58 = nI kd ∧ kd ≤ 5 ∧ RSx U (k + 1) S' S2' ∧ FC S S' ∧ FS S2 S2'
  have hl := r.2.1
  have hm := r.2.2.1
  have hT := r.2.2.2.1
  have hx := r.2.2.2.2.2.2.2.2.2.2.2.2.2
  have f1 : F0M S2 (sI S2 0 57 0) := F0M_sI (Or.inl rfl)
  have f2 : F0M S2 (sI (sI S2 0 57 0) 0 58 4) := f1.tr (F0M_sI (Or.inr (Or.inl rfl)))
  have f3 : F0M S2 (sI (sI S2 0 57 0) 0 58 1) := f1.tr (F0M_sI (Or.inr (Or.inl rfl)))
  have h0' : gI (sI S2 0 57 0) 0 58 = 0 := by rw [gI_ne (by decide)]; exact h0
  have cm' := cm.fs (FS.f0 f1)
  have hm' := hm.fs (FS.f0 f1)
  have T2 := hT.2.1.f0 f1
  obtain ⟨-, n, hn, hv⟩ := okL_v (show okL U 118 w0 from q3 0 w0 rfl)
  obtain ⟨x, y, e1, e2, e3, e4⟩ := getT (g := g) (j := 1) (w := w1) r c cm rfl (show okL U 84 w1 from q3 1 w1 rfl) (by decide)
  have hlk := lacks1 (s := 18) (j0 := 1) hg c (show 1 < 2 by decide) (show ∀ j, j < 2 → j ≠ 1 → ¬ lett 18 (nI j) = 84 from by decide +kernel) (by decide +kernel) e1
  rcases e4 with ⟨rfl, rfl⟩ | ⟨p, q, l, rfl, rfl, hpq, hp, hq, l1, l2, l3, l4⟩
  · rw [c01_t rfl] at hlk
    refine ⟨S, sI (sI S2 0 57 0) 0 58 4, 4, doC_no hlk, ?_, fin_no r bd F0C.rf hx f2 sI_58 (by decide)⟩
    rw [dM_18]
    unfold m_does_68
    rw [dM2_18 (M_tAt0 (e2 _ f1) h0')]
    unfold m_changes_25
    rw [if_neg (by decide +kernel)]
    unfold m_changes_44
    rw [if_neg (by rw [sI_58]; decide)]
    rfl
  · rw [c01_f (m1_ne (by omega))] at hlk
    obtain ⟨S1, s1, s2, s3, s4⟩ := clr (g := g) hx
    have fc := F0C.fr s2 (Or.inl rfl)
    have rc := RS_0 r fc s4 f1
    have cS := c.fc (FC.f0 fc)
    have hlS := rc.2.1
    have hTc := rc.2.2.2.1
    have hWR : WR S1 (sI S2 0 57 0) := rc.2.2.2.2.2.2.2.2.1
    have b := C_bounds hTc.1 l1
    have hM : m_does g S2 (nI 18) (nI a) (nI 2) = m_changes_44 g (sI S2 0 57 0) (nI 18) (nI a) (nI q) 0 0 := by
      rw [dM_18]
      unfold m_does_68
      rw [dM2_18 (M_tAt (e2 _ f1) (by omega))]
      unfold m_changes_25
      rw [if_neg (by decide +kernel), bS]
    unfold m_changes_44 at hM
    rw [if_pos h0'] at hM
    rw [if_neg (by decide +kernel)] at hM
    unfold m_cutOut at hM
    rw [(T_size T2 hm' l2).1, Option.bind_some, if_neg (by decide +kernel)] at hM
    have hC : doC g S 18 = m_TS_trim g S1 (nI p) 1 := by
      rw [doC_T hlk (by decide +kernel), dC_18 e1 s1]
      unfold m_TS_give_180
      rw [bS2]
    unfold m_TS_trim at hC
    rw [C_start hTc.1 b.1, Option.bind_some, C_end hTc.1 b.1, Option.bind_some, stC_succ l1] at hC
    obtain ⟨G, hG⟩ := goes_18
    obtain ⟨i, i1, i2, i3⟩ := trm_a (g := g) (s := 18) hTc.1 T2 hm' l1 l2 l3 hG l.length g g 0 (by omega) (by omega) (by omega)
    obtain ⟨m, him, j2, j3⟩ := trm_b (g := g) (s := 18) (i := i) hTc.1 T2 hm' l1 l2 l3 hG (l.length - i) g g l.length (by omega) (by omega) (by omega) (by omega)
    rw [show nI (stC cs p) = nI (stC cs p + 0) from rfl, i2, j2] at hC
    rw [nI_0] at i3
    rw [i3, j3] at hM
    obtain ⟨S3, t1, t2, t3⟩ := C_stretch (g := g) (v := []) hTc.1 (Scr.nil s3) rc.1 l1 him
    rw [s3.2.2.1] at t1
    obtain ⟨T3, v1, v2, v3⟩ := O_text (g := g) (t := q) (a := i) (b := i + m) (v := []) hg T2 hm' l2 (by omega) him Out_0 (by simp; omega)
    rw [List.nil_append] at t3
    rw [List.nil_append, show i + m - i = m by omega] at v3
    have fc3 := fc.tr (F0C.fr t2 (Or.inl rfl))
    have fm := f1.tr (F0M.fe v2)
    have h03 : gI T3 0 58 = 0 := (v2.1 58 (by decide)).trans h0'
    have x3 := s4.scr t2 t3
    have r3 := RS_0 r fc3 x3 f1
    obtain ⟨S4, T4, kd, y1, y2, y3⟩ := fin_chg (same := m = l.length) hg hk r bd c cm (w0 := w0) rfl hn hv fc3 x3 fm h03 hpq hp hq (fun _ => ⟨t3, v3, by rw [seg_len him]; omega, fun _ => usL_seg l4 him⟩)
    refine ⟨S4, T4, kd, ?_, ?_, y3⟩
    · rw [hC]
      unfold m_TS_trim_82
      rw [show (0 : Int32) = nI ([] : List Int32).length from rfl, t1, Option.bind_some]
      unfold m_TS_trim_95
      rw [C_size r3.2.2.2.1.1 l1, Option.bind_some, nI_sub (by omega), show stC cs p + (i + m) - (stC cs p + i) = m by omega]
      unfold m_TS_trim_118 m_TS_trim_121
      by_cases e : m = l.length
      · rw [c01_f (fun z => z e)] at y1
        rw [if_pos (nI_le (by omega) (by omega)), bS2, y1]
      · rw [c01_t e] at y1
        rw [if_neg (nI_ge (by omega) (by omega)), bS2, y1]
    · rw [hM]
      unfold m_cutOut_143
      rw [v1, Option.bind_some, (T_size (T2.fe v2) (hm'.fe v2) l2).1, Option.bind_some, nI_sub (by omega), show i + m - i = m by omega]
      by_cases e : m = l.length
      · rw [c01_t e] at y2
        rw [if_pos (by rw [e]), Option.bind_some]
        exact y2
      · rw [c01_f e] at y2
        rw [if_neg (i_lit (by omega) (by omega) e), Option.bind_some]
        exact y2
