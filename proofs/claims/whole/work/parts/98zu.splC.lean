/-! spelled, whole -/
section SPX
variable {g p x : Nat} {S S2 : St} {l : List Int32} {lits : List (List Int32)} {P : Prg} {i j s : Nat} {ws : List Wd} {w : Wd}
theorem ck34 : ∀ k, k < 10 → ((ckW k = 34) ↔ k = 3) ∧ ckW k < 200 ∧ sgW k < 200 := by decide +kernel
theorem LayI.fe {S S' : St} (h : LayI S l) (f : FE S S') : LayI S' l := ⟨by rw [f.1 67 (by omega)]; exact h.1, fun i hi => by rw [f.2.2.2.2.1 40 (by omega) (by omega)]; exact h.2 i hi⟩
/-- a say leaves the digits Row -/
theorem C_sayd {u : Int32} (hp : p = 1 ∨ p = 2) (h : SayI S p x l) (hl : l.length < 100000) (hd : ∃ l ov, Rw S (8 + 3 * p + 2) l ov) : ∃ S', m_Pg_say g S p u = some S' ∧ Fsy p S S' ∧ SayI S' p x (l ++ [u]) ∧ ∃ l ov, Rw S' (8 + 3 * p + 2) l ov := by
  obtain ⟨S1, a1, a2, a3⟩ := C_say (g := g) (u := u) h hl
  refine ⟨S1, a1, Fsy.fi a2, a3, ?_⟩
  obtain ⟨dl, dov, w⟩ := hd
  exact ⟨dl, dov, w.fi a2 (by omega)⟩
theorem M_laynum {v : Int64} (hg : 100000 ≤ g) (h : LayI S2 l) (hm : LM S2) (hl : l.length + 20 ≤ 6500) : ∃ S', m_layNumber g S2 v = some S' ∧ FLy S2 S' ∧ LayI S' (l ++ numU v 10) := by
  have f0 : FLy S2 (sI S2 0 57 0) := FLy.sI (by omega)
  have h0 : LayI (sI S2 0 57 0) l := ⟨by rw [gI_ne (by omega)]; exact h.1, h.2⟩
  obtain ⟨S1, a1, a2, a3⟩ := O_number (g := g) (b := 10) (S := sI S2 0 57 0) (v := []) (x := v) hg (by omega) (by omega) (hm.of rfl) ⟨sI_g, fun i hi => by simp at hi⟩ (by simp)
  rw [List.nil_append] at a3
  have hn := numU_20 (x := v)
  obtain ⟨S', b1, b2, b3⟩ := M_num14 (g := g) (v := numU v 10) (numU v 10).length g 0 S1 l (by omega) (by omega) (by omega) ((hm.of rfl).of a2.2.2.2.1) a3 (h0.fe a2) (by omega)
  refine ⟨S', ?_, (f0.tr (FLy.fe a2)).tr b2, b3⟩
  unfold m_layNumber
  have a1 : m_emitNumber g (sI S2 0 57 0) v (10 : Int32) = some S1 := a1
  rw [lt_d, a1, Option.bind_some]
  exact b1
theorem C_saynum {m : Nat} (hg : 100000 ≤ g) (hp : p = 1 ∨ p = 2) (h : SayI S p x l) (hk : gOK S) (hl : LC S) (hd : ∃ l ov, Rw S (8 + 3 * p + 2) l ov) (hm : m < 540) (hll : l.length + 20 < 80000) : ∃ S', m_Pg_sayWord_65 g S p (nI m) = some S' ∧ Fsy p S S' ∧ SayI S' p x (l ++ numU (gG S (50 + 8 * p + 4) m) 10) ∧ ∃ l ov, Rw S' (8 + 3 * p + 2) l ov := by
  obtain ⟨dl, dov, hd⟩ := hd
  have l4 := (LCp hl hp).2.2.2.2.1
  obtain ⟨S1, a1, a2, a3⟩ := R_clear (g := g) hd
  have k1 := hk.fr a2
  have g1 : gG S1 (50 + 8 * p + 4) m = gG S (50 + 8 * p + 4) m := by unfold gG; rw [a2.2.2.2.2]
  have n1 : gN S1 (50 + 8 * p + 4) = 540 := by rw [(a2.2.2.2.1 _ (by omega)).1]; exact l4
  obtain ⟨S3, b1, b2, b3⟩ := Scr_whole (g := g) (x := gG S (50 + 8 * p + 4) m) (x3 := 10) hg (Scr.nil a3) k1 (by omega) (by omega)
  rw [List.nil_append, show bsN 10 = 10 from by decide +kernel] at b3
  have hn := numU_20 (x := gG S (50 + 8 * p + 4) m)
  have lim : limC (8 + 3 * p + 2) = 20 := by rcases hp with rfl | rfl <;> rfl
  have w3 : Rw S3 (8 + 3 * p + 2) (numU (gG S (50 + 8 * p + 4) m) 10) 0 := by
    rcases b3 with ⟨-, z⟩ | ⟨z, -⟩
    · exact z
    · rw [lim] at z
      omega
  have h3 : SayI S3 p x l := ⟨by rw [b2.1 p 13 (by omega), a2.1 p 13 (by omega)]; exact h.1, by rw [b2.1 p 14 (by omega), a2.1 p 14 (by omega)]; exact h.2⟩
  obtain ⟨S', c1, c2, c3, c4⟩ := C_num90 (g := g) (numU (gG S (50 + 8 * p + 4) m) 10).length g 0 S3 l (by omega) (by omega) hp w3 h3 (by omega)
  refine ⟨S', ?_, ((Fsy.fr a2).tr (Fsy.fr b2)).tr (Fsy.fi c2), c3, _, _, c4⟩
  unfold m_Pg_sayWord_65 m_Pg_sayWord_88
  rw [a1, Option.bind_some, aJ_at (by omega) (by omega), Option.bind_some, g1, b1, Option.bind_some]
  exact c1
theorem C_sayword {m : Nat} (hg : 100000 ≤ g) (pc : PrC S p P) (hl : LC S) (hk : gOK S) (hi : P[i]? = some (s, ws)) (hw : ws[j]? = some w) (hm : m = fsP P i + j) (k10 : w.1 < 10) (k3 : w.1 = 3 → ∃ n : Nat, n < lits.length ∧ w.2.1.toInt = (n : Int)) (lc : LitsC S p lits) (hL : lits.length ≤ 24) (hfl : lits.flatten.length ≤ 3000) (hd : ∃ l ov, Rw S (8 + 3 * p + 2) l ov) (h : SayI S p x l) (hll : l.length < 50000) : ∃ S', m_Pg_sayWord g S p (nI m) = some S' ∧ Fsy p S S' ∧ SayI S' p x (l ++ wS lits w) ∧ ∃ l ov, Rw S' (8 + 3 * p + 2) l ov := by
  have hp := pc.1
  obtain ⟨l0, l1, l2, l3, l4, l5, -, -⟩ := LCp hl hp
  obtain ⟨-, y⟩ := pc.2.2.2.2.2 i s ws hi
  obtain ⟨y1, y2, y3, -⟩ := y j w hw
  have hj := (List.getElem?_eq_some_iff.mp hw).1
  have hm540 : m < 540 := by
    have e := fsP_s hi
    have e2 : fsP P (i + 1) ≤ fsP P P.length := fsP_le
    have e3 := pc.2.2.1
    omega
  rw [← hm] at y1 y2 y3
  obtain ⟨c1, c2, c3⟩ := ck34 w.1 k10
  have a2 : aI S (50 + 8 * p + 2) (nI m) = some (nI (ckW w.1)) := by rw [aI_at (by omega) (by omega), y1]
  have a3 : aI S (50 + 8 * p + 3) (nI m) = some (nI (sgW w.1)) := by rw [aI_at (by omega) (by omega), y2]
  have a4 : aJ S (50 + 8 * p + 4) (nI m) = some w.2.1 := by rw [aJ_at (by omega) (by omega), y3]
  unfold wS
  by_cases q : w.1 = 3
  · rw [if_pos q]
    obtain ⟨n, n1, n2⟩ := k3 q
    obtain ⟨us, hus⟩ : ∃ us, lits[n]? = some us := ⟨lits[n], List.getElem?_eq_getElem n1⟩
    have hss := stC_succ hus
    have hsl := stC_le (cs := lits) (t := n + 1)
    obtain ⟨S1, b1, b2, b3⟩ := C_say (g := g) (u := 34) h (by omega)
    have lc1 : LitsC S1 p lits := ⟨lc.1.fi b2 (by omega), lc.2.fi b2 (by omega)⟩
    obtain ⟨S', d1, d2, d3⟩ := C_lit21 (g := g) (lits := lits) (f := stC lits n) (us := us) us.length g 0 S1 _ (by omega) (by omega) hp hfl (by omega) (fun y hy => by rw [getC hus hy]; exact getD_lt hy) lc1.1 b3 (by simp; omega) hg
    obtain ⟨dl, dov, hd⟩ := hd
    refine ⟨S', ?_, Fsy.fi (b2.tr d2), ?_, ?_⟩
    · unfold m_Pg_sayWord m_Pg_sayLiteral
      rw [a2, Option.bind_some, if_pos (show nI (ckW w.1) = 34 from by rw [c1.mpr q]; rfl), a4, Option.bind_some, j32 n2 (by omega), R_at lc.2, ends_at n1 (by omega), Option.bind_some, b1, Option.bind_some, C_lstart lc1 (by omega) hL, Option.bind_some, hss]
      rw [Nat.add_zero] at d1
      rw [d1, Option.bind_some]
    · rw [n2, Int.toNat_natCast, List.getD_eq_getElem?_getD, hus]
      rw [List.append_assoc, List.singleton_append, List.drop_zero] at d3
      exact d3
    · exact ⟨dl, dov, hd.fi (b2.tr d2) (by omega)⟩
  · rw [if_neg q]
    have h34 : ¬ nI (ckW w.1) = 34 := i_lit (b := 34) (by omega) (by omega) (fun z => q (c1.mp z))
    have s44 : ∀ (T : St) (l : List Int32), Fsy p S T → SayI T p x l → l.length + 30 < 80000 → (∃ l ov, Rw T (8 + 3 * p + 2) l ov) → ∃ S', m_Pg_sayWord_44 g T p (nI m) = some S' ∧ Fsy p T S' ∧ SayI S' p x (l ++ ((if ckW w.1 = 48 then [] else [nI (ckW w.1)]) ++ numU w.2.1 10)) ∧ ∃ l ov, Rw S' (8 + 3 * p + 2) l ov := by
      intro T l fT hT hlT hdT
      have lT := hl.sy fT hp
      have kT := hk.sy fT
      have g4 : ∀ {U : St}, Fsy p S U → gG U (50 + 8 * p + 4) m = w.2.1 := fun {U} f => by rw [show gG U (50 + 8 * p + 4) m = gG S (50 + 8 * p + 4) m from by unfold gG; rw [f.2.2.2.2]]; exact y3
      have e2 : aI T (50 + 8 * p + 2) (nI m) = some (nI (ckW w.1)) := by
        rw [aI_at (by have := (LCp lT hp).2.2.1; omega) (by have := (LCp lT hp).2.2.1; omega), (fT.2.2.2.1 _ (by omega)).2, y1]
      unfold m_Pg_sayWord_44
      rw [e2, Option.bind_some, Option.bind_some]
      by_cases z : ckW w.1 = 48
      · rw [if_pos (show nI (ckW w.1) = 48 from by rw [z]; rfl), if_pos z, List.nil_append]
        obtain ⟨S', d1, d2, d3, d4⟩ := C_saynum (g := g) (m := m) hg hp hT kT lT hdT hm540 (by omega)
        rw [g4 fT] at d3
        exact ⟨S', d1, d2, d3, d4⟩
      · rw [if_neg (show ¬ nI (ckW w.1) = 48 from i_lit (b := 48) (by omega) (by omega) z), if_neg z]
        obtain ⟨T1, b1, b2, b3, b4⟩ := C_sayd (g := g) (u := nI (ckW w.1)) hp hT (by omega) hdT
        rw [b1, Option.bind_some]
        obtain ⟨S', d1, d2, d3, d4⟩ := C_saynum (g := g) (m := m) hg hp b3 (kT.sy b2) (lT.sy b2 hp) b4 hm540 (by simp; omega)
        rw [g4 (fT.tr b2), List.append_assoc] at d3
        exact ⟨S', d1, b2.tr d2, d3, d4⟩
    unfold m_Pg_sayWord
    rw [a2, Option.bind_some, if_neg h34, a3, Option.bind_some, Option.bind_some]
    by_cases z : sgW w.1 = 32
    · rw [if_pos (show nI (sgW w.1) = 32 from by rw [z]; rfl), if_pos z, List.nil_append]
      exact s44 S l Fsy.rf h (by omega) hd
    · rw [if_neg (show ¬ nI (sgW w.1) = 32 from i_lit (b := 32) (by omega) (by omega) z), if_neg z]
      obtain ⟨T1, b1, b2, b3, b4⟩ := C_sayd (g := g) (u := nI (sgW w.1)) hp h (by omega) hd
      rw [b1, Option.bind_some]
      obtain ⟨S', d1, d2, d3, d4⟩ := s44 T1 _ b2 b3 (by simp; omega) b4
      rw [List.append_assoc] at d3
      exact ⟨S', d1, b2.tr d2, d3, d4⟩
end SPX
