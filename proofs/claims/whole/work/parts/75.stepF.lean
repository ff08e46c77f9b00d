/-! the STEPS: a text is made; copy -/
section FMK
variable {U : Nat → Prop} {g k s n : Nat} {S S1 S2 S2b : St} {ws : List Wd} {w0 : Wd} {a : Nat} {φ : Nat → Option Nat} {cs ts : List (List Int32)} {u : Nat} {pl pm ps qs : List Nat} {l : List Int32}
theorem fin_make (hg : 100000 ≤ g) (hk : k < 60) (r : RS U S S2 φ cs ts u pl pm ps qs) (bd : Bd k cs ts u pl) (c : CurC S ws) (cm : CurM S2 a ws) (hw : ws[0]? = some w0) (hn : n < 20) (hv : w0.2.1.toInt = (n : Int)) (hc : F0C S S1) (hx : XR S1) (w : Rw S1 23 l 0) (hm : F0M S2 S2b) (h0 : gI S2b 0 58 = 0) (ho : Out S2b l) (hl : l.length ≤ 400) (hu : usL l) : ∃ S3 S4 T3 T4 x y, m_Tx_make g S1 23 1 = some (S3, x) ∧ m_Bn_giveText g S3 x = some (S4, 0) ∧ m_made g S2b = some (T3, y) ∧ gI T3 0 58 = 0 ∧ m_givesText g T3 (nI a) y = some T4 ∧ gI T4 0 58 = nI 0 ∧ (0 : Nat) ≤ 5 ∧ RSx U (k + 1) S4 T4 ∧ FC S S4 ∧ FS S2 T4 := by
  have r1 := RS_0 r hc hx hm
  have hT := r1.2.2.2.1
  obtain ⟨b1, b2, b3, b4, b5⟩ := bd
  obtain ⟨S3, s1, s2, s3⟩ := C_make (g := g) (own := 1) hT.1 w (by decide) (by decide) r1.1 (by omega) (by omega) (Or.inl (by decide))
  obtain ⟨T3, t1, t2, t3⟩ := O_made hg hT.2.1 r1.2.2.1 ho (by omega) (by omega) (by omega)
  obtain ⟨r2, e⟩ := RS_mk r1 s2 s3 t2 t3 hl hu (by omega) (by omega)
  have fc : FC S S3 := (FC.f0 hc).tr (FC.frT s2 hT.1 s3)
  have fs : FS S2 T3 := (FS.f0 hm).tr (FS.md t2)
  have h0' : gI T3 0 58 = 0 := (t2.1 58 (by decide) (by decide)).trans h0
  have r3 := RS_gt r2 hn e
  refine ⟨S3, _, T3, _, _, _, s1, B_gt (c.fc fc) (r2.2.1) hw hn hv, t1, h0', M_gt (cm.fs fs) r2.2.2.1 hw hn hv h0', h0', by decide, ⟨_, _, _, _, pl, pm, ps, qs, r3, ?_⟩, fc.tr (FC_sF (Or.inl rfl)), fs.tr (FS_sF (by unfold stpAr; omega))⟩
  unfold Bd
  rw [List.length_append, List.length_append, List.flatten_append, List.length_append, show ([l] : List (List Int32)).flatten = l from by simp, List.length_singleton]
  omega
theorem Out_0 : Out (sI S2 0 57 0) [] := ⟨by simp [gI, sI]; rfl, fun i hi => absurd hi (by simp)⟩
theorem C_addText (hT : TXc S cs) {v : List Int32} (w : Rw S 23 v 0) (hk : gOK S) {p : Nat} (hp : cs[p]? = some l) (h : v.length + l.length ≤ 400) : ∃ S', m_Bn_addText g S (nI p) = some S' ∧ Fr 23 S S' ∧ Rw S' 23 (v ++ l) 0 := by
  have b := C_bounds hT hp
  have h400 : 400 ≤ limC 23 := by decide +kernel
  obtain ⟨S', s1, s2, s3⟩ := R_insert (g := g) (p := v.length) (s := stC cs p) (n := l.length) w hT.1 (by decide) hk (Nat.le_refl _) b.2.2.1
  rw [if_pos (by omega), if_pos (by omega), segC hp, List.take_length, List.drop_length, List.append_nil] at s3
  refine ⟨S', ?_, s2, s3⟩
  unfold m_Bn_addText
  rw [C_start hT b.1, Option.bind_some, C_end hT b.1, Option.bind_some, stC_succ hp, w.2.2.1, s1]
  rfl
end FMK
theorem St2 : StOK 2 := by
  intro g U k S S2 ws a hg hk hR c cm hW h0
  obtain ⟨φ, cs, ts, u, pl, pm, ps, qs, r, bd⟩ := hR
  obtain ⟨q1, q2, q3⟩ := hW
  have q1 : 2 ≤ ws.length := q1
  have q2 : ws.length ≤ 2 := q2
  obtain ⟨w0, w1, rfl⟩ := ls2 (show ws.length = 2 by omega)
  have hl := r.2.1
  have hm := r.2.2.1
  have hT := r.2.2.2.1
  obtain ⟨-, n, hn, hv⟩ := okL_v (show okL U 118 w0 from q3 0 w0 rfl)
  have f1 : F0M S2 (sI S2 0 57 0) := F0M_sI (Or.inl rfl)
  have f2 : F0M S2 (sI (sI S2 0 57 0) 0 58 4) := f1.tr (F0M_sI (Or.inr (Or.inl rfl)))
  have h0' : gI (sI S2 0 57 0) 0 58 = 0 := by rw [gI_ne (by decide)]; exact h0
  have hm' := hm.fs (FS.f0 f1)
  have T2 := hT.2.1.f0 f1
  obtain ⟨x, y, e1, e2, e3, e4⟩ := getT (g := g) (j := 1) (w := w1) r c cm rfl (show okL U 84 w1 from q3 1 w1 rfl) (by decide)
  have hlk := lacks1 (s := 2) (j0 := 1) hg c (show 1 < 2 by decide) (show ∀ j, j < 2 → j ≠ 1 → ¬ lett 2 (nI j) = 84 from by decide +kernel) (by decide +kernel) e1
  rcases e4 with ⟨rfl, rfl⟩ | ⟨p, q, l, rfl, rfl, hpq, hp, hq, l1, l2, l3, l4⟩
  · rw [c01_t rfl] at hlk
    refine ⟨S, sI (sI S2 0 57 0) 0 58 4, 4, doC_no hlk, ?_, fin_no r bd F0C.rf r.2.2.2.2.2.2.2.2.2.2.2.2.2 f2 sI_58 (by decide)⟩
    rw [dM_2, dM2_2 (M_tAt0 (e2 _ f1) h0'), if_neg (by rw [sI_58]; decide)]
    rfl
  · rw [c01_f (m1_ne (by omega))] at hlk
    obtain ⟨S1, s1, s2, s3, s4⟩ := clr (g := g) r.2.2.2.2.2.2.2.2.2.2.2.2.2
    have fc := F0C.fr s2 (Or.inl rfl)
    have rc := RS_0 r fc s4 f1
    obtain ⟨S9, v1, v2, v3⟩ := C_addText (g := g) rc.2.2.2.1.1 s3 rc.1 l1 (by simpa using l3)
    rw [List.nil_append] at v3
    have fc9 := fc.tr (F0C.fr v2 (Or.inl rfl))
    have x9 : XR S9 := by
      obtain ⟨-, ⟨a2, o2, x2⟩, a3, o3, x3⟩ := s4
      exact ⟨⟨l, 0, v3⟩, ⟨a2, o2, x2.fr v2 (by decide)⟩, a3, o3, x3.fr v2 (by decide)⟩
    obtain ⟨S4, m1, m2, m3⟩ := O_text (g := g) (t := q) (a := 0) (b := l.length) (v := []) hg T2 hm' l2 (by omega) (by omega) Out_0 (by simp; omega)
    rw [List.nil_append, Nat.sub_zero, seg_all] at m3
    have fm := f1.tr (F0M.fe m2)
    have h0'' : gI S4 0 58 = 0 := (m2.1 58 (by decide)).trans h0'
    obtain ⟨S3, Sf, T3, Tf, x, y, z1, z2, z3, z4, z5, z6⟩ := fin_make hg hk r bd c cm (w0 := w0) rfl hn hv fc9 x9 v3 fm h0'' m3 l3 l4
    refine ⟨Sf, Tf, 0, ?_, ?_, z6⟩
    · rw [doC_T hlk (by decide +kernel), dC_2 e1 s1, v1, Option.bind_some]
      unfold m_TS_give_130
      rw [z1, Option.bind_some]
      dsimp only
      unfold m_TS_give_146
      rw [z2]
      rfl
    · rw [dM_2, dM2_2 (M_tAt (e2 _ f1) (by omega)), if_pos h0', if_pos (by decide +kernel), (T_size T2 hm' l2).1, Option.bind_some, show m_emitText g (sI S2 0 57 0) (nI q) 0 (nI l.length) = some S4 from m1, Option.bind_some]
      unfold m_names_83
      rw [if_pos (by decide +kernel), z3, Option.bind_some]
      dsimp only
      unfold m_names_103
      rw [z5]
      rfl
