/-! the STEPS: intern -/
section INT
variable {U : Nat → Prop} {g k s n : Nat} {S S1 S2 S2b : St} {ws : List Wd} {w0 : Wd} {a : Nat} {φ : Nat → Option Nat} {cs ts : List (List Int32)} {u : Nat} {pl pm ps qs : List Nat} {l : List Int32}
/-- both sides find the same one, or none -/
theorem fnd_rel (hR : ∀ p q, φ p = some q → ∃ l, cs[p]? = some l ∧ ts[q]? = some l) : ∀ (pl pm : List Nat), pl.map φ = pm.map some → (fndP cs l pl = none ∧ fndP ts l pm = none) ∨ ∃ p q, fndP cs l pl = some p ∧ fndP ts l pm = some q ∧ φ p = some q := by
  intro pl
  induction pl with
  | nil =>
    intro pm h
    match pm, h with
    | [], _ => exact Or.inl ⟨rfl, rfl⟩
  | cons p pl ih =>
    intro pm h
    match pm, h with
    | q :: pm, h =>
      rw [List.map_cons, List.map_cons] at h
      obtain ⟨h1, h2⟩ := List.cons.inj h
      obtain ⟨m, m1, m2⟩ := hR p q h1
      unfold fndP
      by_cases e : m = l
      · subst e
        rw [if_pos m1, if_pos m2]
        exact Or.inr ⟨p, q, rfl, rfl, h1⟩
      · rw [if_neg (by rw [m1]; exact fun z => e (Option.some.inj z)), if_neg (by rw [m2]; exact fun z => e (Option.some.inj z))]
        exact ih pm h2
theorem map_mem : ∀ (pl pm : List Nat), pl.map φ = pm.map some → (∀ p ∈ pl, ∃ q, φ p = some q) ∧ ∀ q ∈ pm, ∃ p, φ p = some q := by
  intro pl
  induction pl with
  | nil =>
    intro pm h
    match pm, h with
    | [], _ => exact ⟨fun p hp => absurd hp (by simp), fun p hp => absurd hp (by simp)⟩
  | cons p pl ih =>
    intro pm h
    match pm, h with
    | q :: pm, h =>
      rw [List.map_cons, List.map_cons] at h
      obtain ⟨h1, h2⟩ := List.cons.inj h
      obtain ⟨i1, i2⟩ := ih pm h2
      refine ⟨fun x hx => ?_, fun x hx => ?_⟩
      · rcases List.mem_cons.mp hx with rfl | hx
        · exact ⟨q, h1⟩
        · exact i1 x hx
      · rcases List.mem_cons.mp hx with rfl | hx
        · exact ⟨p, h1⟩
        · exact i2 x hx
end INT
theorem St3 : StOK 3 := by
  intro g U k S S2 ws a hg hk hR c cm hW h0
  obtain ⟨φ, cs, ts, u, pl, pm, ps, qs, r, bd⟩ := hR
  obtain ⟨q1, q2, q3⟩ := hW
  have q1 : 2 ≤ ws.length := q1
  have q2 : ws.length ≤ 2 := q2
  obtain ⟨w0, w1, rfl⟩ := ls2 (show ws.length = 2 by omega)
  have hm := r.2.2.1
  have hT := r.2.2.2.1
  obtain ⟨-, n, hn, hv⟩ := okL_v (show okL U 118 w0 from q3 0 w0 rfl)
  have f1 : F0M S2 (sI S2 0 57 0) := F0M_sI (Or.inl rfl)
  have f2 : F0M S2 (sI (sI S2 0 57 0) 0 58 4) := f1.tr (F0M_sI (Or.inr (Or.inl rfl)))
  have h0' : gI (sI S2 0 57 0) 0 58 = 0 := by rw [gI_ne (by decide)]; exact h0
  have hm' := hm.fs (FS.f0 f1)
  have cm' := cm.fs (FS.f0 f1)
  obtain ⟨x, y, e1, e2, e3, e4⟩ := getT (g := g) (j := 1) (w := w1) r c cm rfl (show okL U 84 w1 from q3 1 w1 rfl) (by decide)
  have hlk := lacks1 (s := 3) (j0 := 1) hg c (show 1 < 2 by decide) (show ∀ j, j < 2 → j ≠ 1 → ¬ lett 3 (nI j) = 84 from by decide +kernel) (by decide +kernel) e1
  rcases e4 with ⟨rfl, rfl⟩ | ⟨p, q, l, rfl, rfl, hpq, hp, hq, l1, l2, l3, l4⟩
  · rw [c01_t rfl] at hlk
    refine ⟨S, sI (sI S2 0 57 0) 0 58 4, 4, doC_no hlk, ?_, fin_no r bd F0C.rf r.2.2.2.2.2.2.2.2.2.2.2.2.2 f2 sI_58 (by decide)⟩
    rw [dM_3, dM2_3 (M_tAt0 (e2 _ f1) h0'), if_neg (by rw [sI_58]; decide)]
    rfl
  · rw [c01_f (m1_ne (by omega))] at hlk
    obtain ⟨S1, s1, s2, s3, s4⟩ := clr (g := g) r.2.2.2.2.2.2.2.2.2.2.2.2.2
    have fc := F0C.fr s2 (Or.inl rfl)
    have rc := RS_0 r fc s4 f1
    have hTc := rc.2.2.2.1
    have hPC : PoC S1 pl := rc.2.2.2.2.1
    have hPM : PoM (sI S2 0 57 0) pm := rc.2.2.2.2.2.1
    have hmap : pl.map φ = pm.map some := rc.2.2.2.2.2.2.1
    have hlen : pl.length = pm.length := by have := congrArg List.length hmap; simpa using this
    have bl : pl.length ≤ 25 + k := bd.2.2.2.2
    have b := C_bounds hTc.1 l1
    have mm := map_mem pl pm hmap
    have hC := C_pooled (g := g) (s := stC cs p) (n := l.length) hg hTc.1 hTc.1.1 hPC (fun z hz => by
      obtain ⟨z', hz'⟩ := mm.1 z hz
      obtain ⟨m, m1, -⟩ := hTc.2.2.1 z z' hz'
      exact (List.getElem?_eq_some_iff.mp m1).1) b.2.2.1
    rw [segC l1, ← stC_succ l1] at hC
    have hM := M_inPool hg hTc.2.1 hm' l2 hPM (fun z hz => by
      obtain ⟨z', hz'⟩ := mm.2 z hz
      obtain ⟨m, -, m2, -⟩ := hTc.2.2.1 z' z hz'
      exact ⟨m, m2⟩)
    have cS := c.fc (FC.f0 fc)
    rcases fnd_rel (l := l) (fun p q h => by obtain ⟨m, m1, m2, -⟩ := hTc.2.2.1 p q h; exact ⟨m, m1, m2⟩) pl pm hmap with ⟨n1, n2⟩ | ⟨p', q', n1, n2, hpq'⟩
    · rw [n1] at hC
      rw [n2] at hM
      have h85 : limC 20 = 85 := by decide +kernel
      obtain ⟨S5, t1, t2, t3⟩ := R_add (g := g) (v := nI p) hPC rc.1
      rw [if_pos (by rw [List.length_map]; omega), if_pos (by rw [List.length_map]; omega)] at t3
      have hPC' : PoC S5 (pl ++ [p]) := by unfold PoC; rw [List.map_append]; exact t3
      obtain ⟨T5, v1, v2, v3⟩ := M_pools (g := g) (t := q) hm' hPM (by omega)
      subst v2
      have r5 := RS_pool rc hpq t2 hPC' v3
      have r6 := RS_gt r5 hn e3
      have fc5 := (FC.f0 fc).tr (FC.row t2 (by unfold stpRow; omega))
      have fs5 : FS S2 (sI (sF (sI S2 0 57 0) 25 pm.length (nI q)) 0 41 (nI (pm.length + 1))) := ((FS.f0 f1).tr (FS_sF (by unfold stpAr; omega))).tr (FS_sI (by unfold stpSl; omega))
      have h05 : gI (sI (sF (sI S2 0 57 0) 25 pm.length (nI q)) 0 41 (nI (pm.length + 1))) 0 58 = 0 := by rw [gI_ne (by decide)]; exact h0'
      refine ⟨sF S5 74 n (nI p), sF (sI (sF (sI S2 0 57 0) 25 pm.length (nI q)) 0 41 (nI (pm.length + 1))) 26 n (nI q), 0, ?_, ?_, h05, by decide, ⟨φ, cs, ts, u, _, _, ps, qs, r6, ?_⟩, fc5.tr (FC_sF (Or.inl rfl)), fs5.tr (FS_sF (by unfold stpAr; omega))⟩
      · rw [doC_T hlk (by decide +kernel), dC_3 e1 s1]
        unfold m_TS_intern
        rw [C_start hTc.1 b.1, Option.bind_some, C_end hTc.1 b.1, Option.bind_some, hC, Option.bind_some, if_pos (show oI none = -1 from rfl), t1, Option.bind_some]
        unfold m_TS_intern_47 m_TS_intern_49
        rw [B_gt (c.fc fc5) r5.2.1 (w := w0) rfl hn hv]
        rfl
      · rw [dM_3, dM2_3 (M_tAt (e2 _ f1) (by omega)), if_pos h0', if_neg (by decide +kernel)]
        unfold m_names_83 m_interned
        rw [if_neg (by decide +kernel), hM, Option.bind_some, if_pos (show oI none < 0 from by decide +kernel), v1, Option.bind_some, Option.bind_some]
        dsimp only
        unfold m_names_103
        rw [M_gt (cm.fs fs5) r5.2.2.1 (w := w0) rfl hn hv h05]
        rfl
      · obtain ⟨b1, b2, b3, b4, b5⟩ := bd
        unfold Bd
        rw [List.length_append, List.length_singleton]
        omega
    · rw [n1] at hC
      rw [n2] at hM
      have hp' : p' < 1465 ∧ q' < 1700 := by
        obtain ⟨m, m1, m2, -⟩ := hTc.2.2.1 p' q' hpq'
        have b3 := bd.2.2.1
        have := (List.getElem?_eq_some_iff.mp m1).1
        have := (List.getElem?_eq_some_iff.mp m2).1
        omega
      refine ⟨sF S1 74 n (nI p'), sF (sI S2 0 57 0) 26 n (nI q'), 0, ?_, ?_, fin_gt r bd fc s4 f1 h0' hn (Or.inr ⟨p', q', rfl, rfl, hpq', hp'.1, hp'.2⟩)⟩
      · rw [doC_T hlk (by decide +kernel), dC_3 e1 s1]
        unfold m_TS_intern
        rw [C_start hTc.1 b.1, Option.bind_some, C_end hTc.1 b.1, Option.bind_some, hC, Option.bind_some, if_neg (show ¬ oI (some p') = -1 from m1_ne (by omega))]
        unfold m_TS_intern_49
        rw [show oI (some p') = nI p' from rfl, B_gt cS rc.2.1 (w := w0) rfl hn hv]
        rfl
      · rw [dM_3, dM2_3 (M_tAt (e2 _ f1) (by omega)), if_pos h0', if_neg (by decide +kernel)]
        unfold m_names_83 m_interned
        rw [if_neg (by decide +kernel), hM, Option.bind_some, if_neg (show ¬ oI (some q') < 0 from nI_pos (by omega)), Option.bind_some]
        dsimp only
        unfold m_names_103
        rw [show oI (some q') = nI q' from rfl, M_gt cm' hm' (w := w0) rfl hn hv h0']
        rfl
