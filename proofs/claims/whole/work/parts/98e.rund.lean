/-! the run loop, whole -/
theorem CurC.fr {o : Nat} {S S' : St} {ws : List Wd} (w : CurC S ws) (h : Fr o S S') (h1 : 10 ≤ o) (h2 : o < 34) : CurC S' ws := by
  obtain ⟨p, f, e1, e2, e3, e4, e5, e6⟩ := w
  have hg : ∀ o k, gR S' o k = gR S o k := fun o k => by unfold gR; rw [h.2.2.1]
  refine ⟨p, f, e1, by rw [hg]; exact e2, (h.1 4 10 (by omega)).trans e3, (h.1 4 11 (by omega)).trans e4, e5, fun j w hw => ?_⟩
  obtain ⟨a, b, c⟩ := e6 j w hw
  exact ⟨((h.2.2.2.1 _ (by omega)).2 _).trans a, ((h.2.2.2.1 _ (by omega)).2 _).trans b, by unfold gG at c ⊢; rw [h.2.2.2.2]; exact c⟩
theorem CurC.sFx {S : St} {ws : List Wd} {a i : Nat} {v : Int32} (w : CurC S ws) (h : a = 79 ∨ a = 80) : CurC (sF S a i v) ws := by
  obtain ⟨p, f, e1, e2, e3, e4, e5, e6⟩ := w
  refine ⟨p, f, e1, e2, e3, e4, e5, fun j w hw => ?_⟩
  obtain ⟨a1, b, c⟩ := e6 j w hw
  exact ⟨(gF_ne (by omega)).trans a1, (gF_ne (by omega)).trans b, c⟩
theorem doC_crs {g s : Nat} {S : St} (h : m_Bn_lacksText g S s = some (S, 0)) (hs : s = 53 ∨ s = 54) : doC g S s = some (S, 0) := by
  unfold doC
  rw [h, Option.bind_some, if_pos rfl]
  have hg : grT.getD s 0 = 4 := by rcases hs with rfl | rfl <;> decide +kernel
  rw [hg, if_neg (by decide), if_neg (by decide), if_neg (by decide), if_neg (by decide), if_neg (by omega)]
theorem ckm_push {S2 : St} {st : Stk} {e w ci : Nat} (wk : CkM S2 st) : CkM (sI (sF (sF S2 35 st.length (nI ci)) 36 st.length (nI e)) 0 61 (nI (st.length + 1))) (st ++ [(e, w, ci)]) := by
  refine ⟨by rw [sI_g, List.length_append, List.length_singleton], fun j t ht => ?_⟩
  show gF (sF (sF S2 35 st.length (nI ci)) 36 st.length (nI e)) 35 j = _ ∧ gF (sF (sF S2 35 st.length (nI ci)) 36 st.length (nI e)) 36 j = _
  by_cases hj : j < st.length
  · rw [List.getElem?_append_left hj] at ht
    rw [gF_ne (by decide), gF_sFi (by omega), gF_sFi (by omega), gF_ne (by decide)]
    exact wk.2 j t ht
  · have hlt := (List.getElem?_eq_some_iff.mp ht).1
    rw [List.length_append, List.length_singleton] at hlt
    have hj : j = st.length := by omega
    subst hj
    simp at ht
    subst ht
    rw [gF_ne (by decide), gF_sF, gF_sF]
    exact ⟨rfl, rfl⟩
section RLM
variable {U : Nat → Prop} {g p q : Nat} {P : Prg}
theorem run_l (hg : 100000 ≤ g) (pk : PrgOK U P) (jk : JdgOK P) : ∀ (d n1 n2 i x3 : Nat) (S S2 : St) (st : Stk), i + d = P.length → d < n1 → d + 1 < n2 → x3 ≤ i → RunI U P p q i S S2 st → ∃ S' S2' kd, m_Rn_perform_9 g n1 S p (nI i) (nI x3) = some (S', kd) ∧ kd = gF S' 79 1 ∧ m_runs_12 g n2 S2 (nI q) (nI i) = some (S2', gI S2' 0 52) ∧ RunE U S' S2' ∧ FRc S S' ∧ FRm S2 S2' := by
  intro d
  induction d using Nat.strongRecOn with
  | ind d ih =>
    intro n1 n2 i x3 S S2 st hd h1 h2 hx3 hI
    obtain ⟨n1, rfl⟩ : ∃ m, n1 = m + 1 := ⟨n1 - 1, by omega⟩
    obtain ⟨n2, rfl⟩ : ∃ m, n2 = m + 1 := ⟨n2 - 1, by omega⟩
    have hIc := hI
    obtain ⟨r, pc, hp, pm, kc, km, si, tal, ⟨e52, e53, e790, e791⟩, ob⟩ := hI
    have hlen := pc.2.1
    have hE : ∀ t ∈ st, t.1 ≤ P.length := fun t ht => by
      obtain ⟨-, -, -, t4, ws, w, t5, -⟩ := si.2.1 t ht
      have := (jk.1 t.2.2 ⟨54, ws, t5, Or.inr rfl⟩).1
      omega
    by_cases hd0 : d = 0
    · exact run_e hg pk jk hIc (by omega) hx3 (fun t ht => by have := hE t ht; omega)
    have hil : i < P.length := by omega
    obtain ⟨s, ws, hi⟩ : ∃ s ws, P[i]? = some (s, ws) := ⟨(P[i]).1, (P[i]).2, List.getElem?_eq_getElem hil⟩
    obtain ⟨hs, hW, hN⟩ := pk i s ws hi
    obtain ⟨Sa, Ta, st', rx, a1, a2, a3, a4, a5, a6, a7, a8, a9, a10⟩ := lv_l (U := U) (g := g) (k := i) (q := q) (i := i) (P := P) st.length g g st S S2 rfl (by have := si.1; omega) (by have := si.1; omega) (by have := si.1; omega) (by omega) kc km si (fun t ht => by have := hE t ht; omega) pm r
    subst a5
    have si' := si.pre
    have pca := pc.fr a8
    have pma := pm.fr a9
    have hpa : gR Sa 4 9 = p := by
      unfold gR at hp ⊢
      rw [a8.2.2.2.1]
      exact hp
    have a7c := a7
    obtain ⟨φ, cs, ts, u, pl, pm', ps, qs, ra, ba⟩ := a7c
    have hla := ra.2.1
    have hma := ra.2.2.1
    have h11 : gN S2 11 = 3 := by
      have : gN Ta 11 = 3 := LMn hma 11
      rw [← this]
      unfold gN
      rw [a9.2.2.2.1]
    have h6 : gN Ta 6 = 180 := LMn hma 6
    have h7 : gN Ta 7 = 180 := LMn hma 7
    obtain ⟨S3, g1, g2, g3, g4, g5, g6, g7⟩ := C_goTo (g := g) pca hpa hla hi hs a3
    have hq := pm.1
    have eC0 : ∀ S' kd, doC g S3 s = some (S', kd) → m_Rn_perform_9 g (n1 + 1) S p (nI i) (nI x3) = m_Rn_perform_172 g (m_Rn_perform_9 g n1) S' p (nI i) (nI x3) s kd := by
      intro S' kd hdo
      obtain ⟨S6, v7, l1, l2⟩ := perf_s (k9 := m_Rn_perform_9 g n1) (x1 := p) (x2 := nI i) (x3 := nI x3) hdo
      show b_Rn_perform_9 g (m_Rn_perform_9 g n1) S p (nI i) (nI x3) = _
      unfold b_Rn_perform_9 m_Rn_leaveCatches
      rw [if_neg (show ¬ (60 : Int32) ≤ nI x3 from nI_ge (b := 60) (by omega) (by omega)), pc.2.2.2.1, if_neg (nI_ge hil (by omega)), lt_d, kc.1.2.2.1, List.length_map, a1, Option.bind_some, g1, Option.bind_some, g4, Option.bind_some, l1, Option.bind_some]
      exact l2
    have eM0 : m_runs_12 g (n2 + 1) S2 (nI q) (nI i) = ((m_steps g Ta (nI q) (nI i)).bind fun z => m_runs_12 g n2 z.1 (nI q) z.2) := by
      show b_runs_12 g (m_runs_12 g n2) S2 (nI q) (nI i) = _
      unfold b_runs_12 m_leaves
      rw [aI_at (by omega) (by omega), pm.2.2.1, Option.bind_some, if_neg (nI_ge hil (by omega)), e52, if_neg (by decide), a2, Option.bind_some]
    have hidx : (nI q * (60 : Int32)) + nI i = nI (60 * q + i) := by
      rw [show (60 : Int32) = nI 60 from rfl, nI_mulE, nI_add, Nat.mul_comm]
    obtain ⟨d1, d2, d3, d4⟩ := pma.2.2.2 i s ws hi
    have fkb : FKm Ta (sI Ta 0 58 0) := FKm.sI (by omega)
    have hmb : LM (sI Ta 0 58 0) := hma
    have pmb := pma.fr (FRm.fk fkb)
    have rb : RSx U i S3 (sI Ta 0 58 0) := a7.k g2 fkb
    have cmb : CurM (sI Ta 0 58 0) (10 * (60 * q + i)) ws := M_cur pmb hi
    have h0b : gI (sI Ta 0 58 0) 0 58 = 0 := sI_g
    have fS3 : FRc S S3 := a8.tr (FRc.fk g2)
    have fTb : FRm S2 (sI Ta 0 58 0) := a9.tr (FRm.fk fkb)
    have tf3 : TF S S3 S2 (sI Ta 0 58 0) := a10.tr ⟨g6, g7, fun k a b => gI_ne (by omega), fun _ => rfl⟩
    have pc3 := pc.fr fS3
    have hl3 : LC S3 := by
      obtain ⟨_, _, _, _, _, _, _, _, rb', -⟩ := rb
      exact rb'.2.1
    have hk3 : gOK S3 := by
      obtain ⟨_, _, _, _, _, _, _, _, rb', -⟩ := rb
      exact rb'.1
    have a4b : CkM (sI Ta 0 58 0) st' := a4.si (by decide)
    -- how the loop goes on
    have FIN : ∀ (e : Nat) (S5 T5 : St) (st5 : Stk), i < e → e ≤ P.length → RSx U (i + 1) S5 T5 → FRc S S5 → FRm S2 T5 → CkC S5 st5 → CkM T5 st5 → StI P st5 e → Tal S5 T5 → gI T5 0 52 = -1 → gI T5 0 53 = 0 → gF S5 79 0 = -1 → gF S5 79 1 = 0 → (∀ b, GB P e b → ¬ gF S5 77 b = -1) → m_Rn_perform_9 g (n1 + 1) S p (nI i) (nI x3) = m_Rn_perform_9 g n1 S5 p (nI e) (nI (x3 + 1)) → m_runs_12 g (n2 + 1) S2 (nI q) (nI i) = m_runs_12 g n2 T5 (nI q) (nI e) → ∃ S' S2' kd, m_Rn_perform_9 g (n1 + 1) S p (nI i) (nI x3) = some (S', kd) ∧ kd = gF S' 79 1 ∧ m_runs_12 g (n2 + 1) S2 (nI q) (nI i) = some (S2', gI S2' 0 52) ∧ RunE U S' S2' ∧ FRc S S' ∧ FRm S2 S2' := by
      intro e S5 T5 st5 hie heP r5 f5 m5 kc5 km5 si5 ta5 z1 z2 z3 z4 ob5 EC EM
      have hp5 : gR S5 4 9 = p := by
        unfold gR at hp ⊢
        rw [f5.2.2.2.1]
        exact hp
      obtain ⟨S', S2', kd, y1, y1', y2, y3, y4, y5⟩ := ih (P.length - e) (by omega) n1 n2 e (x3 + 1) S5 T5 st5 (by omega) (by omega) (by omega) (by omega) ⟨r5.le (by omega), pc.fr f5, hp5, pm.fr m5, kc5, km5, si5, ta5, ⟨z1, z2, z3, z4⟩, ob5⟩
      exact ⟨S', S2', kd, EC.trans y1, y1', EM.trans y2, y3, f5.tr y4, m5.tr y5⟩
    have stI1 : StI P st' (i + 1) := ⟨by have := si'.1; omega, fun t ht => by
      obtain ⟨t1, t2, t3⟩ := si'.2.1 t ht
      have := a6 t ht
      exact ⟨by omega, by omega, t3⟩, si'.2.2⟩
    have nest : opP P i → ∀ t ∈ st', rgP P i ≤ t.1 := by
      intro ho t ht
      obtain ⟨t1, t2, t3, t4, ws', w, t5, -⟩ := si'.2.1 t ht
      rw [t4]
      exact (jk.1 t.2.2 ⟨54, ws', t5, Or.inr rfl⟩).2 i t2 (by rw [← t4]; exact a6 t ht) ho
    by_cases h54 : s = 54
    · subst h54
      obtain ⟨w1, n, hw1, hn, hv1⟩ := hN (Or.inr rfl)
      obtain ⟨q1, q2, q3⟩ := hW
      have q1 : 2 ≤ ws.length := q1
      have q2 : ws.length ≤ 2 := q2
      obtain ⟨w0, w1', rfl⟩ := ls2 (show ws.length = 2 by omega)
      obtain ⟨-, wv, hwv, hv0⟩ := okL_w (show okL U 119 w0 from q3 0 w0 rfl)
      have ho : opP P i := ⟨54, _, hi, Or.inr rfl⟩
      have hrl := (jk.1 i ho).1
      have hrg := rgP_e hi
      have hdo := doC_crs (lacks0 (g := g) (s := 54) hg g3 (show ∀ j, j < 2 → ¬ lett 54 (nI j) = 84 from by decide +kernel)) (Or.inr rfl)
      have EC := eC0 _ _ hdo
      rw [C_done pc3 hl3 hi (by decide)] at EC
      have kcd : CkC (sF (sF S3 79 2 (gF S3 79 2 + 1)) 80 54 (gF S3 80 54 + 1)) st' := (g5.sf (by decide)).sf (by decide)
      have fkd : FKc S3 (sF (sF S3 79 2 (gF S3 79 2 + 1)) 80 54 (gF S3 80 54 + 1)) := (FKc.sF (Or.inl rfl)).tr (FKc.sF (Or.inr rfl))
      have hkd : gOK (sF (sF S3 79 2 (gF S3 79 2 + 1)) 80 54 (gF S3 80 54 + 1)) := hk3
      have hld : LC (sF (sF S3 79 2 (gF S3 79 2 + 1)) 80 54 (gF S3 80 54 + 1)) := hl3
      have hst : st'.length < 60 := by have := si'.1; omega
      have wk := kcd
      obtain ⟨S5, b1, b2, b3⟩ := R_add (g := g) (v := nI (rgP P i)) wk.1 hkd
      rw [lim32.1, if_pos (by rw [List.length_map]; exact hst), if_pos (by rw [List.length_map]; exact hst)] at b3
      have hl5 : LC S5 := fun a ha => ((b2.2.2.2.1 a (by omega)).1).trans (hld a ha)
      obtain ⟨S6, c1, c2, c3⟩ := R_add (g := g) (v := nI wv) (wk.2.fr b2 (by decide)) (hkd.fr b2)
      rw [lim32.2, if_pos (by rw [List.length_map]; exact hst), if_pos (by rw [List.length_map]; exact hst)] at c3
      have fk6 : FKc S3 S6 := (fkd.tr (FKc.fr b2 (Or.inl rfl))).tr (FKc.fr c2 (Or.inr rfl))
      have cur5 : CurC S5 [w0, w1'] := ((g3.sFx (Or.inl rfl)).sFx (Or.inr rfl)).fr b2 (by decide) (by decide)
      have hnx : m_Rn_nextBehind g (sF (sF S3 79 2 (gF S3 79 2 + 1)) 80 54 (gF S3 80 54 + 1)) p (nI i) 54 = some (S6, nI (i + 1)) := by
        unfold m_Rn_nextBehind
        rw [if_pos rfl, C_rgE (pc3.fr (FRc.fk fkd)) hld hi hw1 hn hv1, Option.bind_some, b1, Option.bind_some]
        unfold m_Rn_nextBehind_19
        rw [show m_Bn_valueAt g S5 0 = some w0.2.1 from B_val (j := 0) cur5 hl5 rfl, Option.bind_some, j32 hv0 (by omega), c1, Option.bind_some]
        unfold m_Rn_nextBehind_35 m_Rn_nextBehind_59 m_Rn_nextBehind_60
        rw [if_neg (by decide), if_pos rfl, nI_1]
      rw [hnx, Option.bind_some] at EC
      -- the reference
      have h35 : 60 ≤ gN (sI Ta 0 58 0) 35 ∧ gN (sI Ta 0 58 0) 35 < 2 ^ 31 := by rw [LMn hmb 35]; decide +kernel
      have h36 : 60 ≤ gN (sI Ta 0 58 0) 36 ∧ gN (sI Ta 0 58 0) 36 < 2 ^ 31 := by rw [LMn hmb 36]; decide +kernel
      have km6 := ckm_push (e := rgP P i) (w := wv) (ci := i) a4b
      generalize hT6 : sI (sF (sF (sI Ta 0 58 0) 35 st'.length (nI i)) 36 st'.length (nI (rgP P i))) 0 61 (nI (st'.length + 1)) = T6 at km6
      have fkT6 : FKm (sI Ta 0 58 0) T6 := by rw [← hT6]; exact ((FKm.sF (by omega)).tr (FKm.sF (by omega))).tr (FKm.sI (by omega))
      have h06 : gI T6 0 58 = 0 := by rw [← hT6, gI_ne (by decide)]; exact h0b
      have tf6 : TF S S3 S2 T6 := tf3.tr ⟨fun _ => rfl, fun _ => rfl, fun k a b => by rw [← hT6, gI_ne (by omega)]; rfl, fun j => by rw [← hT6]; show gF (sF (sF (sI Ta 0 58 0) 35 st'.length (nI i)) 36 st'.length (nI (rgP P i))) 31 j = _; rw [gF_ne (by decide), gF_ne (by decide)]⟩
      have hm6 : LM T6 := hmb.of fkT6.2.2.2.1
      obtain ⟨v, v1, v2⟩ := M_rgE (S2 := sF (sI Ta 0 58 0) 35 st'.length (nI i)) (pmb.fr (FRm.fk (FKm.sF (by omega)))) hmb hi hw1 hn hv1
      have hst54 : m_steps g Ta (nI q) (nI i) = m_steps_98 g T6 (nI q) (nI i) (nI (60 * q + i)) (nI 54) := by
        unfold m_steps
        rw [lt_d, hidx, aI_at (by omega) (by omega), d2, Option.bind_some, lt_d, if_pos (show nI 54 = 54 from rfl), a4b.1, tI_at (by omega) h35.2, Option.bind_some, v1, Option.bind_some, v2, show gI (sF (sI Ta 0 58 0) 35 st'.length (nI i)) 0 61 = nI st'.length from a4b.1, tI_at (by show st'.length < gN (sI Ta 0 58 0) 36; omega) (by show gN (sI Ta 0 58 0) 36 < 2 ^ 31; omega), Option.bind_some, lt_d, show gI (sF (sF (sI Ta 0 58 0) 35 st'.length (nI i)) 36 st'.length (nI (rgP P i))) 0 61 = nI st'.length from a4b.1, nI_1, hT6]
      rw [hst54, M_done hm6 h06 (by decide) (by decide), Option.bind_some] at eM0
      have ta6 := (tal.tf tf6).done (s := 54) |>.resolve_right (by decide)
      have tf79 : ∀ j, gF S6 79 j = gF (sF (sF S3 79 2 (gF S3 79 2 + 1)) 80 54 (gF S3 80 54 + 1)) 79 j := fun j => ((c2.2.2.2.1 79 (by decide)).2 j).trans ((b2.2.2.2.1 79 (by decide)).2 j)
      have tf80 : ∀ j, gF S6 80 j = gF (sF (sF S3 79 2 (gF S3 79 2 + 1)) 80 54 (gF S3 80 54 + 1)) 80 j := fun j => ((c2.2.2.2.1 80 (by decide)).2 j).trans ((b2.2.2.2.1 80 (by decide)).2 j)
      have fkTd : FKm T6 (sI (sF T6 31 54 (gF T6 31 54 + 1)) 0 54 (gI T6 0 54 + 1)) := (FKm.sF (by omega)).tr (FKm.sI (by omega))
      refine FIN (i + 1) S6 (sI (sF T6 31 54 (gF T6 31 54 + 1)) 0 54 (gI T6 0 54 + 1)) (st' ++ [(rgP P i, wv, i)]) (by omega) (by omega) ((rb.k fk6 (fkT6.tr fkTd)).up) (fS3.tr (FRc.fk fk6)) ((fTb.tr (FRm.fk fkT6)).tr (FRm.fk fkTd)) ⟨by rw [List.map_append]; exact b3.fr c2 (by decide), by rw [List.map_append]; exact c3⟩ ((km6.s31).si (by decide)) ⟨?_, ?_, ?_⟩ (ta6.tf ⟨tf79, tf80, fun _ _ _ => rfl, fun _ => rfl⟩) ?_ ?_ ?_ ?_ ?_ EC eM0
      · rw [List.length_append, List.length_singleton]
        have := si'.1
        omega
      · intro t ht
        rcases List.mem_append.mp ht with ht | ht
        · exact stI1.2.1 t ht
        · rw [List.mem_singleton] at ht
          subst ht
          exact ⟨by show i + 1 ≤ rgP P i; omega, by show i < i + 1; omega, hwv, rfl, _, w0, hi, rfl, hv0⟩
      · refine List.pairwise_append.mpr ⟨si'.2.2, List.pairwise_singleton _ _, fun t ht t' ht' => ?_⟩
        rw [List.mem_singleton] at ht'
        subst ht'
        exact nest ho t ht
      · rw [gI_ne (by decide)]
        exact (tf6.2.2.1 52 (by decide) (by decide)).trans e52
      · rw [gI_ne (by decide)]
        exact (tf6.2.2.1 53 (by decide) (by decide)).trans e53
      · rw [tf79, gF_ne (by decide), gF_sFi (by decide), tf6.1, e790]
      · rw [tf79, gF_ne (by decide), gF_sFi (by decide), tf6.1, e791]
      · intro b hb
        exact (fS3.tr (FRc.fk fk6)).2.2.2.2.2.2.1 b (ob b (GB_next hb (by omega) (fun k k1 k2 k3 => by
          have : k = i := by omega
          subst this
          exact (opP_gv ho k3).elim)))
    by_cases h53 : s = 53
    · subst h53
      obtain ⟨w1, n, hw1, hn, hv1⟩ := hN (Or.inl rfl)
      obtain ⟨q1, q2, q3⟩ := hW
      have q1 : 2 ≤ ws.length := q1
      have q2 : ws.length ≤ 2 := q2
      obtain ⟨w0, w1', rfl⟩ := ls2 (show ws.length = 2 by omega)
      have ow : okW w0 := okL_W (show okL U 87 w0 from q3 0 w0 rfl)
      have ho : opP P i := ⟨53, _, hi, Or.inl rfl⟩
      have hrl := (jk.1 i ho).1
      have hrg := rgP_e hi
      have hdo := doC_crs (lacks0 (g := g) (s := 53) hg g3 (show ∀ j, j < 2 → ¬ lett 53 (nI j) = 84 from by decide +kernel)) (Or.inl rfl)
      have EC := eC0 _ _ hdo
      rw [C_done pc3 hl3 hi (by decide)] at EC
      have fkd : FKc S3 (sF (sF S3 79 2 (gF S3 79 2 + 1)) 80 53 (gF S3 80 53 + 1)) := (FKc.sF (Or.inl rfl)).tr (FKc.sF (Or.inr rfl))
      have kcd : CkC (sF (sF S3 79 2 (gF S3 79 2 + 1)) 80 53 (gF S3 80 53 + 1)) st' := (g5.sf (by decide)).sf (by decide)
      have hld : LC (sF (sF S3 79 2 (gF S3 79 2 + 1)) 80 53 (gF S3 80 53 + 1)) := hl3
      have curd : CurC (sF (sF S3 79 2 (gF S3 79 2 + 1)) 80 53 (gF S3 80 53 + 1)) [w0, w1'] := (g3.sFx (Or.inl rfl)).sFx (Or.inr rfl)
      have hWR : WR S3 (sI Ta 0 58 0) := by
        obtain ⟨_, _, _, _, _, _, _, _, rb', -⟩ := rb
        exact rb'.2.2.2.2.2.2.2.2.1
      have hWRd : WR (sF (sF S3 79 2 (gF S3 79 2 + 1)) 80 53 (gF S3 80 53 + 1)) (sI Ta 0 58 0) := hWR
      have fkTd : FKm (sI Ta 0 58 0) (sI (sF (sI Ta 0 58 0) 31 53 (gF (sI Ta 0 58 0) 31 53 + 1)) 0 54 (gI (sI Ta 0 58 0) 0 54 + 1)) := (FKm.sF (by omega)).tr (FKm.sI (by omega))
      have h31 : gN (sI Ta 0 58 0) 31 = 56 := LMn hmb 31
      obtain ⟨v, v1, v2⟩ := M_rgE (S2 := sI (sF (sI Ta 0 58 0) 31 53 (gF (sI Ta 0 58 0) 31 53 + 1)) 0 54 (gI (sI Ta 0 58 0) 0 54 + 1)) (pmb.fr (FRm.fk fkTd)) hmb hi hw1 hn hv1
      have mv : m_value g (sI (sF (sI Ta 0 58 0) 31 53 (gF (sI Ta 0 58 0) 31 53 + 1)) 0 54 (gI (sI Ta 0 58 0) 0 54 + 1)) ((10 : Int32) * nI (60 * q + i)) = some (valW (sI Ta 0 58 0) w0) := by
        rw [show (10 : Int32) = nI 10 from rfl, nI_mulE, show nI (10 * (60 * q + i)) = nI (10 * (60 * q + i) + 0) from rfl]
        exact M_value (g := g) (j := 0) (w := w0) (M_cur (pmb.fr (FRm.fk fkTd)) hi) hmb rfl ow
      have hst53 : m_steps g Ta (nI q) (nI i) = some (sI (sF (sI Ta 0 58 0) 31 53 (gF (sI Ta 0 58 0) 31 53 + 1)) 0 54 (gI (sI Ta 0 58 0) 0 54 + 1), if valW (sI Ta 0 58 0) w0 = 0 then nI (rgP P i) else nI (i + 1)) := by
        unfold m_steps
        rw [lt_d, hidx, aI_at (by omega) (by omega), d2, Option.bind_some, lt_d, if_neg (by decide), if_pos (show nI 53 = 53 from rfl)]
        unfold m_steps_98
        rw [if_pos h0b, aI_at (by omega) (by omega), Option.bind_some, tI_at (by omega) (by omega), Option.bind_some, lt_d, if_pos (show nI 53 = 53 from rfl)]
        show ((m_value g (sI (sF (sI Ta 0 58 0) 31 53 (gF (sI Ta 0 58 0) 31 53 + 1)) 0 54 (gI (sI Ta 0 58 0) 0 54 + 1)) ((10 : Int32) * nI (60 * q + i))).bind fun v_7 => if v_7 = (0 : Int64) then ((aJ (sI (sF (sI Ta 0 58 0) 31 53 (gF (sI Ta 0 58 0) 31 53 + 1)) 0 54 (gI (sI Ta 0 58 0) 0 54 + 1)) 10 (((10 : Int32) * nI (60 * q + i)) + (1 : Int32))).bind fun v_8 => some (sI (sF (sI Ta 0 58 0) 31 53 (gF (sI Ta 0 58 0) 31 53 + 1)) 0 54 (gI (sI Ta 0 58 0) 0 54 + 1), (nI i + (1 : Int32)) + (v_8.toInt32))) else some (sI (sF (sI Ta 0 58 0) 31 53 (gF (sI Ta 0 58 0) 31 53 + 1)) 0 54 (gI (sI Ta 0 58 0) 0 54 + 1), nI i + (1 : Int32))) = _
        rw [mv, Option.bind_some, v1, Option.bind_some, v2, nI_1]
        by_cases hz : valW (sI Ta 0 58 0) w0 = 0
        · rw [if_pos hz, if_pos hz]
        · rw [if_neg hz, if_neg hz]
      rw [hst53, Option.bind_some] at eM0
      have hnx : m_Rn_nextBehind g (sF (sF S3 79 2 (gF S3 79 2 + 1)) 80 53 (gF S3 80 53 + 1)) p (nI i) 53 = some (sF (sF S3 79 2 (gF S3 79 2 + 1)) 80 53 (gF S3 80 53 + 1), if valW (sI Ta 0 58 0) w0 = 0 then nI (rgP P i) else nI (i + 1)) := by
        unfold m_Rn_nextBehind m_Rn_nextBehind_35 m_Rn_nextBehind_59 m_Rn_nextBehind_60
        rw [if_neg (by decide), if_pos rfl, show m_Bn_wholeAt g (sF (sF S3 79 2 (gF S3 79 2 + 1)) 80 53 (gF S3 80 53 + 1)) 0 = some (valW (sI Ta 0 58 0) w0) from B_whole (S2 := sI Ta 0 58 0) (j := 0) curd hld rfl ow hWRd, Option.bind_some, C_rgE (pc3.fr (FRc.fk fkd)) hld hi hw1 hn hv1, Option.bind_some, nI_1]
        by_cases hz : valW (sI Ta 0 58 0) w0 = 0
        · rw [if_pos hz, if_pos hz, if_neg (by decide)]
        · rw [if_neg hz, if_neg hz, if_pos rfl]
      rw [hnx, Option.bind_some] at EC
      have ta6 := (tal.tf tf3).done (s := 53) |>.resolve_right (by decide)
      have k52 : gI (sI (sF (sI Ta 0 58 0) 31 53 (gF (sI Ta 0 58 0) 31 53 + 1)) 0 54 (gI (sI Ta 0 58 0) 0 54 + 1)) 0 52 = -1 := by
        rw [gI_ne (by decide)]
        exact (tf3.2.2.1 52 (by decide) (by decide)).trans e52
      have k53 : gI (sI (sF (sI Ta 0 58 0) 31 53 (gF (sI Ta 0 58 0) 31 53 + 1)) 0 54 (gI (sI Ta 0 58 0) 0 54 + 1)) 0 53 = 0 := by
        rw [gI_ne (by decide)]
        exact (tf3.2.2.1 53 (by decide) (by decide)).trans e53
      have k790 : gF (sF (sF S3 79 2 (gF S3 79 2 + 1)) 80 53 (gF S3 80 53 + 1)) 79 0 = -1 := by rw [gF_ne (by decide), gF_sFi (by decide), tf3.1, e790]
      have k791 : gF (sF (sF S3 79 2 (gF S3 79 2 + 1)) 80 53 (gF S3 80 53 + 1)) 79 1 = 0 := by rw [gF_ne (by decide), gF_sFi (by decide), tf3.1, e791]
      have km6 : CkM (sI (sF (sI Ta 0 58 0) 31 53 (gF (sI Ta 0 58 0) 31 53 + 1)) 0 54 (gI (sI Ta 0 58 0) 0 54 + 1)) st' := (a4b.s31).si (by decide)
      by_cases hz : valW (sI Ta 0 58 0) w0 = 0
      · rw [if_pos hz] at EC eM0
        refine FIN (rgP P i) _ _ st' (by omega) hrl ((rb.k fkd fkTd).up) (fS3.tr (FRc.fk fkd)) (fTb.tr (FRm.fk fkTd)) kcd km6 ⟨by have := si'.1; omega, fun t ht => ?_, si'.2.2⟩ ta6 k52 k53 k790 k791 (fun b hb => ?_) EC eM0
        · obtain ⟨t1, t2, t3⟩ := si'.2.1 t ht
          exact ⟨nest ho t ht, by omega, t3⟩
        · exact (fS3.tr (FRc.fk fkd)).2.2.2.2.2.2.1 b (ob b (GB_next hb (by omega) (fun k k1 k2 k3 => by
            by_cases e : k = i
            · subst e
              exact (opP_gv ho k3).elim
            · exact ⟨i, by omega, ho, k2, by omega⟩)))
      · rw [if_neg hz] at EC eM0
        refine FIN (i + 1) _ _ st' (by omega) (by omega) ((rb.k fkd fkTd).up) (fS3.tr (FRc.fk fkd)) (fTb.tr (FRm.fk fkTd)) kcd km6 stI1 ta6 k52 k53 k790 k791 (fun b hb => ?_) EC eM0
        exact (fS3.tr (FRc.fk fkd)).2.2.2.2.2.2.1 b (ob b (GB_next hb (by omega) (fun k k1 k2 k3 => by
          have : k = i := by omega
          subst this
          exact (opP_gv ho k3).elim)))
    -- all other STEPS
    have hop : OpB S3 s ws := fun j w b hw hk hB hv => fS3.2.2.2.2.2.2.1 b (ob b (jk.2 i s ws j w b hi hw hk hB hv))
    obtain ⟨S', T', kd, x1, x2, x4, x5, x6, x7, x8⟩ := StAll s hs h53 h54 g U i S3 (sI Ta 0 58 0) ws (10 * (60 * q + i)) hg (by omega) rb g3 cmb hW hop h0b
    have EC := eC0 _ _ x1
    have hstO : m_steps g Ta (nI q) (nI i) = m_steps_98 g T' (nI q) (nI i) (nI (60 * q + i)) (nI s) := by
      unfold m_steps
      rw [lt_d, hidx, aI_at (by omega) (by omega), d2, Option.bind_some, lt_d, if_neg (show ¬ nI s = (54 : Int32) from i_lit (b := 54) (by omega) (by omega) h54), if_neg (show ¬ nI s = (53 : Int32) from i_lit (b := 53) (by omega) (by omega) h53), aI_at (by show 60 * q + i < gN Ta 7; omega) (by show gN Ta 7 < 2 ^ 31; omega), show gF (sI Ta 0 58 0) 7 (60 * q + i) = nI ws.length from d3, Option.bind_some, show (10 : Int32) = nI 10 from rfl, nI_mulE, x2, Option.bind_some]
    rw [hstO] at eM0
    have fS' : FRc S S' := fS3.tr (FRc.fc x7)
    have fT' : FRm S2 T' := fTb.tr (FRm.fs x8)
    have tf' : TF S S' S2 T' := tf3.tr (TF.st x7 x8)
    have pc' := pc.fr fS'
    have x6c := x6
    obtain ⟨_, _, _, _, _, _, _, _, rr', -⟩ := x6c
    have hl' : LC S' := rr'.2.1
    have hm' : LM T' := rr'.2.2.1
    have kc' : CkC S' st' := g5.fc x7
    have km' : CkM T' st' := a4b.fs x8
    by_cases hkd : kd = 0
    · subst hkd
      rw [show nI 0 = 0 from rfl] at EC x4 x1
      rw [C_done pc' hl' hi hs] at EC
      have hnx : ∀ Z, m_Rn_nextBehind g Z p (nI i) s = some (Z, nI (i + 1)) := by
        intro Z
        unfold m_Rn_nextBehind m_Rn_nextBehind_35 m_Rn_nextBehind_59 m_Rn_nextBehind_60
        rw [if_neg h54, if_neg h53, if_pos rfl, nI_1]
      rw [hnx, Option.bind_some] at EC
      rw [M_done hm' x4 hs h53, Option.bind_some] at eM0
      have fkd : FKc S' (sF (sF S' 79 2 (gF S' 79 2 + 1)) 80 s (gF S' 80 s + 1)) := (FKc.sF (Or.inl rfl)).tr (FKc.sF (Or.inr rfl))
      have fkTd : FKm T' (sI (sF T' 31 s (gF T' 31 s + 1)) 0 54 (gI T' 0 54 + 1)) := (FKm.sF (by omega)).tr (FKm.sI (by omega))
      have ta6 := (tal.tf tf').done (s := s) |>.resolve_right (fun z => z hs)
      refine FIN (i + 1) _ _ st' (by omega) (by omega) (x6.k fkd fkTd) (fS'.tr (FRc.fk fkd)) (fT'.tr (FRm.fk fkTd)) ((kc'.sf (by decide)).sf (by decide)) ((km'.s31).si (by decide)) stI1 ta6 ?_ ?_ ?_ ?_ (fun b hb => ?_) EC eM0
      · rw [gI_ne (by decide)]
        exact (tf'.2.2.1 52 (by decide) (by decide)).trans e52
      · rw [gI_ne (by decide)]
        exact (tf'.2.2.1 53 (by decide) (by decide)).trans e53
      · rw [gF_ne (by decide), gF_sFi (by decide), tf'.1, e790]
      · rw [gF_ne (by decide), gF_sFi (by decide), tf'.1, e791]
      · by_cases hgv : gvB P i b
        · obtain ⟨s0, ws0, w0, y1, y2, y3, y4⟩ := hgv
          have hh := Option.some.inj (hi.symm.trans y1)
          have hs0 : s = s0 := congrArg Prod.fst hh
          have hws : ws = ws0 := congrArg Prod.snd hh
          subst hs0 hws
          show ¬ gF (sF (sF S' 79 2 (gF S' 79 2 + 1)) 80 s (gF S' 80 s + 1)) 77 b = -1
          rw [gF_ne (by decide), gF_ne (by decide)]
          rcases y2 with rfl | rfl
          · exact Opn34 g U i S3 (sI Ta 0 58 0) ws _ hg (by omega) rb g3 cmb hW h0b S' x1 w0 b y3 y4
          · exact Opn35 g U i S3 (sI Ta 0 58 0) ws _ hg (by omega) rb g3 cmb hW h0b S' x1 w0 b y3 y4
        · exact (fS'.tr (FRc.fk fkd)).2.2.2.2.2.2.1 b (ob b (GB_next hb (by omega) (fun k k1 k2 k3 => by
            have : k = i := by omega
            subst this
            exact absurd k3 hgv)))
    -- the STEP is refused
    have h79 : gN S' 79 = 4 := hl' 79 (by decide)
    have hne : ¬ nI kd = 0 := nI_ne0 (by omega) (by omega)
    have fk9 : FKc S' (sF S' 79 3 (gF S' 79 3 + 1)) := FKc.sF (Or.inl rfl)
    have fk5 : FKm T' (sI T' 0 55 (gI T' 0 55 + 1)) := FKm.sI (by omega)
    have ta9 : Tal (sF S' 79 3 (gF S' 79 3 + 1)) (sI T' 0 55 (gI T' 0 55 + 1)) := by
      have ta' := tal.tf tf'
      refine ⟨fun z hz => ?_, ?_, ?_⟩
      · rw [gF_ne (by decide)]
        exact ta'.1 z hz
      · rw [gF_sFi (by decide), gI_ne (by decide)]
        exact ta'.2.1
      · rw [gF_sF, sI_g, ta'.2.2]
    have kc9 : CkC (sF S' 79 3 (gF S' 79 3 + 1)) st' := kc'.sf (by decide)
    have km5 : CkM (sI T' 0 55 (gI T' 0 55 + 1)) st' := km'.si (by decide)
    unfold m_Rn_perform_172 at EC
    rw [if_neg hne, show (3 : Int32) = nI 3 from rfl, aI_at (by omega) (by omega), Option.bind_some, tI_at (by omega) (by omega), Option.bind_some, kc9.1.2.2.1, List.length_map] at EC
    unfold m_steps_98 at eM0
    rw [x4, if_neg hne, lt_d, bS2] at eM0
    unfold m_refused at eM0
    rw [km5.1] at eM0
    by_cases hem : st' = []
    · subst hem
      have EC2 : m_Rn_perform_9 g (n1 + 1) S p (nI i) (nI x3) = some (sF (sF (sF S' 79 3 (gF S' 79 3 + 1)) 79 0 (nI i)) 79 1 (nI kd), nI kd) := by
        rw [EC, if_pos (by rfl), show tI (sF S' 79 3 (gF S' 79 3 + 1)) 79 0 (nI i) = _ from tI_at (i := 0) (by show 0 < gN S' 79; omega) (by show gN S' 79 < 2 ^ 31; omega), Option.bind_some, show tI (sF (sF S' 79 3 (gF S' 79 3 + 1)) 79 0 (nI i)) 79 1 (nI kd) = _ from tI_at (i := 1) (by show 1 < gN S' 79; omega) (by show gN S' 79 < 2 ^ 31; omega), Option.bind_some]
      have hk58 : gI (sI (sI T' 0 55 (gI T' 0 55 + 1)) 0 52 (nI i)) 0 58 = nI kd := by rw [gI_ne (by decide), gI_ne (by decide)]; exact x4
      have eM2 : m_runs_12 g (n2 + 1) S2 (nI q) (nI i) = m_runs_12 g n2 (sI (sI (sI T' 0 55 (gI T' 0 55 + 1)) 0 52 (nI i)) 0 53 (nI kd)) (nI q) (nI i) := by
        rw [eM0, if_pos (by rfl), lt_d, lt_d, Option.bind_some, hk58]
      have fk7 : FKm T' (sI (sI (sI T' 0 55 (gI T' 0 55 + 1)) 0 52 (nI i)) 0 53 (nI kd)) := (fk5.tr (FKm.sI (by omega))).tr (FKm.sI (by omega))
      have fk14 : FKc S' (sF (sF (sF S' 79 3 (gF S' 79 3 + 1)) 79 0 (nI i)) 79 1 (nI kd)) := (fk9.tr (FKc.sF (Or.inl rfl))).tr (FKc.sF (Or.inl rfl))
      have pm7 := pm.fr (fT'.tr (FRm.fk fk7))
      have hm7 : LM (sI (sI (sI T' 0 55 (gI T' 0 55 + 1)) 0 52 (nI i)) 0 53 (nI kd)) := hm'
      have h117 : gN (sI (sI (sI T' 0 55 (gI T' 0 55 + 1)) 0 52 (nI i)) 0 53 (nI kd)) 11 = 3 := LMn hm7 11
      have k52 : gI (sI (sI (sI T' 0 55 (gI T' 0 55 + 1)) 0 52 (nI i)) 0 53 (nI kd)) 0 52 = nI i := by rw [gI_ne (by decide), sI_g]
      obtain ⟨n2, rfl⟩ : ∃ m, n2 = m + 1 := ⟨n2 - 1, by omega⟩
      refine ⟨_, sI (sI (sI T' 0 55 (gI T' 0 55 + 1)) 0 52 (nI i)) 0 53 (nI kd), _, EC2, gF_sF.symm, ?_, ⟨(x6.k fk14 fk7).le (by omega), ⟨fun z hz => ?_, ?_, ?_⟩, ?_, ?_, Or.inr ⟨i, kd, by omega, k52, x5, hkd, sI_g⟩, [], (kc9.sf (by decide)).sf (by decide)⟩, fS'.tr (FRc.fk fk14), fT'.tr (FRm.fk fk7)⟩
      · rw [eM2]
        show b_runs_12 g (m_runs_12 g n2) _ (nI q) (nI i) = _
        unfold b_runs_12 m_runs_45
        rw [aI_at (by omega) (by omega), pm7.2.2.1, Option.bind_some, if_neg (nI_ge hil (by omega)), k52, if_pos (nI_pos' (by omega)), if_pos (nI_pos' (by omega))]
      · show gF (sF (sF (sF S' 79 3 (gF S' 79 3 + 1)) 79 0 (nI i)) 79 1 (nI kd)) 80 z = gF T' 31 z
        rw [gF_ne (by decide), gF_ne (by decide)]
        exact ta9.1 z hz
      · rw [gF_sFi (by decide), gF_sFi (by decide), gI_ne (by decide), gI_ne (by decide)]
        exact ta9.2.1
      · rw [gF_sFi (by decide), gF_sFi (by decide), gI_ne (by decide), gI_ne (by decide)]
        exact ta9.2.2
      · rw [gF_sFi (by decide), gF_sF, k52]
      · rw [gF_sF, sI_g]
    · obtain ⟨st0, t, rfl⟩ : ∃ st0 t, st' = st0 ++ [t] := ⟨st'.dropLast, st'.getLast hem, (List.dropLast_concat_getLast hem).symm⟩
      have hst0 : st0.length < 60 := by
        have := si'.1
        rw [List.length_append, List.length_singleton] at this
        omega
      obtain ⟨t1, t2, t3, t4, ws', w, t5, t6, t7⟩ := si'.2.1 t (by simp)
      have hit : i < t.1 := a6 t (by simp)
      have hotc : opP P t.2.2 := ⟨54, ws', t5, Or.inr rfl⟩
      have htP : t.1 ≤ P.length := by rw [t4]; exact (jk.1 t.2.2 hotc).1
      have hl9 : LC (sF S' 79 3 (gF S' 79 3 + 1)) := hl'
      obtain ⟨S11, c1, c2, c3, c4, c5⟩ := C_leave (g := g) (x := nI kd) kc9 hl9 t3 hst0
      have hlen1 : (st0 ++ [t]).length = st0.length + 1 := by simp
      rw [hlen1] at EC eM0
      have eAt : m_Row_at g (sF S' 79 3 (gF S' 79 3 + 1)) 32 (nI st0.length) = some (nI t.1) := by
        rw [R_at kc9.1, atR_nI (by omega), List.getD_eq_getElem?_getD, List.getElem?_map, List.getElem?_append_right (Nat.le_refl _)]
        simp
      rw [if_neg (nI_ne0 (by omega) (by omega)), nI_pred, eAt, Option.bind_some, c1, Option.bind_some, lt_d, nI_1] at EC
      rw [if_neg (nI_ne0 (by omega) (by omega)), lt_d, nI_pred, sI_g] at eM0
      have hm61 : LM (sI (sI T' 0 55 (gI T' 0 55 + 1)) 0 61 (nI st0.length)) := hm'
      obtain ⟨e61, e35, e36⟩ := ck_top km5 hm' hst0
      have fk61 : FKm T' (sI (sI T' 0 55 (gI T' 0 55 + 1)) 0 61 (nI st0.length)) := fk5.tr (FKm.sI (by omega))
      obtain ⟨v, v1, v2⟩ := ck_arg (S2 := sI (sI T' 0 55 (gI T' 0 55 + 1)) 0 61 (nI st0.length)) (pm.fr (fT'.tr (FRm.fk fk61))) hm' t5 t6 t7 t3
      have h32 : gN T' 32 = 12 := LMn hm' 32
      have k58 : gI (sI (sI T' 0 55 (gI T' 0 55 + 1)) 0 61 (nI st0.length)) 0 58 = nI kd := by rw [gI_ne (by decide), gI_ne (by decide)]; exact x4
      have eM3 : m_runs_12 g (n2 + 1) S2 (nI q) (nI i) = m_runs_12 g n2 (sG (sI (sI T' 0 55 (gI T' 0 55 + 1)) 0 61 (nI st0.length)) 32 t.2.1 (nI kd).toInt64) (nI q) (nI t.1) := by
        rw [eM0, show aI (sI (sI T' 0 55 (gI T' 0 55 + 1)) 0 61 (nI st0.length)) 35 (nI st0.length) = some (nI t.2.2) from e35, Option.bind_some, v1, Option.bind_some, v2, k58, tJ_at (by show t.2.1 < gN T' 32; omega) (by show gN T' 32 < 2 ^ 31; omega), Option.bind_some, show gI (sG (sI (sI T' 0 55 (gI T' 0 55 + 1)) 0 61 (nI st0.length)) 32 t.2.1 (nI kd).toInt64) 0 61 = nI st0.length from (sI_g : gI (sI (sI T' 0 55 (gI T' 0 55 + 1)) 0 61 (nI st0.length)) 0 61 = nI st0.length), show aI (sG (sI (sI T' 0 55 (gI T' 0 55 + 1)) 0 61 (nI st0.length)) 32 t.2.1 (nI kd).toInt64) 36 (nI st0.length) = some (nI t.1) from e36, Option.bind_some, Option.bind_some]
      have kmF := sCkM (w := t.2.1) (x := (nI kd).toInt64) km5
      have rF : RSx U (i + 1) S11 (sG (sI (sI T' 0 55 (gI T' 0 55 + 1)) 0 61 (nI st0.length)) 32 t.2.1 (nI kd).toInt64) := (RSx.gw (x6.k fk9 fk61) t3).k c2 FKm.rf
      have fS11 : FRc S S11 := ((fS'.tr (FRc.fk fk9)).tr FRc.gw).tr (FRc.fk c2)
      have fT11 : FRm S2 (sG (sI (sI T' 0 55 (gI T' 0 55 + 1)) 0 61 (nI st0.length)) 32 t.2.1 (nI kd).toInt64) := (fT'.tr (FRm.fk fk61)).tr FRm.gw
      have taF : Tal S11 (sG (sI (sI T' 0 55 (gI T' 0 55 + 1)) 0 61 (nI st0.length)) 32 t.2.1 (nI kd).toInt64) := ta9.tf ⟨c4, c5, fun k a b => (gI_ne (by omega) : gI (sI (sI T' 0 55 (gI T' 0 55 + 1)) 0 61 (nI st0.length)) 0 k = _), fun _ => rfl⟩
      have k52' : ∀ k, k = 52 ∨ k = 53 → gI (sG (sI (sI T' 0 55 (gI T' 0 55 + 1)) 0 61 (nI st0.length)) 32 t.2.1 (nI kd).toInt64) 0 k = gI S2 0 k := by
        intro k hk
        show gI (sI (sI T' 0 55 (gI T' 0 55 + 1)) 0 61 (nI st0.length)) 0 k = _
        rw [gI_ne (by omega), gI_ne (by omega)]
        exact tf'.2.2.1 k (by omega) (by omega)
      have k79' : ∀ j, j = 0 ∨ j = 1 → gF S11 79 j = gF S 79 j := by
        intro j hj
        rw [c4, gF_sFi (by omega)]
        exact tf'.1 j
      refine FIN t.1 S11 _ st0 hit htP rF fS11 fT11 c3 kmF ⟨?_, fun t' ht' => ?_, (List.pairwise_append.mp si'.2.2).1⟩ taF ((k52' 52 (Or.inl rfl)).trans e52) ((k52' 53 (Or.inr rfl)).trans e53) ((k79' 0 (Or.inl rfl)).trans e790) ((k79' 1 (Or.inr rfl)).trans e791) (fun b hb => ?_) EC eM3
      · have := si'.1
        rw [hlen1] at this
        omega
      · obtain ⟨u1, u2, u3⟩ := si'.2.1 t' (by simp [ht'])
        exact ⟨(List.pairwise_append.mp si'.2.2).2.2 t' ht' t (by simp), by omega, u3⟩
      · exact fS11.2.2.2.2.2.2.1 b (ob b (GB_next hb hit (fun k k1 k2 k3 => ⟨t.2.2, by omega, hotc, by rw [← t4]; exact k2, by rw [← t4]; omega⟩)))
end RLM
