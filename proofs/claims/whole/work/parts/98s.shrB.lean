/-! a STEP is left out: the class -/
/-- a STEP's RANGE is one shorter -/
def decS (s : Nat × List Wd) : Nat × List Wd := match s.2[1]? with
  | some w => (s.1, s.2.set 1 (w.1, w.2.1 - 1, w.2.2))
  | none => s
/-- STEP i where STEP k is left out -/
def redS (P : Prg) (k i : Nat) (s : Nat × List Wd) : Nat × List Wd := if (s.1 = 53 ∨ s.1 = 54) ∧ k < rgP P i then decS s else s
def redP (P : Prg) (k j : Nat) : Prg := P.mapIdx fun i s => if i < j then redS P k i s else s
/-- the program without STEP k -/
def wout (P : Prg) (k : Nat) : Prg := (redP P k k).eraseIdx k
theorem redP_get {P : Prg} {k j i : Nat} : (redP P k j)[i]? = (P[i]?).map fun s => if i < j then redS P k i s else s := by
  unfold redP
  rw [List.getElem?_mapIdx]
theorem redP_len {P : Prg} {k j : Nat} : (redP P k j).length = P.length := by
  unfold redP
  rw [List.length_mapIdx]
theorem redP_0 {P : Prg} {k : Nat} : redP P k 0 = P := by
  apply List.ext_getElem?
  intro i
  rw [redP_get]
  cases P[i]? with
  | none => rfl
  | some s => rfl
theorem redP_s {P : Prg} {k j : Nat} {s : Nat × List Wd} (h : P[j]? = some s) : redP P k (j + 1) = (redP P k j).set j (redS P k j s) := by
  have hj := (List.getElem?_eq_some_iff.mp h).1
  apply List.ext_getElem?
  intro i
  rw [redP_get, List.getElem?_set]
  by_cases e : j = i
  · subst e
    rw [if_pos rfl, if_pos (by rw [redP_len]; exact hj), h]
    show some (if j < j + 1 then redS P k j s else s) = _
    rw [if_pos (by omega)]
  · rw [if_neg e, redP_get]
    congr 1
    funext s'
    by_cases h1 : i < j
    · rw [if_pos (by omega), if_pos h1]
    · rw [if_neg (by omega), if_neg h1]
theorem set_self {α : Type} {l : List α} {j : Nat} {x : α} (h : l[j]? = some x) : l.set j x = l := by
  apply List.ext_getElem?
  intro i
  rw [List.getElem?_set]
  by_cases e : j = i
  · subst e
    rw [if_pos rfl, if_pos (List.getElem?_eq_some_iff.mp h).1, h]
  · rw [if_neg e]
theorem rg_red {P : Prg} {k j s : Nat} {ws : List Wd} (h : P[j]? = some (s, ws)) : (redP P k j)[j]? = some (s, ws) ∧ rgP (redP P k j) j = rgP P j := by
  have e : (redP P k j)[j]? = some (s, ws) := by
    rw [redP_get, h]
    show some (if j < j then redS P k j (s, ws) else (s, ws)) = _
    rw [if_neg (by omega)]
  exact ⟨e, by rw [rgP_e e, rgP_e h]⟩
section LVO
variable {g d : Nat} {P : Prg} {U : Nat → Prop}
theorem PrC_put {S : St} {Q : Prg} {j s : Nat} {ws : List Wd} {w : Wd} {v : Int64} (pc : PrC S d Q) (hi : Q[j]? = some (s, ws)) (hw : ws[1]? = some w) : PrC (sG S (50 + 8 * d + 4) (fsP Q j + 1) v) d (Q.set j (s, ws.set 1 (w.1, v, w.2.2))) := by
  obtain ⟨c1, c2, c3, c4, c5, c6⟩ := pc
  have hjl := (List.getElem?_eq_some_iff.mp hi).1
  have hwl := (List.getElem?_eq_some_iff.mp hw).1
  have hfs : ∀ i, fsP (Q.set j (s, ws.set 1 (w.1, v, w.2.2))) i = fsP Q i := fun i => fsP_set hi (by simp)
  have hlen : (Q.set j (s, ws.set 1 (w.1, v, w.2.2))).length = Q.length := List.length_set
  refine ⟨c1, by rw [hlen]; exact c2, by rw [hfs, hlen]; exact c3, by rw [hlen]; exact c4, fun i h => by rw [hfs]; exact c5 i (by rw [hlen] at h; exact h), fun i s' ws' h => ?_⟩
  rw [List.getElem?_set] at h
  have hfj := fsP_s hi
  by_cases e : j = i
  · subst e
    rw [if_pos rfl, if_pos hjl] at h
    have e2 := Option.some.inj h
    have es : s = s' := congrArg Prod.fst e2
    have ews : ws.set 1 (w.1, v, w.2.2) = ws' := congrArg Prod.snd e2
    subst es
    subst ews
    refine ⟨(c6 j s ws hi).1, fun j' w' hw' => ?_⟩
    rw [hfs]
    rw [List.getElem?_set] at hw'
    by_cases e1 : 1 = j'
    · subst e1
      rw [if_pos rfl, if_pos hwl] at hw'
      have := Option.some.inj hw'
      subst this
      obtain ⟨z1, z2, z3, z4⟩ := (c6 j s ws hi).2 1 w hw
      exact ⟨z1, z2, gG_sG, z4⟩
    · rw [if_neg e1] at hw'
      obtain ⟨z1, z2, z3, z4⟩ := (c6 j s ws hi).2 j' w' hw'
      exact ⟨z1, z2, (gG_sGi (by omega)).trans z3, z4⟩
  · rw [if_neg e] at h
    refine ⟨(c6 i s' ws' h).1, fun j' w' hw' => ?_⟩
    rw [hfs]
    obtain ⟨z1, z2, z3, z4⟩ := (c6 i s' ws' h).2 j' w' hw'
    have hj' := (List.getElem?_eq_some_iff.mp hw').1
    have hfi := fsP_s h
    refine ⟨z1, z2, (gG_sGi ?_).trans z3, z4⟩
    by_cases hlt : i < j
    · have := fsP_mono (P := Q) (show i + 1 ≤ j by omega)
      omega
    · have := fsP_mono (P := Q) (show j + 1 ≤ i by omega)
      omega
theorem lvo_15 {k : Nat} (pk : PrgOK U P) (hd : d = 1 ∨ d = 2) (hk : k < P.length) (hP : P.length ≤ 60) : ∀ (t n j : Nat) (S : St), j + t = k → PrC S d (redP P k j) → LC S → ∃ S', m_Pg_leaveOut_15 g (n + t) S d (nI k) (nI j) = m_Pg_leaveOut_15 g n S' d (nI k) (nI k) ∧ FPc d S S' ∧ PrC S' d (redP P k k) := by
  intro t
  induction t with
  | zero =>
    intro n j S hj pc hl
    have e : j = k := by omega
    subst e
    exact ⟨S, rfl, FPc.rf, pc⟩
  | succ t ih =>
    intro n j S hj pc hl
    have hiP : P[j]? = some (P[j].1, P[j].2) := List.getElem?_eq_getElem (by omega)
    generalize P[j].1 = s at hiP
    generalize P[j].2 = ws at hiP
    obtain ⟨e1, e2⟩ := rg_red (k := k) hiP
    have hs := (pk j s ws hiP).1
    have e0 : m_Pg_leaveOut_15 g (n + (t + 1)) S d (nI k) (nI j) = b_Pg_leaveOut_15 g (m_Pg_leaveOut_15 g (n + t)) S d (nI k) (nI j) := rfl
    unfold b_Pg_leaveOut_15 at e0
    rw [if_neg (nI_ge (by omega) (by omega)), sOf pc hl e1 hs, Option.bind_some] at e0
    by_cases h5 : s = 53 ∨ s = 54
    · have ho : ¬ opn s = 0 := by
        unfold opn
        rcases h5 with h | h
        · rw [if_pos h]; decide
        · rw [if_neg (by omega), if_pos h]; decide
      obtain ⟨w, m, a1, a2, a3, a4⟩ := rg_w pk hiP h5
      rw [if_neg ho, C_rgE pc hl e1 a1 a2 a3, Option.bind_some, e2] at e0
      by_cases hr : rgP P j ≤ k
      · rw [if_pos (nI_le hr (by omega)), lt_d, nI_1] at e0
        have eP : redP P k (j + 1) = redP P k j := by
          rw [redP_s hiP]
          unfold redS
          rw [if_neg (fun h => absurd h.2 (by omega))]
          exact set_self e1
        obtain ⟨S', b1, b2, b3⟩ := ih n (j + 1) S (by omega) (by rw [eP]; exact pc) hl
        exact ⟨S', e0.trans b1, b2, b3⟩
      · obtain ⟨n0, n1, n2, n3, n4, -⟩ := LCp hl hd
        have c5 := pc.2.2.2.2.1 j (by rw [redP_len]; omega)
        have c6 := (pc.2.2.2.2.2 j s ws e1).2 1 w a1
        have hwl := (List.getElem?_eq_some_iff.mp a1).1
        have hf := fsP_s e1
        have hle := fsP_le (P := redP P k j) (i := j + 1)
        have h540 := pc.2.2.1
        rw [if_neg (nI_ge (by omega) (by omega)), aI_at (by omega) (by omega), c5, Option.bind_some, nI_1, aJ_at (by omega) (by omega), c6.2.2.1, Option.bind_some, tJ_at (by omega) (by omega), Option.bind_some, lt_d, nI_1] at e0
        have eP : redP P k (j + 1) = (redP P k j).set j (s, ws.set 1 (w.1, w.2.1 - 1, w.2.2)) := by
          rw [redP_s hiP]
          unfold redS
          rw [if_pos (⟨h5, by omega⟩ : (s = 53 ∨ s = 54) ∧ k < rgP P j)]
          unfold decS
          show (redP P k j).set j (match ws[1]? with | some w => (s, ws.set 1 (w.1, w.2.1 - 1, w.2.2)) | none => (s, ws)) = _
          rw [a1]
        have fp : FPc d S (sG S (50 + 8 * d + 4) (fsP (redP P k j) j + 1) (w.2.1 - 1)) := FPc.fa (a := 50 + 8 * d + 4) ⟨rfl, rfl, rfl, rfl, fun _ _ _ => rfl, fun b hb i => gG_ne hb⟩ (by omega)
        obtain ⟨S', b1, b2, b3⟩ := ih n (j + 1) _ (by omega) (by rw [eP]; exact PrC_put pc e1 a1) (hl.fp fp)
        exact ⟨S', e0.trans b1, fp.tr b2, b3⟩
    · rw [if_pos (opn0 h5), lt_d, nI_1] at e0
      have eP : redP P k (j + 1) = redP P k j := by
        rw [redP_s hiP]
        unfold redS
        rw [if_neg (fun h => h5 h.1)]
        exact set_self e1
      obtain ⟨S', b1, b2, b3⟩ := ih n (j + 1) S (by omega) (by rw [eP]; exact pc) hl
      exact ⟨S', e0.trans b1, b2, b3⟩
theorem lvo_157 {k N D : Nat} {v1 v2 : Int32} (hd : d = 1 ∨ d = 2) (hN : N ≤ 60) (hk : k < N) (hv : v2 - v1 = nI D) {F : Nat → Nat} (hF : ∀ i, k < i → i ≤ N → D ≤ F i) : ∀ (t n x : Nat) (S : St), x + t = N → t < n → k < x → LC S → gI S d 8 = nI N → (∀ i, x < i → i ≤ N → gF S (50 + 8 * d + 1) i = nI (F i)) → ∃ S', m_Pg_leaveOut_157 g n S d v1 v2 (nI x) = some (sI S' d 8 (nI (N - 1))) ∧ FPc d S S' ∧ (∀ a, a ≠ 50 + 8 * d + 0 → a ≠ 50 + 8 * d + 1 → (∀ i, gF S' a i = gF S a i) ∧ ∀ i, gG S' a i = gG S a i) ∧ (∀ i, gF S' (50 + 8 * d + 0) i = if x ≤ i + 1 ∧ i + 1 < N then gF S (50 + 8 * d + 0) (i + 1) else gF S (50 + 8 * d + 0) i) ∧ (∀ i, gF S' (50 + 8 * d + 1) i = if x ≤ i ∧ i < N then nI (F (i + 1) - D) else gF S (50 + 8 * d + 1) i) ∧ ∀ o z, gI S' o z = gI S o z := by
  intro t
  induction t with
  | zero =>
    intro n x S hx hn hkx hl h8 hf
    obtain ⟨n, rfl⟩ : ∃ m, n = m + 1 := ⟨n - 1, by omega⟩
    refine ⟨S, ?_, FPc.rf, fun _ _ _ => ⟨fun _ => rfl, fun _ => rfl⟩, fun i => by rw [if_neg (by omega)], fun i => by rw [if_neg (by omega)], fun _ _ => rfl⟩
    show b_Pg_leaveOut_157 g (m_Pg_leaveOut_157 g n) S d v1 v2 (nI x) = _
    unfold b_Pg_leaveOut_157
    rw [h8, if_pos (nI_le (by omega) (by omega)), lt_d, show nI N - (1 : Int32) = nI (N - 1) from nI_sub (b := 1) (by omega)]
  | succ t ih =>
    intro n x S hx hn hkx hl h8 hf
    obtain ⟨n, rfl⟩ : ∃ m, n = m + 1 := ⟨n - 1, by omega⟩
    obtain ⟨n0, n1, -⟩ := LCp hl hd
    have fx1 : FPc d S (sF S (50 + 8 * d + 0) (x - 1) (gF S (50 + 8 * d + 0) x)) := FPc.fa (a := 50 + 8 * d + 0) ⟨rfl, rfl, rfl, rfl, fun b hb i => gF_ne hb, fun _ _ _ => rfl⟩ (by omega)
    have fx2 : FPc d (sF S (50 + 8 * d + 0) (x - 1) (gF S (50 + 8 * d + 0) x)) (sF (sF S (50 + 8 * d + 0) (x - 1) (gF S (50 + 8 * d + 0) x)) (50 + 8 * d + 1) x (nI (F (x + 1) - D))) := FPc.fa (a := 50 + 8 * d + 1) ⟨rfl, rfl, rfl, rfl, fun b hb i => gF_ne hb, fun _ _ _ => rfl⟩ (by omega)
    have fx := fx1.tr fx2
    obtain ⟨S', b1, b2, b3, b4, b5, b6⟩ := ih n (x + 1) (sF (sF S (50 + 8 * d + 0) (x - 1) (gF S (50 + 8 * d + 0) x)) (50 + 8 * d + 1) x (nI (F (x + 1) - D))) (by omega) (by omega) (by omega) (hl.fp fx) h8 (fun i h1 h2 => by
      rw [gF_sFi (by omega), gF_ne (by omega)]
      exact hf i (by omega) h2)
    refine ⟨S', ?_, fx.tr b2, fun a h1 h2 => ⟨fun i => ?_, fun i => (b3 a h1 h2).2 i⟩, fun i => ?_, fun i => ?_, fun o z => b6 o z⟩
    · show b_Pg_leaveOut_157 g (m_Pg_leaveOut_157 g n) S d v1 v2 (nI x) = _
      unfold b_Pg_leaveOut_157
      rw [h8, if_neg (nI_ge (by omega) (by omega)), aI_at (by omega) (by omega), Option.bind_some, show nI x - (1 : Int32) = nI (x - 1) from nI_sub (b := 1) (by omega), tI_at (by omega) (by omega), Option.bind_some, nI_1, aI_at (S := sF S (50 + 8 * d + 0) (x - 1) (gF S (50 + 8 * d + 0) x)) (show x + 1 < gN S (50 + 8 * d + 1) by omega) (show gN S (50 + 8 * d + 1) < 2 ^ 31 by omega), Option.bind_some, gF_ne (by omega), hf (x + 1) (by omega) (by omega), hv, nI_sub (hF (x + 1) (by omega) (by omega)), tI_at (S := sF S (50 + 8 * d + 0) (x - 1) (gF S (50 + 8 * d + 0) x)) (show x < gN S (50 + 8 * d + 1) by omega) (show gN S (50 + 8 * d + 1) < 2 ^ 31 by omega), Option.bind_some, lt_d, b1]
    · rw [(b3 a h1 h2).1, gF_ne h2, gF_ne h1]
    · rw [b4 i]
      by_cases h : x + 1 ≤ i + 1 ∧ i + 1 < N
      · rw [if_pos h, if_pos (by omega), gF_ne (by omega), gF_sFi (by omega)]
      · rw [if_neg h, gF_ne (by omega)]
        by_cases e : i = x - 1
        · subst e
          rw [gF_sF, if_pos (by omega), show x - 1 + 1 = x by omega]
        · rw [gF_sFi e, if_neg (by omega)]
    · rw [b5 i]
      by_cases h : x + 1 ≤ i ∧ i < N
      · rw [if_pos h, if_pos (by omega)]
      · rw [if_neg h]
        by_cases e : i = x
        · subst e
          rw [gF_sF, if_pos (by omega)]
        · rw [gF_sFi e, gF_ne (by omega), if_neg (by omega)]
theorem er_get {α : Type} {l : List α} {k i : Nat} : (l.eraseIdx k)[i]? = if i < k then l[i]? else l[i + 1]? := List.getElem?_eraseIdx
/-- STEP k goes out of the arrays -/
theorem C_erase {S : St} {Q : Prg} {k : Nat} {n : Nat} (hg : 100000 ≤ g) (pc : PrC S d Q) (hl : LC S) (hk : k < Q.length) : ∃ S', m_Pg_leaveOut_15 g (n + 1) S d (nI k) (nI k) = some S' ∧ FPc d S S' ∧ PrC S' d (Q.eraseIdx k) := by
  have hd := pc.1
  obtain ⟨c1, c2, c3, c4, c5, c6⟩ := pc
  have hm1 := fsP_mono (P := Q) (show k ≤ k + 1 by omega)
  have hm2 := fsP_mono (P := Q) (show k + 1 ≤ Q.length by omega)
  obtain ⟨n0, n1, n2, n3, n4, n5, -⟩ := LCp hl hd
  have hN : ∀ {Z : St}, FPc d S Z → gN Z (50 + 8 * d + 2) = 540 ∧ gN Z (50 + 8 * d + 3) = 540 ∧ gN Z (50 + 8 * d + 4) = 540 ∧ gN Z (50 + 8 * d + 5) = 540 := fun h => by
    obtain ⟨-, -, a, b, c, e, -⟩ := LCp (hl.fp h) hd
    exact ⟨a, b, c, e⟩
  obtain ⟨S1, i1, i2, i3, i4⟩ := cpIx (S := S) (a := 50 + 8 * d + 2) (b := 50 + 8 * d + 2) (sp := fsP Q (k + 1)) (dp := fsP Q k) (n := fsP Q Q.length - fsP Q (k + 1)) (by omega) (by omega) (by omega) (by omega)
  have f1 : FPc d S S1 := FPc.fa (d := d) i2 (by omega)
  obtain ⟨m2, m3, m4, m5⟩ := hN f1
  obtain ⟨S3, j1, j2, j3, j4⟩ := cpIx (S := S1) (a := 50 + 8 * d + 3) (b := 50 + 8 * d + 3) (sp := fsP Q (k + 1)) (dp := fsP Q k) (n := fsP Q Q.length - fsP Q (k + 1)) (by omega) (by omega) (by omega) (by omega)
  have f3 := f1.tr (FPc.fa (d := d) j2 (by omega))
  obtain ⟨m2, m3, m4, m5⟩ := hN f3
  obtain ⟨S4, k1, k2, k3, k4⟩ := cpJx (S := S3) (a := 50 + 8 * d + 4) (b := 50 + 8 * d + 4) (sp := fsP Q (k + 1)) (dp := fsP Q k) (n := fsP Q Q.length - fsP Q (k + 1)) (by omega) (by omega) (by omega) (by omega)
  have f4 := f3.tr (FPc.fa (d := d) k2 (by omega))
  obtain ⟨m2, m3, m4, m5⟩ := hN f4
  obtain ⟨S5, l1, l2, l3, l4⟩ := cpIx (S := S4) (a := 50 + 8 * d + 5) (b := 50 + 8 * d + 5) (sp := fsP Q (k + 1)) (dp := fsP Q k) (n := fsP Q Q.length - fsP Q (k + 1)) (by omega) (by omega) (by omega) (by omega)
  have f5 := f4.tr (FPc.fa (d := d) l2 (by omega))
  have e01 : ∀ a, a = 50 + 8 * d + 0 ∨ a = 50 + 8 * d + 1 → ∀ i, gF S5 a i = gF S a i := fun a ha i => by rw [l2.2.2.2.2.1 _ (by omega), k2.2.2.2.2.1 _ (by omega), j2.2.2.2.2.1 _ (by omega), i2.2.2.2.2.1 _ (by omega)]
  have e8 : gI S5 d 8 = nI Q.length := by rw [l2.i, k2.i, j2.i, i2.i]; exact c4
  obtain ⟨S6, o1, o2, o3, o4, o5, o6⟩ := lvo_157 (g := g) (d := d) (k := k) (N := Q.length) (D := fsP Q (k + 1) - fsP Q k) (v1 := nI (fsP Q k)) (v2 := nI (fsP Q (k + 1))) hd c2 hk (nI_sub hm1) (F := fsP Q) (fun i h1 h2 => by have := fsP_mono (P := Q) (show k + 1 ≤ i by omega); omega) (Q.length - (k + 1)) g (k + 1) S5 (by omega) (by omega) (by omega) (hl.fp f5) e8 (fun i h1 h2 => by rw [e01 _ (Or.inr rfl)]; exact c5 i h2)
  have hlen : (Q.eraseIdx k).length = Q.length - 1 := List.length_eraseIdx_of_lt hk
  refine ⟨sI S6 d 8 (nI (Q.length - 1)), ?_, (f5.tr o2).tr FPc.sI, hd, by omega, ?_, ?_, fun i hi => ?_, fun i s ws hi => ?_⟩
  · show b_Pg_leaveOut_15 g (m_Pg_leaveOut_15 g n) S d (nI k) (nI k) = _
    unfold b_Pg_leaveOut_15
    rw [if_pos (nI_le (Nat.le_refl _) (by omega)), aI_at (by omega) (by omega), c5 k (by omega), Option.bind_some, nI_1, aI_at (by omega) (by omega), c5 (k + 1) (by omega), Option.bind_some, c4, aI_at (by omega) (by omega), c5 _ (Nat.le_refl _), Option.bind_some, lt_d, nI_sub hm2, i1, Option.bind_some, j1, Option.bind_some, k1, Option.bind_some, l1, Option.bind_some, lt_d, o1]
  · rw [hlen]
    have := fsP_er2 (P := Q) (i := Q.length - 1) (k := k) (by omega) hk
    rw [show Q.length - 1 + 1 = Q.length by omega] at this
    omega
  · rw [sI_g, hlen]
  · rw [hlen] at hi
    show gF S6 (50 + 8 * d + 1) i = _
    rw [o5 i]
    by_cases h : k + 1 ≤ i ∧ i < Q.length
    · rw [if_pos h]
      have := fsP_er2 (P := Q) (i := i) (k := k) (by omega) hk
      congr 1
      omega
    · rw [if_neg h, e01 _ (Or.inr rfl), fsP_er1 (by omega)]
      exact c5 i (by omega)
  · have hil := (List.getElem?_eq_some_iff.mp hi).1
    rw [hlen] at hil
    rw [er_get] at hi
    have ar : ∀ a, a = 50 + 8 * d + 2 ∨ a = 50 + 8 * d + 3 ∨ a = 50 + 8 * d + 4 ∨ a = 50 + 8 * d + 5 → (∀ i, gF (sI S6 d 8 (nI (Q.length - 1))) a i = gF S5 a i) ∧ ∀ i, gG (sI S6 d 8 (nI (Q.length - 1))) a i = gG S5 a i := fun a ha => o3 a (by omega) (by omega)
    by_cases h : i < k
    · rw [if_pos h] at hi
      rw [fsP_er1 (show i ≤ k by omega)]
      refine ⟨?_, fun j w hw => ?_⟩
      · show gF S6 (50 + 8 * d + 0) i = _
        rw [o4 i, if_neg (by omega), e01 _ (Or.inl rfl)]
        exact (c6 i s ws hi).1
      · have hjl := (List.getElem?_eq_some_iff.mp hw).1
        have hf := fsP_s hi
        have hm3 := fsP_mono (P := Q) (show i + 1 ≤ k by omega)
        obtain ⟨z1, z2, z3, z4⟩ := (c6 i s ws hi).2 j w hw
        refine ⟨?_, ?_, ?_, ?_⟩
        · rw [(ar _ (Or.inl rfl)).1, l2.2.2.2.2.1 _ (by omega), k2.2.2.2.2.1 _ (by omega), j2.2.2.2.2.1 _ (by omega), i3, if_neg (by omega)]
          exact z1
        · rw [(ar _ (Or.inr (Or.inl rfl))).1, l2.2.2.2.2.1 _ (by omega), k2.2.2.2.2.1 _ (by omega), j3, if_neg (by omega), i2.2.2.2.2.1 _ (by omega)]
          exact z2
        · rw [(ar _ (Or.inr (Or.inr (Or.inl rfl)))).2, l2.2.2.2.2.2 _ (by omega), k3, if_neg (by omega), j2.2.2.2.2.2 _ (by omega), i2.2.2.2.2.2 _ (by omega)]
          exact z3
        · rw [(ar _ (Or.inr (Or.inr (Or.inr rfl)))).1, l3, if_neg (by omega), k2.2.2.2.2.1 _ (by omega), j2.2.2.2.2.1 _ (by omega), i2.2.2.2.2.1 _ (by omega)]
          exact z4
    · rw [if_neg h] at hi
      have he := fsP_er2 (P := Q) (i := i) (k := k) (by omega) hk
      refine ⟨?_, fun j w hw => ?_⟩
      · show gF S6 (50 + 8 * d + 0) i = _
        rw [o4 i, if_pos (by omega), e01 _ (Or.inl rfl)]
        exact (c6 (i + 1) s ws hi).1
      · have hjl := (List.getElem?_eq_some_iff.mp hw).1
        have hf := fsP_s hi
        have hm3 := fsP_mono (P := Q) (show k + 1 ≤ i + 1 by omega)
        have hm4 := fsP_mono (P := Q) (show i + 1 + 1 ≤ Q.length by omega)
        obtain ⟨z1, z2, z3, z4⟩ := (c6 (i + 1) s ws hi).2 j w hw
        have ei : fsP Q (k + 1) + (fsP (Q.eraseIdx k) i + j - fsP Q k) = fsP Q (i + 1) + j := by omega
        refine ⟨?_, ?_, ?_, ?_⟩
        · rw [(ar _ (Or.inl rfl)).1, l2.2.2.2.2.1 _ (by omega), k2.2.2.2.2.1 _ (by omega), j2.2.2.2.2.1 _ (by omega), i3, if_pos (by omega), ei]
          exact z1
        · rw [(ar _ (Or.inr (Or.inl rfl))).1, l2.2.2.2.2.1 _ (by omega), k2.2.2.2.2.1 _ (by omega), j3, if_pos (by omega), ei, i2.2.2.2.2.1 _ (by omega)]
          exact z2
        · rw [(ar _ (Or.inr (Or.inr (Or.inl rfl)))).2, l2.2.2.2.2.2 _ (by omega), k3, if_pos (by omega), ei, j2.2.2.2.2.2 _ (by omega), i2.2.2.2.2.2 _ (by omega)]
          exact z3
        · rw [(ar _ (Or.inr (Or.inr (Or.inr rfl)))).1, l3, if_pos (by omega), ei, k2.2.2.2.2.1 _ (by omega), j2.2.2.2.2.1 _ (by omega), i2.2.2.2.2.1 _ (by omega)]
          exact z4
/-- the class leaves a STEP out -/
theorem C_out {S : St} {k : Nat} (hg : 100000 ≤ g) (pk : PrgOK U P) (pc : PrC S d P) (hl : LC S) (hk : k < P.length) : ∃ S', m_Pg_leaveOut g S d (nI k) = some S' ∧ FPc d S S' ∧ PrC S' d (wout P k) := by
  have h60 := pc.2.1
  have hd := pc.1
  obtain ⟨S1, a1, a2, a3⟩ := lvo_15 (g := g) (d := d) (k := k) pk hd hk h60 k (g - k - 1 + 1) 0 S (by omega) (by rw [redP_0]; exact pc) hl
  obtain ⟨S2, b1, b2, b3⟩ := C_erase (g := g) (d := d) (k := k) (n := g - k - 1) hg a3 (hl.fp a2) (by rw [redP_len]; exact hk)
  refine ⟨S2, ?_, a2.tr b2, b3⟩
  unfold m_Pg_leaveOut
  rw [if_neg (nI_pos (by omega)), pc.2.2.2.1, if_pos (nI_lt hk (by omega))]
  rw [show g - k - 1 + 1 + k = g by omega] at a1
  exact a1.trans b1
end LVO
