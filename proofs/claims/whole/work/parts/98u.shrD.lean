/-! a STEP is left out: the reference -/
theorem wout_get {P : Prg} {k i : Nat} : (wout P k)[i]? = if i < k then (P[i]?).map (redS P k i) else P[i + 1]? := by
  unfold wout
  rw [er_get]
  by_cases h : i < k
  · rw [if_pos h, if_pos h, redP_get]
    congr 1
    funext s
    rw [if_pos h]
  · rw [if_neg h, if_neg h, redP_get]
    cases P[i + 1]? with
    | none => rfl
    | some s =>
      show some (if i + 1 < k then redS P k (i + 1) s else s) = some s
      rw [if_neg (by omega)]
theorem wout_len {P : Prg} {k : Nat} (hk : k < P.length) : (wout P k).length = P.length - 1 := by
  unfold wout
  rw [List.length_eraseIdx_of_lt (by rw [redP_len]; exact hk), redP_len]
theorem StM.put {S : St} {b s : Nat} {ws : List Wd} {w : Wd} {v : Int64} (st : StM S b s ws) (hw : ws[1]? = some w) : StM (sG S 10 (10 * b + 1) v) b s (ws.set 1 (w.1, v, w.2.2)) ∧ FSt (fun i => i = b) S (sG S 10 (10 * b + 1) v) := by
  have hwl := (List.getElem?_eq_some_iff.mp hw).1
  obtain ⟨s1, s2, s3, s4⟩ := st
  refine ⟨⟨by rw [List.length_set]; exact s1, s2, by rw [List.length_set]; exact s3, fun j w' hw' => ?_⟩, rfl, rfl, rfl, rfl, fun _ _ _ _ _ _ => rfl, fun a ha i => gG_ne ha, fun i hi => ⟨rfl, rfl, fun j hj => ⟨rfl, gG_sGi (by omega), rfl⟩⟩⟩
  rw [List.getElem?_set] at hw'
  by_cases e : 1 = j
  · subst e
    rw [if_pos rfl, if_pos hwl] at hw'
    have := Option.some.inj hw'
    subst this
    obtain ⟨z1, z2, z3⟩ := s4 1 w hw
    exact ⟨z1, gG_sG, z3⟩
  · rw [if_neg e] at hw'
    obtain ⟨z1, z2, z3⟩ := s4 j w' hw'
    exact ⟨z1, (gG_sGi (by omega)).trans z2, z3⟩
theorem lt_rg2 {i k n : Nat} {v : Int64} (hi : i ≤ 60) (hk : k ≤ 60) (hn : n ≤ 1000) (hv : v.toInt = (n : Int)) : ((nI i).toInt64 + v < (nI k).toInt64) ↔ i + n < k := by
  rw [Int64.lt_iff_toInt_lt, Int64.toInt_add, Int32.toInt_toInt64, Int32.toInt_toInt64, nI_toInt (by omega), nI_toInt (by omega), hv, bm64 (by omega) (by omega)]
  omega
section WTM
variable {g : Nat} {P : Prg} {U : Nat → Prop} {k : Nat}
/-- a STEP is copied, its RANGE made shorter -/
theorem M_step {S : St} {i c s : Nat} {ws : List Wd} {k9 : St → Int32 → Int32 → Option St} (hg : 100000 ≤ g) (pk : PrgOK U P) (hP : P.length ≤ 60) (hk : k < P.length) (hi : P[i]? = some (s, ws)) (hc : c < 60) (hm : LM S) (st : StM S i s ws) (h11 : gF S 11 2 = nI c) : ∃ S' s' ws', ((m_copyStep g S (nI i) (nI (120 + c))).bind fun S_5 => (aI S_5 6 (nI i)).bind fun v_6 => if v_6 = (53 : Int32) then m_without_65 g k9 S_5 (nI k) (nI i) (nI (120 + c)) else (aI S_5 6 (nI i)).bind fun v_7 => if v_7 = (54 : Int32) then m_without_65 g k9 S_5 (nI k) (nI i) (nI (120 + c)) else m_without_70 g k9 S_5 (nI k) (nI i) (nI (120 + c)) (0 : Int32)) = k9 S' (nI k) (nI (i + 1)) ∧ FPm 2 S S' ∧ StM S' (120 + c) s' ws' ∧ gF S' 11 2 = nI (c + 1) ∧ (s', ws') = (if i < k then redS P k i (s, ws) else (s, ws)) ∧ ∀ i' s ws, i' ≠ 120 + c → StM S i' s ws → StM S' i' s ws := by
  have hil := (List.getElem?_eq_some_iff.mp hi).1
  have hs := (pk i s ws hi).1
  obtain ⟨S1, a1, a2, a3⟩ := M_copyStep (g := g) (a := i) (b := 120 + c) hg (by omega) (by omega) (by omega) hm st
  have hm1 := hm.fst a2
  have st1 := st.fs a2 (show ¬ i = 120 + c by omega)
  have g6 : gN S1 6 = 180 := LMn hm1 6
  have g10 : gN S1 10 = 1800 := LMn hm1 10
  have g11 : gN S1 11 = 3 := LMn hm1 11
  have h11' : gF S1 11 2 = nI c := (a2.2.2.2.2.1 11 (by decide) (by decide) (by decide) (by decide) 2).trans h11
  have e117 : ∀ {T : St}, LM T → gF T 11 2 = nI c → m_without_117 g k9 T (nI k) (nI i) = k9 (sF T 11 2 (nI (c + 1))) (nI k) (nI (i + 1)) := by
    intro T hT hT2
    have g11T : gN T 11 = 3 := LMn hT 11
    unfold m_without_117
    rw [show aI T 11 (2 : Int32) = some (gF T 11 2) from aI_at (i := 2) (by omega) (by omega), hT2, Option.bind_some, nI_1, show tI T 11 (2 : Int32) (nI (c + 1)) = some (sF T 11 2 (nI (c + 1))) from tI_at (i := 2) (by omega) (by omega), Option.bind_some, lt_d, nI_1]
  have fin : ∀ {T : St}, FSt (fun z => z = 120 + c) S T → FPm 2 S (sF T 11 2 (nI (c + 1))) := fun h => (FPm.st (q := 2) h (fun z hz => by omega)).tr FPm.s11
  have stf : ∀ {T : St} {x s' : Nat} {ws' : List Wd}, StM T x s' ws' → StM (sF T 11 2 (nI (c + 1))) x s' ws' := fun h => ⟨h.1, (gF_ne (by decide)).trans h.2.1, (gF_ne (by decide)).trans h.2.2.1, fun j w hw => ⟨(gF_ne (by decide)).trans (h.2.2.2 j w hw).1, (h.2.2.2 j w hw).2.1, (gF_ne (by decide)).trans (h.2.2.2 j w hw).2.2⟩⟩
  have same : (∀ (h : m_without_70 g k9 S1 (nI k) (nI i) (nI (120 + c)) (if s = 53 ∨ s = 54 then 1 else 0) = m_without_117 g k9 S1 (nI k) (nI i)), (s, ws) = (if i < k then redS P k i (s, ws) else (s, ws)) → ∃ S' s' ws', m_without_70 g k9 S1 (nI k) (nI i) (nI (120 + c)) (if s = 53 ∨ s = 54 then 1 else 0) = k9 S' (nI k) (nI (i + 1)) ∧ FPm 2 S S' ∧ StM S' (120 + c) s' ws' ∧ gF S' 11 2 = nI (c + 1) ∧ (s', ws') = (if i < k then redS P k i (s, ws) else (s, ws)) ∧ ∀ i' s ws, i' ≠ 120 + c → StM S i' s ws → StM S' i' s ws) := by
    intro h he
    exact ⟨_, s, ws, h.trans (e117 hm1 h11'), fin a2, stf a3, gF_sF, he, fun i' s'' ws'' h1 h2 => stf (h2.fs a2 h1)⟩
  have e0 : ((m_copyStep g S (nI i) (nI (120 + c))).bind fun S_5 => (aI S_5 6 (nI i)).bind fun v_6 => if v_6 = (53 : Int32) then m_without_65 g k9 S_5 (nI k) (nI i) (nI (120 + c)) else (aI S_5 6 (nI i)).bind fun v_7 => if v_7 = (54 : Int32) then m_without_65 g k9 S_5 (nI k) (nI i) (nI (120 + c)) else m_without_70 g k9 S_5 (nI k) (nI i) (nI (120 + c)) (0 : Int32)) = m_without_70 g k9 S1 (nI k) (nI i) (nI (120 + c)) (if s = 53 ∨ s = 54 then 1 else 0) := by
    rw [a1, Option.bind_some, aI_at (by omega) (by omega), st1.2.1, Option.bind_some, Option.bind_some]
    unfold m_without_65
    by_cases h53 : s = 53
    · rw [if_pos (show nI s = 53 by rw [h53]; rfl), if_pos (Or.inl h53)]
    · rw [if_neg (show ¬ nI s = 53 from fun h => h53 ((nI_eq (b := 53) (by omega) (by omega)).mp h))]
      by_cases h54 : s = 54
      · rw [if_pos (show nI s = 54 by rw [h54]; rfl), if_pos (Or.inr h54)]
      · rw [if_neg (show ¬ nI s = 54 from fun h => h54 ((nI_eq (b := 54) (by omega) (by omega)).mp h)), if_neg (by omega)]
  rw [e0]
  by_cases h5 : s = 53 ∨ s = 54
  · obtain ⟨w, n, b1, b2, b3, b4⟩ := rg_w pk hi h5
    obtain ⟨z1, z2, z3⟩ := st1.2.2.2 1 w b1
    obtain ⟨y1, y2, y3⟩ := a3.2.2.2 1 w b1
    by_cases hki : k ≤ i
    · refine same ?_ (by rw [if_neg (by omega)])
      unfold m_without_70
      rw [if_pos h5, if_neg (by decide), if_pos (nI_le hki (by omega))]
    · have i1 : ((10 : Int32) * nI i) + (1 : Int32) = nI (10 * i + 1) := by rw [show (10 : Int32) = nI 10 from rfl, nI_mulE, nI_1]
      have i2 : ((10 : Int32) * nI (120 + c)) + (1 : Int32) = nI (10 * (120 + c) + 1) := by rw [show (10 : Int32) = nI 10 from rfl, nI_mulE, nI_1]
      have key := lt_rg2 (i := i) (k := k) (by omega) (by omega) b2 b3
      by_cases hr : i + n < k
      · refine same ?_ ?_
        · unfold m_without_70
          rw [if_pos h5, if_neg (by decide), if_neg (nI_ge (by omega) (by omega)), i1, aJ_at (by omega) (by omega), z2, Option.bind_some, if_pos (key.mpr hr)]
        · rw [if_pos (by omega)]
          unfold redS
          rw [if_neg (fun h => absurd h.2 (by omega))]
      · obtain ⟨p1, p2⟩ := StM.put (v := w.2.1 - 1) a3 b1
        have hmT := hm1.fst p2
        refine ⟨_, s, ws.set 1 (w.1, w.2.1 - 1, w.2.2), ?_, fin (a2.tr p2), stf p1, gF_sF, ?_, fun i' s'' ws'' h1 h2 => stf ((h2.fs a2 h1).fs p2 h1)⟩
        · unfold m_without_70
          rw [if_pos h5, if_neg (by decide), if_neg (nI_ge (by omega) (by omega)), i1, aJ_at (by omega) (by omega), z2, Option.bind_some, if_neg (fun h => hr (key.mp h)), i2, aJ_at (by omega) (by omega), y2, Option.bind_some, tJ_at (by omega) (by omega), Option.bind_some]
          exact e117 hmT h11'
        · rw [if_pos (by omega)]
          unfold redS decS
          rw [if_pos (⟨h5, by omega⟩ : (s = 53 ∨ s = 54) ∧ k < rgP P i)]
          show _ = (match ws[1]? with | some w => (s, ws.set 1 (w.1, w.2.1 - 1, w.2.2)) | none => (s, ws))
          rw [b1]
  · refine same ?_ ?_
    · unfold m_without_70
      rw [if_neg h5, if_pos rfl]
    · by_cases h : i < k
      · rw [if_pos h]
        unfold redS
        rw [if_neg (fun h => h5 h.1)]
      · rw [if_neg h]
theorem wt_l (hg : 100000 ≤ g) (pk : PrgOK U P) (hk : k < P.length) : ∀ (t n i c : Nat) (S : St), i + t = P.length → t < n → c = (if i ≤ k then i else i - 1) → LM S → PrM S 0 P → gF S 11 2 = nI c → (∀ i' s ws, i' < c → (wout P k)[i']? = some (s, ws) → StM S (120 + i') s ws) → ∃ S', m_without_9 g n S (nI k) (nI i) = some S' ∧ FPm 2 S S' ∧ PrM S' 2 (wout P k) := by
  intro t
  induction t with
  | zero =>
    intro n i c S hi hn hc hm pm h11 hd
    obtain ⟨n, rfl⟩ : ∃ m, n = m + 1 := ⟨n - 1, by omega⟩
    have g11 : gN S 11 = 3 := LMn hm 11
    have h60 := pm.2.1
    rw [if_neg (by omega)] at hc
    have hlen := wout_len hk
    refine ⟨S, ?_, FPm.rf, by omega, by omega, by rw [h11, hlen, hc, ← hi]; rfl, fun i' s ws h => ?_⟩
    · show b_without_9 g (m_without_9 g n) S (nI k) (nI i) = _
      unfold b_without_9
      rw [show aI S 11 (0 : Int32) = some (gF S 11 0) from aI_at (i := 0) (by omega) (by omega), pm.2.2.1, Option.bind_some, if_pos (nI_le (by omega) (by omega))]
    · have := (List.getElem?_eq_some_iff.mp h).1
      exact hd i' s ws (by omega) h
  | succ t ih =>
    intro n i c S hi hn hc hm pm h11 hd
    obtain ⟨n, rfl⟩ : ∃ m, n = m + 1 := ⟨n - 1, by omega⟩
    have g11 : gN S 11 = 3 := LMn hm 11
    have h60 := pm.2.1
    have e0 : m_without_9 g (n + 1) S (nI k) (nI i) = b_without_9 g (m_without_9 g n) S (nI k) (nI i) := rfl
    unfold b_without_9 at e0
    rw [show aI S 11 (0 : Int32) = some (gF S 11 0) from aI_at (i := 0) (by omega) (by omega), pm.2.2.1, Option.bind_some, if_neg (nI_ge (by omega) (by omega))] at e0
    by_cases hik : i = k
    · rw [if_pos (show nI i = nI k by rw [hik]), lt_d, nI_1] at e0
      rw [if_pos (by omega)] at hc
      obtain ⟨S', b1, b2, b3⟩ := ih n (i + 1) c S (by omega) (by omega) (by rw [if_neg (by omega)]; omega) hm pm h11 hd
      exact ⟨S', e0.trans b1, b2, b3⟩
    · have hc60 : c < 60 := by
        split at hc <;> omega
      rw [if_neg (show ¬ nI i = nI k from i_lit (by omega) (by omega) hik), show aI S 11 (2 : Int32) = some (gF S 11 2) from aI_at (i := 2) (by omega) (by omega), h11, Option.bind_some, show (120 : Int32) + nI c = nI (120 + c) from nI_add 120 c, lt_d] at e0
      have hiP : P[i]? = some (P[i].1, P[i].2) := List.getElem?_eq_getElem (by omega)
      generalize P[i].1 = s at hiP
      generalize P[i].2 = ws at hiP
      have st : StM S i s ws := by
        have := pm.st hiP
        rwa [Nat.mul_zero, Nat.zero_add] at this
      obtain ⟨S1, s', ws', a1, a2, a3, a4, a5, a6⟩ := M_step (g := g) (k := k) (c := c) (k9 := m_without_9 g n) hg pk h60 hk hiP hc60 hm st h11
      have hwc : (wout P k)[c]? = some (s', ws') := by
        rw [wout_get, a5]
        by_cases h : i < k
        · rw [if_pos (by omega)] at hc
          subst hc
          rw [if_pos h, if_pos h, hiP]
          rfl
        · rw [if_neg (by omega)] at hc
          rw [if_neg (by omega), if_neg h, show c + 1 = i by omega, hiP]
      obtain ⟨S', b1, b2, b3⟩ := ih n (i + 1) (c + 1) S1 (by omega) (by omega) (by
        by_cases h : i < k
        · rw [if_pos (by omega)] at hc ⊢; omega
        · rw [if_neg (by omega)] at hc ⊢; omega) (hm.fp a2) (pm.fp a2 (by decide)) a4 (fun i' s'' ws'' h1 h2 => by
        by_cases e : i' = c
        · subst e
          rw [hwc] at h2
          have e2 := Option.some.inj h2
          have es : s' = s'' := congrArg Prod.fst e2
          have ews : ws' = ws'' := congrArg Prod.snd e2
          subst es
          subst ews
          exact a3
        · exact a6 _ _ _ (by omega) (hd i' s'' ws'' (by omega) h2))
      exact ⟨S', e0.trans (a1.trans b1), a2.tr b2, b3⟩
/-- the reference leaves a STEP out -/
theorem M_out {S : St} (hg : 100000 ≤ g) (pk : PrgOK U P) (pm : PrM S 0 P) (hm : LM S) (hk : k < P.length) : ∃ S', m_without g S (nI k) = some S' ∧ FPm 2 S S' ∧ PrM S' 2 (wout P k) := by
  have g11 : gN S 11 = 3 := LMn hm 11
  have h60 := pm.2.1
  have f0 : FPm 2 S (sF S 11 2 (nI 0)) := FPm.s11
  obtain ⟨S', b1, b2, b3⟩ := wt_l (g := g) (k := k) hg pk hk P.length g 0 0 _ (by omega) (by omega) (by rw [if_pos (by omega)]) (hm.fp f0) (pm.fp f0 (by decide)) gF_sF (fun i' s ws h => by omega)
  refine ⟨S', ?_, f0.tr b2, b3⟩
  unfold m_without
  rw [show tI S 11 (2 : Int32) 0 = some (sF S 11 2 (nI 0)) from tI_at (i := 2) (by omega) (by omega), Option.bind_some]
  exact b1
end WTM
