/-! READING: the words of a STEP on both sides -/
theorem okL_mo {U U' : Nat → Prop} {c : Int32} {w : Wd} (h : okL U c w) (hU : ∀ n, U n → U' n) : okL U' c w := by
  rcases h with h | h | h | ⟨h1, h2⟩ | h | ⟨h1, h2⟩ | h
  · exact Or.inl h
  · exact Or.inr (Or.inl h)
  · exact Or.inr (Or.inr (Or.inl h))
  · refine Or.inr (Or.inr (Or.inr (Or.inl ⟨h1, ?_⟩)))
    rcases h2 with h2 | ⟨h2, n, h3, h4⟩
    · exact Or.inl h2
    · exact Or.inr ⟨h2, n, hU n h3, h4⟩
  · exact Or.inr (Or.inr (Or.inr (Or.inr (Or.inl h))))
  · refine Or.inr (Or.inr (Or.inr (Or.inr (Or.inr (Or.inl ⟨h1, ?_⟩)))))
    rcases h2 with h2 | ⟨h2, n, h3, h4⟩ | h2
    · exact Or.inl h2
    · exact Or.inr (Or.inl ⟨h2, n, hU n h3, h4⟩)
    · exact Or.inr (Or.inr h2)
  · exact Or.inr (Or.inr (Or.inr (Or.inr (Or.inr (Or.inr h)))))
def ltN (s : Nat) : Nat := (byT.getD (wdT.getD s 0) []).length
theorem rol_end : ∀ s, s < 56 → rolF s (ltN s) = 0 := by decide +kernel
theorem rol_le : ∀ s, s < 56 → ∀ j, j ≤ ltN s → ((leT.getD s 0 ≤ nI j) ↔ (rolF s j ≤ 0 ∨ (1 < j ∧ (s = 4 ∨ s = 45)))) := by decide +kernel
theorem rol_nz {r c : Int32} (h : rlL r c) : ¬ r = 0 ∧ ¬ r ≤ 0 := by
  rcases h with ⟨rfl, -⟩ | ⟨rfl, -⟩ | ⟨rfl, -⟩ | ⟨rfl, -⟩ | ⟨rfl, -⟩ | ⟨rfl, -⟩ | ⟨rfl, -⟩ | ⟨rfl, -⟩ <;> exact ⟨by decide, by decide⟩
/-- what is said of the words read -/
def WSo (lits : List (List Int32)) (s : Nat) (ws : List Wd) : Prop := ∀ j w, ws[j]? = some w → okL (fun n => n < lits.length) (lett s (nI j)) w ∧ (∃ n : Nat, n < 3000 ∧ w.2.2 = nI n) ∧ (w.1 = 9 → ∃ n : Nat, n < 100 ∧ w.2.1.toInt = (n : Int))
theorem wl_ext {lits r : List (List Int32)} {c : Int32} {w : Wd} (h : okL (fun n => n < lits.length) c w) : wlL (lits ++ r) w = wlL lits w := by
  unfold wlL
  by_cases q : w.1 = 3
  · obtain ⟨n, n1, n2⟩ := okL_3 h q
    rw [if_pos q, if_pos q, n2, Int.toNat_natCast, List.getD_eq_getElem?_getD, List.getD_eq_getElem?_getD, List.getElem?_append_left n1]
  · rw [if_neg q, if_neg q]
theorem sum_ext {lits r : List (List Int32)} {ws : List Wd} (h : ∀ w ∈ ws, ∃ c, okL (fun n => n < lits.length) c w) : (ws.map (wlL (lits ++ r))).sum = (ws.map (wlL lits)).sum := by
  congr 1
  apply List.map_congr_left
  intro w hw
  obtain ⟨c, hc⟩ := h w hw
  exact wl_ext hc
theorem WSo.ext {lits r : List (List Int32)} {s : Nat} {ws : List Wd} (h : WSo lits s ws) : (ws.map (wlL (lits ++ r))).sum = (ws.map (wlL lits)).sum := sum_ext fun w hw => by
  obtain ⟨j, hj⟩ := List.mem_iff_getElem?.mp hw
  exact ⟨_, (h j w hj).1⟩
section RDL
variable {g d : Nat} {tp : List Int32} {P : Prg} {s le j : Nat}
theorem M_185 {T : St} {n k : Nat} (hm : LM T) (h11 : gF T 11 1 = nI n) (hn : n < 60) : m_readLine_185 g T (nI (60 + n)) (nI k) = some (sF (sF T 7 (60 + n) (nI k)) 11 1 (nI (n + 1))) ∧ FRq T (sF (sF T 7 (60 + n) (nI k)) 11 1 (nI (n + 1))) := by
  have h7 : gN T 7 = 180 := LMn hm 7
  have h11n : gN T 11 = 3 := LMn hm 11
  refine ⟨?_, (FRq.sF (by unfold rdA; omega)).tr (FRq.sF (by unfold rdA; omega))⟩
  unfold m_readLine_185
  rw [tI_at (by omega) (by omega), Option.bind_some, show (1 : Int32) = nI 1 from rfl, aI_at (S := sF T 7 (60 + n) (nI k)) (a := 11) (i := 1) (by show 1 < gN T 11; omega) (by show gN T 11 < _; omega), Option.bind_some, gF_ne (by decide), h11, nI_add, tI_at (S := sF T 7 (60 + n) (nI k)) (a := 11) (i := 1) (by show 1 < gN T 11; omega) (by show gN T 11 < _; omega), Option.bind_some]
theorem PrM.snoc {T : St} {ws : List Wd} (pm : PrM T 1 P) (q : CurQ T P.length s ws) (hw : ws.length ≤ 9) (hP : P.length < 60) : PrM (sF (sF T 7 (60 + P.length) (nI ws.length)) 11 1 (nI (P.length + 1))) 1 (P ++ [(s, ws)]) := by
  obtain ⟨p1, p2, p3, p4⟩ := pm
  have F : ∀ a i, a ≠ 7 → a ≠ 11 → gF (sF (sF T 7 (60 + P.length) (nI ws.length)) 11 1 (nI (P.length + 1))) a i = gF T a i := fun a i h1 h2 => by rw [gF_ne h2, gF_ne h1]
  have F7 : ∀ i, gF (sF (sF T 7 (60 + P.length) (nI ws.length)) 11 1 (nI (P.length + 1))) 7 i = (if i = 60 + P.length then nI ws.length else gF T 7 i) := fun i => by
    rw [gF_ne (by decide)]
    by_cases z : i = 60 + P.length
    · rw [z, gF_sF, if_pos rfl]
    · rw [gF_sFi z, if_neg z]
  have G : ∀ i, gG (sF (sF T 7 (60 + P.length) (nI ws.length)) 11 1 (nI (P.length + 1))) 10 i = gG T 10 i := fun i => rfl
  refine ⟨p1, by simp; omega, by rw [gF_sF, List.length_append, List.length_singleton], fun i s' ws' h => ?_⟩
  rw [F 6 _ (by decide) (by decide), F7]
  rcases app_get h with ⟨z, h⟩ | ⟨rfl, rfl, rfl⟩
  · obtain ⟨y1, y2, y3, y4⟩ := p4 i s' ws' h
    rw [if_neg (by omega)]
    refine ⟨y1, y2, y3, fun j w hw => ?_⟩
    rw [F 8 _ (by decide) (by decide), F 9 _ (by decide) (by decide), G]
    exact y4 j w hw
  · rw [if_pos (by omega)]
    refine ⟨hw, q.1, rfl, fun j w hw => ?_⟩
    rw [F 8 _ (by decide) (by decide), F 9 _ (by decide) (by decide), G]
    exact q.2 j w hw
/-- how the words of a STEP come out -/
def WsO (g d : Nat) (tp : List Int32) (P : Prg) (s le : Nat) (lits : List (List Int32)) (S S2 : St) (eC : Option (St × Int32)) (eM : Option St) : Prop :=
  (∃ S' S2' ws' lits', eC = some (S', -1) ∧ eM = some S2' ∧ RdC S' d tp (P ++ [(s, ws')]) lits' ∧ FRd d S S' ∧ gI S' 3 4 = nI le ∧ RdM S2' tp (P ++ [(s, ws')]) lits' ∧ FRq S2 S2' ∧ gI S2' 0 18 = nI le ∧ (leT.getD s 0 ≤ nI ws'.length) ∧ ws'.length ≤ ltN s ∧ WSo lits' s ws' ∧ LOK lits' le ∧ (∃ r, lits' = lits ++ r) ∧ (ws'.map (wlL lits')).sum ≤ le) ∨
  ∃ S' S2' pl, pl ≤ le ∧ eC = some (S', nI pl) ∧ eM = some S2' ∧ FRd d S S' ∧ RwR S' d ∧ FRq S2 S2' ∧ gI S2' 0 19 = nI pl ∧ ∃ p, p ≤ le + 1 ∧ gI S2' 0 18 = nI p
theorem B_words (hg : 100000 ≤ g) (hs : s < 56) (L : rdL tp j le) (hP : P.length < 60) (hF : fsP P P.length ≤ 9 * P.length) : ∀ (t n1 n2 i : Nat) (ws : List Wd) (lits : List (List Int32)) (S S2 : St), ws.length + t = ltN s → t < n1 → t + 1 < n2 → RdC S d tp (P ++ [(s, ws)]) lits → RdM S2 tp P lits → CurQ S2 P.length s ws → j ≤ i → i ≤ le → gI S 3 3 = nI i → gI S 3 4 = nI le → gI S2 0 18 = nI i → LOK lits i → WSo lits s ws → (ws.map (wlL lits)).sum ≤ i → WsO g d tp P s le lits S S2 (m_Rd_readWords_10 g n1 S s (nI (ltN s)) (nI ws.length)) (m_readLine_66 g n2 S2 (nI s) (nI (60 + P.length)) (nI ws.length) 1) := by
  have h9 : ltN s ≤ 9 := byT9 s hs
  intro t
  induction t with
  | zero => ?_
  | succ t ih => ?_
  all_goals
    intro n1 n2 i ws lits S S2 hws hn1 hn2 cS mS qS hji hi h3 h4 h18 lo wo wsum
    obtain ⟨n1, rfl⟩ : ∃ m, n1 = m + 1 := ⟨n1 - 1, by omega⟩
    obtain ⟨n2, rfl⟩ : ∃ m, n2 = m + 2 := ⟨n2 - 2, by omega⟩
    have hle := L.2.1
    have h30 := mS.1.2.1
    obtain ⟨a, ha⟩ : ∃ a, a = rdS tp (le - i) i := ⟨_, rfl⟩
    have hsk := rdS_s (tp := tp) (le - i) i
    rw [← ha] at hsk
    obtain ⟨S1, a1, a2, a3⟩ := C_skip hg cS.1 (show le ≤ 3000 by omega) hi h3 h4
    rw [← ha] at a3
    have c1 := cS.fi a2
    have f1 : FRd d S S1 := FRd.fi a2 (fun k h => Or.inl h)
    have e4 : gI S1 3 4 = nI le := by rw [a2.1 3 4 (by omega)]; exact h4
    obtain ⟨T, v, b1, b2, b3, b4⟩ := M_next hg L mS.1 mS.2.1 hji hi h18 ha
    have mT := mS.fw b2
    have qT := qS.fw b2
    have eC : m_Rd_readWords_10 g (n1 + 1) S s (nI (ltN s)) (nI ws.length) = b_Rd_readWords_10 g (m_Rd_readWords_10 g n1) S s (nI (ltN s)) (nI ws.length) := rfl
    have eM : m_readLine_66 g (n2 + 2) S2 (nI s) (nI (60 + P.length)) (nI ws.length) 1 = b_readLine_66 g (m_readLine_66 g (n2 + 1)) S2 (nI s) (nI (60 + P.length)) (nI ws.length) 1 := rfl
    unfold b_Rd_readWords_10 at eC
    unfold b_readLine_66 at eM
    rw [if_neg (nI_nlt (by omega) (by omega)), a1, Option.bind_some, a3, e4, lt_d] at eC
    rw [if_neg (by decide), if_neg (show ¬ (0 : Int32) ≤ gI S2 0 19 from by rw [mS.2.2.2.2.2]; decide), b1, Option.bind_some] at eM
    dsimp only at eM
    rw [M_role hg mT.2.1 mT.2.2.1 hs (show ws.length < 20 by omega), Option.bind_some] at eM
    have h11 : gF T 11 1 = nI P.length := mT.2.2.2.1.2.2.1
    have e112 : ∀ (x5 x6 y : Int32), (if nI ws.length ≤ (1 : Int32) then m_readLine_112 g (m_readLine_66 g (n2 + 1)) T (nI s) (nI (60 + P.length)) (nI ws.length) x5 x6 else if nI s = 4 then m_readLine_108 g (m_readLine_66 g (n2 + 1)) T (nI s) (nI (60 + P.length)) (nI ws.length) x5 x6 else if nI s = 45 then m_readLine_108 g (m_readLine_66 g (n2 + 1)) T (nI s) (nI (60 + P.length)) (nI ws.length) x5 x6 else m_readLine_112 g (m_readLine_66 g (n2 + 1)) T (nI s) (nI (60 + P.length)) (nI ws.length) x5 x6) = m_readLine_113 g (m_readLine_66 g (n2 + 1)) T (nI s) (nI (60 + P.length)) (nI ws.length) x5 x6 (if 1 < ws.length ∧ (s = 4 ∨ s = 45) then 1 else 0) := by
      intro x5 x6 y
      unfold m_readLine_112 m_readLine_108
      by_cases z : ws.length ≤ 1
      · rw [if_pos (show nI ws.length ≤ 1 from nI_le (b := 1) z (by omega)), if_neg (show ¬ (1 < ws.length ∧ (s = 4 ∨ s = 45)) by omega)]
      · rw [if_neg (show ¬ nI ws.length ≤ 1 from nI_ge (a := 1) (by omega) (by omega))]
        by_cases z4 : s = 4
        · rw [if_pos (show nI s = 4 from by rw [z4]; rfl), if_pos ⟨by omega, Or.inl z4⟩]
        · rw [if_neg (show ¬ nI s = 4 from i_lit (b := 4) (by omega) (by omega) z4)]
          by_cases z5 : s = 45
          · rw [if_pos (show nI s = 45 from by rw [z5]; rfl), if_pos ⟨by omega, Or.inr z5⟩]
          · rw [if_neg (show ¬ nI s = 45 from i_lit (b := 45) (by omega) (by omega) z5), if_neg (by omega)]
    rw [e112 v (rolF s ws.length) 0] at eM
    have stop : ∀ (U : St) (k : Nat) (x4 : Int32), LM U → gF U 11 1 = nI P.length → (x4 = 0 ∨ 0 ≤ gI U 0 19) → m_readLine_66 g (n2 + 1) U (nI s) (nI (60 + P.length)) (nI k) x4 = some (sF (sF U 7 (60 + P.length) (nI k)) 11 1 (nI (P.length + 1))) := by
      intro U k x4 hU hU11 hx
      show b_readLine_66 g (m_readLine_66 g n2) U (nI s) (nI (60 + P.length)) (nI k) x4 = _
      unfold b_readLine_66
      rcases hx with hx | hx
      · rw [if_pos hx, (M_185 hU hU11 hP).1]
      · rw [if_pos hx, (M_185 hU hU11 hP).1]
        exact ifo rfl rfl
    have badM : ∀ (x5 : Int32), x5 = 0 ∨ x5 = 1 → ∃ S2' p, m_readLine_166 g (m_readLine_66 g (n2 + 1)) T (nI s) (nI (60 + P.length)) (nI ws.length) x5 x5 = some S2' ∧ FRq S2 S2' ∧ gI S2' 0 19 = nI a ∧ p ≤ le + 1 ∧ gI S2' 0 18 = nI p := by
      intro x5 hx5
      have hU : LM (sI T 0 19 (nI a)) := mT.2.1.of rfl
      have h18' : ∃ p, p ≤ le + 1 ∧ gI T 0 18 = nI p := by
        rcases b4 with ⟨z1, -, z2⟩ | ⟨z1, -, -, -, -, z2, -⟩ | ⟨z1, -, -, -, z2⟩
        · exact ⟨le, by omega, z2⟩
        · have := (rdN_s (tp := tp) (c := 32) (le - a) a).2.1
          exact ⟨_, by omega, z2⟩
        · rcases z2 with ⟨us, b, y1, -, y2, -⟩ | ⟨-, -, p, y1, y2⟩
          · have := (rdT_b mS.1.2.2.2 hle 3001 (a + 1) [] us b y1).2.1
            exact ⟨b, by omega, y2⟩
          · exact ⟨p, y1, y2⟩
      obtain ⟨p, p1, p2⟩ := h18'
      unfold m_readLine_166 m_readLine_174
      rw [b3, lt_d]
      rcases hx5 with rfl | rfl
      · rw [if_pos rfl, stop _ _ _ hU h11 (Or.inl rfl)]
        exact ⟨_, p, rfl, ((FRq.fw b2).tr (FRq.sI (by omega))).tr (M_185 (g := g) hU h11 hP).2, (show gI (sI T 0 19 (nI a)) 0 19 = nI a from sI_g), p1, by show gI (sI T 0 19 (nI a)) 0 18 = _; rw [gI_ne (by omega)]; exact p2⟩
      · rw [if_neg (by decide), lt_d, nI_1, stop _ _ _ hU h11 (Or.inr (by rw [sI_g]; exact nI_pos' (by omega)))]
        exact ⟨_, p, rfl, ((FRq.fw b2).tr (FRq.sI (by omega))).tr (M_185 (g := g) (k := ws.length + 1) hU h11 hP).2, (show gI (sI T 0 19 (nI a)) 0 19 = nI a from sI_g), p1, by show gI (sI T 0 19 (nI a)) 0 18 = _; rw [gI_ne (by omega)]; exact p2⟩
    have isBad : ∀ (S' : St) (x5 : Int32), x5 = 0 ∨ x5 = 1 → FRd d S S' → RwR S' d → m_Rd_readWords_10 g (n1 + 1) S s (nI (ltN s)) (nI ws.length) = some (S', nI a) → m_readLine_66 g (n2 + 2) S2 (nI s) (nI (60 + P.length)) (nI ws.length) 1 = m_readLine_166 g (m_readLine_66 g (n2 + 1)) T (nI s) (nI (60 + P.length)) (nI ws.length) x5 x5 → WsO g d tp P s le lits S S2 (m_Rd_readWords_10 g (n1 + 1) S s (nI (ltN s)) (nI ws.length)) (m_readLine_66 g (n2 + 2) S2 (nI s) (nI (60 + P.length)) (nI ws.length) 1) := by
      intro S' x5 hx5 hf hrr h1 h2
      obtain ⟨S2', p, z1, z2, z3, z4, z5⟩ := badM x5 hx5
      exact Or.inr ⟨S', S2', a, by omega, h1, h2.trans z1, hf, hrr, z2, z3, p, z4, z5⟩
    by_cases q : a = le
    · have hv : v = 0 ∧ gI T 0 18 = nI le := by
        rcases b4 with ⟨-, z1, z2⟩ | ⟨z, -⟩ | ⟨z, -⟩
        · exact ⟨z1, z2⟩
        · omega
        · omega
      obtain ⟨rfl, v18⟩ := hv
      rw [if_neg (nI_nlt (by omega) (by omega))] at eC
      have rl := rol_le s hs ws.length (by omega)
      unfold m_readLine_113 at eM
      rw [if_pos rfl] at eM
      by_cases q2 : leT.getD s 0 ≤ nI ws.length
      · rw [if_pos q2] at eC
        have e134 : m_readLine_134 g (m_readLine_66 g (n2 + 1)) T (nI s) (nI (60 + P.length)) (nI ws.length) 0 0 (rolF s ws.length) = some (sF (sF T 7 (60 + P.length) (nI ws.length)) 11 1 (nI (P.length + 1))) := by
          unfold m_readLine_134 m_readLine_174
          rw [if_pos rfl, if_pos rfl, stop _ _ _ mT.2.1 h11 (Or.inl rfl)]
        have eM : m_readLine_66 g (n2 + 2) S2 (nI s) (nI (60 + P.length)) (nI ws.length) 1 = some (sF (sF T 7 (60 + P.length) (nI ws.length)) 11 1 (nI (P.length + 1))) := by
          rw [eM, e134]
          rcases rl.mp q2 with z | z
          · rw [if_pos z]
          · rw [if_pos z, if_neg (show ¬ (1 : Int32) = 0 by decide)]
            exact ifo rfl rfl
        have f185 := (M_185 (g := g) (k := ws.length) mT.2.1 h11 hP).2
        refine Or.inl ⟨S1, _, ws, lits, eC, eM, c1, f1, e4, ⟨mT.1.rq f185, mT.2.1.rq f185, mT.2.2.1.rq f185, mT.2.2.2.1.snoc qT (by omega) hP, mT.2.2.2.2.1.of (fun a i _ _ => by rw [gF_ne (by omega), gF_ne (by omega)]), mT.2.2.2.2.2⟩, (FRq.fw b2).tr f185, v18, q2, by omega, wo, ⟨lo.1, by have := lo.2.1; omega, lo.2.2⟩, ⟨[], by simp⟩, by omega⟩
      · rw [if_neg q2, ← q] at eC
        have rl' : ¬ (rolF s ws.length ≤ 0) ∧ ¬ (1 < ws.length ∧ (s = 4 ∨ s = 45)) := ⟨fun z => q2 (rl.mpr (Or.inl z)), fun z => q2 (rl.mpr (Or.inr z))⟩
        rw [if_neg rl'.1, if_neg rl'.2, if_pos rfl] at eM
        exact isBad S1 0 (Or.inl rfl) f1 c1.rr eC eM
    · have qa : a < le := by omega
      have hv : v = 1 := by
        rcases b4 with ⟨z, -⟩ | ⟨-, z, -⟩ | ⟨-, z, -⟩
        · omega
        · exact z
        · exact z
      subst hv
      have nx : (¬ rdB tp a = 34 ∧ gI T 0 23 = 0 ∧ gI T 0 24 = 1 ∧ gI T 0 18 = nI (rdN tp 32 (le - a) a) ∧ gI T 0 21 = nI (rdN tp 32 (le - a) a)) ∨ (rdB tp a = 34 ∧ gI T 0 23 = 1 ∧ ((∃ us b, rdT tp le 3001 (a + 1) [] = some (us, b) ∧ us.length ≤ 400 ∧ gI T 0 18 = nI b ∧ gI T 0 22 = nI us.length ∧ gI T 0 24 = 1 ∧ ∀ y, y < us.length → gF T 17 y = us.getD y 0) ∨ ((∀ us b, rdT tp le 3001 (a + 1) [] = some (us, b) → 400 < us.length) ∧ gI T 0 24 = 0))) := by
        rcases b4 with ⟨z, -⟩ | ⟨-, -, z1, z2, z3, z4, z5⟩ | ⟨-, -, z1, z2, z3⟩
        · omega
        · exact Or.inl ⟨z1, z2, z3, z4, z5⟩
        · refine Or.inr ⟨z1, z2, ?_⟩
          rcases z3 with z3 | ⟨z3, z4, -⟩
          · exact Or.inl z3
          · exact Or.inr ⟨z3, z4⟩
      rw [if_pos (nI_lt qa (by omega))] at eC
      unfold m_readLine_113 m_readLine_134 at eM
      rw [if_neg (show ¬ (1 : Int32) = 0 by decide), if_neg (show ¬ (1 : Int32) = 0 by decide)] at eM
      first
        | (have hk : ws.length = ltN s := by omega
           rw [show rolF s ws.length = 0 from by rw [hk]; exact rol_end s hs, if_pos rfl] at eM
           rw [if_pos (by rw [hk])] at eC
           exact isBad S1 1 (Or.inr rfl) f1 c1.rr eC eM)
        | (have hr : rlL (rolF s ws.length) (lett s (nI ws.length)) := rol_lt hs (show ws.length < ltN s by omega)
           rw [if_neg (i_lit (by omega) (by omega) (by omega))] at eC
           rw [if_neg (rol_nz hr).1, show nI (60 + P.length) * (10 : Int32) + nI ws.length = nI (10 * (60 + P.length) + ws.length) from by rw [show (10 : Int32) = nI 10 from rfl, nI_mulE, nI_add, Nat.mul_comm]] at eM
           rcases B_word hg c1 mT qT L (show j ≤ a by omega) qa a3 e4 (hsk.2.2.elim (fun z => absurd z (by omega)) (fun z => z.2)) hP (by omega) hF ⟨lo.1, by have := lo.2.1; omega, lo.2.2⟩ hr b3 nx with ⟨S3, T3, z1, z2, z3, w, lits', b, u1, u2, u3, u4, u5, u6, u7, u8, u9, u10, u11, u12, u13, u14, ⟨r15, u15⟩, u16⟩ | ⟨S3, z1, z2, z0, z3⟩
           · rw [z1, Option.bind_some] at eC
             unfold m_readLine_174 at eM
             rw [if_neg (show ¬ gI T 0 24 = 0 from by rw [z2]; decide), z3, Option.bind_some] at eM
             have eC : m_Rd_readWords_10 g (n1 + 1) S s (nI (ltN s)) (nI ws.length) = m_Rd_readWords_67 g (m_Rd_readWords_10 g n1) S3 s (nI (ltN s)) (nI ws.length) (nI a) 1 := eC
             unfold m_Rd_readWords_67 at eC
             rw [if_neg (by decide), lt_d, nI_1] at eC
             have eM : m_readLine_66 g (n2 + 2) S2 (nI s) (nI (60 + P.length)) (nI ws.length) 1 = m_readLine_66 g (n2 + 1) T3 (nI s) (nI (60 + P.length)) (nI (ws.length + 1)) 1 := by
               rw [eM]
               show (if (1 : Int32) = 0 then _ else _) = _
               rw [if_neg (by decide), if_neg (by decide), lt_d, nI_1]
             have wo' : WSo lits' s (ws ++ [w]) := by
               intro y x hx
               rcases ws_get hx with ⟨y1, y2⟩ | ⟨y1, rfl⟩
               · obtain ⟨p1, p2, p3⟩ := wo y x y2
                 exact ⟨okL_mo p1 (fun n hn => by rw [u15, List.length_append]; omega), p2, p3⟩
               · rw [y1]
                 exact ⟨u11, ⟨a, by omega, u12⟩, u13⟩
             have hlen : (ws ++ [w]).length = ws.length + 1 := by simp
             have hi := ih n1 (n2 + 1) b (ws ++ [w]) lits' S3 T3 (by rw [hlen]; omega) (by omega) (by omega) u1 u5 u6 (by omega) u10 u3 u4 u8 u14 wo' (by
               rw [List.map_append, List.sum_append, u15, wo.ext, ← u15]
               simp
               omega)
             rw [hlen] at hi
             rw [eC, eM]
             rcases hi with ⟨Sx, Sy, wx, lx, y1, y2, y3, y4, y5, y6, y7, y8, y9, y10, y11, y12, ⟨r, y13⟩, y14⟩ | ⟨Sx, Sy, pl, y1, y2, y3, y4, y0, y5, y6⟩
             · exact Or.inl ⟨Sx, Sy, wx, lx, y1, y2, y3, (f1.tr u2).tr y4, y5, y6, ((FRq.fw b2).tr u7).tr y7, y8, y9, y10, y11, y12, ⟨r15 ++ r, by rw [y13, u15, List.append_assoc]⟩, y14⟩
             · exact Or.inr ⟨Sx, Sy, pl, y1, y2, y3, (f1.tr u2).tr y4, y0, ((FRq.fw b2).tr u7).tr y5, y6⟩
           · rw [z1, Option.bind_some] at eC
             have eC : m_Rd_readWords_10 g (n1 + 1) S s (nI (ltN s)) (nI ws.length) = some (S3, nI a) := eC.trans (if_pos rfl)
             refine isBad S3 1 (Or.inr rfl) (f1.tr z2) z0 eC (eM.trans ?_)
             rcases z3 with z3 | ⟨z3, z4⟩
             · rw [if_pos z3]
             · rw [if_neg (show ¬ gI T 0 24 = 0 from by rw [z3]; decide), z4, Option.bind_some]
               exact if_pos rfl)
end RDL
