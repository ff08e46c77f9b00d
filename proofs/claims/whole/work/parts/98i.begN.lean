/-! a run begins: the reference, whole -/
theorem FBM.fa {a : Nat} {S S' : St} (h : FA a S S') (ha : stpAr a ∨ a = 16 ∨ a = 31) : FBM S S' := ⟨fun k _ _ _ _ _ => h.i 0 k, h.2.1, h.2.2.1, h.2.2.2.1, fun b hb c d => ⟨fun i => h.2.2.2.2.1 b (fun e => by subst e; rcases ha with h | h | h; exact hb h; exact c h; exact d h) i, fun i => h.2.2.2.2.2 b (fun e => by subst e; rcases ha with h | h | h; exact hb h; exact c h; exact d h) i⟩⟩
theorem TXs.fa {a : Nat} {S S' : St} {ts : List (List Int32)} {u : Nat} (w : TXs S ts u) (h : FA a S S') (ha : a ≠ 22 ∧ a ≠ 23 ∧ a ≠ 24) : TXs S' ts u := by
  obtain ⟨x1, x2, x3, x4, x5⟩ := w
  refine ⟨(h.i _ _).trans x1, x2, x3, (h.i _ _).trans x4, fun t l ht => ?_⟩
  obtain ⟨f, y1, y2, y3, y4⟩ := x5 t l ht
  exact ⟨f, (h.2.2.2.2.1 23 (by omega) t).trans y1, (h.2.2.2.2.1 24 (by omega) t).trans y2, y3, fun i hi => (h.2.2.2.2.1 22 (by omega) _).trans (y4 i hi)⟩
theorem PoM.fa {a : Nat} {S S' : St} {pl : List Nat} (w : PoM S pl) (h : FA a S S') (ha : a ≠ 25) : PoM S' pl := ⟨(h.i _ _).trans w.1, w.2.1, fun i hi => (h.2.2.2.2.1 25 (by omega) i).trans (w.2.2 i hi)⟩
section BGN
variable {g q : Nat} {P : Prg} {lits : List (List Int32)} {x1 : Int32}
theorem M_f30 : ∀ (k n i : Nat) (S : St), i + k = 20 → k < n → LM S → ∃ S', m_begin_30 g n S x1 (nI i) = m_begin_51 g g S' x1 0 ∧ FA 26 S S' ∧ (∀ j, i ≤ j → j < 20 → gF S' 26 j = -1) ∧ ∀ j, j < i → gF S' 26 j = gF S 26 j := by
  intro k
  induction k with
  | zero =>
    intro n i S hi hn hm
    obtain ⟨n, rfl⟩ : ∃ m, n = m + 1 := ⟨n - 1, by omega⟩
    refine ⟨S, ?_, ⟨rfl, rfl, rfl, rfl, fun _ _ _ => rfl, fun _ _ _ => rfl⟩, fun j h1 h2 => by omega, fun _ _ => rfl⟩
    show b_begin_30 g (m_begin_30 g n) S x1 _ = _
    unfold b_begin_30
    rw [if_pos (show (20 : Int32) ≤ nI i from nI_le (a := 20) (by omega) (by omega))]
  | succ k ih =>
    intro n i S hi hn hm
    obtain ⟨n, rfl⟩ : ∃ m, n = m + 1 := ⟨n - 1, by omega⟩
    have hA : gN S 26 = gN SM0 26 := LMn hm 26
    have hA' : gN SM0 26 = 20 := rfl
    have f1 : FA 26 S (sF S 26 i (-1 : Int32)) := ⟨rfl, rfl, rfl, rfl, fun b hb j => gF_ne hb, fun _ _ _ => rfl⟩
    obtain ⟨S', a1, a2, a3, a4⟩ := ih n (i + 1) (sF S 26 i (-1 : Int32)) (by omega) (by omega) hm
    refine ⟨S', ?_, f1.tr a2, fun j h1 h2 => ?_, fun j hj => ?_⟩
    · show b_begin_30 g (m_begin_30 g n) S x1 _ = _
      unfold b_begin_30
      rw [if_neg (show ¬ (20 : Int32) ≤ nI i from nI_ge (b := 20) (by omega) (by omega)), tI_at (by omega) (by omega), Option.bind_some, lt_d, nI_1, a1]
    · by_cases e : j = i
      · subst e
        rw [a4 j (by omega), gF_sF]
      · exact a3 j (by omega) h2
    · rw [a4 j (by omega), gF_sFi (by omega)]
theorem M_f51 : ∀ (k n i : Nat) (S : St), i + k = 6 → k < n → LM S → ∃ S', m_begin_51 g n S x1 (nI i) = m_begin_72 g g S' x1 0 ∧ FA 28 S S' ∧ (∀ j, i ≤ j → j < 6 → gF S' 28 j = -1) ∧ ∀ j, j < i → gF S' 28 j = gF S 28 j := by
  intro k
  induction k with
  | zero =>
    intro n i S hi hn hm
    obtain ⟨n, rfl⟩ : ∃ m, n = m + 1 := ⟨n - 1, by omega⟩
    refine ⟨S, ?_, ⟨rfl, rfl, rfl, rfl, fun _ _ _ => rfl, fun _ _ _ => rfl⟩, fun j h1 h2 => by omega, fun _ _ => rfl⟩
    show b_begin_51 g (m_begin_51 g n) S x1 _ = _
    unfold b_begin_51
    rw [if_pos (show (6 : Int32) ≤ nI i from nI_le (a := 6) (by omega) (by omega))]
  | succ k ih =>
    intro n i S hi hn hm
    obtain ⟨n, rfl⟩ : ∃ m, n = m + 1 := ⟨n - 1, by omega⟩
    have hA : gN S 28 = gN SM0 28 := LMn hm 28
    have hA' : gN SM0 28 = 6 := rfl
    have f1 : FA 28 S (sF S 28 i (-1 : Int32)) := ⟨rfl, rfl, rfl, rfl, fun b hb j => gF_ne hb, fun _ _ _ => rfl⟩
    obtain ⟨S', a1, a2, a3, a4⟩ := ih n (i + 1) (sF S 28 i (-1 : Int32)) (by omega) (by omega) hm
    refine ⟨S', ?_, f1.tr a2, fun j h1 h2 => ?_, fun j hj => ?_⟩
    · show b_begin_51 g (m_begin_51 g n) S x1 _ = _
      unfold b_begin_51
      rw [if_neg (show ¬ (6 : Int32) ≤ nI i from nI_ge (b := 6) (by omega) (by omega)), tI_at (by omega) (by omega), Option.bind_some, lt_d, nI_1, a1]
    · by_cases e : j = i
      · subst e
        rw [a4 j (by omega), gF_sF]
      · exact a3 j (by omega) h2
    · rw [a4 j (by omega), gF_sFi (by omega)]
theorem M_f72 : ∀ (k n i : Nat) (S : St), i + k = 12 → k < n → LM S → ∃ S', m_begin_72 g n S x1 (nI i) = m_begin_93 g g S' x1 0 ∧ FA 32 S S' ∧ (∀ j, i ≤ j → j < 12 → gG S' 32 j = 0) ∧ ∀ j, j < i → gG S' 32 j = gG S 32 j := by
  intro k
  induction k with
  | zero =>
    intro n i S hi hn hm
    obtain ⟨n, rfl⟩ : ∃ m, n = m + 1 := ⟨n - 1, by omega⟩
    refine ⟨S, ?_, ⟨rfl, rfl, rfl, rfl, fun _ _ _ => rfl, fun _ _ _ => rfl⟩, fun j h1 h2 => by omega, fun _ _ => rfl⟩
    show b_begin_72 g (m_begin_72 g n) S x1 _ = _
    unfold b_begin_72
    rw [if_pos (show (12 : Int32) ≤ nI i from nI_le (a := 12) (by omega) (by omega))]
  | succ k ih =>
    intro n i S hi hn hm
    obtain ⟨n, rfl⟩ : ∃ m, n = m + 1 := ⟨n - 1, by omega⟩
    have hA : gN S 32 = gN SM0 32 := LMn hm 32
    have hA' : gN SM0 32 = 12 := rfl
    have f1 : FA 32 S (sG S 32 i (0 : Int64)) := ⟨rfl, rfl, rfl, rfl, fun _ _ _ => rfl, fun b hb j => gG_ne hb⟩
    obtain ⟨S', a1, a2, a3, a4⟩ := ih n (i + 1) (sG S 32 i (0 : Int64)) (by omega) (by omega) hm
    have g1 : gG (sG S 32 i (0 : Int64)) 32 i = (0 : Int64) := by simp [gG, sG]
    have g2 : ∀ j, j ≠ i → gG (sG S 32 i (0 : Int64)) 32 j = gG S 32 j := fun j hj => by simp [gG, sG, hj]
    refine ⟨S', ?_, f1.tr a2, fun j h1 h2 => ?_, fun j hj => ?_⟩
    · show b_begin_72 g (m_begin_72 g n) S x1 _ = _
      unfold b_begin_72
      rw [if_neg (show ¬ (12 : Int32) ≤ nI i from nI_ge (b := 12) (by omega) (by omega)), tJ_at (by omega) (by omega), Option.bind_some, lt_d, nI_1, a1]
    · by_cases e : j = i
      · subst e
        rw [a4 j (by omega), g1]
      · exact a3 j (by omega) h2
    · rw [a4 j (by omega), g2 j (by omega)]
theorem M_f93 : ∀ (k n i : Nat) (S : St), i + k = 56 → k < n → LM S → ∃ S', m_begin_93 g n S x1 (nI i) = m_begin_114 g g S' x1 0 ∧ FA 31 S S' ∧ (∀ j, i ≤ j → j < 56 → gF S' 31 j = 0) ∧ ∀ j, j < i → gF S' 31 j = gF S 31 j := by
  intro k
  induction k with
  | zero =>
    intro n i S hi hn hm
    obtain ⟨n, rfl⟩ : ∃ m, n = m + 1 := ⟨n - 1, by omega⟩
    refine ⟨S, ?_, ⟨rfl, rfl, rfl, rfl, fun _ _ _ => rfl, fun _ _ _ => rfl⟩, fun j h1 h2 => by omega, fun _ _ => rfl⟩
    show b_begin_93 g (m_begin_93 g n) S x1 _ = _
    unfold b_begin_93
    rw [if_pos (show (56 : Int32) ≤ nI i from nI_le (a := 56) (by omega) (by omega))]
  | succ k ih =>
    intro n i S hi hn hm
    obtain ⟨n, rfl⟩ : ∃ m, n = m + 1 := ⟨n - 1, by omega⟩
    have hA : gN S 31 = gN SM0 31 := LMn hm 31
    have hA' : gN SM0 31 = 56 := rfl
    have f1 : FA 31 S (sF S 31 i (0 : Int32)) := ⟨rfl, rfl, rfl, rfl, fun b hb j => gF_ne hb, fun _ _ _ => rfl⟩
    obtain ⟨S', a1, a2, a3, a4⟩ := ih n (i + 1) (sF S 31 i (0 : Int32)) (by omega) (by omega) hm
    refine ⟨S', ?_, f1.tr a2, fun j h1 h2 => ?_, fun j hj => ?_⟩
    · show b_begin_93 g (m_begin_93 g n) S x1 _ = _
      unfold b_begin_93
      rw [if_neg (show ¬ (56 : Int32) ≤ nI i from nI_ge (b := 56) (by omega) (by omega)), tI_at (by omega) (by omega), Option.bind_some, lt_d, nI_1, a1]
    · by_cases e : j = i
      · subst e
        rw [a4 j (by omega), gF_sF]
      · exact a3 j (by omega) h2
    · rw [a4 j (by omega), gF_sFi (by omega)]
theorem M_f114 {N : Nat} (hN : N ≤ 24) : ∀ (k n i : Nat) (S : St), i + k = N → k < n → LM S → gF S 15 0 = nI N → ∃ S', m_begin_114 g n S x1 (nI i) = m_begin_139 g g S' x1 0 ∧ FA 16 S S' ∧ (∀ j, i ≤ j → j < N → gF S' 16 j = -1) ∧ ∀ j, j < i → gF S' 16 j = gF S 16 j := by
  intro k
  induction k with
  | zero =>
    intro n i S hi hn hm hN15
    obtain ⟨n, rfl⟩ : ∃ m, n = m + 1 := ⟨n - 1, by omega⟩
    have h15 : gN S 15 = 2 := LMn hm 15
    refine ⟨S, ?_, ⟨rfl, rfl, rfl, rfl, fun _ _ _ => rfl, fun _ _ _ => rfl⟩, fun j h1 h2 => by omega, fun _ _ => rfl⟩
    show b_begin_114 g (m_begin_114 g n) S x1 _ = _
    unfold b_begin_114
    rw [show aI S 15 (0 : Int32) = some (gF S 15 0) from aI_at (a := 15) (i := 0) (by omega) (by omega), Option.bind_some, hN15, if_pos (nI_le (by omega) (by omega))]
  | succ k ih =>
    intro n i S hi hn hm hN15
    obtain ⟨n, rfl⟩ : ∃ m, n = m + 1 := ⟨n - 1, by omega⟩
    have hA : gN S 16 = gN SM0 16 := LMn hm 16
    have hA' : gN SM0 16 = 24 := rfl
    have h15 : gN S 15 = 2 := LMn hm 15
    have f1 : FA 16 S (sF S 16 i (-1 : Int32)) := ⟨rfl, rfl, rfl, rfl, fun b hb j => gF_ne hb, fun _ _ _ => rfl⟩
    obtain ⟨S', a1, a2, a3, a4⟩ := ih n (i + 1) (sF S 16 i (-1 : Int32)) (by omega) (by omega) hm (by exact (gF_ne (by decide)).trans hN15)
    refine ⟨S', ?_, f1.tr a2, fun j h1 h2 => ?_, fun j hj => ?_⟩
    · show b_begin_114 g (m_begin_114 g n) S x1 _ = _
      unfold b_begin_114
      rw [show aI S 15 (0 : Int32) = some (gF S 15 0) from aI_at (a := 15) (i := 0) (by omega) (by omega), Option.bind_some, hN15, if_neg (nI_ge (by omega) (by omega)), tI_at (by omega) (by omega), Option.bind_some, lt_d, nI_1, a1]
    · by_cases e : j = i
      · subst e
        rw [a4 j (by omega), gF_sF]
      · exact a3 j (by omega) h2
    · rw [a4 j (by omega), gF_sFi (by omega)]
theorem M_lits_l {s x : Nat} {ws : List Wd} (hg : 100000 ≤ g) (hi : P[x]? = some (s, ws)) (hok : ∀ w ∈ ws, w.1 < 10 ∧ (w.1 = 3 → ∃ n : Nat, n < lits.length ∧ w.2.1.toInt = (n : Int))) : ∀ (k n j : Nat) (S : St) (us : List Nat), j + k = ws.length → k < n → PrM S q P → LitM S lits → LM S → MB S lits us → ∃ S', m_literals_2 g n S (nI (60 * q + x)) (nI j) = some S' ∧ FT5 S S' ∧ MB S' lits (usS lits (occW (ws.drop j)) us) ∧ (∀ n, ¬ gF S 16 n = -1 → ¬ gF S' 16 n = -1) ∧ ∀ n ∈ occW (ws.drop j), ¬ gF S' 16 n = -1 := by
  intro k
  induction k with
  | zero =>
    intro n j S us hj hn pm lm hm w
    obtain ⟨n, rfl⟩ : ∃ m, n = m + 1 := ⟨n - 1, by omega⟩
    rw [List.drop_eq_nil_of_le (by omega)]
    refine ⟨S, ?_, FT5.rf, w, fun _ h => h, fun n hn => by simp [occW] at hn⟩
    have h7 : gN S 7 = 180 := LMn hm 7
    have hx := (List.getElem?_eq_some_iff.mp hi).1
    have p1 := pm.1
    have p2 := pm.2.1
    obtain ⟨y1, y2, y3, y4⟩ := pm.2.2.2 x s ws hi
    show b_literals_2 g (m_literals_2 g n) S _ _ = _
    unfold b_literals_2
    rw [aI_at (by omega) (by omega), y3, Option.bind_some, if_pos (nI_le (by omega) (by omega))]
  | succ k ih =>
    intro n j S us hj hn pm lm hm w
    obtain ⟨n, rfl⟩ : ∃ m, n = m + 1 := ⟨n - 1, by omega⟩
    have h7 : gN S 7 = 180 := LMn hm 7
    have h8 : gN S 8 = 1800 := LMn hm 8
    have h10 : gN S 10 = 1800 := LMn hm 10
    have h16 : gN S 16 = 24 := LMn hm 16
    have h24 := lm.2.1
    have hx := (List.getElem?_eq_some_iff.mp hi).1
    have p1 := pm.1
    have p2 := pm.2.1
    obtain ⟨y1, y2, y3, y4⟩ := pm.2.2.2 x s ws hi
    have hjl : j < ws.length := by omega
    have hw : ws[j]? = some ws[j] := List.getElem?_eq_getElem hjl
    have hmem : ws[j] ∈ ws := List.getElem_mem hjl
    have hd : ws.drop j = ws[j] :: ws.drop (j + 1) := List.drop_eq_getElem_cons hjl
    generalize ws[j] = c at hw hmem hd
    obtain ⟨z1, z2, z3⟩ := y4 j c hw
    obtain ⟨hc10, hc3⟩ := hok c hmem
    have e0 : m_literals_2 g (n + 1) S (nI (60 * q + x)) (nI j) = b_literals_2 g (m_literals_2 g n) S (nI (60 * q + x)) (nI j) := rfl
    unfold b_literals_2 at e0
    rw [aI_at (by omega) (by omega), y3, Option.bind_some, if_neg (nI_ge (by omega) (by omega)), show ((10 : Int32) * nI (60 * q + x)) + nI j = nI (10 * (60 * q + x) + j) from by rw [show (10 : Int32) = nI 10 from rfl, nI_mulE, nI_add], aJ_at (by omega) (by omega), z2, Option.bind_some, lt_d, aI_at (by omega) (by omega), z1, Option.bind_some] at e0
    rw [hd]
    by_cases h3 : c.1 = 3
    · obtain ⟨z, v1, v2⟩ := hc3 h3
      have ez : c.2.1.toInt.toNat = z := by omega
      have eo : occW (c :: ws.drop (j + 1)) = z :: occW (ws.drop (j + 1)) := by
        show (if c.1 = 3 then c.2.1.toInt.toNat :: occW (ws.drop (j + 1)) else _) = _
        rw [if_pos h3, ez]
      rw [eo]
      rw [if_pos (show nI c.1 = 3 by rw [h3]; rfl), j32 v2 (by omega), aI_at (by omega) (by omega), Option.bind_some] at e0
      by_cases hf : gF S 16 z = -1
      · rw [hf, if_pos (by decide), lt_d] at e0
        obtain ⟨S1, a1, a2, a3, a4, a5⟩ := M_lit (g := g) (k2 := m_literals_2 g n) (x1 := nI (60 * q + x)) (x2 := nI j) hg v1 lm hm w hf
        obtain ⟨S', b1, b2, b3, b4, b5⟩ := ih n (j + 1) S1 _ (by omega) (by omega) (pm.fb a2.b) (lm.fb a2.b) (hm.fb a2.b) a3
        refine ⟨S', ?_, a2.tr b2, b3, fun m h => b4 m (a4 m h), fun m h => ?_⟩
        · rw [e0, a1, nI_1, b1]
        · rcases List.mem_cons.mp h with h | h
          · rw [h]; exact b4 z a5
          · exact b5 m h
      · have hus : usS lits (z :: occW (ws.drop (j + 1))) us = usS lits (occW (ws.drop (j + 1))) us := by
          show usS lits _ (if lits.getD z [] = [] ∨ z ∈ us then us else us ++ [z]) = _
          rw [if_pos]
          rcases w.2.2.2.2 z v1 with h | h | ⟨j', h, -⟩
          · exact absurd h.1 hf
          · exact Or.inl h.2
          · exact Or.inr (List.mem_of_getElem? h)
        have hneg : ¬ gF S 16 z < 0 := by
          have hsz := w.sz h24
          rcases w.2.2.2.2 z v1 with h | h | ⟨j', h1, h⟩
          · exact absurd h.1 hf
          · rw [h.1]; decide
          · have := (List.getElem?_eq_some_iff.mp h1).1
            rw [h]
            exact nI_nlt (b := 0) (by omega) (by omega)
        rw [if_neg hneg, lt_d, nI_1] at e0
        rw [hus]
        obtain ⟨S', b1, b2, b3, b4, b5⟩ := ih n (j + 1) S us (by omega) (by omega) pm lm hm w
        refine ⟨S', e0.trans b1, b2, b3, b4, fun m h => ?_⟩
        rcases List.mem_cons.mp h with h | h
        · rw [h]; exact b4 z hf
        · exact b5 m h
    · have eo : occW (c :: ws.drop (j + 1)) = occW (ws.drop (j + 1)) := by
        show (if c.1 = 3 then c.2.1.toInt.toNat :: occW (ws.drop (j + 1)) else occW (ws.drop (j + 1))) = _
        rw [if_neg h3]
      rw [eo]
      rw [if_neg (show ¬ nI c.1 = 3 from fun h => h3 ((nI_eq (b := 3) (by omega) (by omega)).mp h)), lt_d, nI_1] at e0
      obtain ⟨S', b1, b2, b3, b4, b5⟩ := ih n (j + 1) S us (by omega) (by omega) pm lm hm w
      exact ⟨S', e0.trans b1, b2, b3, b4, b5⟩
theorem TXs.sx {S : St} {k : Nat} {v : Int32} {ts : List (List Int32)} {u : Nat} (w : TXs S ts u) (h : k ≠ 38 ∧ k ≠ 39) : TXs (sI S 0 k v) ts u := ⟨(gI_ne (by omega)).trans w.1, w.2.1, w.2.2.1, (gI_ne (by omega)).trans w.2.2.2.1, w.2.2.2.2⟩
theorem MB.sx {S : St} {k : Nat} {v : Int32} {us : List Nat} (w : MB S lits us) (h : k ≠ 38 ∧ k ≠ 39 ∧ k ≠ 41) : MB (sI S 0 k v) lits us := ⟨w.1.sx ⟨h.1, h.2.1⟩, ⟨(gI_ne (by omega)).trans w.2.1.1, w.2.1.2⟩, w.2.2⟩
theorem occ_drop {x s : Nat} {ws : List Wd} (hi : P[x]? = some (s, ws)) : occP (P.drop x) = occW ws ++ occP (P.drop (x + 1)) := by
  have hx := (List.getElem?_eq_some_iff.mp hi).1
  rw [List.drop_eq_getElem_cons hx, (List.getElem?_eq_some_iff.mp hi).2]
  rfl
theorem M_b139 (hg : 100000 ≤ g) (hok : ∀ (i s : Nat) (ws : List Wd), P[i]? = some (s, ws) → ∀ w ∈ ws, w.1 < 10 ∧ (w.1 = 3 → ∃ n : Nat, n < lits.length ∧ w.2.1.toInt = (n : Int))) : ∀ (k n x : Nat) (S : St) (us : List Nat), x + k = P.length → k < n → PrM S q P → LitM S lits → LM S → MB S lits us → ∃ S', m_begin_139 g n S (nI q) (nI x) = some (sI (sI (sI (sI (sI (sI S' 0 50 0) 0 51 0) 0 52 (-1)) 0 53 0) 0 54 0) 0 55 0) ∧ FT5 S S' ∧ MB S' lits (usS lits (occP (P.drop x)) us) ∧ (∀ n, ¬ gF S 16 n = -1 → ¬ gF S' 16 n = -1) ∧ ∀ n ∈ occP (P.drop x), ¬ gF S' 16 n = -1 := by
  intro k
  induction k with
  | zero =>
    intro n x S us hx hn pm lm hm w
    obtain ⟨n, rfl⟩ : ∃ m, n = m + 1 := ⟨n - 1, by omega⟩
    rw [List.drop_eq_nil_of_le (by omega)]
    refine ⟨S, ?_, FT5.rf, w, fun _ h => h, fun n hn => by simp [occP] at hn⟩
    have h11 : gN S 11 = 3 := LMn hm 11
    have p1 := pm.1
    have p2 := pm.2.1
    show b_begin_139 g (m_begin_139 g n) S _ _ = _
    unfold b_begin_139
    rw [aI_at (by omega) (by omega), pm.2.2.1, Option.bind_some, if_pos (nI_le (by omega) (by omega))]
    rfl
  | succ k ih =>
    intro n x S us hx hn pm lm hm w
    obtain ⟨n, rfl⟩ : ∃ m, n = m + 1 := ⟨n - 1, by omega⟩
    have h11 : gN S 11 = 3 := LMn hm 11
    have p1 := pm.1
    have p2 := pm.2.1
    have hxl : x < P.length := by omega
    have hi : P[x]? = some (P[x].1, P[x].2) := List.getElem?_eq_getElem hxl
    generalize P[x].1 = s at hi
    generalize P[x].2 = ws at hi
    have hw9 := (pm.2.2.2 x s ws hi).1
    rw [occ_drop hi, usS_app]
    obtain ⟨S1, a1, a2, a3, a4, a5⟩ := M_lits_l (g := g) hg hi (hok x s ws hi) ws.length g 0 S us (by omega) (by omega) pm lm hm w
    rw [List.drop_zero] at a3 a5
    obtain ⟨S', b1, b2, b3, b4, b5⟩ := ih n (x + 1) S1 _ (by omega) (by omega) (pm.fb a2.b) (lm.fb a2.b) (hm.fb a2.b) a3
    refine ⟨S', ?_, a2.tr b2, b3, fun m h => b4 m (a4 m h), fun m h => ?_⟩
    · show b_begin_139 g (m_begin_139 g n) S _ _ = _
      unfold b_begin_139 m_literals
      rw [aI_at (by omega) (by omega), pm.2.2.1, Option.bind_some, if_neg (nI_ge (by omega) (by omega)), show (nI q * (60 : Int32)) + nI x = nI (60 * q + x) from by rw [show (60 : Int32) = nI 60 from rfl, nI_mulE, nI_add, Nat.mul_comm q 60], show m_literals_2 g g S (nI (60 * q + x)) 0 = some S1 from a1, Option.bind_some, lt_d, nI_1, b1]
    · rcases List.mem_append.mp h with h | h
      · exact b4 m (a5 m h)
      · exact b5 m h
/-- what the reference has where a run begins -/
def BegM (S : St) (lits : List (List Int32)) (P : Prg) : Prop := MB S lits (usS lits (occP P) []) ∧ (∀ n ∈ occP P, ¬ gF S 16 n = -1) ∧ (∀ v, v < 20 → gF S 26 v = -1) ∧ (∀ b, b < 6 → gF S 28 b = -1) ∧ (∀ w, w < 12 → gG S 32 w = 0) ∧ (∀ s, s < 56 → gF S 31 s = 0) ∧ gI S 0 50 = 0 ∧ gI S 0 51 = 0 ∧ gI S 0 52 = -1 ∧ gI S 0 53 = 0 ∧ gI S 0 54 = 0 ∧ gI S 0 55 = 0 ∧ LM S
theorem M_begin {S : St} (hg : 100000 ≤ g) (pm : PrM S q P) (lm : LitM S lits) (hm : LM S) (hok : ∀ (i s : Nat) (ws : List Wd), P[i]? = some (s, ws) → ∀ w ∈ ws, w.1 < 10 ∧ (w.1 = 3 → ∃ n : Nat, n < lits.length ∧ w.2.1.toInt = (n : Int))) : ∃ S', m_begin g S (nI q) = some S' ∧ FBM S S' ∧ BegM S' lits P := by
  have fs0 : FS S (sI (sI (sI (sI S 0 38 0) 0 39 0) 0 57 0) 0 41 0) := (((FS_sI (by unfold stpSl; omega)).tr (FS_sI (by unfold stpSl; omega))).tr (FS_sI (by unfold stpSl; omega))).tr (FS_sI (by unfold stpSl; omega))
  generalize hS0 : sI (sI (sI (sI S 0 38 0) 0 39 0) 0 57 0) 0 41 0 = S0 at fs0
  have k38 : gI S0 0 38 = nI 0 := by rw [← hS0, gI_ne (by decide), gI_ne (by decide), gI_ne (by decide), sI_g]; rfl
  have k39 : gI S0 0 39 = nI 0 := by rw [← hS0, gI_ne (by decide), gI_ne (by decide), sI_g]; rfl
  have k57 : gI S0 0 57 = nI 0 := by rw [← hS0, gI_ne (by decide), sI_g]; rfl
  have k41 : gI S0 0 41 = nI 0 := by rw [← hS0, sI_g]; rfl
  have hm0 : LM S0 := hm.fs fs0
  have T0 : TXs S0 [] 0 := ⟨k38, by simp, by omega, k39, fun t l h => by simp at h⟩
  obtain ⟨S1, a1, a2, a3⟩ := O_made (g := g) (v := []) hg T0 hm0 ⟨k57, fun i hi => by simp at hi⟩ (by simp) (by simp) (by simp)
  have hm1 : LM S1 := hm0.of a2.2.2.2.1
  have P1 : PoM S1 [] := ⟨(a2.1 41 (by decide) (by decide)).trans k41, by simp, fun i hi => by simp at hi⟩
  obtain ⟨S2, b1, b2, b3⟩ := M_pools (g := g) (t := 0) hm1 P1 (by simp)
  have f2 : FBM S S2 := by
    rw [b2]
    exact ((FBM.fs fs0).tr (FBM.fs (FS.md a2))).tr ((FBM.fs (FS_sF (by unfold stpAr; omega))).tr (FBM.fs (FS_sI (by unfold stpSl; omega))))
  have T2 : TXs S2 [[]] 0 := by
    rw [b2]
    exact TXs.sx (TXs.fa (S' := sF S1 25 ([] : List Nat).length (nI 0)) (a := 25) a3 ⟨rfl, rfl, rfl, rfl, fun b hb j => gF_ne hb, fun _ _ _ => rfl⟩ (by decide)) (by decide)
  have hm2 : LM S2 := hm.fb f2
  obtain ⟨S3, c1, c2, c3, -⟩ := M_f30 (g := g) (x1 := nI q) 20 g 0 S2 (by omega) (by omega) hm2
  have f3 := f2.tr (FBM.fa c2 (Or.inl (by unfold stpAr; omega)))
  obtain ⟨S4, d1, d2, d3, -⟩ := M_f51 (g := g) (x1 := nI q) 6 g 0 S3 (by omega) (by omega) (hm.fb f3)
  have f4 := f3.tr (FBM.fa d2 (Or.inl (by unfold stpAr; omega)))
  obtain ⟨S5, e1, e2, e3, -⟩ := M_f72 (g := g) (x1 := nI q) 12 g 0 S4 (by omega) (by omega) (hm.fb f4)
  have f5 := f4.tr (FBM.fa e2 (Or.inl (by unfold stpAr; omega)))
  obtain ⟨S6, i1, i2, i3, -⟩ := M_f93 (g := g) (x1 := nI q) 56 g 0 S5 (by omega) (by omega) (hm.fb f5)
  have f6 := f5.tr (FBM.fa i2 (Or.inr (Or.inr rfl)))
  have h24 := lm.2.1
  obtain ⟨S7, j1, j2, j3, -⟩ := M_f114 (g := g) (x1 := nI q) (N := lits.length) h24 lits.length g 0 S6 (by omega) (by omega) (hm.fb f6) (lm.fb f6).1
  have f7 := f6.tr (FBM.fa j2 (Or.inr (Or.inl rfl)))
  have T7 : TXs S7 [[]] 0 := ((((T2.fa c2 (by decide)).fa d2 (by decide)).fa e2 (by decide)).fa i2 (by decide)).fa j2 (by decide)
  have P7 : PoM S7 [0] := ((((PoM.fa b3 c2 (by decide)).fa d2 (by decide)).fa e2 (by decide)).fa i2 (by decide)).fa j2 (by decide)
  have B7 : MB S7 lits [] := ⟨T7, P7, by simp, fun n hn => by simp at hn, fun n hn => Or.inl ⟨j3 n (by omega) hn, by simp⟩⟩
  have p2 := pm.2.1
  obtain ⟨S8, l1, l2, l3, l4, l5⟩ := M_b139 (g := g) hg hok P.length g 0 S7 [] (by omega) (by omega) (pm.fb f7) (lm.fb f7) (hm.fb f7) B7
  rw [List.drop_zero] at l3 l5
  have f8 := f7.tr l2.b
  refine ⟨_, ?_, f8.tr ((((((FBM.fs (FS_sI (k := 50) (v := 0) (by unfold stpSl; omega))).tr (FBM.fs (FS_sI (k := 51) (v := 0) (by unfold stpSl; omega)))).tr (FBM.sI (k := 52) (v := -1) (by omega))).tr (FBM.sI (k := 53) (v := 0) (by omega))).tr (FBM.sI (k := 54) (v := 0) (by omega))).tr (FBM.sI (k := 55) (v := 0) (by omega))), ?_⟩
  · unfold m_begin
    rw [lt_d, lt_d, lt_d, lt_d, hS0, a1, Option.bind_some]
    show (m_pools g S1 (nI 0)).bind _ = _
    rw [b1, Option.bind_some, show m_begin_30 g g S2 (nI q) 0 = _ from c1, show m_begin_51 g g S3 (nI q) 0 = _ from d1, show m_begin_72 g g S4 (nI q) 0 = _ from e1, show m_begin_93 g g S5 (nI q) 0 = _ from i1, show m_begin_114 g g S6 (nI q) 0 = _ from j1, show m_begin_139 g g S7 (nI q) 0 = _ from l1]
  · have ar : ∀ a, a = 26 ∨ a = 28 ∨ a = 32 ∨ a = 31 → (∀ i, gF S8 a i = gF S7 a i) ∧ ∀ i, gG S8 a i = gG S7 a i := fun a ha => l2.2.2.2.2 a (by omega) (by omega) (by omega) (by omega) (by omega) (by omega) (by omega)
    refine ⟨(((((l3.sx (by decide)).sx (by decide)).sx (by decide)).sx (by decide)).sx (by decide)).sx (by decide), l5, fun v hv => ?_, fun b hb => ?_, fun w hw => ?_, fun s hs => ?_, ?_, ?_, ?_, ?_, ?_, ?_, (show LM S8 from hm.fb f8)⟩
    · show gF S8 26 v = -1
      rw [(ar 26 (by omega)).1, j2.2.2.2.2.1 26 (by decide), i2.2.2.2.2.1 26 (by decide), e2.2.2.2.2.1 26 (by decide), d2.2.2.2.2.1 26 (by decide)]
      exact c3 v (by omega) hv
    · show gF S8 28 b = -1
      rw [(ar 28 (by omega)).1, j2.2.2.2.2.1 28 (by decide), i2.2.2.2.2.1 28 (by decide), e2.2.2.2.2.1 28 (by decide)]
      exact d3 b (by omega) hb
    · show gG S8 32 w = 0
      rw [(ar 32 (by omega)).2, j2.2.2.2.2.2 32 (by decide), i2.2.2.2.2.2 32 (by decide)]
      exact e3 w (by omega) hw
    · show gF S8 31 s = 0
      rw [(ar 31 (by omega)).1, j2.2.2.2.2.1 31 (by decide)]
      exact i3 s (by omega) hs
    · rw [gI_ne (by decide), gI_ne (by decide), gI_ne (by decide), gI_ne (by decide), gI_ne (by decide), sI_g]
    · rw [gI_ne (by decide), gI_ne (by decide), gI_ne (by decide), gI_ne (by decide), sI_g]
    · rw [gI_ne (by decide), gI_ne (by decide), gI_ne (by decide), sI_g]
    · rw [gI_ne (by decide), gI_ne (by decide), sI_g]
    · rw [gI_ne (by decide), sI_g]
    · rw [sI_g]
end BGN
