/-! READING: LITERALS are looked up on both sides -/
theorem PrC.of {S S' : St} {p : Nat} {P : Prg} (w : PrC S p P) (h8 : gI S' p 8 = gI S p 8) (hF : ∀ a i, 58 ≤ a → a ≤ 73 → gF S' a i = gF S a i) (hG : ∀ a i, 58 ≤ a → a ≤ 73 → gG S' a i = gG S a i) : PrC S' p P := by
  obtain ⟨p1, p2, p3, p4, p5, p6⟩ := w
  refine ⟨p1, p2, p3, h8.trans p4, fun i hi => (hF _ _ (by omega) (by omega)).trans (p5 i hi), fun i s ws h => ?_⟩
  obtain ⟨z1, z2⟩ := p6 i s ws h
  refine ⟨(hF _ _ (by omega) (by omega)).trans z1, fun j w hw => ?_⟩
  rw [hF _ _ (by omega) (by omega), hF _ _ (by omega) (by omega), hF _ _ (by omega) (by omega), hG _ _ (by omega) (by omega)]
  exact z2 j w hw
def LitsC (S : St) (d : Nat) (lits : List (List Int32)) : Prop := Rw S (8 + 3 * d + 0) lits.flatten 0 ∧ Rw S (8 + 3 * d + 1) (endsC lits) 0
def LitsM (S : St) (lits : List (List Int32)) : Prop := gF S 15 1 = nI lits.length ∧ ∀ n l, lits[n]? = some l → gF S 13 (24 + n) = nI (3000 + stC lits n) ∧ gF S 14 (24 + n) = nI l.length ∧ ∀ i, i < l.length → gF S 12 (3000 + stC lits n + i) = l.getD i 0
/-- the reference: only LITERALS of what is read have changed -/
def Flt (S S' : St) : Prop := S'.1 = S.1 ∧ S'.2.1 = S.2.1 ∧ S'.2.2.1 = S.2.2.1 ∧ S'.2.2.2.1 = S.2.2.2.1 ∧ (∀ a i, ¬ (a = 12 ∧ 3000 ≤ i) → ¬ ((a = 13 ∨ a = 14) ∧ 24 ≤ i) → ¬ (a = 15 ∧ i = 1) → gF S' a i = gF S a i) ∧ S'.2.2.2.2.2 = S.2.2.2.2.2
theorem Flt.rf {S : St} : Flt S S := ⟨rfl, rfl, rfl, rfl, fun _ _ _ _ _ => rfl, rfl⟩
theorem Flt.tr {S S1 S2 : St} (h1 : Flt S S1) (h2 : Flt S1 S2) : Flt S S2 := ⟨h2.1.trans h1.1, h2.2.1.trans h1.2.1, h2.2.2.1.trans h1.2.2.1, h2.2.2.2.1.trans h1.2.2.2.1, fun a i x y z => (h2.2.2.2.2.1 a i x y z).trans (h1.2.2.2.2.1 a i x y z), h2.2.2.2.2.2.trans h1.2.2.2.2.2⟩
theorem Flt.sF {S : St} {b j : Nat} {v : Int32} (h : (b = 12 ∧ 3000 ≤ j) ∨ ((b = 13 ∨ b = 14) ∧ 24 ≤ j) ∨ (b = 15 ∧ j = 1)) : Flt S (sF S b j v) := ⟨rfl, rfl, rfl, rfl, fun a i x y z => by
  by_cases q : a = b
  · subst q
    exact gF_sFi (by rintro rfl; omega)
  · exact gF_ne q, rfl⟩
theorem Flt.I {S S' : St} (h : Flt S S') (o k : Nat) : gI S' o k = gI S o k := by unfold gI; rw [h.1]
theorem Flt.G {S S' : St} (h : Flt S S') (a i : Nat) : gG S' a i = gG S a i := by unfold gG; rw [h.2.2.2.2.2]
theorem FRq.lt {S S' : St} (h : Flt S S') : FRq S S' := ⟨fun k _ => h.I 0 k, h.2.2.1, h.2.2.2.1, fun a i x => h.2.2.2.2.1 a i x.2.2.2.1 x.2.2.2.2.1 (fun z => x.2.2.1 ⟨Or.inr z.1, z.2⟩), fun a i _ => h.G a i⟩
theorem PrM.lt {S S' : St} {q : Nat} {P : Prg} (w : PrM S q P) (h : Flt S S') : PrM S' q P := by
  have F := h.2.2.2.2.1
  obtain ⟨p1, p2, p3, p4⟩ := w
  refine ⟨p1, p2, by rw [F 11 _ (by omega) (by omega) (by omega)]; exact p3, fun i s ws hi => ?_⟩
  rw [F 6 _ (by omega) (by omega) (by omega), F 7 _ (by omega) (by omega) (by omega)]
  obtain ⟨z1, z2, z3, z4⟩ := p4 i s ws hi
  refine ⟨z1, z2, z3, fun j w hw => ?_⟩
  rw [F 8 _ (by omega) (by omega) (by omega), F 9 _ (by omega) (by omega) (by omega), h.G]
  exact z4 j w hw
theorem CurQ.lt {S S' : St} {n s : Nat} {ws : List Wd} (w : CurQ S n s ws) (h : Flt S S') : CurQ S' n s ws := by
  have F := h.2.2.2.2.1
  refine ⟨by rw [F 6 _ (by omega) (by omega) (by omega)]; exact w.1, fun j x hx => ?_⟩
  rw [F 8 _ (by omega) (by omega) (by omega), F 9 _ (by omega) (by omega) (by omega), h.G]
  exact w.2 j x hx
section RDH
variable {g d : Nat} {S S2 : St} {lits : List (List Int32)} {us : List Int32}
theorem ends_at {n : Nat} (h : n < lits.length) (hL : lits.length < 2 ^ 31) : atR (endsC lits) (nI n) = nI (stC lits (n + 1)) := by
  rw [atR_nI (by omega)]
  unfold endsC
  rw [List.getD_eq_getElem?_getD, List.getElem?_map, List.getElem?_range h]
  rfl
theorem stC_0 : stC lits 0 = 0 := by simp [stC]
theorem C_lstart {n : Nat} (w : LitsC S d lits) (h : n ≤ lits.length) (hL : lits.length ≤ 24) : m_Pg_literalStart g S d (nI n) = some (nI (stC lits n)) := by
  unfold m_Pg_literalStart
  by_cases q : n = 0
  · subst q
    rw [if_neg (by decide), stC_0]
    rfl
  · obtain ⟨m, rfl⟩ : ∃ m, n = m + 1 := ⟨n - 1, by omega⟩
    rw [if_pos (show (0 : Int32) < nI (m + 1) from nI_lt (a := 0) (by omega) (by omega)), nI_pred, R_at w.2, ends_at (by omega) (by omega)]
    rfl
theorem M_43 {k7 : St → Int32 → Int32 → Int32 → Option (St × Int32)} {x1 : Int32} {n : Nat} {l : List Int32} (hm : LM S2) (w : LitsM S2 lits) (hn : lits[n]? = some l) (hn24 : n < 24) (hfl : lits.flatten.length ≤ 3000) (h22 : gI S2 0 22 = nI us.length) (h17 : ∀ y, y < us.length → gF S2 17 y = us.getD y 0) (hu : us.length ≤ 400) (hlen : l.length = us.length) : ∀ (k f x : Nat), x + k = us.length → k < f → m_readsLiteral_43 g k7 f S2 x1 (nI (24 + n)) 1 (nI x) = m_readsLiteral_94 g k7 S2 x1 (nI (24 + n)) (if ∀ z, z < us.length → x ≤ z → l.getD z 0 = us.getD z 0 then 1 else 0) := by
  have h12 : gN S2 12 = 6000 := LMn hm 12
  have h13 : gN S2 13 = 48 := LMn hm 13
  have h17n : gN S2 17 = 401 := LMn hm 17
  obtain ⟨w1, w2⟩ := w
  obtain ⟨a1, a2, a3⟩ := w2 n l hn
  have hst := stC_le (cs := lits) (t := n + 1)
  rw [stC_succ hn] at hst
  intro k
  induction k with
  | zero =>
    intro f x hx hf
    obtain ⟨f, rfl⟩ : ∃ m, f = m + 1 := ⟨f - 1, by omega⟩
    show b_readsLiteral_43 g k7 (m_readsLiteral_43 g k7 f) S2 x1 _ _ _ = _
    unfold b_readsLiteral_43
    rw [h22, if_pos (nI_le (by omega) (by omega)), if_pos (fun z h1 h2 => by omega)]
  | succ k ih =>
    intro f x hx hf
    obtain ⟨f, rfl⟩ : ∃ m, f = m + 1 := ⟨f - 1, by omega⟩
    have eq : m_readsLiteral_43 g k7 (f + 1) S2 x1 (nI (24 + n)) 1 (nI x) = b_readsLiteral_43 g k7 (m_readsLiteral_43 g k7 f) S2 x1 (nI (24 + n)) 1 (nI x) := rfl
    unfold b_readsLiteral_43 at eq
    rw [h22, if_neg (nI_ge (by omega) (by omega)), if_neg (by decide), aI_at (S := S2) (a := 13) (i := 24 + n) (by omega) (by omega), Option.bind_some, a1, nI_add, aI_at (S := S2) (a := 12) (by omega) (by omega), Option.bind_some, a3 x (by omega), aI_at (S := S2) (a := 17) (by omega) (by omega), Option.bind_some, h17 x (by omega)] at eq
    by_cases q : l.getD x 0 = us.getD x 0
    · rw [if_pos q, lt_d, nI_1, ih f (x + 1) (by omega) (by omega)] at eq
      rw [eq]
      congr 1
      by_cases q2 : ∀ z, z < us.length → x + 1 ≤ z → l.getD z 0 = us.getD z 0
      · rw [if_pos q2, if_pos (fun z h1 h2 => by
          by_cases q3 : z = x
          · rw [q3]; exact q
          · exact q2 z h1 (by omega))]
      · rw [if_neg q2, if_neg (fun h => q2 (fun z h1 h2 => h z h1 (by omega)))]
    · rw [if_neg q, lt_d, nI_1] at eq
      rw [eq, if_neg (fun h => q (h x (by omega) (Nat.le_refl _)))]
      obtain ⟨f, rfl⟩ : ∃ m, f = m + 1 := ⟨f - 1, by omega⟩
      show b_readsLiteral_43 g k7 (m_readsLiteral_43 g k7 f) S2 x1 _ _ _ = _
      unfold b_readsLiteral_43
      rw [if_pos rfl]
      exact ifo rfl rfl
theorem M_184 {x1 : Int32} {x3 X : Nat} (hX : 3000 ≤ X) (hX2 : X + us.length ≤ 6000) (hu : us.length ≤ 400) : ∀ (k f i : Nat) (T : St), i + k = us.length → k < f → LM T → gI T 0 22 = nI us.length → (∀ y, y < us.length → gF T 17 y = us.getD y 0) → ∃ T', m_readsLiteral_184 g f T x1 (nI X) (nI (24 + x3)) (nI i) = (m_keeps g T' x1 (3 : Int32) ((nI x3).toInt64)).bind (fun (S_9, v_10) => if v_10 = 0 ∨ v_10 = 1 then some (S_9, v_10) else none) ∧ Flt T T' ∧ (∀ z, ¬ (X + i ≤ z ∧ z < X + us.length) → gF T' 12 z = gF T 12 z) ∧ (∀ z, i ≤ z → z < us.length → gF T' 12 (X + z) = us.getD z 0) ∧ ∀ a z, a ≠ 12 → gF T' a z = gF T a z := by
  intro k
  induction k with
  | zero =>
    intro f i T hi hf hm h22 h17
    obtain ⟨f, rfl⟩ : ∃ m, f = m + 1 := ⟨f - 1, by omega⟩
    refine ⟨T, ?_, Flt.rf, fun _ _ => rfl, fun z h1 h2 => by omega, fun _ _ _ => rfl⟩
    show b_readsLiteral_184 g (m_readsLiteral_184 g f) T x1 _ _ _ = _
    unfold b_readsLiteral_184
    rw [h22, if_pos (nI_le (by omega) (by omega)), show nI (24 + x3) - (24 : Int32) = nI x3 from by rw [show (24 : Int32) = nI 24 from rfl, nI_sub (by omega), Nat.add_sub_cancel_left]]
  | succ k ih =>
    intro f i T hi hf hm h22 h17
    obtain ⟨f, rfl⟩ : ∃ m, f = m + 1 := ⟨f - 1, by omega⟩
    have h12 : gN T 12 = 6000 := LMn hm 12
    have h17n : gN T 17 = 401 := LMn hm 17
    have eq : m_readsLiteral_184 g (f + 1) T x1 (nI X) (nI (24 + x3)) (nI i) = b_readsLiteral_184 g (m_readsLiteral_184 g f) T x1 (nI X) (nI (24 + x3)) (nI i) := rfl
    unfold b_readsLiteral_184 at eq
    rw [h22, if_neg (nI_ge (by omega) (by omega)), aI_at (by omega) (by omega), Option.bind_some, h17 i (by omega), nI_add, tI_at (by omega) (by omega), Option.bind_some, lt_d, nI_1] at eq
    have f1 : Flt T (sF T 12 (X + i) (us.getD i 0)) := Flt.sF (Or.inl ⟨rfl, by omega⟩)
    obtain ⟨T', b1, b2, b3, b4, b5⟩ := ih f (i + 1) (sF T 12 (X + i) (us.getD i 0)) (by omega) (by omega) (hm.of f1.2.2.2.1) h22 (fun y hy => by rw [gF_ne (by decide)]; exact h17 y hy)
    refine ⟨T', eq.trans b1, f1.tr b2, fun z hz => ?_, fun z h1 h2 => ?_, fun a z ha => by rw [b5 a z ha, gF_ne ha]⟩
    · rw [b3 z (by omega), gF_sFi (by omega)]
    · by_cases q : z = i
      · rw [q, b3 _ (by omega), gF_sF]
      · exact b4 z (by omega) h2
theorem stC_app {n : Nat} (h : n ≤ lits.length) : stC (lits ++ [us]) n = stC lits n := by
  unfold stC
  rw [List.take_append_of_le_length h]
theorem ends_app : endsC (lits ++ [us]) = endsC lits ++ [nI (lits.flatten.length + us.length)] := by
  unfold endsC
  rw [List.length_append, List.length_singleton, List.range_succ, List.map_append, List.map_singleton]
  congr 1
  · apply List.map_congr_left
    intro t ht
    rw [stC_app (by have := List.mem_range.mp ht; omega)]
  · rw [stC_succ (l := us) (by simp), stC_app (Nat.le_refl _)]
    unfold stC
    rw [List.take_length]
/-- a LITERAL is looked up, or is new -/
theorem B_lits {x : Nat} (hg : 100000 ≤ g) (hd : d = 1 ∨ d = 2) (w : LitsC S d lits) (wm : LitsM S2 lits) (hk : gOK S) (hm : LM S2) (w17 : Rw S 17 us 0) (h22 : gI S2 0 22 = nI us.length) (h17 : ∀ y, y < us.length → gF S2 17 y = us.getD y 0) (hu : us.length ≤ 400) (hfl : lits.flatten.length + us.length ≤ 3000) (hL : lits.length ≤ 24) (hx : x < 1800) : ∀ (k f1 f2 n : Nat), n + k = lits.length → k < f1 → k < f2 → (∃ m lits' S' T, m_Pg_literalWith_2 g f1 S d 17 (nI n) = some (S', nI m) ∧ m < lits'.length ∧ lits'.length ≤ 24 ∧ m_readsLiteral_7 g f2 S2 (nI x) (nI (3000 + stC lits n)) (nI (24 + n)) = some (kpS T x 3 (nI m).toInt64, 1) ∧ LitsC S' d lits' ∧ FRd d S S' ∧ (∀ o k, o < 10 → gI S' o k = gI S o k) ∧ (∀ a, 58 ≤ a → (∀ i, gF S' a i = gF S a i) ∧ ∀ i, gG S' a i = gG S a i) ∧ Rw S' 17 us 0 ∧ LitsM T lits' ∧ Flt S2 T ∧ (lits' = lits ∨ lits' = lits ++ [us]) ∧ lits'[m]? = some us) ∨ (m_Pg_literalWith_2 g f1 S d 17 (nI n) = some (S, -1) ∧ m_readsLiteral_7 g f2 S2 (nI x) (nI (3000 + stC lits n)) (nI (24 + n)) = some (S2, 0)) := by
  have h13 : gN S2 13 = 48 := LMn hm 13
  have h14 : gN S2 14 = 48 := LMn hm 14
  have h15 : gN S2 15 = 2 := LMn hm 15
  have e2 : gI S (8 + 3 * d + 1) 2 = nI lits.length := by rw [w.2.2.2.1, endsC_len]
  have e15 : aI S2 15 (1 : Int32) = some (nI lits.length) := by
    rw [show (1 : Int32) = nI 1 from rfl, aI_at (by omega) (by omega), wm.1]
  intro k
  induction k with
  | zero =>
    intro f1 f2 n hn hf1 hf2
    obtain ⟨f1, rfl⟩ : ∃ m, f1 = m + 1 := ⟨f1 - 1, by omega⟩
    obtain ⟨f2, rfl⟩ : ∃ m, f2 = m + 1 := ⟨f2 - 1, by omega⟩
    have hn : n = lits.length := by omega
    subst hn
    have eC : m_Pg_literalWith_2 g (f1 + 1) S d 17 (nI lits.length) = b_Pg_literalWith_2 g (m_Pg_literalWith_2 g f1) S d 17 (nI lits.length) := rfl
    have eM : m_readsLiteral_7 g (f2 + 1) S2 (nI x) (nI (3000 + stC lits lits.length)) (nI (24 + lits.length)) = b_readsLiteral_7 g (m_readsLiteral_7 g f2) S2 (nI x) (nI (3000 + stC lits lits.length)) (nI (24 + lits.length)) := rfl
    unfold b_Pg_literalWith_2 at eC
    unfold b_readsLiteral_7 at eM
    have est : stC lits lits.length = lits.flatten.length := by unfold stC; rw [List.take_length]
    rw [e2, if_pos (nI_le (Nat.le_refl _) (by omega))] at eC
    rw [e15, Option.bind_some, show (24 : Int32) = nI 24 from rfl, nI_add, if_pos (nI_le (Nat.le_refl _) (by omega)), Option.bind_some, Option.bind_some, lt_d, Option.bind_some, nI_add] at eM
    by_cases q : lits.length = 24
    · rw [if_neg (show ¬ nI lits.length < (24 : Int32) from nI_nlt (b := 24) (by omega) (by omega))] at eC
      rw [if_pos (by rw [q])] at eM
      exact Or.inr ⟨eC, eM⟩
    · rw [if_pos (show nI lits.length < (24 : Int32) from nI_lt (b := 24) (by omega) (by omega))] at eC
      rw [if_neg (i_lit (by omega) (by omega) q), nI_1] at eM
      have w0 : gI S (8 + 3 * d + 0) 2 = nI lits.flatten.length := w.1.2.2.1
      have lim0 : limC (8 + 3 * d + 0) = 3000 := by rcases hd with rfl | rfl <;> rfl
      have lim1 : limC (8 + 3 * d + 1) = 24 := by rcases hd with rfl | rfl <;> rfl
      obtain ⟨S1, a1, a2, a3⟩ := R_insert (g := g) (p := lits.flatten.length) (s := 0) (n := us.length) w.1 w17 (by omega) hk (Nat.le_refl _) (by omega)
      rw [lim0, if_pos hfl, if_pos hfl, seg_all, List.take_length, List.drop_length, List.append_nil] at a3
      rw [w0, w17.2.2.1] at eC
      rw [Nat.zero_add] at a1
      have a1 : m_Row_insert g S (8 + 3 * d + 0) (nI lits.flatten.length) 17 (0 : Int32) (nI us.length) = some S1 := a1
      rw [a1, Option.bind_some] at eC
      unfold m_Pg_literalWith_97 m_Pg_literalWith_111 at eC
      obtain ⟨S3, b1, b2, b3⟩ := R_add (g := g) (v := nI (lits.flatten.length + us.length)) (w.2.fr a2 (by omega)) (hk.fr a2)
      rw [lim1, if_pos (by rw [endsC_len]; omega), if_pos (by rw [endsC_len]; omega), ← ends_app] at b3
      rw [show gI S1 (8 + 3 * d + 0) 2 = nI (lits.flatten.length + us.length) from by rw [a3.2.2.1, List.length_append], b1, Option.bind_some, show gI S3 (8 + 3 * d + 1) 2 = nI (lits.length + 1) from by rw [b3.2.2.1, endsC_len, List.length_append, List.length_singleton], nI_pred] at eC
      have a3' : Rw S3 (8 + 3 * d + 0) (lits ++ [us]).flatten 0 := by
        rw [show (lits ++ [us]).flatten = lits.flatten ++ us from by simp]
        exact a3.fr b2 (by omega)
      rw [show (1 : Int32) = nI 1 from rfl, tI_at (S := S2) (a := 15) (i := 1) (by omega) (by omega), Option.bind_some, tI_at (S := sF S2 15 1 (nI (lits.length + 1))) (a := 13) (i := 24 + lits.length) (by show _ < gN S2 13; omega) (by show gN S2 13 < _; omega), Option.bind_some] at eM
      rw [show gI (sF (sF S2 15 1 (nI (lits.length + 1))) 13 (24 + lits.length) (nI (3000 + stC lits lits.length))) 0 22 = nI us.length from h22, tI_at (S := sF (sF S2 15 1 (nI (lits.length + 1))) 13 (24 + lits.length) (nI (3000 + stC lits lits.length))) (a := 14) (i := 24 + lits.length) (by show _ < gN S2 14; omega) (by show gN S2 14 < _; omega), Option.bind_some] at eM
      have fT : Flt S2 (sF (sF (sF S2 15 1 (nI (lits.length + 1))) 13 (24 + lits.length) (nI (3000 + stC lits lits.length))) 14 (24 + lits.length) (nI us.length)) := ((Flt.sF (Or.inr (Or.inr ⟨rfl, rfl⟩))).tr (Flt.sF (Or.inr (Or.inl ⟨Or.inl rfl, by omega⟩)))).tr (Flt.sF (Or.inr (Or.inl ⟨Or.inr rfl, by omega⟩)))
      obtain ⟨T, c1, c2, c3, c4, c5⟩ := M_184 (g := g) (us := us) (x1 := nI x) (x3 := lits.length) (X := 3000 + stC lits lits.length) (by omega) (by omega) hu us.length g 0 _ (by omega) (by omega) (hm.of fT.2.2.2.1) h22 (fun y hy => by rw [fT.2.2.2.2.1 17 y (by omega) (by omega) (by omega)]; exact h17 y hy)
      have hmT : LM T := (hm.of fT.2.2.2.1).of c2.2.2.2.1
      rw [show (0 : Int32) = nI 0 from rfl, c1, M_keeps hmT hx, Option.bind_some] at eM
      refine Or.inl ⟨lits.length, lits ++ [us], S3, T, eC, by simp, by simp; omega, eM.trans (if_pos (Or.inr rfl)), ⟨a3', b3⟩, (FRd.fr a2 (by omega)).tr (FRd.fr b2 (by omega)), fun o k ho => by rw [b2.1 o k (by omega), a2.1 o k (by omega)], fun a ha => ⟨fun i => by rw [(b2.2.2.2.1 a (by omega)).2, (a2.2.2.2.1 a (by omega)).2], fun i => by unfold gG; rw [b2.2.2.2.2, a2.2.2.2.2]⟩, (w17.fr a2 (by omega)).fr b2 (by omega), ⟨?_, fun n l h => ?_⟩, fT.tr c2, Or.inr rfl, by simp⟩
      · rw [c5 15 1 (by decide), gF_ne (by decide), gF_ne (by decide), gF_sF, List.length_append, List.length_singleton]
      · by_cases q2 : n < lits.length
        · rw [List.getElem?_append_left q2] at h
          obtain ⟨z1, z2, z3⟩ := wm.2 n l h
          have hst := stC_le (cs := lits) (t := n + 1)
          rw [stC_succ h] at hst
          rw [stC_app (by omega), c5 13 _ (by decide), gF_ne (by decide), gF_sFi (by omega), gF_ne (by decide), c5 14 _ (by decide), gF_sFi (by omega), gF_ne (by decide), gF_ne (by decide)]
          refine ⟨z1, z2, fun i hi => ?_⟩
          rw [c3 _ (by omega), gF_ne (by decide), gF_ne (by decide), gF_ne (by decide)]
          exact z3 i hi
        · have hn : n < (lits ++ [us]).length := (List.getElem?_eq_some_iff.mp h).1
          rw [List.length_append, List.length_singleton] at hn
          have hn : n = lits.length := by omega
          subst hn
          rw [List.getElem?_append_right (Nat.le_refl _), Nat.sub_self] at h
          cases h
          rw [stC_app (Nat.le_refl _), c5 13 _ (by decide), gF_ne (by decide), gF_sF, c5 14 _ (by decide), gF_sF]
          exact ⟨rfl, rfl, fun i hi => c4 i (by omega) hi⟩
  | succ k ih =>
    intro f1 f2 n hn hf1 hf2
    obtain ⟨f1, rfl⟩ : ∃ m, f1 = m + 1 := ⟨f1 - 1, by omega⟩
    obtain ⟨f2, rfl⟩ : ∃ m, f2 = m + 1 := ⟨f2 - 1, by omega⟩
    have hnl : n < lits.length := by omega
    obtain ⟨l, hl⟩ : ∃ l, lits[n]? = some l := ⟨lits[n], List.getElem?_eq_getElem hnl⟩
    have eC : m_Pg_literalWith_2 g (f1 + 1) S d 17 (nI n) = b_Pg_literalWith_2 g (m_Pg_literalWith_2 g f1) S d 17 (nI n) := rfl
    have eM : m_readsLiteral_7 g (f2 + 1) S2 (nI x) (nI (3000 + stC lits n)) (nI (24 + n)) = b_readsLiteral_7 g (m_readsLiteral_7 g f2) S2 (nI x) (nI (3000 + stC lits n)) (nI (24 + n)) := rfl
    unfold b_Pg_literalWith_2 at eC
    unfold b_readsLiteral_7 at eM
    have hsl := stC_le (cs := lits) (t := n + 1)
    have hss := stC_succ hl
    obtain ⟨z1, z2, z3⟩ := wm.2 n l hl
    rw [e2, if_neg (nI_ge (by omega) (by omega)), C_lstart w (by omega) hL, Option.bind_some, R_at w.2, ends_at hnl (by omega), Option.bind_some, nI_sub (by omega), hss, Nat.add_sub_cancel_left, w17.2.2.1, lt_d, nI_1] at eC
    rw [e15, Option.bind_some, show (24 : Int32) = nI 24 from rfl, nI_add, if_neg (nI_ge (by omega) (by omega)), aI_at (S := S2) (a := 14) (i := 24 + n) (by omega) (by omega), Option.bind_some, z2, h22] at eM
    have e94 : m_readsLiteral_94 g (m_readsLiteral_7 g f2) S2 (nI x) (nI (24 + n)) 0 = m_readsLiteral_7 g f2 S2 (nI x) (nI (3000 + stC lits (n + 1))) (nI (24 + (n + 1))) := by
      unfold m_readsLiteral_94
      rw [if_pos rfl, aI_at (S := S2) (a := 13) (i := 24 + n) (by omega) (by omega), Option.bind_some, aI_at (S := S2) (a := 14) (i := 24 + n) (by omega) (by omega), Option.bind_some, z1, z2, lt_d, lt_d, nI_add, nI_1, hss, Nat.add_assoc]
      rfl
    have e0 : m_readsLiteral_43 g (m_readsLiteral_7 g f2) g S2 (nI x) (nI (24 + n)) 0 0 = m_readsLiteral_94 g (m_readsLiteral_7 g f2) S2 (nI x) (nI (24 + n)) 0 := by
      obtain ⟨G, hG⟩ : ∃ G, g = G + 1 := ⟨g - 1, by omega⟩
      have e : m_readsLiteral_43 g (m_readsLiteral_7 g f2) (G + 1) S2 (nI x) (nI (24 + n)) 0 0 = b_readsLiteral_43 g (m_readsLiteral_7 g f2) (m_readsLiteral_43 g (m_readsLiteral_7 g f2) G) S2 (nI x) (nI (24 + n)) 0 0 := rfl
      rw [← hG] at e
      rw [e]
      unfold b_readsLiteral_43
      rw [if_pos rfl]
      exact ifo rfl rfl
    by_cases q : l.length = us.length
    · rw [if_pos (by rw [q]), show (0 : Int32) = nI 0 from rfl, q, R_holds (p := 0) (s := stC lits n) (n := us.length) w17 w.1 hg (Nat.zero_le _) (by omega), Option.bind_some, Nat.zero_add, seg_all, ← q, segC hl] at eC
      rw [if_pos (by rw [q]), show (0 : Int32) = nI 0 from rfl, M_43 (g := g) (us := us) hm wm hl (by omega) (by omega) h22 h17 hu q us.length g 0 (by omega) (by omega)] at eM
      by_cases q2 : us = l
      · rw [if_pos (show l.length ≤ l.length ∧ us = l from ⟨Nat.le_refl _, q2⟩), if_neg (by decide)] at eC
        rw [if_pos (fun z _ _ => by rw [q2])] at eM
        unfold m_readsLiteral_94 at eM
        rw [if_neg (by decide), show nI (24 + n) - (24 : Int32) = nI n from by rw [show (24 : Int32) = nI 24 from rfl, nI_sub (by omega), Nat.add_sub_cancel_left], M_keeps hm hx, Option.bind_some] at eM
        exact Or.inl ⟨n, lits, S, S2, eC, hnl, hL, eM.trans (if_pos (Or.inr rfl)), w, FRd.rf, fun _ _ _ => rfl, fun _ _ => ⟨fun _ => rfl, fun _ => rfl⟩, w17, wm, Flt.rf, Or.inl rfl, by rw [hl, q2]⟩
      · rw [if_neg (show ¬ (l.length ≤ l.length ∧ us = l) from fun h => q2 h.2), if_pos (show (0 : Int32) = nI 0 from rfl)] at eC
        rw [if_neg (fun h => q2 (ext_D q.symm (fun z hz => (h z hz (Nat.zero_le _)).symm))), e94] at eM
        rw [eC, eM]
        exact ih f1 f2 (n + 1) (by omega) (by omega) (by omega)
    · rw [if_neg (i_lit (by omega) (by omega) q)] at eC
      rw [if_neg (i_lit (by omega) (by omega) q), e0, e94] at eM
      rw [eC, eM]
      exact ih f1 f2 (n + 1) (by omega) (by omega) (by omega)
end RDH
