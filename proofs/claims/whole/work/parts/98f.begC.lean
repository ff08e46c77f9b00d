/-! a run begins: the class -/
/-- nothing but array a has changed -/
def FA (a : Nat) (S S' : St) : Prop := S'.1 = S.1 ∧ S'.2.1 = S.2.1 ∧ S'.2.2.1 = S.2.2.1 ∧ S'.2.2.2.1 = S.2.2.2.1 ∧ (∀ b, b ≠ a → ∀ i, gF S' b i = gF S b i) ∧ ∀ b, b ≠ a → ∀ i, gG S' b i = gG S b i
theorem FA.tr {a : Nat} {S S1 S2 : St} (h1 : FA a S S1) (h2 : FA a S1 S2) : FA a S S2 := ⟨h2.1.trans h1.1, h2.2.1.trans h1.2.1, h2.2.2.1.trans h1.2.2.1, h2.2.2.2.1.trans h1.2.2.2.1, fun b hb i => (h2.2.2.2.2.1 b hb i).trans (h1.2.2.2.2.1 b hb i), fun b hb i => (h2.2.2.2.2.2 b hb i).trans (h1.2.2.2.2.2 b hb i)⟩
theorem FA.i {a : Nat} {S S' : St} (h : FA a S S') (o k : Nat) : gI S' o k = gI S o k := by unfold gI; rw [h.1]
theorem FA.n {a : Nat} {S S' : St} (h : FA a S S') (b : Nat) : gN S' b = gN S b := by unfold gN; rw [h.2.2.2.1]
theorem FA.r {a : Nat} {S S' : St} (h : FA a S S') (o k : Nat) : gR S' o k = gR S o k := by unfold gR; rw [h.2.2.1]
theorem Rw.fa {a x : Nat} {S S' : St} {l : List Int32} {ov : Int32} (w : Rw S x l ov) (h : FA a S S') (ha : 58 ≤ a) : Rw S' x l ov := by
  obtain ⟨w0, w1, w2, w3, w4, w5, w6, w7, w8⟩ := w
  unfold Rw
  rw [h.i, h.i, h.i, h.n]
  exact ⟨w0, w1, w2, w3, w4, w5, w6, w7, fun i hi => (h.2.2.2.2.1 (x + 24) (by omega) i).trans (w8 i hi)⟩
section FIL
variable {g a N : Nat}
theorem fillI {v : Int32} (hN : N < 2 ^ 30) : ∀ (k n i : Nat) (S : St), i + k = N → k < n → gN S a = N → ∃ S', m_Arr_fill_53178_5 g n S a v (nI i) (nI N) = some S' ∧ FA a S S' ∧ (∀ j, i ≤ j → j < N → gF S' a j = v) ∧ ∀ j, j < i → gF S' a j = gF S a j := by
  intro k
  induction k with
  | zero =>
    intro n i S hi hn hS
    obtain ⟨n, rfl⟩ : ∃ m, n = m + 1 := ⟨n - 1, by omega⟩
    refine ⟨S, ?_, ⟨rfl, rfl, rfl, rfl, fun _ _ _ => rfl, fun _ _ _ => rfl⟩, fun j h1 h2 => by omega, fun _ _ => rfl⟩
    show b_Arr_fill_53178_5 g (m_Arr_fill_53178_5 g n) S a v _ _ = _
    unfold b_Arr_fill_53178_5
    rw [if_pos (nI_le (by omega) (by omega))]
  | succ k ih =>
    intro n i S hi hn hS
    obtain ⟨n, rfl⟩ : ∃ m, n = m + 1 := ⟨n - 1, by omega⟩
    have f1 : FA a S (sF S a i v) := ⟨rfl, rfl, rfl, rfl, fun b hb j => gF_ne hb, fun _ _ _ => rfl⟩
    obtain ⟨S', a1, a2, a3, a4⟩ := ih n (i + 1) (sF S a i v) (by omega) (by omega) hS
    refine ⟨S', ?_, f1.tr a2, fun j h1 h2 => ?_, fun j hj => ?_⟩
    · show b_Arr_fill_53178_5 g (m_Arr_fill_53178_5 g n) S a v _ _ = _
      unfold b_Arr_fill_53178_5
      rw [if_neg (nI_ge (by omega) (by omega)), tI_at (by omega) (by omega), Option.bind_some, lt_d, nI_1, a1]
    · by_cases e : j = i
      · subst e
        rw [a4 j (by omega), gF_sF]
      · exact a3 j (by omega) h2
    · rw [a4 j (by omega), gF_sFi (by omega)]
theorem fillJ {v : Int64} (hN : N < 2 ^ 30) : ∀ (k n i : Nat) (S : St), i + k = N → k < n → gN S a = N → ∃ S', m_Arr_fill_d0a16_6 g n S a v (nI i) (nI N) = some S' ∧ FA a S S' ∧ (∀ j, i ≤ j → j < N → gG S' a j = v) ∧ ∀ j, j < i → gG S' a j = gG S a j := by
  intro k
  induction k with
  | zero =>
    intro n i S hi hn hS
    obtain ⟨n, rfl⟩ : ∃ m, n = m + 1 := ⟨n - 1, by omega⟩
    refine ⟨S, ?_, ⟨rfl, rfl, rfl, rfl, fun _ _ _ => rfl, fun _ _ _ => rfl⟩, fun j h1 h2 => by omega, fun _ _ => rfl⟩
    show b_Arr_fill_d0a16_6 g (m_Arr_fill_d0a16_6 g n) S a v _ _ = _
    unfold b_Arr_fill_d0a16_6
    rw [if_pos (nI_le (by omega) (by omega))]
  | succ k ih =>
    intro n i S hi hn hS
    obtain ⟨n, rfl⟩ : ∃ m, n = m + 1 := ⟨n - 1, by omega⟩
    have f1 : FA a S (sG S a i v) := ⟨rfl, rfl, rfl, rfl, fun _ _ _ => rfl, fun b hb j => gG_ne hb⟩
    obtain ⟨S', a1, a2, a3, a4⟩ := ih n (i + 1) (sG S a i v) (by omega) (by omega) hS
    have g1 : gG (sG S a i v) a i = v := by simp [gG, sG]
    have g2 : ∀ j, j ≠ i → gG (sG S a i v) a j = gG S a j := fun j hj => by simp [gG, sG, hj]
    refine ⟨S', ?_, f1.tr a2, fun j h1 h2 => ?_, fun j hj => ?_⟩
    · show b_Arr_fill_d0a16_6 g (m_Arr_fill_d0a16_6 g n) S a v _ _ = _
      unfold b_Arr_fill_d0a16_6
      rw [if_neg (nI_ge (by omega) (by omega)), tJ_at (by omega) (by omega), Option.bind_some, lt_d, nI_1, a1]
    · by_cases e : j = i
      · subst e
        rw [a4 j (by omega), g1]
      · exact a3 j (by omega) h2
    · rw [a4 j (by omega), g2 j (by omega)]
theorem A_fill {v : Int32} {S : St} (hg : 100000 ≤ g) (hS : gN S a = N) (hN : N < 100000) : ∃ S', m_Arr_fill_53178 g S a v = some S' ∧ FA a S S' ∧ ∀ j, j < N → gF S' a j = v := by
  obtain ⟨S', a1, a2, a3, -⟩ := fillI (g := g) (a := a) (N := N) (v := v) (by omega) N g 0 S (by omega) (by omega) hS
  refine ⟨S', ?_, a2, fun j hj => a3 j (by omega) hj⟩
  unfold m_Arr_fill_53178
  rw [lt_d, hS]
  exact a1
theorem A_fillJ {v : Int64} {S : St} (hg : 100000 ≤ g) (hS : gN S a = N) (hN : N < 100000) : ∃ S', m_Arr_fill_d0a16 g S a v = some S' ∧ FA a S S' ∧ ∀ j, j < N → gG S' a j = v := by
  obtain ⟨S', a1, a2, a3, -⟩ := fillJ (g := g) (a := a) (N := N) (v := v) (by omega) N g 0 S (by omega) (by omega) hS
  refine ⟨S', ?_, a2, fun j hj => a3 j (by omega) hj⟩
  unfold m_Arr_fill_d0a16
  rw [lt_d, hS]
  exact a1
end FIL
/-- the texts of LITERALS, and their numbers -/
def lxT : List (List Int32) → List (List Int32)
  | [] => []
  | l :: r => if l = [] then lxT r else l :: lxT r
def lxL : List (List Int32) → Nat → List Nat
  | [], _ => []
  | l :: r, k => if l = [] then 0 :: lxL r k else k :: lxL r (k + 1)
/-- the class has a program's LITERALS -/
def LoadC (S : St) (lits : List (List Int32)) : Prop := Rw S 21 ((lxL lits 1).map nI) 0 ∧ gI S 5 4 = nI (1 + (lxT lits).length) ∧ (∃ r, Rw S 18 ((lxT lits).flatten ++ r) 0) ∧ ∃ r, Rw S 19 (endsC ([] :: lxT lits) ++ r) 0
/-- the LITERALS that a program uses, in their order -/
def occW : List Wd → List Nat
  | [] => []
  | w :: r => if w.1 = 3 then w.2.1.toInt.toNat :: occW r else occW r
def occP : Prg → List Nat
  | [] => []
  | s :: P => occW s.2 ++ occP P
/-- the pool of the class behind these LITERALS -/
def poolS (num : Nat → Nat) : List Nat → List Nat → List Nat
  | [], pl => pl
  | n :: r, pl => poolS num r (if num n ∈ pl then pl else pl ++ [num n])
def numL (lits : List (List Int32)) (n : Nat) : Nat := (lxL lits 1).getD n 0
/-- all words of a program, flat -/
def wdP (P : Prg) : List Wd := (P.map fun s => s.2).flatten
theorem wdP_len : ∀ {P : Prg}, (wdP P).length = fsP P P.length := by
  intro P
  induction P with
  | nil => rfl
  | cons c P ih =>
    show ((c.2 :: P.map fun s => s.2).flatten).length = c.2.length + fsP P P.length
    rw [List.flatten_cons, List.length_append, ← ih]
    rfl
theorem occW_app {a b : List Wd} : occW (a ++ b) = occW a ++ occW b := by
  induction a with
  | nil => rfl
  | cons c a ih =>
    show (if c.1 = 3 then c.2.1.toInt.toNat :: occW (a ++ b) else occW (a ++ b)) = (if c.1 = 3 then c.2.1.toInt.toNat :: occW a else occW a) ++ occW b
    split
    · rw [ih]; rfl
    · exact ih
theorem occP_w : ∀ {P : Prg}, occP P = occW (wdP P) := by
  intro P
  induction P with
  | nil => rfl
  | cons c P ih =>
    show occW c.2 ++ occP P = occW ((c.2 :: P.map fun s => s.2).flatten)
    rw [List.flatten_cons, occW_app, ih]
    rfl
theorem wdP_get : ∀ {P : Prg} {m : Nat} {w : Wd}, (wdP P)[m]? = some w → ∃ i s ws j, P[i]? = some (s, ws) ∧ ws[j]? = some w ∧ m = fsP P i + j := by
  intro P
  induction P with
  | nil => intro m w h; simp [wdP] at h
  | cons c P ih =>
    intro m w h
    have h' : (c.2 ++ wdP P)[m]? = some w := by
      have : wdP (c :: P) = c.2 ++ wdP P := by
        show ((c.2 :: P.map fun s => s.2).flatten) = _
        rw [List.flatten_cons]
        rfl
      rw [this] at h
      exact h
    by_cases hm : m < c.2.length
    · rw [List.getElem?_append_left hm] at h'
      exact ⟨0, c.1, c.2, m, rfl, h', by rw [fsP_0]; omega⟩
    · rw [List.getElem?_append_right (by omega)] at h'
      obtain ⟨i, s, ws, j, a1, a2, a3⟩ := ih h'
      refine ⟨i + 1, s, ws, j, by simpa using a1, a2, ?_⟩
      show m = c.2.length + fsP P i + j
      omega
section BGC
variable {g p : Nat} {P : Prg} {lits : List (List Int32)}
theorem pool_l {num : Nat → Nat} {ls : List Nat} (hg : 100000 ≤ g) (hk3 : ∀ (m : Nat) (w : Wd), (wdP P)[m]? = some w → w.1 < 10 ∧ (w.1 = 3 → ∃ n : Nat, n < ls.length ∧ w.2.1.toInt = (n : Int) ∧ num n = ls.getD n 0)) : ∀ (k n m : Nat) (S : St) (pl : List Nat), m + k = (wdP P).length → k < n → PrC S p P → LC S → gOK S → Rw S 21 (ls.map nI) 0 → (∀ x ∈ ls, x < 1465) → PoC S pl → (∀ x ∈ pl, x < 1465) → pl.length + k ≤ 1000000 → (poolS num (occW ((wdP P).drop m)) pl).length ≤ 85 → ∃ S', m_Tx_begin_48 g n S p (nI m) = some S' ∧ Fr 20 S S' ∧ PoC S' (poolS num (occW ((wdP P).drop m)) pl) := by
  intro k
  induction k with
  | zero =>
    intro n m S pl hm hn pc hl hk w21 hls hP hpl hpk h85
    obtain ⟨n, rfl⟩ : ∃ z, n = z + 1 := ⟨n - 1, by omega⟩
    have hd : (wdP P).drop m = [] := List.drop_eq_nil_of_le (by omega)
    rw [hd]
    refine ⟨S, ?_, Fr.rf, hP⟩
    obtain ⟨c1, c2, c3, c4, c5, c6⟩ := pc
    obtain ⟨n0, n1, n2, n3, n4, -⟩ := LCp hl c1
    have hwl := wdP_len (P := P)
    show b_Tx_begin_48 g (m_Tx_begin_48 g n) S p _ = _
    unfold b_Tx_begin_48
    rw [c4, aI_at (by omega) (by omega), c5 _ (Nat.le_refl _), Option.bind_some, if_pos (nI_le (by omega) (by omega))]
  | succ k ih =>
    intro n m S pl hm hn pc hl hk w21 hls hP hpl hpk h85
    obtain ⟨n, rfl⟩ : ∃ z, n = z + 1 := ⟨n - 1, by omega⟩
    have hml : m < (wdP P).length := by omega
    have hw : (wdP P)[m]? = some (wdP P)[m] := List.getElem?_eq_getElem hml
    have hd : (wdP P).drop m = (wdP P)[m] :: (wdP P).drop (m + 1) := List.drop_eq_getElem_cons hml
    generalize (wdP P)[m] = w at hw hd
    obtain ⟨hw10, hk3w⟩ := hk3 m w hw
    have pcc := pc
    obtain ⟨c1, c2, c3, c4, c5, c6⟩ := pcc
    obtain ⟨n0, n1, n2, n3, n4, -⟩ := LCp hl c1
    have hwl := wdP_len (P := P)
    obtain ⟨i, s, ws, j, a1, a2, a3⟩ := wdP_get hw
    obtain ⟨q1, q2, q3, -⟩ := (c6 i s ws a1).2 j w a2
    rw [← a3] at q1 q2 q3
    have e0 : m_Tx_begin_48 g (n + 1) S p (nI m) = b_Tx_begin_48 g (m_Tx_begin_48 g n) S p (nI m) := rfl
    unfold b_Tx_begin_48 m_Tx_begin_107 at e0
    rw [c4, aI_at (by omega) (by omega), c5 _ (Nat.le_refl _), Option.bind_some, if_neg (nI_ge (by omega) (by omega)), aI_at (by omega) (by omega), q1, Option.bind_some] at e0
    rw [hd] at h85 ⊢
    have t34 : ∀ z, z < 10 → (nI (ckW z) = 34 ↔ z = 3) := by decide +kernel
    by_cases h3 : w.1 = 3
    · obtain ⟨z, z1, z2, z3⟩ := hk3w h3
      have ez : w.2.1.toInt.toNat = z := by omega
      have hls24 : ls.length ≤ 24 := by
        have := w21.2.2.2.2.1
        rw [List.length_map, show limC 21 = 24 from by decide +kernel] at this
        exact this
      have eo : occW (w :: (wdP P).drop (m + 1)) = z :: occW ((wdP P).drop (m + 1)) := by
        show (if w.1 = 3 then w.2.1.toInt.toNat :: occW ((wdP P).drop (m + 1)) else _) = _
        rw [if_pos h3, ez]
      rw [eo] at h85 ⊢
      have hnz : num z < 1465 := by
        rw [z3, List.getD_eq_getElem?_getD, List.getElem?_eq_getElem z1]
        exact hls _ (List.getElem_mem z1)
      have eAt : m_Row_at g S 21 (nI z) = some (nI (num z)) := by
        rw [R_at w21, atR_nI (by omega), List.getD_eq_getElem?_getD, List.getElem?_map, List.getElem?_eq_getElem z1, z3, List.getD_eq_getElem?_getD, List.getElem?_eq_getElem z1]
        rfl
      have hmem : nI (num z) ∈ pl.map nI ↔ num z ∈ pl := by
        constructor
        · intro h
          obtain ⟨x, x1, x2⟩ := List.mem_map.mp h
          have := hpl x x1
          have : x = num z := (nI_eq (by omega) (by omega)).mp x2
          rw [← this]
          exact x1
        · intro h
          exact List.mem_map_of_mem h
      rw [if_pos ((t34 _ hw10).mpr h3), aJ_at (by omega) (by omega), q3, Option.bind_some, j32 z2 (by omega), eAt, Option.bind_some, R_placeOf hP hg, Option.bind_some, lt_d, nI_1] at e0
      show ∃ S', _ ∧ _ ∧ PoC S' (poolS num (occW ((wdP P).drop (m + 1))) (if num z ∈ pl then pl else pl ++ [num z]))
      have h85' : (poolS num (occW ((wdP P).drop (m + 1))) (if num z ∈ pl then pl else pl ++ [num z])).length ≤ 85 := h85
      have hpl85 : pl.length ≤ 85 := by
        have := hP.2.2.2.2.1
        rw [List.length_map, show limC 20 = 85 from by decide +kernel] at this
        exact this
      by_cases hin : num z ∈ pl
      · have hix : pl.length < 2 ^ 31 := by omega
        rw [if_pos (hmem.mpr hin), if_neg (nI_m1 (by
          have := List.idxOf_lt_length_of_mem (hmem.mpr hin)
          rw [List.length_map] at this
          omega))] at e0
        rw [if_pos hin] at h85' ⊢
        rw [e0]
        exact ih n (m + 1) S pl (by omega) (by omega) pc hl hk w21 hls hP hpl (by omega) h85'
      · rw [if_neg (fun h => hin (hmem.mp h)), if_pos rfl] at e0
        rw [if_neg hin] at h85' ⊢
        have hgrow : ∀ (o : List Nat) (pl : List Nat), pl.length ≤ (poolS num o pl).length := by
          intro o
          induction o with
          | nil => intro pl; exact Nat.le_refl _
          | cons x o iho =>
            intro pl
            show pl.length ≤ (poolS num o (if num x ∈ pl then pl else pl ++ [num x])).length
            refine Nat.le_trans ?_ (iho _)
            split
            · exact Nat.le_refl _
            · simp
        have hlt : pl.length < 85 := by
          have := hgrow (occW ((wdP P).drop (m + 1))) (pl ++ [num z])
          rw [List.length_append, List.length_singleton] at this
          omega
        obtain ⟨S1, b1, b2, b3⟩ := R_add (g := g) (v := nI (num z)) hP hk
        rw [show limC 20 = 85 from by decide +kernel, if_pos (by rw [List.length_map]; exact hlt), if_pos (by rw [List.length_map]; exact hlt)] at b3
        have hP1 : PoC S1 (pl ++ [num z]) := by unfold PoC; rw [List.map_append]; exact b3
        have f1 : FRc S S1 := FRc.fc (FC.row b2 (by unfold stpRow; omega))
        obtain ⟨S', d1, d2, d3⟩ := ih n (m + 1) S1 (pl ++ [num z]) (by omega) (by omega) (pc.fr f1) (fun a ha => (f1.2.2.2.2.1 a ha).trans (hl a ha)) (hk.fr b2) (w21.fr b2 (by decide)) hls hP1 (fun x hx => by
          rcases List.mem_append.mp hx with h | h
          · exact hpl x h
          · rw [List.mem_singleton] at h
            rw [h]
            exact hnz) (by rw [List.length_append, List.length_singleton]; omega) h85'
        refine ⟨S', ?_, b2.tr d2, d3⟩
        rw [e0, b1, Option.bind_some, lt_d, d1]
    · rw [if_neg (fun z => h3 ((t34 _ hw10).mp z)), lt_d, nI_1] at e0
      have eo : occW (w :: (wdP P).drop (m + 1)) = occW ((wdP P).drop (m + 1)) := by
        show (if w.1 = 3 then _ else occW ((wdP P).drop (m + 1))) = _
        rw [if_neg h3]
      rw [eo] at h85 ⊢
      rw [e0]
      exact ih n (m + 1) S pl (by omega) (by omega) pc hl hk w21 hls hP hpl (by omega) h85
end BGC
