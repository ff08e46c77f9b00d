/-! the class: its texts as a list of lists -/
def stC (cs : List (List Int32)) (t : Nat) : Nat := (cs.take t).flatten.length
def endsC (cs : List (List Int32)) : List Int32 := (List.range cs.length).map (fun t => nI (stC cs (t + 1)))
def TXc (S : St) (cs : List (List Int32)) : Prop := Rw S 18 cs.flatten 0 ∧ Rw S 19 (endsC cs) 0
theorem endsC_len {cs : List (List Int32)} : (endsC cs).length = cs.length := by simp [endsC]
theorem stC_succ {cs : List (List Int32)} {t : Nat} {l : List Int32} (h : cs[t]? = some l) : stC cs (t + 1) = stC cs t + l.length := by
  unfold stC
  rw [List.take_add_one, h, List.flatten_append, List.length_append]
  simp
theorem stC_le {cs : List (List Int32)} {t : Nat} : stC cs t ≤ cs.flatten.length := by
  unfold stC
  conv => rhs; rw [← List.take_append_drop t cs, List.flatten_append, List.length_append]
  omega
theorem segC {cs : List (List Int32)} {t : Nat} {l : List Int32} (h : cs[t]? = some l) : seg cs.flatten (stC cs t) l.length = l := by
  have hlt := (List.getElem?_eq_some_iff.mp h).1
  have hl := (List.getElem?_eq_some_iff.mp h).2
  unfold seg stC
  have e : cs.flatten = (cs.take t).flatten ++ (l ++ (cs.drop (t + 1)).flatten) := by
    conv => lhs; rw [← List.take_append_drop t cs, List.flatten_append, List.drop_eq_getElem_cons hlt, hl, List.flatten_cons]
  rw [e, List.drop_left, List.take_left]
theorem getC {cs : List (List Int32)} {t k : Nat} {l : List Int32} {d : Int32} (h : cs[t]? = some l) (hk : k < l.length) : cs.flatten.getD (stC cs t + k) d = l.getD k d := by
  rw [← seg_get (n := l.length) hk, segC h]
section CTX
variable {g : Nat} {S : St} {cs : List (List Int32)}
theorem C_bounds (w : TXc S cs) {t : Nat} {l : List Int32} (h : cs[t]? = some l) : t < cs.length ∧ cs.length ≤ 1465 ∧ stC cs t + l.length ≤ cs.flatten.length ∧ cs.flatten.length ≤ 27000 := by
  have h1 := w.1.2.2.2.2.1
  have h2 := w.2.2.2.2.2.1
  rw [endsC_len] at h2
  have h3 := stC_le (cs := cs) (t := t + 1)
  rw [stC_succ h] at h3
  exact ⟨(List.getElem?_eq_some_iff.mp h).1, h2, h3, h1⟩
theorem C_end (w : TXc S cs) {t : Nat} (ht : t < cs.length) : m_Tx_endOf g S (nI t) = some (nI (stC cs (t + 1))) := by
  have h2 := w.2.2.2.2.2.1
  rw [endsC_len] at h2
  have hb : limC 19 = 1465 := rfl
  have w8 := w.2.2.2.2.2.2.2.2.2
  have w5 := w.2.2.2.2.2.2.1
  have w7 := w.2.2.2.2.2.2.2.2.1
  rw [endsC_len] at w5
  have w5 : cs.length ≤ gN S 43 := w5
  have w7 : gN S 43 ≤ 2 * limC 19 + 16 := w7
  unfold m_Tx_endOf
  rw [if_neg (nI_pos (by omega)), w.2.2.2.1, endsC_len, if_pos (nI_lt ht (by omega)), aI_at (show t < gN S 43 from Nat.lt_of_lt_of_le ht w5) (show gN S 43 < 2 ^ 31 from by omega), Option.bind_some, w8 t (by rw [endsC_len]; exact ht)]
  simp [endsC, ht]
theorem C_start (w : TXc S cs) {t : Nat} (ht : t < cs.length) : m_Tx_startOf g S (nI t) = some (nI (stC cs t)) := by
  have h2 := w.2.2.2.2.2.1
  rw [endsC_len] at h2
  have hb : limC 19 = 1465 := rfl
  have w8 := w.2.2.2.2.2.2.2.2.2
  have w5 := w.2.2.2.2.2.2.1
  have w7 := w.2.2.2.2.2.2.2.2.1
  rw [endsC_len] at w5
  have w5 : cs.length ≤ gN S 43 := w5
  have w7 : gN S 43 ≤ 2 * limC 19 + 16 := w7
  unfold m_Tx_startOf
  by_cases h0 : t = 0
  · subst h0
    rw [if_pos (by decide +kernel)]
    simp [stC]
    rfl
  · rw [if_neg (nI_nle (by omega) (by omega)), w.2.2.2.1, endsC_len, if_pos (nI_le (by omega) (by omega)), show nI t - 1 = nI (t - 1) from nI_sub (b := 1) (by omega), aI_at (show t - 1 < gN S 43 by omega) (by omega), Option.bind_some, w8 (t - 1) (by rw [endsC_len]; omega)]
    simp [endsC, show t - 1 < cs.length by omega, show t - 1 + 1 = t by omega]
theorem C_size (w : TXc S cs) {t : Nat} {l : List Int32} (h : cs[t]? = some l) : m_Tx_sizeOf g S (nI t) = some (nI l.length) := by
  have hb := C_bounds w h
  unfold m_Tx_sizeOf
  rw [C_end w hb.1, C_start w hb.1, Option.bind_some, Option.bind_some, stC_succ h, nI_sub (by omega)]
  congr 2
  omega
theorem C_no : m_Tx_startOf g S (-1) = some 0 ∧ m_Tx_endOf g S (-1) = some 0 ∧ m_Tx_sizeOf g S (-1) = some 0 := by
  have e1 : m_Tx_startOf g S (-1) = some 0 := by unfold m_Tx_startOf; rw [if_pos (by decide +kernel)]
  have e2 : m_Tx_endOf g S (-1) = some 0 := by unfold m_Tx_endOf; rw [if_pos (by decide +kernel)]
  refine ⟨e1, e2, ?_⟩
  unfold m_Tx_sizeOf
  rw [e1, e2]
  rfl
theorem C_unit (w : TXc S cs) {t : Nat} {l : List Int32} {x : Int32} (h : cs[t]? = some l) : m_Tx_unitOf g S (nI t) x = some (atR l x) := by
  have hb := C_bounds w h
  unfold m_Tx_unitOf atR
  by_cases hx : x < 0
  · rw [if_pos hx, if_pos hx]
  · rw [if_neg hx, if_neg hx, C_size w h, Option.bind_some]
    obtain ⟨k, hk, rfl⟩ := nI_of hx
    rw [nI_clamp hk]
    by_cases hl : k < l.length
    · rw [if_pos (nI_lt hl (by omega)), C_start w hb.1, Option.bind_some, nI_add, R_at w.1, Option.bind_some, atR_nI (by omega), getC h hl]
    · rw [if_neg (nI_nlt (by omega) hk)]
      simp [List.getElem?_eq_none (show l.length ≤ k by omega)]
theorem C_unit_no {x : Int32} : m_Tx_unitOf g S (-1) x = some (-1) := by
  unfold m_Tx_unitOf
  by_cases hx : x < 0
  · rw [if_pos hx]
  · rw [if_neg hx, C_no.2.2, Option.bind_some, if_neg hx]
theorem C_hash_l (w : TXc S cs) {t : Nat} {l : List Int32} (h : cs[t]? = some l) : ∀ (k n i : Nat) (hh : Int32), i + k = l.length → k < n → m_Tx_hashOf_15 g S n hh (nI (stC cs t + l.length)) (nI (stC cs t + i)) = some (hashF hh (seg l i k)) := by
  have hb := C_bounds w h
  intro k
  induction k with
  | zero =>
    intro n i hh hi hn
    obtain ⟨n, rfl⟩ : ∃ m, n = m + 1 := ⟨n - 1, by omega⟩
    show b_Tx_hashOf_15 g S (m_Tx_hashOf_15 g S n) hh _ _ = _
    unfold b_Tx_hashOf_15
    rw [if_pos (nI_le (by omega) (by omega)), seg_0]
    rfl
  | succ k ih =>
    intro n i hh hi hn
    obtain ⟨n, rfl⟩ : ∃ m, n = m + 1 := ⟨n - 1, by omega⟩
    show b_Tx_hashOf_15 g S (m_Tx_hashOf_15 g S n) hh _ _ = _
    unfold b_Tx_hashOf_15
    rw [if_neg (nI_ge (by omega) (by omega)), R_at w.1, atR_nI (by omega), getC h (by omega), Option.bind_some, lt_d, lt_d, show nI (stC cs t + i) + 1 = nI (stC cs t + i + 1) from nI_1 _, Nat.add_assoc, ih n (i + 1) _ (by omega) (by omega), seg_cons (by omega), getD_lt (d' := 0) (show i < l.length by omega)]
    rfl
theorem C_hash (hg : 100000 ≤ g) (w : TXc S cs) {t : Nat} {l : List Int32} (h : cs[t]? = some l) : m_Tx_hashOf g S (nI t) = some (hashF 0 l) := by
  have hb := C_bounds w h
  unfold m_Tx_hashOf
  rw [C_end w hb.1, C_start w hb.1, Option.bind_some, Option.bind_some, stC_succ h]
  have := C_hash_l (g := g) w h l.length g 0 0 (by omega) (by omega)
  rw [Nat.add_zero, seg_all] at this
  exact this
theorem c01_01 {p : Prop} {α : Type} {a b : α} : (if c01 p = 0 then a else b) = @ite _ p (Classical.propDecidable p) b a := by
  by_cases h : p
  · rw [c01_t h, if_neg (by decide), if_pos h]
  · rw [c01_f h, if_pos rfl, if_neg h]
theorem c01_o {p : Prop} : (if c01 p = 0 then some (0 : Int32) else some (1 : Int32)) = some (c01 p) := by
  by_cases h : p
  · rw [c01_t h, if_neg (by decide)]
  · rw [c01_f h, if_pos rfl]
theorem R_holdsC {o x p s n : Nat} {l l2 : List Int32} {ov ov2 : Int32} (w : Rw S o l ov) (w2 : Rw S x l2 ov2) (hg : 100000 ≤ g) (hp : p ≤ l.length) (hs : s + n ≤ l2.length) : m_Row_holds g S o (nI p) x (nI s) (nI (s + n)) = some (c01 (p + n ≤ l.length ∧ seg l p n = seg l2 s n)) := by
  rw [R_holds w w2 hg hp hs]
  by_cases h : p + n ≤ l.length ∧ seg l p n = seg l2 s n
  · rw [if_pos h, c01_t h]
  · rw [if_neg h, c01_f h]
theorem C_equal (hg : 100000 ≤ g) (w : TXc S cs) {t1 t2 : Nat} {l1 l2 : List Int32} (h1 : cs[t1]? = some l1) (h2 : cs[t2]? = some l2) : m_Tx_areEqual g S (nI t1) (nI t2) = some (c01 (l1 = l2)) := by
  have b1 := C_bounds w h1
  have b2 := C_bounds w h2
  unfold m_Tx_areEqual
  rw [C_size w h1, C_size w h2, Option.bind_some, Option.bind_some]
  by_cases hl : l1.length = l2.length
  · rw [if_pos (by rw [hl]), C_start w b1.1, C_start w b2.1, C_end w b2.1, Option.bind_some, Option.bind_some, Option.bind_some, stC_succ h2, R_holdsC w.1 w.1 hg (by omega) (by omega), Option.bind_some, c01_o, segC h2, ← hl, segC h1]
    exact congrArg some (c01_iff ⟨fun z => z.2, fun z => ⟨by omega, z⟩⟩)
  · rw [if_neg (fun z => hl ((nI_eq (by omega) (by omega)).mp z)), c01_f (fun z => hl (by rw [z]))]
theorem C_stands (hg : 100000 ≤ g) (w : TXc S cs) {t1 t2 : Nat} {l1 l2 : List Int32} {x : Int32} (h1 : cs[t1]? = some l1) (h2 : cs[t2]? = some l2) : m_Tx_stands g S (nI t1) x (nI t2) = some (c01 (stL l1 l2 x.toInt)) := by
  have b1 := C_bounds w h1
  have b2 := C_bounds w h2
  unfold m_Tx_stands
  by_cases hx : x < 0
  · have : x.toInt < 0 := by
      have := Int32.lt_iff_toInt_lt.mp hx
      rw [show (0 : Int32).toInt = 0 from by decide +kernel] at this
      exact this
    rw [if_pos hx, c01_f (fun z => by have := z.1; omega)]
  · rw [if_neg hx, C_size w h2, C_size w h1, Option.bind_some, Option.bind_some]
    obtain ⟨k, hk, rfl⟩ := nI_of hx
    rw [nI_toInt hk]
    have hc : nI l2.length - nI l1.length < nI k ↔ (l2.length : Int) - (l1.length : Int) < (k : Int) := by
      rw [Int32.lt_iff_toInt_lt, nI_subI (by omega) (by omega), nI_toInt hk]
    by_cases hl : k + l1.length ≤ l2.length
    · rw [if_neg (fun z => by have := hc.mp z; omega), C_start w b2.1, C_start w b1.1, C_end w b1.1, Option.bind_some, Option.bind_some, Option.bind_some, nI_add, stC_succ h1, R_holdsC w.1 w.1 hg (by omega) (by omega), Option.bind_some, c01_o, segC h1]
      have e : seg cs.flatten (stC cs t2 + k) l1.length = seg l2 k l1.length := by
        have q := segC h2
        conv => rhs; rw [← q]
        unfold seg
        rw [List.drop_take, List.drop_drop, List.take_take, Nat.min_eq_left (by omega)]
      rw [e]
      have e2 : stL l1 l2 (k : Int) ↔ seg l2 k l1.length = l1 := by
        unfold stL
        rw [Int.toNat_natCast]
        exact ⟨fun z => z.2.2, fun z => ⟨by omega, by omega, z⟩⟩
      exact congrArg some (c01_iff ⟨fun z => e2.mpr z.2, fun z => ⟨by omega, e2.mp z⟩⟩)
    · rw [if_pos (hc.mpr (by omega)), c01_f (fun z => by have := z.2.1; omega)]
theorem C_alike_l (w : TXc S cs) {t1 t2 : Nat} {l1 l2 : List Int32} (h1 : cs[t1]? = some l1) (h2 : cs[t2]? = some l2) (hl : l1.length = l2.length) (u1 : usL l1) (u2 : usL l2) : ∀ (k n i : Nat), i + k = l1.length → k < n → m_Tx_areAlike_20 g S n (nI t1) (nI t2) (nI l1.length) (nI i) = some (c01 (alkL (seg l1 i k) (seg l2 i k))) := by
  have b1 := C_bounds w h1
  have b2 := C_bounds w h2
  intro k
  induction k with
  | zero =>
    intro n i hi hn
    obtain ⟨n, rfl⟩ : ∃ m, n = m + 1 := ⟨n - 1, by omega⟩
    show b_Tx_areAlike_20 g S (m_Tx_areAlike_20 g S n) _ _ _ _ = _
    unfold b_Tx_areAlike_20
    rw [if_pos (nI_le (by omega) (by omega)), seg_0, seg_0, c01_t (show alkL [] [] from trivial)]
  | succ k ih =>
    intro n i hi hn
    obtain ⟨n, rfl⟩ : ∃ m, n = m + 1 := ⟨n - 1, by omega⟩
    obtain ⟨p1, p2, p3⟩ := U_alk (g := g) (u1 i (by omega)) (u2 i (by omega))
    show b_Tx_areAlike_20 g S (m_Tx_areAlike_20 g S n) _ _ _ _ = _
    unfold b_Tx_areAlike_20
    rw [if_neg (nI_ge (by omega) (by omega)), C_unit w h1, C_unit w h2, Option.bind_some, Option.bind_some, atR_nI (by omega), atR_nI (by omega), getD_lt (d' := 0) (show i < l1.length by omega), getD_lt (d' := 0) (show i < l2.length by omega), p2, Option.bind_some, seg_cons (by omega), seg_cons (by omega)]
    rcases p3 with p3 | p3
    · rw [if_pos p3, c01_f (fun z => absurd (p3.symm.trans z.1) (by decide))]
    · rw [if_neg (by rw [p3]; decide), lt_d, show nI i + 1 = nI (i + 1) from nI_1 i, ih n (i + 1) (by omega) (by omega)]
      exact congrArg some (c01_iff ⟨fun z => ⟨p3, z⟩, fun z => z.2⟩)
theorem alkL_len : ∀ (a b : List Int32), alkL a b → a.length = b.length := by
  intro a
  induction a with
  | nil => intro b h; cases b with
    | nil => rfl
    | cons x b => exact absurd h (fun z => z)
  | cons x a ih => intro b h; cases b with
    | nil => exact absurd h (fun z => z)
    | cons y b => rw [List.length_cons, List.length_cons, ih b h.2]
theorem C_alike (hg : 100000 ≤ g) (w : TXc S cs) {t1 t2 : Nat} {l1 l2 : List Int32} (h1 : cs[t1]? = some l1) (h2 : cs[t2]? = some l2) (u1 : usL l1) (u2 : usL l2) : m_Tx_areAlike g S (nI t1) (nI t2) = some (c01 (alkL l1 l2)) := by
  have b1 := C_bounds w h1
  have b2 := C_bounds w h2
  unfold m_Tx_areAlike
  rw [C_size w h1, C_size w h2, Option.bind_some, Option.bind_some]
  by_cases hl : l1.length = l2.length
  · rw [if_pos (by rw [hl])]
    have := C_alike_l (g := g) w h1 h2 hl u1 u2 l1.length g 0 (by omega) (by omega)
    rw [seg_all, show seg l2 0 l1.length = l2 by rw [hl]; exact seg_all] at this
    exact this
  · rw [if_neg (fun z => hl ((nI_eq (by omega) (by omega)).mp z)), c01_f (fun z => hl (alkL_len _ _ z))]
end CTX
