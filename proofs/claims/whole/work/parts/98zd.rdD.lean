/-! READING: the units of a LITERAL on both sides; the next word of the reference -/
/-- a LITERAL from i on: its units and the place behind it -/
def rdT (tp : List Int32) (e : Nat) : Nat → Nat → List Int32 → Option (List Int32 × Nat)
  | 0, _, _ => none
  | k + 1, i, acc => if i < e then (if rdB tp i = 34 then (if i + 1 = e ∨ rdB tp (i + 1) = 32 then some (acc, i + 1) else none) else (match rdG tp e i with | some x => rdT tp e k x.2 (acc ++ [nI x.1]) | none => none)) else none
section RDD
variable {g : Nat} {S S2 : St} {tp : List Int32} {i j le : Nat}
theorem rdT_b (hb : ∀ x ∈ tp, ∃ n : Nat, n < 256 ∧ x = nI n) (he : le ≤ tp.length) : ∀ (k i : Nat) (acc us : List Int32) (b : Nat), rdT tp le k i acc = some (us, b) → i < b ∧ b ≤ le ∧ acc.length ≤ us.length ∧ us.length + i < acc.length + b ∧ (b = le ∨ rdB tp b = 32) ∧ ((∀ x ∈ acc, isU x) → ∀ x ∈ us, isU x) := by
  intro k
  induction k with
  | zero => intro i acc us b h; cases h
  | succ k ih =>
    intro i acc us b h
    unfold rdT at h
    by_cases q : i < le
    · rw [if_pos q] at h
      by_cases q2 : rdB tp i = 34
      · rw [if_pos q2] at h
        by_cases q3 : i + 1 = le ∨ rdB tp (i + 1) = 32
        · rw [if_pos q3] at h
          cases h
          exact ⟨by omega, by omega, Nat.le_refl _, by omega, q3, fun h => h⟩
        · rw [if_neg q3] at h; cases h
      · rw [if_neg q2] at h
        cases q3 : rdG tp le i with
        | none => rw [q3] at h; cases h
        | some x =>
          obtain ⟨v, z⟩ := x
          rw [q3] at h
          have g1 := rdG_b hb he q q3
          obtain ⟨a1, a2, a3, a4, a5, a6⟩ := ih z (acc ++ [nI v]) us b h
          rw [List.length_append, List.length_singleton] at a3 a4
          refine ⟨by omega, a2, by omega, by omega, a5, fun h => a6 fun x hx => ?_⟩
          rcases List.mem_append.mp hx with z | z
          · exact h x z
          · rw [List.mem_singleton] at z
            exact ⟨v, g1.2.2, z⟩
    · rw [if_neg q] at h; cases h
theorem ulen_6 {x : Int32} : ulen x ≤ 6 := by
  unfold ulen
  by_cases q : x = 34 ∨ x = 92 ∨ x = 10 ∨ x = 9
  · rw [if_pos q]; omega
  · rw [if_neg q]
    by_cases q : x < 32 ∨ 126 < x
    · rw [if_pos q]; omega
    · rw [if_neg q]; omega
theorem rdG_u {v j : Nat} (hb : ∀ x ∈ tp, ∃ n : Nat, n < 256 ∧ x = nI n) (he : le ≤ tp.length) (hi : i < le) (hx : ¬ rdB tp i = 34) (h : rdG tp le i = some (v, j)) : ulen (nI v) + i ≤ j := by
  obtain ⟨b, b1, b2⟩ := rdB_b hb (show i < tp.length by omega)
  unfold rdG at h
  rw [b2, nI_nat (by omega)] at h
  dsimp only at h
  have h34 : b ≠ 34 := fun z => hx (by rw [b2, z]; rfl)
  by_cases q : b < 32 ∨ 126 < b
  · rw [if_pos q] at h; cases h
  rw [if_neg q] at h
  by_cases q1 : b = 92
  · rw [if_pos q1] at h
    by_cases q2 : i + 1 < le
    · rw [if_pos q2] at h
      obtain ⟨x, x1, x2⟩ := rdB_b hb (show i + 1 < tp.length by omega)
      rw [x2, nI_nat (by omega)] at h
      by_cases q3 : x = 34 ∨ x = 92
      · rw [if_pos q3] at h; cases h
        rcases q3 with rfl | rfl
        · show ulen (nI 34) + i ≤ i + 2
          rw [show ulen (nI 34) = 2 from by decide]; omega
        · show ulen (nI 92) + i ≤ i + 2
          rw [show ulen (nI 92) = 2 from by decide]; omega
      rw [if_neg q3] at h
      by_cases q4 : x = 110
      · rw [if_pos q4] at h; cases h
        rw [show ulen (nI 10) = 2 from by decide]; omega
      rw [if_neg q4] at h
      by_cases q5 : x = 116
      · rw [if_pos q5] at h; cases h
        rw [show ulen (nI 9) = 2 from by decide]; omega
      rw [if_neg q5] at h
      by_cases q6 : x = 117
      · rw [if_pos q6] at h
        cases q7 : rdH tp le 4 (i + 2) 0 with
        | none => rw [q7] at h; cases h
        | some v' =>
          rw [q7] at h
          cases h
          have := ulen_6 (x := nI v)
          omega
      · rw [if_neg q6] at h; cases h
    · rw [if_neg q2] at h; cases h
  · rw [if_neg q1] at h
    cases h
    have u1 : ∀ n, n < 127 → 32 ≤ n → n ≠ 34 → n ≠ 92 → ulen (nI n) = 1 := by decide +kernel
    rw [u1 v (by omega) (by omega) h34 q1]
    omega
theorem rdT_u (hb : ∀ x ∈ tp, ∃ n : Nat, n < 256 ∧ x = nI n) (he : le ≤ tp.length) : ∀ (k i : Nat) (acc us : List Int32) (b : Nat), rdT tp le k i acc = some (us, b) → llen us + i ≤ llen acc + b := by
  intro k
  induction k with
  | zero => intro i acc us b h; cases h
  | succ k ih =>
    intro i acc us b h
    unfold rdT at h
    by_cases q : i < le
    · rw [if_pos q] at h
      by_cases q2 : rdB tp i = 34
      · rw [if_pos q2] at h
        by_cases q3 : i + 1 = le ∨ rdB tp (i + 1) = 32
        · rw [if_pos q3] at h
          cases h
          omega
        · rw [if_neg q3] at h; cases h
      · rw [if_neg q2] at h
        cases q3 : rdG tp le i with
        | none => rw [q3] at h; cases h
        | some x =>
          obtain ⟨v, z⟩ := x
          rw [q3] at h
          have g1 := rdG_u hb he q q2 q3
          have a := ih z (acc ++ [nI v]) us b h
          have e : llen (acc ++ [nI v]) = llen acc + ulen (nI v) := by
            unfold llen
            rw [List.map_append, List.sum_append]
            simp
          omega
    · rw [if_neg q] at h; cases h
theorem Scr.row {o : Nat} {S : St} {v : List Int32} (w : Scr S o v) : ∃ l ov, Rw S o l ov := by
  rcases w with ⟨-, h⟩ | ⟨-, l, h⟩
  · exact ⟨_, _, h⟩
  · exact ⟨_, _, h⟩
theorem C_lit (hg : 100000 ≤ g) (hb : ∀ x ∈ tp, ∃ n : Nat, n < 256 ∧ x = nI n) (he : le ≤ tp.length) {x1 : Int32} : ∀ (k n i : Nat) (acc : List Int32) (S : St), le - i < k → k < n → i ≤ le → Rw S 10 tp 0 → gOK S → Scr S 17 acc → gI S 3 3 = nI i → gI S 3 4 = nI le → (∃ us b S', rdT tp le k i acc = some (us, b) ∧ us.length ≤ 400 ∧ m_Rd_readLiteral_19 g n S x1 = m_Rd_readLiteral_149 g S' x1 ∧ F17 S S' ∧ Rw S' 17 us 0 ∧ gI S' 3 3 = nI b) ∨ ((∀ us b, rdT tp le k i acc = some (us, b) → 400 < us.length) ∧ ∃ S', m_Rd_readLiteral_19 g n S x1 = some (S', 0) ∧ F17 S S' ∧ ∃ l ov, Rw S' 17 l ov) := by
  intro k
  induction k with
  | zero => intro n i acc S h1; omega
  | succ k ih =>
    intro n i acc S h1 hn hi w hk sc h3 h4
    obtain ⟨n, rfl⟩ : ∃ m, n = m + 1 := ⟨n - 1, by omega⟩
    have hl : tp.length ≤ 3000 := w.2.2.2.2.1
    have eq : m_Rd_readLiteral_19 g (n + 1) S x1 = b_Rd_readLiteral_19 g (m_Rd_readLiteral_19 g n) S x1 := rfl
    unfold b_Rd_readLiteral_19 at eq
    rw [h3, h4] at eq
    have f : Fi 3 (· = 3) S (sI S 3 3 (nI (i + 1))) := Fi.sI rfl
    have e4 : gI (sI S 3 3 (nI (i + 1))) 3 4 = nI le := by rw [f.1 3 4 (by omega)]; exact h4
    unfold rdT
    by_cases q : i < le
    · rw [if_neg (nI_ge q (by omega)), C_byte w (by omega), Option.bind_some] at eq
      rw [if_pos q]
      by_cases q2 : rdB tp i = 34
      · rw [if_pos q2] at eq
        unfold m_Rd_readLiteral_79 m_Rd_readLiteral_95 at eq
        rw [h3, h4, if_neg (nI_ge q (by omega)), lt_d, nI_1, if_neg (by decide), sI_g, e4, C_byte (w.fi f (by decide)) (by omega), Option.bind_some] at eq
        rw [if_pos q2]
        have ov : gI (sI S 3 3 (nI (i + 1))) 17 3 = gI S 17 3 := f.1 17 3 (by omega)
        rw [ov] at eq
        rcases sc with ⟨s1, s2⟩ | ⟨s1, l, s2⟩
        · have s1 : acc.length ≤ 400 := s1
          rw [if_pos (show gI S 17 3 = 0 from s2.2.2.2.1)] at eq
          by_cases q3 : i + 1 = le ∨ rdB tp (i + 1) = 32
          · rw [if_pos q3]
            refine Or.inl ⟨acc, i + 1, _, rfl, s1, eq.trans ?_, F17.fi f, s2.fi f (by decide), sI_g⟩
            rcases q3 with z | z
            · rw [if_pos (nI_le (by omega) (by omega))]
            · rw [if_pos z]
              exact ifo rfl rfl
          · rw [if_neg q3]
            refine Or.inr ⟨(fun us b h => by cases h), _, eq.trans ?_, F17.fi f, _, _, s2.fi f (by decide)⟩
            rw [if_neg (nI_ge (by omega) (by omega)), if_neg (fun z => q3 (Or.inr z))]
        · have s1 : 400 < acc.length := s1
          rw [if_neg (show ¬ gI S 17 3 = 0 from by rw [s2.2.2.2.1]; decide)] at eq
          refine Or.inr ⟨fun us b h => ?_, _, eq, F17.fi f, _, _, s2.fi f (by decide)⟩
          by_cases q3 : i + 1 = le ∨ rdB tp (i + 1) = 32
          · rw [if_pos q3] at h; cases h; exact s1
          · rw [if_neg q3] at h; cases h
      · rw [if_neg q2] at eq
        rw [if_neg q2]
        obtain ⟨S1, a1, a2, a3⟩ := C_sign hg hb he q w h3 h4
        rw [a1, Option.bind_some] at eq
        cases q3 : rdG tp le i with
        | none =>
          rw [q3] at eq
          exact Or.inr ⟨(fun us b h => by cases h), S1, eq.trans (if_pos rfl), F17.fi a2, (sc.fi a2 (by decide)).row⟩
        | some x =>
          obtain ⟨v, z⟩ := x
          rw [q3] at eq
          have g1 := rdG_b hb he q q3
          have eq := eq.trans (if_neg (nI_m1 (by omega)))
          obtain ⟨S3, b1, b2, b3⟩ := Scr_add (g := g) (u := nI v) (sc.fi a2 (by decide)) (hk.fi a2)
          have b1 : m_Row_add g S1 17 (nI v) = some S3 := b1
          unfold m_Rd_readLiteral_66 at eq
          have e3 : gI S3 3 3 = nI (z - 1) := by rw [b2.1 3 3 (by decide)]; exact a3 v z q3
          have f3 : Fi 3 (· = 3) S3 (sI S3 3 3 (nI z)) := Fi.sI rfl
          rw [b1, Option.bind_some, lt_d, e3, nI_1, show z - 1 + 1 = z by omega] at eq
          have fw := (F17.fi a2).tr ((F17.fr b2).tr (F17.fi f3))
          rcases ih n z (acc ++ [nI v]) (sI S3 3 3 (nI z)) (by omega) (by omega) (by omega) (w.f17 fw (by decide)) (hk.f17 fw) (b3.fi f3 (by decide)) sI_g (by rw [fw.1 3 4 (by omega) (by decide)]; exact h4) with ⟨us, b, S', c1, c2, c3, c4, c5, c6⟩ | ⟨c1, S', c2, c3, c4⟩
          · exact Or.inl ⟨us, b, S', c1, c2, eq.trans c3, fw.tr c4, c5, c6⟩
          · exact Or.inr ⟨c1, S', eq.trans c2, fw.tr c3, c4⟩
    · rw [if_pos (nI_le (by omega) (by omega))] at eq
      rw [if_neg q]
      unfold m_Rd_readLiteral_79 m_Rd_readLiteral_95 at eq
      rw [h3, h4, if_pos (nI_le (by omega) (by omega)), lt_d, nI_1, if_pos rfl] at eq
      exact Or.inr ⟨(fun us b h => by cases h), _, eq, F17.fi f, (sc.fi f (by decide)).row⟩
theorem M_litL (hg : 100000 ≤ g) (L : rdL tp j le) : ∀ (k n i : Nat) (acc : List Int32) (S2 : St), le - i < k → k + 1 < n → j ≤ i → i ≤ le → TpM S2 tp → LM S2 → acc.length ≤ 400 → gI S2 0 18 = nI i → gI S2 0 22 = nI acc.length → gI S2 0 24 = 1 → (∀ y, y < acc.length → gF S2 17 y = acc.getD y 0) → (∃ us b S', rdT tp le k i acc = some (us, b) ∧ us.length ≤ 400 ∧ m_readLiteral_17 g n S2 1 = some S' ∧ Fl S2 S' ∧ gI S' 0 18 = nI b ∧ gI S' 0 22 = nI us.length ∧ gI S' 0 24 = 1 ∧ ∀ y, y < us.length → gF S' 17 y = us.getD y 0) ∨ ((∀ us b, rdT tp le k i acc = some (us, b) → 400 < us.length) ∧ ∃ S', m_readLiteral_17 g n S2 1 = some S' ∧ Fl S2 S' ∧ gI S' 0 24 = 0 ∧ ∃ p, p ≤ le + 1 ∧ gI S' 0 18 = nI p) := by
  have bad : ∀ (n : Nat) (T : St) (x : Int32), gI T 0 24 = 0 → m_readLiteral_17 g (n + 1) T x = some (sI T 0 24 0) := by
    intro n T x h
    show b_readLiteral_17 g (m_readLiteral_17 g n) T x = _
    unfold b_readLiteral_17 m_readLiteral_83
    rw [if_pos h, if_pos h, lt_d]
    exact ifo rfl rfl
  intro k
  induction k with
  | zero => intro n i acc S2 h1; omega
  | succ k ih =>
    intro n i acc S2 h1 hn hj hi t hm ha h18 h22 h24 h17
    obtain ⟨n, rfl⟩ : ∃ m, n = m + 2 := ⟨n - 2, by omega⟩
    have hl := t.2.1
    have he := L.2.1
    have hb := t.2.2.2
    have eq : m_readLiteral_17 g (n + 2) S2 1 = b_readLiteral_17 g (m_readLiteral_17 g (n + 1)) S2 1 := rfl
    unfold b_readLiteral_17 at eq
    rw [if_neg (by decide), if_neg (by rw [h24]; decide), h18, M_le t hm L hj hi, Option.bind_some] at eq
    unfold rdT
    by_cases q : i = le
    · rw [if_pos q, if_neg (by decide), lt_d, bad n _ _ sI_g] at eq
      rw [if_neg (show ¬ i < le by omega)]
      exact Or.inr ⟨(fun us b h => by cases h), _, eq, (Fl.sI (by omega)).tr (Fl.sI (by omega)), sI_g, i, by omega, by rw [gI_ne (by omega), gI_ne (by omega)]; exact h18⟩
    rw [if_neg q, if_pos rfl, M_byte t hm (by omega), Option.bind_some] at eq
    rw [if_pos (show i < le by omega)]
    by_cases q2 : rdB tp i = 34
    · rw [if_pos q2, lt_d, nI_1] at eq
      rw [if_pos q2]
      have f1 : Fl S2 (sI S2 0 18 (nI (i + 1))) := Fl.sI (by omega)
      have e24 : gI (sI S2 0 18 (nI (i + 1))) 0 24 = 1 := by rw [gI_ne (by omega)]; exact h24
      have e83 : m_readLiteral_17 g (n + 1) (sI S2 0 18 (nI (i + 1))) 0 = m_readLiteral_83 g (sI S2 0 18 (nI (i + 1))) := by
        show b_readLiteral_17 g (m_readLiteral_17 g n) _ 0 = _
        unfold b_readLiteral_17
        rw [if_pos rfl]
      rw [e83] at eq
      unfold m_readLiteral_83 at eq
      rw [if_neg (by rw [e24]; decide), sI_g, M_le (t.fl f1) (hm.fl f1) L (by omega) (by omega), Option.bind_some] at eq
      have good : (i + 1 = le ∨ rdB tp (i + 1) = 32) → m_readLiteral_17 g (n + 2) S2 1 = some (sI (sI S2 0 18 (nI (i + 1))) 0 24 1) → _ := fun h1 h2 => (Or.inl ⟨acc, i + 1, _, if_pos h1, ha, h2, f1.tr (Fl.sI (by omega)), by rw [gI_ne (by omega), sI_g], by rw [gI_ne (by omega), gI_ne (by omega)]; exact h22, sI_g, h17⟩ : (∃ us b S', (if i + 1 = le ∨ rdB tp (i + 1) = 32 then some (acc, i + 1) else none) = some (us, b) ∧ us.length ≤ 400 ∧ m_readLiteral_17 g (n + 2) S2 1 = some S' ∧ Fl S2 S' ∧ gI S' 0 18 = nI b ∧ gI S' 0 22 = nI us.length ∧ gI S' 0 24 = 1 ∧ ∀ y, y < us.length → gF S' 17 y = us.getD y 0) ∨ ((∀ us b, (if i + 1 = le ∨ rdB tp (i + 1) = 32 then some (acc, i + 1) else none) = some (us, b) → 400 < us.length) ∧ ∃ S', m_readLiteral_17 g (n + 2) S2 1 = some S' ∧ Fl S2 S' ∧ gI S' 0 24 = 0 ∧ ∃ p, p ≤ le + 1 ∧ gI S' 0 18 = nI p))
      by_cases q3 : i + 1 = le
      · rw [if_pos q3, if_neg (by decide), lt_d] at eq
        exact good (Or.inl q3) eq
      rw [if_neg q3, if_pos rfl, M_byte (t.fl f1) (hm.fl f1) (by omega), Option.bind_some] at eq
      by_cases q4 : rdB tp (i + 1) = 32
      · rw [if_pos q4, lt_d] at eq
        exact good (Or.inr q4) eq
      · rw [if_neg q4, lt_d] at eq
        rw [if_neg (fun z => z.elim q3 q4)]
        exact Or.inr ⟨(fun us b h => by cases h), _, eq, f1.tr (Fl.sI (by omega)), sI_g, i + 1, by omega, by rw [gI_ne (by omega), sI_g]⟩
    · rw [if_neg q2] at eq
      rw [if_neg q2]
      obtain ⟨S1, a1, a2, a3⟩ := M_sign hg t hm L hj (show i < le by omega) ha h18 h22
      rw [a1, Option.bind_some] at eq
      rcases a3 with ⟨z1, z2, p, z3, z4⟩ | ⟨v, z, z1, z2, z3, z4, z5, z6, z7⟩
      · rw [bad n S1 1 z2] at eq
        refine Or.inr ⟨fun us b h => ?_, _, eq, a2.tr (Fl.sI (by omega)), sI_g, p, z3, by rw [gI_ne (by omega)]; exact z4⟩
        cases q3 : rdG tp le i with
        | none => rw [q3] at h; cases h
        | some x =>
          rw [q3] at h
          obtain ⟨-, -, c3, -⟩ := rdT_b hb he k x.2 (acc ++ [nI x.1]) us b h
          rw [List.length_append, List.length_singleton] at c3
          rcases z1 with z1 | z1
          · rw [z1] at q3; cases q3
          · omega
      · rw [z1]
        have g1 := rdG_b hb he (show i < le by omega) z1
        rcases ih (n + 1) z (acc ++ [nI v]) S1 (by omega) (by omega) (by omega) (by omega) (t.fl a2) (hm.fl a2) (by rw [List.length_append, List.length_singleton]; omega) z4 (by rw [List.length_append, List.length_singleton]; exact z5) z3 (fun y hy => by
          rw [List.length_append, List.length_singleton] at hy
          by_cases q5 : y = acc.length
          · subst q5
            rw [z6]
            simp
          · rw [z7 y q5, h17 y (by omega), List.getD_eq_getElem?_getD, List.getD_eq_getElem?_getD, List.getElem?_append_left (by omega)]) with ⟨us, b, S', c1, c2, c3, c4, c5⟩ | ⟨c1, S', c2, c3, c4⟩
        · exact Or.inl ⟨us, b, S', c1, c2, eq.trans c3, a2.tr c4, c5⟩
        · exact Or.inr ⟨c1, S', eq.trans c2, a2.tr c3, c4⟩
/-- what the reference's next word may change -/
def FW (S S' : St) : Prop := (∀ x k, ¬ (x = 0 ∧ (k = 18 ∨ (20 ≤ k ∧ k ≤ 24))) → gI S' x k = gI S x k) ∧ S'.2.1 = S.2.1 ∧ S'.2.2.1 = S.2.2.1 ∧ S'.2.2.2.1 = S.2.2.2.1 ∧ (∀ a, a ≠ 17 → ∀ i, gF S' a i = gF S a i) ∧ S'.2.2.2.2.2 = S.2.2.2.2.2
theorem FW.tr {S S1 S2 : St} (h1 : FW S S1) (h2 : FW S1 S2) : FW S S2 := ⟨fun x k a => (h2.1 x k a).trans (h1.1 x k a), h2.2.1.trans h1.2.1, h2.2.2.1.trans h1.2.2.1, h2.2.2.2.1.trans h1.2.2.2.1, fun a b i => (h2.2.2.2.2.1 a b i).trans (h1.2.2.2.2.1 a b i), h2.2.2.2.2.2.trans h1.2.2.2.2.2⟩
theorem FW.fl {S S' : St} (h : Fl S S') : FW S S' := ⟨fun x k a => h.1 x k (by omega), h.2⟩
theorem FW.fi {K : Nat → Prop} {S S' : St} (h : Fi 0 K S S') (hK : ∀ k, K k → k = 18 ∨ (20 ≤ k ∧ k ≤ 24)) : FW S S' := ⟨fun x k n => h.1 x k fun ⟨a, b⟩ => n ⟨a, hK k b⟩, by rw [h.2], by rw [h.2], by rw [h.2], fun a _ i => h.F a i, by rw [h.2]⟩
theorem FW.sI {S : St} {k : Nat} {v : Int32} (h : k = 18 ∨ (20 ≤ k ∧ k ≤ 24)) : FW S (sI S 0 k v) := FW.fi (K := (· = k)) (Fi.sI rfl) (fun j e => by rw [e]; exact h)
theorem LM.fw {S S' : St} (w : LM S) (h : FW S S') : LM S' := w.of h.2.2.2.1
theorem TpM.fw {S S' : St} {tp : List Int32} (w : TpM S tp) (h : FW S S') : TpM S' tp := ⟨by rw [h.1 0 5 (by omega)]; exact w.1, w.2.1, fun i hi => by rw [h.2.2.2.2.1 5 (by decide)]; exact w.2.2.1 i hi, w.2.2.2⟩
/-- the reference's next word, from i on, its line ending at le -/
theorem M_next (hg : 100000 ≤ g) (L : rdL tp j le) (t : TpM S2 tp) (hm : LM S2) (hj : j ≤ i) (hi : i ≤ le) (h18 : gI S2 0 18 = nI i) {a : Nat} (ha : a = rdS tp (le - i) i) : ∃ S' r, m_nextWord g S2 = some (S', r) ∧ FW S2 S' ∧ gI S' 0 20 = nI a ∧ ((a = le ∧ r = 0 ∧ gI S' 0 18 = nI le) ∨ (a < le ∧ r = 1 ∧ ¬ rdB tp a = 34 ∧ gI S' 0 23 = 0 ∧ gI S' 0 24 = 1 ∧ gI S' 0 18 = nI (rdN tp 32 (le - a) a) ∧ gI S' 0 21 = nI (rdN tp 32 (le - a) a)) ∨ (a < le ∧ r = 1 ∧ rdB tp a = 34 ∧ gI S' 0 23 = 1 ∧ ((∃ us b, rdT tp le 3001 (a + 1) [] = some (us, b) ∧ us.length ≤ 400 ∧ gI S' 0 18 = nI b ∧ gI S' 0 22 = nI us.length ∧ gI S' 0 24 = 1 ∧ ∀ y, y < us.length → gF S' 17 y = us.getD y 0) ∨ ((∀ us b, rdT tp le 3001 (a + 1) [] = some (us, b) → 400 < us.length) ∧ gI S' 0 24 = 0 ∧ ∃ p, p ≤ le + 1 ∧ gI S' 0 18 = nI p)))) := by
  have hl := t.2.1
  have he := L.2.1
  have hs := rdS_s (tp := tp) (le - i) i
  rw [← ha] at hs
  obtain ⟨S1, a1, a2, a3⟩ := M_sk (g := g) L (le - i) g i S2 (by omega) (by omega) hj t hm h18
  rw [← ha] at a3
  have f0 : FW S2 (sI S1 0 20 (nI a)) := (FW.fi a2 (fun k h => Or.inl h)).tr (FW.sI (by omega))
  generalize hT : sI S1 0 20 (nI a) = T at f0
  have T18 : gI T 0 18 = nI a := by rw [← hT, gI_ne (by omega)]; exact a3
  have T20 : gI T 0 20 = nI a := by rw [← hT, sI_g]
  have tT := t.fw f0
  have mT := hm.fw f0
  have eq : m_nextWord g S2 = m_nextWord_38 g S1 := a1
  unfold m_nextWord_38 at eq
  rw [a3, lt_d, hT, T18, M_le tT mT L (by omega) (by omega), Option.bind_some] at eq
  by_cases q : a = le
  · rw [if_pos q, if_neg (by decide)] at eq
    unfold m_nextWord_76 m_nextWord_77 at eq
    have f1 : FW T (sI (sI T 0 23 0) 0 24 1) := (FW.sI (by omega)).tr (FW.sI (by omega))
    rw [if_pos (Or.inl rfl), lt_d, lt_d, show gI (sI (sI T 0 23 0) 0 24 1) 0 18 = nI a from by rw [gI_ne (by omega), gI_ne (by omega)]; exact T18, M_le (tT.fw f1) (mT.fw f1) L (by omega) (by omega), Option.bind_some, if_pos q, if_neg (by decide)] at eq
    exact ⟨_, _, eq, f0.tr f1, by rw [gI_ne (by omega), gI_ne (by omega)]; exact T20, Or.inl ⟨q, rfl, by rw [gI_ne (by omega), gI_ne (by omega), T18, q]⟩⟩
  · rw [if_neg q, if_pos rfl, M_byte tT mT (by omega), Option.bind_some] at eq
    by_cases q2 : rdB tp a = 34
    · rw [if_pos q2] at eq
      unfold m_nextWord_77 m_readLiteral at eq
      have f1 : FW T (sI (sI T 0 23 1) 0 24 1) := (FW.sI (by omega)).tr (FW.sI (by omega))
      rw [if_pos (Or.inr rfl), lt_d, lt_d, show gI (sI (sI T 0 23 1) 0 24 1) 0 18 = nI a from by rw [gI_ne (by omega), gI_ne (by omega)]; exact T18, M_le (tT.fw f1) (mT.fw f1) L (by omega) (by omega), Option.bind_some, if_neg q, if_pos rfl, if_neg (by rw [gI_ne (by omega), sI_g]; decide), lt_d, lt_d, show gI (sI (sI (sI T 0 23 1) 0 24 1) 0 22 0) 0 18 = nI a from by rw [gI_ne (by omega), gI_ne (by omega), gI_ne (by omega)]; exact T18, nI_1] at eq
      have f2 : FW T (sI (sI (sI (sI T 0 23 1) 0 24 1) 0 22 0) 0 18 (nI (a + 1))) := f1.tr ((FW.sI (by omega)).tr (FW.sI (by omega)))
      have e23 : gI (sI (sI (sI (sI T 0 23 1) 0 24 1) 0 22 0) 0 18 (nI (a + 1))) 0 23 = 1 := by rw [gI_ne (by omega), gI_ne (by omega), gI_ne (by omega), sI_g]
      have e20 : gI (sI (sI (sI (sI T 0 23 1) 0 24 1) 0 22 0) 0 18 (nI (a + 1))) 0 20 = nI a := by rw [gI_ne (by omega), gI_ne (by omega), gI_ne (by omega), gI_ne (by omega)]; exact T20
      rcases M_litL hg L 3001 g (a + 1) [] _ (by omega) (by omega) (by omega) (by omega) (tT.fw f2) (mT.fw f2) (by simp) sI_g (by rw [gI_ne (by omega), sI_g]; rfl) (by rw [gI_ne (by omega), gI_ne (by omega), sI_g]) (fun y hy => by simp at hy) with ⟨us, b, S', c1, c2, c3, c4, c5, c6, c7, c8⟩ | ⟨c1, S', c2, c3, c4, p, c5, c6⟩
      · rw [c3, Option.bind_some, lt_d, c5] at eq
        refine ⟨_, _, eq, f0.tr (f2.tr ((FW.fl c4).tr (FW.sI (by omega)))), by rw [gI_ne (by omega), c4.1 0 20 (by omega)]; exact e20, Or.inr (Or.inr ⟨by omega, rfl, q2, by rw [gI_ne (by omega), c4.1 0 23 (by omega)]; exact e23, Or.inl ⟨us, b, c1, c2, by rw [gI_ne (by omega)]; exact c5, by rw [gI_ne (by omega)]; exact c6, by rw [gI_ne (by omega)]; exact c7, c8⟩⟩)⟩
      · rw [c2, Option.bind_some, lt_d, c6] at eq
        refine ⟨_, _, eq, f0.tr (f2.tr ((FW.fl c3).tr (FW.sI (by omega)))), by rw [gI_ne (by omega), c3.1 0 20 (by omega)]; exact e20, Or.inr (Or.inr ⟨by omega, rfl, q2, by rw [gI_ne (by omega), c3.1 0 23 (by omega)]; exact e23, Or.inr ⟨c1, by rw [gI_ne (by omega)]; exact c4, p, c5, by rw [gI_ne (by omega)]; exact c6⟩⟩)⟩
    · rw [if_neg q2] at eq
      unfold m_nextWord_76 m_nextWord_77 at eq
      have f1 : FW T (sI (sI T 0 23 0) 0 24 1) := (FW.sI (by omega)).tr (FW.sI (by omega))
      have e18 : gI (sI (sI T 0 23 0) 0 24 1) 0 18 = nI a := by rw [gI_ne (by omega), gI_ne (by omega)]; exact T18
      rw [if_pos (Or.inl rfl), lt_d, lt_d, e18, M_le (tT.fw f1) (mT.fw f1) L (by omega) (by omega), Option.bind_some, if_neg q, if_pos rfl, if_pos (by rw [gI_ne (by omega), sI_g])] at eq
      obtain ⟨S', c1, c2, c3, c4⟩ := M_wd (g := g) L (le - a) g a _ (by omega) (by omega) (by omega) (tT.fw f1) (mT.fw f1) e18
      refine ⟨S', 1, eq.trans c1, f0.tr (f1.tr (FW.fi c2 (fun k h => by omega))), by rw [c2.1 0 20 (by omega), gI_ne (by omega), gI_ne (by omega)]; exact T20, Or.inr (Or.inl ⟨by omega, rfl, q2, by rw [c2.1 0 23 (by omega), gI_ne (by omega), sI_g], by rw [c2.1 0 24 (by omega), sI_g], c3, c4⟩)⟩
end RDD
