/-! what is asked -/
theorem i_or (x : Int32) : x < 0 ∨ ∃ n : Nat, n < 2 ^ 31 ∧ x = nI n := by
  have h1 := x.toInt_lt
  rcases Int.lt_or_le x.toInt 0 with h | h
  · exact Or.inl (by rw [Int32.lt_iff_toInt_lt]; exact h)
  · refine Or.inr ⟨x.toInt.toNat, by omega, ?_⟩
    apply Int32.toInt_inj.mp
    rw [nI_toInt (by omega)]
    omega
theorem i_neg {x : Int32} (h : x < 0) : x.toInt < 0 := by
  rw [Int32.lt_iff_toInt_lt] at h
  exact h
section QRY
variable {g : Nat} {S S2 : St} {U : Nat → Prop}
theorem in_neg {x : Int32} {B : Int64} (h : x < 0) : m_isIn g x.toInt64 0 B = some 0 := by
  have := i_neg h
  rw [isIn_s, Int32.toInt_toInt64, z64, c01_f (by omega)]
theorem in_lit {n b : Nat} {B : Int64} (hn : n < 2 ^ 31) (hB : B.toInt = (b : Int)) : m_isIn g (nI n).toInt64 0 B = some (c01 (n ≤ b)) := by
  rw [isIn_s, Int32.toInt_toInt64, z64, nI_toInt (by omega), hB]
  refine congrArg some (c01_iff ?_)
  omega
theorem in_m1 {n m : Nat} (hn : n < 2 ^ 31) (hm : m < 2 ^ 30) : m_isIn g (nI n).toInt64 0 ((nI m - (1 : Int32)).toInt64) = some (c01 (n < m)) := by
  rw [isIn_s, Int32.toInt_toInt64, z64, nI_toInt (by omega), Int32.toInt_toInt64, show (nI m - (1 : Int32)).toInt = (m : Int) - ((1 : Nat) : Int) from nI_subI (b := 1) hm (by omega)]
  refine congrArg some (c01_iff ?_)
  omega
theorem c0t {p : Prop} (h : p) {α : Type} {x y : α} : (if c01 p = 0 then x else y) = y := by rw [c01_t h, if_neg (by decide)]
theorem c0f {p : Prop} (h : ¬ p) {α : Type} {x y : α} : (if c01 p = 0 then x else y) = x := by rw [c01_f h, if_pos rfl]
/-- a text variable, on both sides -/
theorem Q_text {φ : Nat → Option Nat} (hl : LC S) (hm : LM S2) (vr : VR φ S S2) (x : Int32) : ∃ a b, m_Bn_textOf g S x = some a ∧ m_textOf g S2 x = some b ∧ tRel φ a b := by
  have h74 : gN S 74 = 20 := hl 74 (by decide)
  have h26 : gN S2 26 = 20 := LMn hm 26
  unfold m_Bn_textOf m_textOf
  rcases i_or x with h | ⟨n, hn, rfl⟩
  · rw [if_pos h, in_neg h, Option.bind_some, if_pos rfl]
    exact ⟨-1, -1, rfl, rfl, Or.inl ⟨rfl, rfl⟩⟩
  · rw [if_neg (nI_pos hn), in_lit (b := 19) hn (by decide +kernel), Option.bind_some]
    by_cases h20 : n < 20
    · rw [if_pos (show nI n < (20 : Int32) from nI_lt (b := 20) h20 (by omega)), c0t (by omega), aI_at (by omega) (by omega), aI_at (by omega) (by omega)]
      exact ⟨_, _, rfl, rfl, vr n h20⟩
    · rw [if_neg (show ¬ nI n < (20 : Int32) from nI_nlt (b := 20) (by omega) (by omega)), c0f (by omega)]
      exact ⟨-1, -1, rfl, rfl, Or.inl ⟨rfl, rfl⟩⟩
theorem q_ended (h : RunE U S S2) (x : Int32) : ∃ r, m_TL_ended g S x = some r ∧ m_ended g S2 x = some r := by
  obtain ⟨⟨φ, cs, ts, u, pl, pm, ps, qs, rs, -⟩, tal, e0, e1, -⟩ := h
  have h79 : gN S 79 = 4 := rs.2.1 79 (by decide)
  unfold m_TL_ended m_ended
  rcases i_or x with hx | ⟨n, hn, rfl⟩
  · have := i_neg hx
    refine ⟨-1, by rw [if_pos hx], ?_⟩
    rw [if_neg (fun e => by rw [e] at hx; exact absurd hx (by decide)), if_neg (fun e => by rw [e] at hx; exact absurd hx (by decide)), if_neg (fun e => by rw [e] at hx; exact absurd hx (by decide)), if_neg (fun e => by rw [e] at hx; exact absurd hx (by decide))]
  · rw [if_neg (nI_pos hn)]
    by_cases h3 : n ≤ 3
    · rw [if_pos (show nI n ≤ (3 : Int32) from nI_le (b := 3) h3 (by omega)), aI_at (by omega) (by omega), Option.bind_some]
      rcases (by omega : n = 0 ∨ n = 1 ∨ n = 2 ∨ n = 3) with e | e | e | e <;> subst e
      · exact ⟨_, rfl, by rw [if_pos (show nI 0 = 0 from rfl), e0]⟩
      · exact ⟨_, rfl, by rw [if_neg (by decide), if_pos (show nI 1 = 1 from rfl), e1]⟩
      · exact ⟨_, rfl, by rw [if_neg (by decide), if_neg (by decide), if_pos (show nI 2 = 2 from rfl), tal.2.1]⟩
      · exact ⟨_, rfl, by rw [if_neg (by decide), if_neg (by decide), if_neg (by decide), if_pos (show nI 3 = 3 from rfl), tal.2.2]⟩
    · have ne : ∀ k : Nat, k ≤ 3 → ¬ nI n = nI k := fun k hk e => by
        have := (nI_eq (by omega) (by omega)).mp e
        omega
      rw [if_neg (show ¬ nI n ≤ (3 : Int32) from nI_ge (a := 3) (by omega) (by omega))]
      refine ⟨-1, rfl, ?_⟩
      rw [if_neg (show ¬ nI n = 0 from ne 0 (by omega)), if_neg (show ¬ nI n = 1 from ne 1 (by omega)), if_neg (show ¬ nI n = 2 from ne 2 (by omega)), if_neg (show ¬ nI n = 3 from ne 3 (by omega))]
theorem q_done (h : RunE U S S2) (x : Int32) : ∃ r, m_TL_done g S x = some r ∧ m_done g S2 x = some r := by
  obtain ⟨⟨φ, cs, ts, u, pl, pm, ps, qs, rs, -⟩, tal, e0, e1, -⟩ := h
  have h80 : gN S 80 = 56 := rs.2.1 80 (by decide)
  have h31 : gN S2 31 = 56 := LMn rs.2.2.1 31
  unfold m_TL_done m_done
  rcases i_or x with hx | ⟨n, hn, rfl⟩
  · exact ⟨-1, by rw [if_pos hx], by rw [in_neg hx, Option.bind_some, if_pos rfl]⟩
  · rw [if_neg (nI_pos hn), in_lit (b := 55) hn (by decide +kernel), Option.bind_some]
    by_cases h56 : n < 56
    · rw [if_pos (show nI n < (56 : Int32) from nI_lt (b := 56) h56 (by omega)), c0t (by omega), aI_at (by omega) (by omega), aI_at (by omega) (by omega), tal.1 n h56]
      exact ⟨_, rfl, rfl⟩
    · rw [if_neg (show ¬ nI n < (56 : Int32) from nI_nlt (b := 56) (by omega) (by omega)), c0f (by omega)]
      exact ⟨_, rfl, rfl⟩
theorem q_length (h : RSx U 60 S S2) (x : Int32) : ∃ r, m_TL_length g S x = some r ∧ m_length g S2 x = some r := by
  obtain ⟨φ, cs, ts, u, pl, pm, ps, qs, ⟨r1, r2, r3, r4, r5, r6, r7, r8, r9, r10, r11, r12, r13, r14⟩, -⟩ := h
  obtain ⟨a, b, a1, a2, a3⟩ := Q_text (g := g) r2 r3 r8 x
  unfold m_TL_length m_length
  rw [a1, a2, Option.bind_some, Option.bind_some]
  rcases a3 with ⟨e1, e2⟩ | ⟨p, q, e1, e2, e3, e4, e5⟩
  · rw [e1, e2, if_pos rfl, if_neg (by decide)]
    exact ⟨_, rfl, rfl⟩
  · obtain ⟨l, l1, l2, -⟩ := r4.2.2.1 p q e3
    rw [e1, e2, if_neg (nI_m1 (by omega)), if_pos (nI_pos' (by omega)), C_size r4.1 l1, (T_size r4.2.1 r3 l2).1]
    exact ⟨_, rfl, rfl⟩
theorem q_uo {φ : Nat → Option Nat} {cs ts : List (List Int32)} {u p q : Nat} {x : Int32} (hm : LM S2) (tr : TR S S2 φ cs ts u) (h : φ p = some q) : ∃ l, m_Tx_unitOf g S (nI p) x = some (atR l x) ∧ aI S2 24 (nI q) = some (nI l.length) ∧ ((m_isIn g x.toInt64 0 ((nI l.length - (1 : Int32)).toInt64)).bind fun v_3 => if v_3 = 0 then some (-1 : Int32) else (m_unitAt g S2 (nI q) x).bind fun v_4 => some v_4) = some (atR l x) := by
  obtain ⟨l, l1, l2, l3, -⟩ := tr.2.2.1 p q h
  refine ⟨l, C_unit tr.1 l1, (T_size tr.2.1 hm l2).1, ?_⟩
  rcases i_or x with hx | ⟨n, hn, rfl⟩
  · rw [in_neg hx, Option.bind_some, if_pos rfl]
    unfold atR
    rw [if_pos hx]
  · rw [in_m1 hn (by omega), Option.bind_some]
    by_cases hl : n < l.length
    · rw [c0t hl, T_unit tr.2.1 hm l2 hl, Option.bind_some, atR_nI (by omega), getD_lt hl]
    · rw [c0f hl, atR_nI (by omega), List.getD_eq_getElem?_getD, List.getElem?_eq_none (by omega)]
      rfl
theorem q_unit (h : RSx U 60 S S2) (x y : Int32) : ∃ r, m_TL_unit g S x y = some r ∧ m_unit g S2 x y = some r := by
  obtain ⟨φ, cs, ts, u, pl, pm, ps, qs, ⟨r1, r2, r3, r4, r5, r6, r7, r8, r9, r10, r11, r12, r13, r14⟩, -⟩ := h
  obtain ⟨a, b, a1, a2, a3⟩ := Q_text (g := g) r2 r3 r8 x
  unfold m_TL_unit m_unit
  rw [a1, a2, Option.bind_some, Option.bind_some]
  rcases a3 with ⟨e1, e2⟩ | ⟨p, q, e1, e2, e3, e4, e5⟩
  · rw [e1, e2, C_unit_no, Option.bind_some, if_pos (by decide)]
    exact ⟨_, rfl, rfl⟩
  · obtain ⟨l, l1, l2, l3⟩ := q_uo (g := g) (x := y) r3 r4 e3
    rw [e1, e2, l1, Option.bind_some, if_neg (nI_pos (by omega)), l2, Option.bind_some, l3]
    exact ⟨_, rfl, rfl⟩
theorem q_hash (hg : 100000 ≤ g) (h : RSx U 60 S S2) (x : Int32) : ∃ r, m_TL_hash g S x = some r ∧ m_hash g S2 x = some r := by
  obtain ⟨φ, cs, ts, u, pl, pm, ps, qs, ⟨r1, r2, r3, r4, r5, r6, r7, r8, r9, r10, r11, r12, r13, r14⟩, -⟩ := h
  obtain ⟨a, b, a1, a2, a3⟩ := Q_text (g := g) r2 r3 r8 x
  unfold m_TL_hash m_hash
  rw [a1, a2, Option.bind_some, Option.bind_some]
  rcases a3 with ⟨e1, e2⟩ | ⟨p, q, e1, e2, e3, e4, e5⟩
  · rw [e1, e2, if_pos rfl, if_neg (by decide)]
    exact ⟨_, rfl, rfl⟩
  · obtain ⟨l, l1, l2, -⟩ := r4.2.2.1 p q e3
    rw [e1, e2, if_neg (nI_m1 (by omega)), if_pos (nI_pos' (by omega)), C_hash hg r4.1 l1, M_hash hg r4.2.1 r3 l2]
    exact ⟨_, rfl, rfl⟩
theorem q_same (h : RSx U 60 S S2) (x y : Int32) : ∃ r, m_TL_same g S x y = some r ∧ m_same g S2 x y = some r := by
  obtain ⟨φ, cs, ts, u, pl, pm, ps, qs, ⟨r1, r2, r3, r4, r5, r6, r7, r8, r9, r10, r11, r12, r13, r14⟩, -⟩ := h
  have h74 : gN S 74 = 20 := r2 74 (by decide)
  have h26 : gN S2 26 = 20 := LMn r3 26
  unfold m_TL_same m_same
  rcases i_or x with hx | ⟨n, hn, rfl⟩
  · exact ⟨-1, by rw [if_pos hx], by rw [in_neg hx, Option.bind_some, if_pos rfl]⟩
  · rw [if_neg (nI_pos hn), in_lit (b := 19) hn (by decide +kernel), Option.bind_some]
    by_cases h20 : n < 20
    · rw [if_neg (show ¬ (20 : Int32) ≤ nI n from nI_ge (b := 20) (by omega) (by omega)), c0t (by omega)]
      rcases i_or y with hy | ⟨m, hm, rfl⟩
      · exact ⟨-1, by rw [if_pos hy], by rw [in_neg hy, Option.bind_some, if_pos rfl]⟩
      · rw [if_neg (nI_pos hm), in_lit (b := 19) hm (by decide +kernel), Option.bind_some]
        by_cases h20' : m < 20
        · have eT : ∀ k : Nat, k < 20 → m_Bn_textOf g S (nI k) = some (gF S 74 k) := fun k hk => by
            unfold m_Bn_textOf
            rw [if_neg (nI_pos (by omega)), if_pos (show nI k < (20 : Int32) from nI_lt (b := 20) hk (by omega)), aI_at (by omega) (by omega)]
            rfl
          rw [if_pos (show nI m < (20 : Int32) from nI_lt (b := 20) h20' (by omega)), c0t (by omega), eT n h20, eT m h20', aI_at (by omega) (by omega), aI_at (by omega) (by omega), Option.bind_some, Option.bind_some, Option.bind_some, Option.bind_some, Option.bind_some]
          have v1 := r8 n h20
          have v2 := r8 m h20'
          have key : gF S 74 n = gF S 74 m ↔ gF S2 26 n = gF S2 26 m := by
            constructor
            · intro e
              rw [← e] at v2
              exact tRel_det v1 v2
            · intro e
              rw [← e] at v2
              exact tRel_inj r4.2.2.2.1 v1 v2
          rcases v1 with ⟨e1, e2⟩ | ⟨p, q, e1, e2, e3, e4, e5⟩
          · rw [if_pos e1, if_pos (by rw [e2]; decide)]
            exact ⟨_, rfl, rfl⟩
          · rw [if_neg (show ¬ gF S 74 n = -1 by rw [e1]; exact nI_m1 (by omega)), if_neg (show ¬ gF S2 26 n < 0 by rw [e2]; exact nI_pos (by omega))]
            by_cases e : gF S 74 n = gF S 74 m
            · rw [if_pos e, if_pos (key.mp e)]
              exact ⟨_, rfl, rfl⟩
            · rw [if_neg e, if_neg (fun h => e (key.mpr h))]
              exact ⟨_, rfl, rfl⟩
        · rw [if_neg (show ¬ nI m < (20 : Int32) from nI_nlt (b := 20) (by omega) (by omega)), c0f (by omega)]
          exact ⟨_, rfl, rfl⟩
    · rw [if_pos (show (20 : Int32) ≤ nI n from nI_le (a := 20) (by omega) (by omega)), c0f (by omega)]
      exact ⟨_, rfl, rfl⟩
theorem pol_l {q : Nat} {pm : List Nat} (hm : LM S2) (hp : PoM S2 pm) (hq : q < 1700) (hb : ∀ z ∈ pm, z < 2000) : ∀ (k n i : Nat) (x3 : Int32), i + k = pm.length → k < n → m_pooled_17 g S2 n (nI q) x3 (nI i) = some (if q ∈ pm.drop i then 1 else x3) := by
  intro k
  induction k with
  | zero =>
    intro n i x3 hi hn
    obtain ⟨n, rfl⟩ : ∃ m, n = m + 1 := ⟨n - 1, by omega⟩
    have := hp.2.1
    show b_pooled_17 g S2 (m_pooled_17 g S2 n) (nI q) x3 (nI i) = _
    unfold b_pooled_17
    rw [hp.1, if_pos (nI_le (by omega) (by omega)), List.drop_eq_nil_of_le (by omega), if_neg (by simp)]
  | succ k ih =>
    intro n i x3 hi hn
    obtain ⟨n, rfl⟩ : ∃ m, n = m + 1 := ⟨n - 1, by omega⟩
    have h90 := hp.2.1
    have h25 : gN S2 25 = 90 := LMn hm 25
    have hil : i < pm.length := by omega
    have hd : pm.drop i = pm[i] :: pm.drop (i + 1) := List.drop_eq_getElem_cons hil
    have hv : gF S2 25 i = nI pm[i] := by
      rw [hp.2.2 i hil, List.getD_eq_getElem?_getD, List.getElem?_eq_getElem hil]
      rfl
    have hzb := hb pm[i] (List.getElem_mem hil)
    show b_pooled_17 g S2 (m_pooled_17 g S2 n) (nI q) x3 (nI i) = _
    unfold b_pooled_17
    rw [hp.1, if_neg (nI_ge (by omega) (by omega)), aI_at (by omega) (by omega), Option.bind_some, hv, hd]
    by_cases e : pm[i] = q
    · rw [if_pos (show nI pm[i] = nI q by rw [e]), lt_d, nI_1, ih n (i + 1) 1 (by omega) (by omega), if_pos (show q ∈ pm[i] :: pm.drop (i + 1) from List.mem_cons.mpr (Or.inl e.symm))]
      split <;> rfl
    · rw [if_neg (i_lit (by omega) (by omega) e), lt_d, nI_1, ih n (i + 1) x3 (by omega) (by omega)]
      have : (q ∈ pm[i] :: pm.drop (i + 1)) ↔ q ∈ pm.drop (i + 1) := by
        constructor
        · intro h
          rcases List.mem_cons.mp h with h | h
          · exact absurd h.symm e
          · exact h
        · intro h; exact List.mem_cons.mpr (Or.inr h)
      by_cases hh : q ∈ pm.drop (i + 1)
      · rw [if_pos hh, if_pos (this.mpr hh)]
      · rw [if_neg hh, if_neg (fun h => hh (this.mp h))]
theorem map_in {φ : Nat → Option Nat} (hi : ∀ p p' q, φ p = some q → φ p' = some q → p = p') : ∀ {pl pm : List Nat} {p q : Nat}, pl.map φ = pm.map some → φ p = some q → (p ∈ pl ↔ q ∈ pm) := by
  intro pl pm p q h hpq
  constructor
  · intro hp
    have : φ p ∈ pl.map φ := List.mem_map.mpr ⟨p, hp, rfl⟩
    rw [h, hpq] at this
    obtain ⟨z, z1, z2⟩ := List.mem_map.mp this
    rw [← Option.some.inj z2]
    exact z1
  · intro hq
    have : some q ∈ pm.map some := List.mem_map.mpr ⟨q, hq, rfl⟩
    rw [← h] at this
    obtain ⟨z, z1, z2⟩ := List.mem_map.mp this
    rw [hi p z q hpq z2]
    exact z1
theorem q_pooled (hg : 100000 ≤ g) (h : RSx U 60 S S2) (x : Int32) : ∃ r, m_TL_pooled g S x = some r ∧ m_pooled g S2 x = some r := by
  obtain ⟨φ, cs, ts, u, pl, pm, ps, qs, ⟨r1, r2, r3, r4, r5, r6, r7, r8, r9, r10, r11, r12, r13, r14⟩, bd⟩ := h
  obtain ⟨a, b, a1, a2, a3⟩ := Q_text (g := g) r2 r3 r8 x
  unfold m_TL_pooled m_pooled
  rw [a1, a2, Option.bind_some, Option.bind_some]
  rcases a3 with ⟨e1, e2⟩ | ⟨p, q, e1, e2, e3, e4, e5⟩
  · rw [e1, e2, if_pos rfl, if_neg (by decide)]
    exact ⟨_, rfl, rfl⟩
  · have hb : ∀ z ∈ pm, z < 2000 := fun z hz => by
      obtain ⟨p', hp'⟩ := (map_mem pl pm r7).2 z hz
      obtain ⟨l, -, l2, -⟩ := r4.2.2.1 p' z hp'
      have := (List.getElem?_eq_some_iff.mp l2).1
      have := r4.2.1.2.1
      omega
    have hbp : ∀ z ∈ pl, z < 2000 := fun z hz => by
      obtain ⟨q', hq'⟩ := (map_mem pl pm r7).1 z hz
      obtain ⟨l, l1, -⟩ := r4.2.2.1 z q' hq'
      have := (C_bounds r4.1 l1).1
      have := (C_bounds r4.1 l1).2.1
      omega
    have hpl90 := r6.2.1
    rw [e1, e2, if_neg (nI_m1 (by omega)), if_pos (nI_pos' (by omega)), R_placeOf r5 hg, Option.bind_some, show m_pooled_17 g S2 g (nI q) 0 0 = _ from pol_l r3 r6 e5 hb pm.length g 0 0 (by omega) (by omega), List.drop_zero]
    have key := map_in r4.2.2.2.1 r7 e3
    have km : nI p ∈ pl.map nI ↔ p ∈ pl := by
      constructor
      · intro h
        obtain ⟨z, z1, z2⟩ := List.mem_map.mp h
        have := hbp z z1
        have : z = p := (nI_eq (by omega) (by omega)).mp z2
        rw [← this]
        exact z1
      · intro h
        exact List.mem_map.mpr ⟨p, h, rfl⟩
    have hll : pl.length = pm.length := by
      have := congrArg List.length r7
      rwa [List.length_map, List.length_map] at this
    by_cases hp : p ∈ pl
    · have hix : (pl.map nI).idxOf (nI p) < (pl.map nI).length := List.idxOf_lt_length_iff.mpr (km.mpr hp)
      rw [List.length_map] at hix
      rw [if_pos (km.mpr hp), if_neg (nI_m1 (by omega)), if_pos (key.mp hp)]
      exact ⟨_, rfl, rfl⟩
    · rw [if_neg (fun h => hp (km.mp h)), if_pos rfl, if_neg (fun h => hp (key.mpr h))]
      exact ⟨_, rfl, rfl⟩
theorem q_pool (h : RSx U 60 S S2) : ∃ r, m_TL_pool g S = some r ∧ m_pool g S2 = some r := by
  obtain ⟨φ, cs, ts, u, pl, pm, ps, qs, ⟨r1, r2, r3, r4, r5, r6, r7, r8, r9, r10, r11, r12, r13, r14⟩, bd⟩ := h
  have hll : pl.length = pm.length := by
    have := congrArg List.length r7
    rwa [List.length_map, List.length_map] at this
  refine ⟨nI pm.length, ?_, ?_⟩
  · unfold m_TL_pool
    rw [r5.2.2.1, List.length_map, hll]
  · unfold m_pool
    rw [r6.1]
theorem q_whole (h : RSx U 60 S S2) (x : Int32) : ∃ r, m_TL_whole g S x = some r ∧ m_whole g S2 x = some r := by
  obtain ⟨φ, cs, ts, u, pl, pm, ps, qs, ⟨r1, r2, r3, r4, r5, r6, r7, r8, r9, r10, r11, r12, r13, r14⟩, bd⟩ := h
  have h75 : gN S 75 = 12 := r2 75 (by decide)
  have h32 : gN S2 32 = 12 := LMn r3 32
  unfold m_TL_whole m_whole
  rcases i_or x with hx | ⟨n, hn, rfl⟩
  · exact ⟨0, by rw [if_pos hx], by rw [in_neg hx, Option.bind_some, if_pos rfl]⟩
  · rw [if_neg (nI_pos hn), in_lit (b := 11) hn (by decide +kernel), Option.bind_some]
    by_cases h12 : n < 12
    · rw [if_pos (show nI n < (12 : Int32) from nI_lt (b := 12) h12 (by omega)), c0t (by omega), aJ_at (by omega) (by omega), aJ_at (by omega) (by omega), r9 n h12]
      exact ⟨_, rfl, rfl⟩
    · rw [if_neg (show ¬ nI n < (12 : Int32) from nI_nlt (b := 12) (by omega) (by omega)), c0f (by omega)]
      exact ⟨_, rfl, rfl⟩
theorem q_marks (h : RSx U 60 S S2) : ∃ r, m_TL_marks g S = some r ∧ m_marks g S2 = some r := by
  obtain ⟨φ, cs, ts, u, pl, pm, ps, qs, ⟨r1, r2, r3, r4, r5, r6, r7, r8, r9, r10, r11, ⟨m, m1, m2, m3, m4⟩, r13, r14⟩, bd⟩ := h
  exact ⟨_, congrArg some m2, congrArg some m3⟩
theorem q_mark (h : RSx U 60 S S2) (x : Int32) : ∃ r, m_TL_mark g S x = some r ∧ m_mark g S2 x = some r := by
  obtain ⟨φ, cs, ts, u, pl, pm, ps, qs, ⟨r1, r2, r3, r4, r5, r6, r7, r8, r9, r10, r11, ⟨m, m1, m2, m3, m4⟩, r13, r14⟩, bd⟩ := h
  have h78 : gN S 78 = 30 := r2 78 (by decide)
  have h33 : gN S2 33 = 30 := LMn r3 33
  unfold m_TL_mark m_mark
  rw [m2, m3]
  rcases i_or x with hx | ⟨n, hn, rfl⟩
  · exact ⟨0, by rw [if_pos hx], by rw [in_neg hx, Option.bind_some, if_pos rfl]⟩
  · rw [if_neg (nI_pos hn), in_m1 hn (by omega), Option.bind_some]
    by_cases hl : n < m
    · rw [if_pos (nI_lt hl (by omega)), c0t hl, aJ_at (by omega) (by omega), aJ_at (by omega) (by omega), m4 n hl]
      exact ⟨_, rfl, rfl⟩
    · rw [if_neg (nI_nlt (by omega) (by omega)), c0f hl]
      exact ⟨_, rfl, rfl⟩
theorem q_parts (h : RSx U 60 S S2) : ∃ r, m_TL_parts g S = some r ∧ m_parts g S2 = some r := by
  obtain ⟨φ, cs, ts, u, pl, pm, ps, qs, ⟨r1, r2, r3, r4, r5, r6, r7, r8, r9, r10, ⟨p1, p2, p3, p4, p5⟩, r12, r13, r14⟩, bd⟩ := h
  have hll : ps.length = qs.length := by
    have := congrArg List.length p5
    rwa [List.length_map, List.length_map] at this
  refine ⟨nI qs.length, ?_, ?_⟩
  · unfold m_TL_parts
    rw [p1.2.2.1, List.length_map, hll]
  · unfold m_parts
    rw [p2]
end QRY
