/-! spelled: what is said, what is laid -/
def Fsy (p : Nat) (S S' : St) : Prop := (∀ o k, ¬ (o = p ∧ (k = 13 ∨ k = 14)) → o ≠ 8 + 3 * p + 2 → gI S' o k = gI S o k) ∧ S'.2.1 = S.2.1 ∧ S'.2.2.1 = S.2.2.1 ∧ (∀ a, a ≠ 34 + 3 * p → gN S' a = gN S a ∧ ∀ i, gF S' a i = gF S a i) ∧ S'.2.2.2.2.2 = S.2.2.2.2.2
theorem Fsy.rf {p : Nat} {S : St} : Fsy p S S := ⟨fun _ _ _ _ => rfl, rfl, rfl, fun _ _ => ⟨rfl, fun _ => rfl⟩, rfl⟩
theorem Fsy.tr {p : Nat} {S S1 S2 : St} (h1 : Fsy p S S1) (h2 : Fsy p S1 S2) : Fsy p S S2 := ⟨fun o k a b => (h2.1 o k a b).trans (h1.1 o k a b), h2.2.1.trans h1.2.1, h2.2.2.1.trans h1.2.2.1, fun a b => ⟨(h2.2.2.2.1 a b).1.trans (h1.2.2.2.1 a b).1, fun i => ((h2.2.2.2.1 a b).2 i).trans ((h1.2.2.2.1 a b).2 i)⟩, h2.2.2.2.2.trans h1.2.2.2.2⟩
theorem Fsy.sI {p k : Nat} {S : St} {v : Int32} (h : k = 13 ∨ k = 14) : Fsy p S (sI S p k v) := ⟨fun o j a _ => gI_ne (by rintro ⟨rfl, rfl⟩; exact a ⟨rfl, h⟩), rfl, rfl, fun _ _ => ⟨rfl, fun _ => rfl⟩, rfl⟩
theorem Fsy.fr {p : Nat} {S S' : St} (h : Fr (8 + 3 * p + 2) S S') : Fsy p S S' := ⟨fun o k _ b => h.1 o k b, h.2.1, h.2.2.1, fun a b => h.2.2.2.1 a (by omega), h.2.2.2.2⟩
theorem Rw.sy {p x : Nat} {S S' : St} {l : List Int32} {ov : Int32} (w : Rw S x l ov) (h : Fsy p S S') (hp : p = 1 ∨ p = 2) (hx : x ≠ 8 + 3 * p + 2) : Rw S' x l ov := by
  obtain ⟨w0, w1, w2, w3, w4, w5, w6, w7, w8⟩ := w
  unfold Rw
  rw [h.1 x 0 (by omega) hx, h.1 x 2 (by omega) hx, h.1 x 3 (by omega) hx, (h.2.2.2.1 (x + 24) (by omega)).1]
  exact ⟨w0, w1, w2, w3, w4, w5, w6, w7, fun i hi => by rw [(h.2.2.2.1 (x + 24) (by omega)).2]; exact w8 i hi⟩
theorem gOK.sy {p : Nat} {S S' : St} (w : gOK S) (h : Fsy p S S') : gOK S' := by
  unfold gOK gR at *
  rw [h.2.2.1]
  exact w
theorem FZc.sy {p : Nat} {S S' : St} (h : Fsy p S S') (hp : p = 1 ∨ p = 2) : FZc p S S' := ⟨fun o k a => h.1 o k (by omega) (by omega), h.1 p 8 (by omega) (by omega), h.1 0 6 (by omega) (by omega), fun k => ⟨h.1 _ k (by omega) (by omega), h.1 _ k (by omega) (by omega)⟩, fun o k _ => by unfold gR; rw [h.2.2.1], fun a b => (h.2.2.2.1 a (by omega)).1, fun a b i => (h.2.2.2.1 a (by omega)).2 i, fun a b i => by unfold gG; rw [h.2.2.2.2]⟩
theorem LC.sy {p : Nat} {S S' : St} (w : LC S) (h : Fsy p S S') (hp : p = 1 ∨ p = 2) : LC S' := fun a ha => ((h.2.2.2.1 a (by omega)).1).trans (w a ha)
/-- the class has said l, byte x is looked for -/
def SayI (S : St) (p x : Nat) (l : List Int32) : Prop := (gI S p 13).toInt = (x : Int) - (l.length : Int) ∧ gI S p 14 = l.getD x (-1)
/-- the reference has laid l -/
def LayI (S : St) (l : List Int32) : Prop := gI S 0 67 = nI l.length ∧ ∀ i, i < l.length → gF S 40 i = l.getD i 0
def FLy (S S' : St) : Prop := (∀ k, k ≠ 67 → k ≠ 57 → gI S' 0 k = gI S 0 k) ∧ S'.2.2.2.1 = S.2.2.2.1 ∧ (∀ a, a ≠ 40 → a ≠ 34 → a ≠ 37 → ∀ i, gF S' a i = gF S a i) ∧ S'.2.2.2.2.2 = S.2.2.2.2.2
theorem FLy.rf {S : St} : FLy S S := ⟨fun _ _ _ => rfl, rfl, fun _ _ _ _ _ => rfl, rfl⟩
theorem FLy.tr {S S1 S2 : St} (h1 : FLy S S1) (h2 : FLy S1 S2) : FLy S S2 := ⟨fun k a b => (h2.1 k a b).trans (h1.1 k a b), h2.2.1.trans h1.2.1, fun a b c d i => (h2.2.2.1 a b c d i).trans (h1.2.2.1 a b c d i), h2.2.2.2.trans h1.2.2.2⟩
theorem FLy.fe {S S' : St} (h : FE S S') : FLy S S' := ⟨fun k _ b => h.1 k b, h.2.2.2.1, fun a _ b c i => h.2.2.2.2.1 a b c i, h.2.2.2.2.2⟩
theorem FLy.sI {S : St} {k : Nat} {v : Int32} (h : k = 67 ∨ k = 57) : FLy S (sI S 0 k v) := ⟨fun j _ _ => gI_ne (by omega), rfl, fun _ _ _ _ _ => rfl, rfl⟩
theorem FZm.ly {S S' : St} (h : FLy S S') : FZm S S' := ⟨fun k a => h.1 k (by omega) (by omega), h.2.1, fun a i b => h.2.2.1 a (by unfold kpA at b; omega) (by unfold kpA at b; omega) (by unfold kpA at b; omega) i, fun a i _ => by unfold gG; rw [h.2.2.2]⟩
theorem LM.ly {S S' : St} (w : LM S) (h : FLy S S') : LM S' := w.of h.2.1
theorem dec_i {y : Int32} (h : -1000000 < y.toInt) : (y - 1).toInt = y.toInt - 1 := by
  rw [Int32.toInt_sub, show (1 : Int32).toInt = 1 from by decide]
  have h2 : y.toInt < 2 ^ 31 := Int32.toInt_lt y
  exact Int.bmod_eq_of_le (by omega) (by omega)
/-- only the place looked for and what is found have changed -/
abbrev Fsa (p : Nat) (S S' : St) : Prop := Fi p (fun k => k = 13 ∨ k = 14) S S'
theorem Fsy.fi {p : Nat} {S S' : St} (h : Fsa p S S') : Fsy p S S' := ⟨fun o k a _ => h.1 o k a, by rw [h.2], by rw [h.2], fun a _ => ⟨h.N a, fun i => h.F a i⟩, by rw [h.2]⟩
section SPL
variable {g p x : Nat} {S S2 : St} {l : List Int32} {u : Int32}
theorem C_say (h : SayI S p x l) (hl : l.length < 100000) : ∃ S', m_Pg_say g S p u = some S' ∧ Fsa p S S' ∧ SayI S' p x (l ++ [u]) := by
  obtain ⟨h1, h2⟩ := h
  have hd := dec_i (y := gI S p 13) (by omega)
  have hz : gI S p 13 = 0 ↔ x = l.length := by
    constructor
    · intro z
      rw [z, show (0 : Int32).toInt = 0 from by decide] at h1
      omega
    · intro z
      apply Int32.toInt_inj.mp
      rw [h1, show (0 : Int32).toInt = 0 from by decide]
      omega
  unfold m_Pg_say
  by_cases q : x = l.length
  · rw [if_pos (hz.mpr q), lt_d, lt_d, gI_ne (by omega)]
    refine ⟨_, rfl, (Fi.sI (Or.inr rfl)).tr (Fi.sI (Or.inl rfl)), ?_, ?_⟩
    · rw [sI_g, hd, h1, List.length_append, List.length_singleton]
      omega
    · rw [gI_ne (by omega), sI_g, q]
      simp
  · rw [if_neg (fun z => q (hz.mp z)), lt_d]
    refine ⟨_, rfl, Fi.sI (Or.inl rfl), ?_, ?_⟩
    · rw [sI_g, hd, h1, List.length_append, List.length_singleton]
      omega
    · rw [gI_ne (by omega), h2]
      by_cases q2 : x < l.length
      · rw [List.getD_eq_getElem?_getD, List.getD_eq_getElem?_getD, List.getElem?_append_left q2]
      · rw [List.getD_eq_getElem?_getD, List.getD_eq_getElem?_getD, List.getElem?_eq_none (by omega), List.getElem?_eq_none (by rw [List.length_append, List.length_singleton]; omega)]
theorem M_lay (h : LayI S2 l) (hm : LM S2) (hl : l.length < 6500) : ∃ S', m_lay g S2 u = some S' ∧ FLy S2 S' ∧ LayI S' (l ++ [u]) := by
  obtain ⟨h1, h2⟩ := h
  have h40 : gN S2 40 = 6500 := LMn hm 40
  refine ⟨sI (sF S2 40 l.length u) 0 67 (nI (l.length + 1)), ?_, ⟨fun k a _ => ?_, rfl, fun a b _ _ i => ?_, rfl⟩, ?_, fun i hi => ?_⟩
  · unfold m_lay
    rw [h1, tI_at (by omega) (by omega), Option.bind_some, lt_d, show gI (sF S2 40 l.length u) 0 67 = nI l.length from h1, nI_1]
  · rw [gI_ne (by omega)]
    rfl
  · exact gF_ne b
  · rw [sI_g, List.length_append, List.length_singleton]
  · rw [List.length_append, List.length_singleton] at hi
    show gF (sF S2 40 l.length u) 40 i = _
    by_cases q : i = l.length
    · rw [q, gF_sF]
      simp
    · rw [gF_sFi q, h2 i (by omega), List.getD_eq_getElem?_getD, List.getD_eq_getElem?_getD, List.getElem?_append_left (by omega)]
/-- the spelling of a unit -/
def hxS (u : Int32) (k : Int32) : Int32 := if (10 : Int32) ≤ (u >>> (k &&& 31)) &&& 15 then ((97 : Int32) + ((u >>> (k &&& 31)) &&& 15)) - 10 else (48 : Int32) + ((u >>> (k &&& 31)) &&& 15)
def uS (u : Int32) : List Int32 := if u = 34 ∨ u = 92 then [92, u] else if u = 10 then [92, 110] else if u = 9 then [92, 116] else if u < 32 ∨ 126 < u then [92, 117, hxS u 12, hxS u 8, hxS u 4, hxS u 0] else [u]
theorem uS_len : (uS u).length = ulen u := by
  unfold uS ulen
  by_cases q1 : u = 34 ∨ u = 92
  · rw [if_pos q1, if_pos (show u = 34 ∨ u = 92 ∨ u = 10 ∨ u = 9 from q1.elim Or.inl (fun z => Or.inr (Or.inl z)))]; rfl
  rw [if_neg q1]
  by_cases q2 : u = 10
  · rw [if_pos q2, if_pos (show u = 34 ∨ u = 92 ∨ u = 10 ∨ u = 9 from Or.inr (Or.inr (Or.inl q2)))]; rfl
  rw [if_neg q2]
  by_cases q3 : u = 9
  · rw [if_pos q3, if_pos (show u = 34 ∨ u = 92 ∨ u = 10 ∨ u = 9 from Or.inr (Or.inr (Or.inr q3)))]; rfl
  rw [if_neg q3, if_neg (show ¬ (u = 34 ∨ u = 92 ∨ u = 10 ∨ u = 9) from fun z => by
    rcases z with z | z | z | z
    · exact q1 (Or.inl z)
    · exact q1 (Or.inr z)
    · exact q2 z
    · exact q3 z)]
  by_cases q4 : u < 32 ∨ 126 < u
  · rw [if_pos q4, if_pos q4]; rfl
  · rw [if_neg q4, if_neg q4]; rfl
theorem C_hex (h : SayI S p x l) (hl : l.length + 6 < 100000) (hg : 100000 ≤ g) : ∃ S', m_Pg_sayUnit_95 g g S p u 12 = some S' ∧ Fsa p S S' ∧ SayI S' p x (l ++ [hxS u 12, hxS u 8, hxS u 4, hxS u 0]) := by
  obtain ⟨G, rfl⟩ : ∃ G, g = G + 5 := ⟨g - 5, by omega⟩
  have st : ∀ (n : Nat) (k k' : Int32) (T : St) (m : List Int32), ¬ k < 0 → k + (-4 : Int32) = k' → SayI T p x m → m.length < 100000 → ∃ T', m_Pg_sayUnit_95 (G + 5) (n + 1) T p u k = m_Pg_sayUnit_95 (G + 5) n T' p u k' ∧ Fsa p T T' ∧ SayI T' p x (m ++ [hxS u k]) := by
    intro n k k' T m hk hk' hs hm
    obtain ⟨T', a1, a2, a3⟩ := C_say (g := G + 5) (u := hxS u k) hs hm
    refine ⟨T', ?_, a2, a3⟩
    show b_Pg_sayUnit_95 (G + 5) (m_Pg_sayUnit_95 (G + 5) n) T p u k = _
    unfold b_Pg_sayUnit_95 m_Pg_sayUnit_127
    rw [if_neg hk, lt_d]
    unfold hxS at a1
    by_cases q : (10 : Int32) ≤ (u >>> (k &&& 31)) &&& 15
    · rw [if_pos q] at a1
      rw [if_pos q, a1, Option.bind_some, lt_d, hk']
    · rw [if_neg q] at a1
      rw [if_neg q, a1, Option.bind_some, lt_d, hk']
  obtain ⟨T1, a1, a2, a3⟩ := st (G + 4) 12 8 S l (by decide) (by decide) h (by omega)
  obtain ⟨T2, b1, b2, b3⟩ := st (G + 3) 8 4 T1 _ (by decide) (by decide) a3 (by simp; omega)
  obtain ⟨T3, c1, c2, c3⟩ := st (G + 2) 4 0 T2 _ (by decide) (by decide) b3 (by simp; omega)
  obtain ⟨T4, d1, d2, d3⟩ := st (G + 1) 0 (-4) T3 _ (by decide) (by decide) c3 (by simp; omega)
  refine ⟨T4, a1.trans (b1.trans (c1.trans (d1.trans ?_))), ((a2.tr b2).tr c2).tr d2, ?_⟩
  · show b_Pg_sayUnit_95 (G + 5) (m_Pg_sayUnit_95 (G + 5) G) T4 p u (-4) = _
    unfold b_Pg_sayUnit_95
    rw [if_pos (by decide)]
  · simpa using d3
theorem C_sUnit (h : SayI S p x l) (hl : l.length + 6 < 90000) (hg : 100000 ≤ g) : ∃ S', m_Pg_sayUnit g S p u = some S' ∧ Fsa p S S' ∧ SayI S' p x (l ++ uS u) := by
  obtain ⟨S1, a1, a2, a3⟩ := C_say (g := g) (u := 92) h (by omega)
  have l1 : (l ++ [(92 : Int32)]).length = l.length + 1 := by simp
  have two : ∀ v : Int32, ∃ S', m_Pg_say g S1 p v = some S' ∧ Fsa p S S' ∧ SayI S' p x (l ++ [92, v]) := fun v => by
    obtain ⟨S3, b1, b2, b3⟩ := C_say (g := g) (u := v) a3 (by omega)
    exact ⟨S3, b1, a2.tr b2, by simpa using b3⟩
  have e30 : (u < 32 ∨ 126 < u ∨ u = 34 ∨ u = 92) → m_Pg_sayUnit g S p u = m_Pg_sayUnit_30 g S p u := by
    intro q
    unfold m_Pg_sayUnit
    by_cases q1 : u < 32
    · rw [if_pos q1]
    rw [if_neg q1]
    by_cases q2 : 126 < u
    · rw [if_pos q2]
    rw [if_neg q2]
    by_cases q3 : u = 34
    · rw [if_pos q3]
    rw [if_neg q3]
    by_cases q4 : u = 92
    · rw [if_pos q4]
    · rcases q with q | q | q | q
      · exact absurd q q1
      · exact absurd q q2
      · exact absurd q q3
      · exact absurd q q4
  unfold uS
  by_cases q1 : u = 34 ∨ u = 92
  · rw [if_pos q1]
    obtain ⟨S3, b1, b2, b3⟩ := two u
    refine ⟨S3, ?_, b2, b3⟩
    rw [e30 (by rcases q1 with q | q; exact Or.inr (Or.inr (Or.inl q)); exact Or.inr (Or.inr (Or.inr q)))]
    unfold m_Pg_sayUnit_30 m_Pg_sayUnit_48
    rw [a1, Option.bind_some, b1, Option.bind_some]
    rcases q1 with q | q
    · rw [if_pos q]
    · rw [if_pos q]
      exact ifo rfl rfl
  rw [if_neg q1]
  have n34 : ¬ u = 34 := fun z => q1 (Or.inl z)
  have n92 : ¬ u = 92 := fun z => q1 (Or.inr z)
  by_cases q2 : u = 10
  · rw [if_pos q2]
    obtain ⟨S3, b1, b2, b3⟩ := two 110
    refine ⟨S3, ?_, b2, b3⟩
    rw [e30 (Or.inl (by rw [q2]; decide))]
    unfold m_Pg_sayUnit_30
    rw [a1, Option.bind_some, if_neg n34, if_neg n92, if_pos q2, b1, Option.bind_some]
  rw [if_neg q2]
  by_cases q3 : u = 9
  · rw [if_pos q3]
    obtain ⟨S3, b1, b2, b3⟩ := two 116
    refine ⟨S3, ?_, b2, b3⟩
    rw [e30 (Or.inl (by rw [q3]; decide))]
    unfold m_Pg_sayUnit_30
    rw [a1, Option.bind_some, if_neg n34, if_neg n92, if_neg q2, if_pos q3, b1, Option.bind_some]
  rw [if_neg q3]
  by_cases q4 : u < 32 ∨ 126 < u
  · rw [if_pos q4]
    obtain ⟨S3, b1, b2, b3⟩ := two 117
    obtain ⟨S4, c1, c2, c3⟩ := C_hex (g := g) (u := u) b3 (by simp; omega) hg
    refine ⟨S4, ?_, b2.tr c2, by simpa using c3⟩
    rw [e30 (by rcases q4 with q | q; exact Or.inl q; exact Or.inr (Or.inl q))]
    unfold m_Pg_sayUnit_30
    rw [a1, Option.bind_some, if_neg n34, if_neg n92, if_neg q2, if_neg q3, b1, Option.bind_some]
    exact c1
  · rw [if_neg q4]
    obtain ⟨S3, b1, b2, b3⟩ := C_say (g := g) (u := u) h (by omega)
    refine ⟨S3, ?_, b2, b3⟩
    unfold m_Pg_sayUnit
    rw [if_neg (fun z => q4 (Or.inl z)), if_neg (fun z => q4 (Or.inr z)), if_neg n34, if_neg n92, b1, Option.bind_some]
theorem M_hex (h : LayI S2 l) (hm : LM S2) (hl : l.length + 4 ≤ 6500) (hg : 100000 ≤ g) : ∃ S', m_layUnit_97 g g S2 u 0 12 = some S' ∧ FLy S2 S' ∧ LayI S' (l ++ [hxS u 12, hxS u 8, hxS u 4, hxS u 0]) := by
  obtain ⟨G, rfl⟩ : ∃ G, g = G + 5 := ⟨g - 5, by omega⟩
  have st : ∀ (n : Nat) (k k' : Int32) (T : St) (m : List Int32), ¬ k < 0 → k + (-4 : Int32) = k' → LayI T m → LM T → m.length < 6500 → ∃ T', m_layUnit_97 (G + 5) (n + 1) T u 0 k = m_layUnit_97 (G + 5) n T' u 0 k' ∧ FLy T T' ∧ LayI T' (m ++ [hxS u k]) := by
    intro n k k' T m hk hk' hs hmT hm
    obtain ⟨T', a1, a2, a3⟩ := M_lay (g := G + 5) (u := hxS u k) hs hmT hm
    refine ⟨T', ?_, a2, a3⟩
    show b_layUnit_97 (G + 5) (m_layUnit_97 (G + 5) n) T u 0 k = _
    unfold b_layUnit_97 m_layUnit_137
    rw [if_neg hk, if_pos rfl, lt_d]
    unfold hxS at a1
    by_cases q : (10 : Int32) ≤ (u >>> (k &&& 31)) &&& 15
    · rw [if_pos q] at a1
      rw [if_pos q, a1, Option.bind_some, lt_d, hk']
    · rw [if_neg q] at a1
      rw [if_neg q, a1, Option.bind_some, lt_d, hk']
  obtain ⟨T1, a1, a2, a3⟩ := st (G + 4) 12 8 S2 l (by decide) (by decide) h hm (by omega)
  have hm1 := hm.ly a2
  obtain ⟨T2, b1, b2, b3⟩ := st (G + 3) 8 4 T1 _ (by decide) (by decide) a3 hm1 (by simp; omega)
  have hm2 := hm1.ly b2
  obtain ⟨T3, c1, c2, c3⟩ := st (G + 2) 4 0 T2 _ (by decide) (by decide) b3 hm2 (by simp; omega)
  have hm3 := hm2.ly c2
  obtain ⟨T4, d1, d2, d3⟩ := st (G + 1) 0 (-4) T3 _ (by decide) (by decide) c3 hm3 (by simp; omega)
  refine ⟨T4, a1.trans (b1.trans (c1.trans (d1.trans ?_))), ((a2.tr b2).tr c2).tr d2, ?_⟩
  · show b_layUnit_97 (G + 5) (m_layUnit_97 (G + 5) G) T4 u 0 (-4) = _
    unfold b_layUnit_97
    rw [if_pos (by decide)]
  · simpa using d3
theorem M_lUnit (h : LayI S2 l) (hm : LM S2) (hl : l.length + ulen u ≤ 6500) (hg : 100000 ≤ g) : ∃ S', m_layUnit g S2 u = some S' ∧ FLy S2 S' ∧ LayI S' (l ++ uS u) := by
  have hlen := uS_len (u := u)
  obtain ⟨G, hG⟩ : ∃ G, g = G + 1 := ⟨g - 1, by omega⟩
  have stop : ∀ (T : St) (y k : Int32), ¬ y = 0 → m_layUnit_97 g g T u y k = some T ∨ k < 0 := by
    intro T y k hy
    by_cases q : k < 0
    · exact Or.inr q
    · refine Or.inl ?_
      have e : m_layUnit_97 g (G + 1) T u y k = b_layUnit_97 g (m_layUnit_97 g G) T u y k := rfl
      rw [← hG] at e
      rw [e]
      unfold b_layUnit_97
      rw [if_neg q, if_neg hy]
  have two : ∀ v : Int32, l.length + 2 ≤ 6500 → ∃ T S', m_lay g S2 92 = some T ∧ m_lay g T v = some S' ∧ FLy S2 S' ∧ LayI S' (l ++ [92, v]) := fun v hv => by
    obtain ⟨T, a1, a2, a3⟩ := M_lay (g := g) (u := 92) h hm (by omega)
    obtain ⟨S3, b1, b2, b3⟩ := M_lay (g := g) (u := v) a3 (hm.ly a2) (by simp; omega)
    exact ⟨T, S3, a1, b1, a2.tr b2, by simpa using b3⟩
  have e52 : (u = 34 ∨ u = 92 ∨ u = 10 ∨ u = 9) → m_layUnit g S2 u = m_layUnit_52 g S2 u 1 := by
    intro q
    have e29 : m_layUnit_24 g S2 u = m_layUnit_52 g S2 u 1 := by
      unfold m_layUnit_24 m_layUnit_29
      rw [if_neg (by decide)]
    unfold m_layUnit
    rw [e29]
    rcases q with q | q | q | q
    · rw [if_pos q]
    · rw [if_pos q]; exact ifo rfl rfl
    · rw [if_pos q]; exact ifo rfl (ifo rfl rfl)
    · rw [if_pos q]; exact ifo rfl (ifo rfl (ifo rfl rfl))
  unfold uS at hlen ⊢
  by_cases q1 : u = 34 ∨ u = 92
  · rw [if_pos q1] at hlen ⊢
    obtain ⟨T, S3, b0, b1, b2, b3⟩ := two u (by simp at hlen; omega)
    refine ⟨S3, ?_, b2, b3⟩
    rw [e52 (by rcases q1 with q | q; exact Or.inl q; exact Or.inr (Or.inl q))]
    unfold m_layUnit_52 m_layUnit_91
    rw [b0, Option.bind_some, if_neg (by rcases q1 with q | q <;> rw [q] <;> decide), if_neg (by rcases q1 with q | q <;> rw [q] <;> decide), if_neg (by decide), b1, Option.bind_some]
    exact (stop S3 1 12 (by decide)).resolve_right (by decide)
  rw [if_neg q1] at hlen ⊢
  by_cases q2 : u = 10
  · rw [if_pos q2] at hlen ⊢
    obtain ⟨T, S3, b0, b1, b2, b3⟩ := two 110 (by simp at hlen; omega)
    refine ⟨S3, ?_, b2, b3⟩
    rw [e52 (Or.inr (Or.inr (Or.inl q2)))]
    unfold m_layUnit_52 m_layUnit_91
    rw [b0, Option.bind_some, if_pos q2, b1, Option.bind_some]
    exact (stop S3 1 12 (by decide)).resolve_right (by decide)
  rw [if_neg q2] at hlen ⊢
  by_cases q3 : u = 9
  · rw [if_pos q3] at hlen ⊢
    obtain ⟨T, S3, b0, b1, b2, b3⟩ := two 116 (by simp at hlen; omega)
    refine ⟨S3, ?_, b2, b3⟩
    rw [e52 (Or.inr (Or.inr (Or.inr q3)))]
    unfold m_layUnit_52 m_layUnit_91
    rw [b0, Option.bind_some, if_neg q2, if_pos q3, b1, Option.bind_some]
    exact (stop S3 1 12 (by decide)).resolve_right (by decide)
  rw [if_neg q3] at hlen ⊢
  have e29 : m_layUnit g S2 u = m_layUnit_29 g S2 u 0 := by
    unfold m_layUnit
    rw [if_neg (fun z => q1 (Or.inl z)), if_neg (fun z => q1 (Or.inr z)), if_neg q2, if_neg q3]
  by_cases q4 : u < 32 ∨ 126 < u
  · rw [if_pos q4] at hlen ⊢
    have hlen : 6 = ulen u := hlen
    obtain ⟨T, S3, b0, b1, b2, b3⟩ := two 117 (by omega)
    obtain ⟨S4, c1, c2, c3⟩ := M_hex (g := g) (u := u) b3 (hm.ly b2) (by simp; omega) hg
    refine ⟨S4, ?_, b2.tr c2, by simpa using c3⟩
    have e : m_layUnit_29 g S2 u 0 = m_layUnit_52 g S2 u 0 := by
      unfold m_layUnit_29
      rw [if_pos rfl]
      rcases q4 with q | q
      · rw [if_pos q]
      · rw [if_pos q]; exact ifo rfl rfl
    rw [e29, e]
    unfold m_layUnit_52 m_layUnit_91
    rw [b0, Option.bind_some, if_neg q2, if_neg q3, if_pos rfl, b1, Option.bind_some]
    exact c1
  · rw [if_neg q4] at hlen ⊢
    have hlen : 1 = ulen u := hlen
    obtain ⟨S3, b1, b2, b3⟩ := M_lay (g := g) (u := u) h hm (by omega)
    refine ⟨S3, ?_, b2, b3⟩
    rw [e29]
    unfold m_layUnit_29
    rw [if_pos rfl, if_neg (fun z => q4 (Or.inl z)), if_neg (fun z => q4 (Or.inr z)), b1, Option.bind_some]
end SPL
