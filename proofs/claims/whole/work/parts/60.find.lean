/-! the reference: stands, the pool -/
theorem nI_subI {a b : Nat} (ha : a < 2 ^ 30) (hb : b < 2 ^ 30) : (nI a - nI b).toInt = (a : Int) - (b : Int) := by
  rw [Int32.toInt_sub, nI_toInt (by omega), nI_toInt (by omega), bm32 (by omega) (by omega)]
theorem z64 : (0 : Int64).toInt = 0 := by decide +kernel
/-- text u stands at place k of text t -/
def stL (lu lt : List Int32) (k : Int) : Prop := 0 ≤ k ∧ k + (lu.length : Int) ≤ (lt.length : Int) ∧ seg lt k.toNat lu.length = lu
theorem isIn_s {g : Nat} {x a b : Int64} : m_isIn g x a b = some (c01 (a.toInt ≤ x.toInt ∧ x.toInt ≤ b.toInt)) := by
  unfold m_isIn
  by_cases h1 : x < a
  · rw [if_pos h1, c01_f (fun q => by have := Int64.lt_iff_toInt_lt.mp h1; omega)]
  · rw [if_neg h1]
    have h1' : ¬ x.toInt < a.toInt := fun z => h1 (Int64.lt_iff_toInt_lt.mpr z)
    by_cases h2 : b < x
    · rw [if_pos h2, c01_f (fun q => by have := Int64.lt_iff_toInt_lt.mp h2; omega)]
    · rw [if_neg h2]
      have h2' : ¬ b.toInt < x.toInt := fun z => h2 (Int64.lt_iff_toInt_lt.mpr z)
      rw [c01_t (by omega)]
section FND
variable {g u : Nat} {S : St} {ts : List (List Int32)}
theorem M_stands_l {t1 t2 j : Nat} {l1 l2 : List Int32} {x3 : Int64} (w : TXs S ts u) (hm : LM S) (h1 : ts[t1]? = some l1) (h2 : ts[t2]? = some l2) (hx : x3.toInt32 = nI j) (hj : j + l1.length ≤ l2.length) : ∀ (k n i : Nat), i + k = l1.length → k + 1 < n → m_stands_24 g S n (nI t1) (nI t2) x3 1 (nI i) = some (c01 (seg l2 (j + i) k = seg l1 i k)) := by
  have q1 := w.tx hm h1
  have q2 := w.tx hm h2
  have hb := q1.2.1
  have hb2 := q2.2.1
  intro k
  induction k with
  | zero =>
    intro n i hi hn
    obtain ⟨n, rfl⟩ : ∃ m, n = m + 1 := ⟨n - 1, by omega⟩
    show b_stands_24 g S (m_stands_24 g S n) (nI t1) (nI t2) x3 1 (nI i) = _
    unfold b_stands_24
    rw [if_neg (by decide), q1.2.2, Option.bind_some, if_pos (nI_le (by omega) (by omega)), if_pos (Or.inr rfl), seg_0, seg_0, c01_t rfl]
  | succ k ih =>
    intro n i hi hn
    obtain ⟨n, rfl⟩ : ∃ m, n = m + 1 := ⟨n - 1, by omega⟩
    show b_stands_24 g S (m_stands_24 g S n) (nI t1) (nI t2) x3 1 (nI i) = _
    unfold b_stands_24
    rw [if_neg (by decide), q1.2.2, Option.bind_some, if_neg (nI_ge (by omega) (by omega)), hx, nI_add, T_unit w hm h2 (by omega), Option.bind_some, T_unit w hm h1 (by omega), Option.bind_some, seg_cons (by omega), seg_cons (by omega)]
    by_cases he : l2.getD (j + i) 0 = l1.getD i 0
    · rw [if_pos he, lt_d, show nI i + 1 = nI (i + 1) from nI_1 i, ih n (i + 1) (by omega) (by omega)]
      refine congrArg some (c01_iff ?_)
      rw [he, List.cons.injEq, Nat.add_assoc]
      simp
    · rw [if_neg he, lt_d, c01_f (fun z => he (List.cons.inj z).1)]
      obtain ⟨n, rfl⟩ : ∃ m, n = m + 1 := ⟨n - 1, by omega⟩
      show b_stands_24 g S (m_stands_24 g S n) (nI t1) (nI t2) x3 0 (nI i + 1) = _
      unfold b_stands_24
      rw [if_pos rfl, if_pos (Or.inl rfl)]
theorem M_stands {t1 t2 : Nat} {l1 l2 : List Int32} {x : Int64} (hg : 100000 ≤ g) (w : TXs S ts u) (hm : LM S) (h1 : ts[t1]? = some l1) (h2 : ts[t2]? = some l2) : m_stands g S (nI t1) (nI t2) x = some (c01 (stL l1 l2 x.toInt)) := by
  have q1 := w.tx hm h1
  have q2 := w.tx hm h2
  have hb1 := q1.2.1
  have hb2 := q2.2.1
  unfold m_stands
  rw [q2.2.2, q1.2.2, Option.bind_some, Option.bind_some, isIn_s, Option.bind_some, Int32.toInt_toInt64, nI_subI (by omega) (by omega), z64]
  by_cases hr : 0 ≤ x.toInt ∧ x.toInt ≤ (l2.length : Int) - (l1.length : Int)
  · rw [c01_t hr]
    obtain ⟨j, hj⟩ : ∃ j : Nat, x.toInt = (j : Int) := ⟨x.toInt.toNat, by omega⟩
    have hx : x.toInt32 = nI j := j32 hj (by omega)
    have := M_stands_l (g := g) w hm h1 h2 hx (by omega) l1.length g 0 (by omega) (by omega)
    rw [Nat.add_zero, seg_all] at this
    refine this.trans (congrArg some (c01_iff ?_))
    unfold stL
    rw [hj, Int.toNat_natCast]
    exact ⟨fun z => ⟨by omega, by omega, z⟩, fun z => z.2.2⟩
  · rw [c01_f hr, c01_f (fun z => hr ⟨z.1, by have := z.2.1; omega⟩)]
    obtain ⟨n, rfl⟩ : ∃ m, g = m + 1 := ⟨g - 1, by omega⟩
    show b_stands_24 (n + 1) S (m_stands_24 (n + 1) S n) (nI t1) (nI t2) x 0 0 = _
    unfold b_stands_24
    rw [if_pos rfl, if_pos (Or.inl rfl)]
/-- the POOL of the reference -/
def PoM (S : St) (pl : List Nat) : Prop := gI S 0 41 = nI pl.length ∧ pl.length ≤ 90 ∧ ∀ i, i < pl.length → gF S 25 i = nI (pl.getD i 0)
/-- the first number in the pool with these units -/
def fndP (ts : List (List Int32)) (l : List Int32) : List Nat → Option Nat
  | [] => none
  | p :: pl => if ts[p]? = some l then some p else fndP ts l pl
def oI (o : Option Nat) : Int32 := match o with
  | some p => nI p
  | none => -1
theorem M_inPool_l {t : Nat} {l : List Int32} {pl : List Nat} (hg : 100000 ≤ g) (w : TXs S ts u) (hm : LM S) (h1 : ts[t]? = some l) (hp : PoM S pl) (hpl : ∀ p ∈ pl, ∃ m, ts[p]? = some m) : ∀ (k n i : Nat), i + k = pl.length → k < n → m_inPool_2 g S n (nI t) (nI i) = some (oI (fndP ts l (pl.drop i))) := by
  obtain ⟨p1, p2, p3⟩ := hp
  have h25 : gN S 25 = 90 := LMn hm 25
  intro k
  induction k with
  | zero =>
    intro n i hi hn
    obtain ⟨n, rfl⟩ : ∃ m, n = m + 1 := ⟨n - 1, by omega⟩
    show b_inPool_2 g S (m_inPool_2 g S n) (nI t) (nI i) = _
    unfold b_inPool_2
    rw [p1, if_pos (nI_le (by omega) (by omega)), List.drop_of_length_le (by omega)]
    rfl
  | succ k ih =>
    intro n i hi hn
    obtain ⟨n, rfl⟩ : ∃ m, n = m + 1 := ⟨n - 1, by omega⟩
    show b_inPool_2 g S (m_inPool_2 g S n) (nI t) (nI i) = _
    unfold b_inPool_2
    have hlt : i < pl.length := by omega
    have hd : pl.drop i = pl.getD i 0 :: pl.drop (i + 1) := by
      rw [List.drop_eq_getElem_cons hlt]
      simp [hlt]
    obtain ⟨m, hm2⟩ := hpl (pl.getD i 0) (by rw [List.getD_eq_getElem?_getD, List.getElem?_eq_getElem hlt]; exact List.getElem_mem hlt)
    rw [p1, if_neg (nI_ge (by omega) (by omega)), aI_at (by omega) (by omega), p3 i hlt, Option.bind_some, M_equal hg w hm hm2 h1, Option.bind_some, Option.bind_some, hd]
    unfold fndP
    rw [hm2]
    by_cases he : m = l
    · rw [c01_t he, if_neg (by decide), if_pos (by rw [he])]
      rfl
    · rw [c01_f he, if_pos rfl, if_neg (fun z => he (Option.some.inj z)), lt_d, show nI i + 1 = nI (i + 1) from nI_1 i]
      exact ih n (i + 1) (by omega) (by omega)
theorem M_inPool {t : Nat} {l : List Int32} {pl : List Nat} (hg : 100000 ≤ g) (w : TXs S ts u) (hm : LM S) (h1 : ts[t]? = some l) (hp : PoM S pl) (hpl : ∀ p ∈ pl, ∃ m, ts[p]? = some m) : m_inPool g S (nI t) = some (oI (fndP ts l pl)) := by
  have := hp.2.1
  have e := M_inPool_l (g := g) hg w hm h1 hp hpl pl.length g 0 (by omega) (by omega)
  rw [List.drop_zero] at e
  exact e
theorem M_pools {t : Nat} {pl : List Nat} (hm : LM S) (hp : PoM S pl) (hl : pl.length < 90) : ∃ S', m_pools g S (nI t) = some S' ∧ S' = sI (sF S 25 pl.length (nI t)) 0 41 (nI (pl.length + 1)) ∧ PoM S' (pl ++ [t]) := by
  obtain ⟨p1, p2, p3⟩ := hp
  have h25 : gN S 25 = 90 := LMn hm 25
  unfold m_pools
  rw [p1, tI_at (by omega) (by omega), Option.bind_some]
  have e : gI (sF S 25 pl.length (nI t)) 0 41 = nI pl.length := p1
  rw [lt_d, e, show nI pl.length + 1 = nI (pl.length + 1) from nI_1 _]
  refine ⟨_, rfl, rfl, ?_, by rw [List.length_append, List.length_singleton]; omega, fun i hi => ?_⟩
  · rw [List.length_append, List.length_singleton]
    simp [gI, sI]
  · rw [List.length_append, List.length_singleton] at hi
    by_cases hq : i = pl.length
    · subst hq
      simp [gF, sF, sI]
    · have hlt : i < pl.length := by omega
      have := p3 i hlt
      simp only [gF, sF, sI] at this ⊢
      rw [if_neg (by omega), this]
      simp [List.getElem?_append_left hlt]
end FND
