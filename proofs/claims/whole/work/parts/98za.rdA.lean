/-! READING: the TAPE byte by byte, lines, blanks -/
/-- byte i of the TAPE, -1 behind it -/
def rdB (tp : List Int32) (i : Nat) : Int32 := tp.getD i (-1)
/-- the TAPE in the reference -/
def TpM (S2 : St) (tp : List Int32) : Prop := gI S2 0 5 = nI tp.length ∧ tp.length ≤ 3000 ∧ (∀ i, i < tp.length → gF S2 5 i = tp.getD i 0) ∧ ∀ x ∈ tp, ∃ n : Nat, n < 256 ∧ x = nI n
/-- a line from i to e -/
def rdL (tp : List Int32) (i e : Nat) : Prop := i ≤ e ∧ e ≤ tp.length ∧ (∀ j, i ≤ j → j < e → ¬ rdB tp j = 10) ∧ (e = tp.length ∨ rdB tp e = 10)
/-- only int fields k of object o with K k have changed -/
def Fi (o : Nat) (K : Nat → Prop) (S S' : St) : Prop := (∀ x k, ¬ (x = o ∧ K k) → gI S' x k = gI S x k) ∧ S'.2 = S.2
theorem Fi.rf {o : Nat} {K : Nat → Prop} {S : St} : Fi o K S S := ⟨fun _ _ _ => rfl, rfl⟩
theorem Fi.tr {o : Nat} {K : Nat → Prop} {S S1 S2 : St} (h1 : Fi o K S S1) (h2 : Fi o K S1 S2) : Fi o K S S2 := ⟨fun x k h => (h2.1 x k h).trans (h1.1 x k h), h2.2.trans h1.2⟩
theorem Fi.mo {o : Nat} {K K' : Nat → Prop} {S S' : St} (h : Fi o K S S') (hk : ∀ k, K k → K' k) : Fi o K' S S' := ⟨fun x k n => h.1 x k fun ⟨a, b⟩ => n ⟨a, hk k b⟩, h.2⟩
theorem Fi.sI {o k : Nat} {K : Nat → Prop} {S : St} {v : Int32} (h : K k) : Fi o K S (sI S o k v) := ⟨fun x j n => gI_ne (by rintro ⟨rfl, rfl⟩; exact n ⟨rfl, h⟩), rfl⟩
theorem Fi.F {o : Nat} {K : Nat → Prop} {S S' : St} (h : Fi o K S S') (a i : Nat) : gF S' a i = gF S a i := by unfold gF; rw [h.2]
theorem Fi.G {o : Nat} {K : Nat → Prop} {S S' : St} (h : Fi o K S S') (a i : Nat) : gG S' a i = gG S a i := by unfold gG; rw [h.2]
theorem Fi.N {o : Nat} {K : Nat → Prop} {S S' : St} (h : Fi o K S S') (a : Nat) : gN S' a = gN S a := by unfold gN; rw [h.2]
theorem Fi.R {o : Nat} {K : Nat → Prop} {S S' : St} (h : Fi o K S S') (x k : Nat) : gR S' x k = gR S x k := by unfold gR; rw [h.2]
theorem LM.fi {o : Nat} {K : Nat → Prop} {S S' : St} (w : LM S) (h : Fi o K S S') : LM S' := w.of (by rw [h.2])
theorem Rw.fi {o x : Nat} {K : Nat → Prop} {S S' : St} {l : List Int32} {ov : Int32} (w : Rw S x l ov) (h : Fi o K S S') (ho : o < 10) : Rw S' x l ov := by
  obtain ⟨w0, w1, w2, w3, w4, w5, w6, w7, w8⟩ := w
  unfold Rw
  rw [h.1 x 0 (by omega), h.1 x 2 (by omega), h.1 x 3 (by omega), h.N]
  exact ⟨w0, w1, w2, w3, w4, w5, w6, w7, fun i hi => by rw [h.F]; exact w8 i hi⟩
theorem TpM.fi {K : Nat → Prop} {S S' : St} {tp : List Int32} (w : TpM S tp) (h : Fi 0 K S S') (hK : ¬ K 5) : TpM S' tp := ⟨by rw [h.1 0 5 (fun q => hK q.2)]; exact w.1, w.2.1, fun i hi => by rw [h.F]; exact w.2.2.1 i hi, w.2.2.2⟩
section RDA
variable {g : Nat} {S S2 : St} {tp : List Int32} {i j e le : Nat} {c : Int32}
theorem rdB_b (t : ∀ x ∈ tp, ∃ n : Nat, n < 256 ∧ x = nI n) (hi : i < tp.length) : ∃ n : Nat, n < 256 ∧ rdB tp i = nI n := by
  unfold rdB
  rw [List.getD_eq_getElem?_getD, List.getElem?_eq_getElem hi]
  exact t _ (List.getElem_mem hi)
theorem C_byte (w : Rw S 10 tp 0) (hi : i < 2 ^ 31) : m_Row_at g S 10 (nI i) = some (rdB tp i) := by
  rw [R_at w, atR_nI hi]
  rfl
theorem M_byte (t : TpM S2 tp) (hm : LM S2) (hi : i < tp.length) : aI S2 5 (nI i) = some (rdB tp i) := by
  have h5 : gN S2 5 = 3000 := LMn hm 5
  have h3 := t.2.1
  rw [aI_at (by omega) (by omega), t.2.2.1 i hi]
  exact congrArg some (getD_lt hi)
theorem M_le (t : TpM S2 tp) (hm : LM S2) (L : rdL tp i le) (h1 : i ≤ j) (h2 : j ≤ le) : m_isLineEnd g S2 (nI j) = some (if j = le then 1 else 0) := by
  have h3 := t.2.1
  have h4 := L.2.1
  unfold m_isLineEnd
  rw [t.1]
  by_cases q : tp.length ≤ j
  · rw [if_pos (nI_le q (by omega)), if_pos (by omega)]
  · rw [if_neg (nI_ge (by omega) (by omega)), M_byte t hm (by omega), Option.bind_some]
    by_cases q2 : j = le
    · rw [if_pos q2]
      rcases L.2.2.2 with z | z
      · omega
      · rw [q2, if_pos z]
    · rw [if_neg q2, if_neg (L.2.2.1 j h1 (by omega))]
/-- the next byte c, or the end -/
def rdN (tp : List Int32) (c : Int32) : Nat → Nat → Nat
  | 0, i => i
  | k + 1, i => if rdB tp i = c then i else rdN tp c k (i + 1)
/-- behind the blanks -/
def rdS (tp : List Int32) : Nat → Nat → Nat
  | 0, i => i
  | k + 1, i => if rdB tp i = 32 then rdS tp k (i + 1) else i
theorem rdN_s : ∀ (k i : Nat), i ≤ rdN tp c k i ∧ rdN tp c k i ≤ i + k ∧ (∀ j, i ≤ j → j < rdN tp c k i → ¬ rdB tp j = c) ∧ (rdN tp c k i = i + k ∨ (rdN tp c k i < i + k ∧ rdB tp (rdN tp c k i) = c)) := by
  intro k
  induction k with
  | zero => intro i; exact ⟨Nat.le_refl _, Nat.le_refl _, fun j h1 h2 => by unfold rdN at h2; omega, Or.inl rfl⟩
  | succ k ih =>
    intro i
    unfold rdN
    by_cases q : rdB tp i = c
    · rw [if_pos q]
      exact ⟨Nat.le_refl _, by omega, fun j h1 h2 => by omega, Or.inr ⟨by omega, q⟩⟩
    · rw [if_neg q]
      obtain ⟨a, b, d, e⟩ := ih (i + 1)
      refine ⟨by omega, by omega, fun j h1 h2 => ?_, e.elim (fun z => Or.inl (by omega)) (fun z => Or.inr ⟨by omega, z.2⟩)⟩
      by_cases z : j = i
      · rw [z]; exact q
      · exact d j (by omega) h2
theorem rdS_s : ∀ (k i : Nat), i ≤ rdS tp k i ∧ rdS tp k i ≤ i + k ∧ (rdS tp k i = i + k ∨ (rdS tp k i < i + k ∧ ¬ rdB tp (rdS tp k i) = 32)) := by
  intro k
  induction k with
  | zero => intro i; exact ⟨Nat.le_refl _, Nat.le_refl _, Or.inl rfl⟩
  | succ k ih =>
    intro i
    unfold rdS
    by_cases q : rdB tp i = 32
    · rw [if_pos q]
      obtain ⟨a, b, d⟩ := ih (i + 1)
      exact ⟨by omega, by omega, d.elim (fun z => Or.inl (by omega)) (fun z => Or.inr ⟨by omega, z.2⟩)⟩
    · rw [if_neg q]
      exact ⟨Nat.le_refl _, by omega, Or.inr ⟨by omega, q⟩⟩
theorem C_nx (w : Rw S 10 tp 0) (he : e < 2 ^ 30) : ∀ (k n i : Nat), i + k = e → k < n → m_Rd_nextByte_3 g S n c (nI e) (nI i) = some (nI (rdN tp c k i)) := by
  intro k
  induction k with
  | zero =>
    intro n i hi hn
    obtain ⟨n, rfl⟩ : ∃ m, n = m + 1 := ⟨n - 1, by omega⟩
    show b_Rd_nextByte_3 g S (m_Rd_nextByte_3 g S n) c (nI e) (nI i) = _
    unfold b_Rd_nextByte_3
    rw [if_pos (nI_le (by omega) (by omega))]
    rfl
  | succ k ih =>
    intro n i hi hn
    obtain ⟨n, rfl⟩ : ∃ m, n = m + 1 := ⟨n - 1, by omega⟩
    show b_Rd_nextByte_3 g S (m_Rd_nextByte_3 g S n) c (nI e) (nI i) = _
    unfold b_Rd_nextByte_3 rdN
    rw [if_neg (nI_ge (by omega) (by omega)), C_byte w (by omega), Option.bind_some]
    by_cases q : rdB tp i = c
    · rw [if_pos q, if_pos q]
    · rw [if_neg q, if_neg q, lt_d, nI_1]
      exact ih n (i + 1) (by omega) (by omega)
theorem C_next (hg : 100000 ≤ g) (w : Rw S 10 tp 0) (he : e ≤ 3000) (hi : i ≤ e) : m_Rd_nextByte g S c (nI i) (nI e) = some (nI (rdN tp c (e - i) i)) := C_nx w (by omega) (e - i) g i (by omega) (by omega)
theorem C_sk (he : e < 2 ^ 30) : ∀ (k n i : Nat) (S : St), i + k = e → k < n → Rw S 10 tp 0 → gI S 3 3 = nI i → gI S 3 4 = nI e → ∃ S', m_Rd_skipBlanks_0 g n S = some S' ∧ Fi 3 (· = 3) S S' ∧ gI S' 3 3 = nI (rdS tp k i) := by
  intro k
  induction k with
  | zero =>
    intro n i S hi hn w h3 h4
    obtain ⟨n, rfl⟩ : ∃ m, n = m + 1 := ⟨n - 1, by omega⟩
    refine ⟨S, ?_, Fi.rf, h3⟩
    show b_Rd_skipBlanks_0 g (m_Rd_skipBlanks_0 g n) S = _
    unfold b_Rd_skipBlanks_0
    rw [h3, h4, if_pos (nI_le (by omega) (by omega))]
  | succ k ih =>
    intro n i S hi hn w h3 h4
    obtain ⟨n, rfl⟩ : ∃ m, n = m + 1 := ⟨n - 1, by omega⟩
    have eq : m_Rd_skipBlanks_0 g (n + 1) S = b_Rd_skipBlanks_0 g (m_Rd_skipBlanks_0 g n) S := rfl
    unfold b_Rd_skipBlanks_0 at eq
    rw [h3, h4, if_neg (nI_ge (by omega) (by omega)), C_byte w (by omega), Option.bind_some] at eq
    unfold rdS
    by_cases q : rdB tp i = 32
    · rw [if_pos q, lt_d, nI_1] at eq
      rw [if_pos q]
      have f : Fi 3 (· = 3) S (sI S 3 3 (nI (i + 1))) := Fi.sI rfl
      obtain ⟨S', a, b, d⟩ := ih n (i + 1) _ (by omega) (by omega) (w.fi f (by decide)) sI_g (by rw [f.1 3 4 (by omega)]; exact h4)
      exact ⟨S', eq.trans a, f.tr b, d⟩
    · rw [if_neg q] at eq
      rw [if_neg q]
      exact ⟨S, eq, Fi.rf, h3⟩
theorem C_skip (hg : 100000 ≤ g) (w : Rw S 10 tp 0) (he : e ≤ 3000) (hi : i ≤ e) (h3 : gI S 3 3 = nI i) (h4 : gI S 3 4 = nI e) : ∃ S', m_Rd_skipBlanks g S = some S' ∧ Fi 3 (· = 3) S S' ∧ gI S' 3 3 = nI (rdS tp (e - i) i) := C_sk (by omega) (e - i) g i S (by omega) (by omega) w h3 h4
theorem M_sk (L : rdL tp j le) : ∀ (k n i : Nat) (S2 : St), i + k = le → k < n → j ≤ i → TpM S2 tp → LM S2 → gI S2 0 18 = nI i → ∃ S', m_nextWord_0 g n S2 = m_nextWord_38 g S' ∧ Fi 0 (· = 18) S2 S' ∧ gI S' 0 18 = nI (rdS tp k i) := by
  intro k
  induction k with
  | zero =>
    intro n i S2 hi hn hj t hm h18
    obtain ⟨n, rfl⟩ : ∃ m, n = m + 1 := ⟨n - 1, by omega⟩
    refine ⟨S2, ?_, Fi.rf, h18⟩
    show b_nextWord_0 g (m_nextWord_0 g n) S2 = _
    unfold b_nextWord_0
    rw [h18, M_le t hm L hj (by omega), Option.bind_some, if_pos (show i = le by omega), if_neg (by decide)]
  | succ k ih =>
    intro n i S2 hi hn hj t hm h18
    obtain ⟨n, rfl⟩ : ∃ m, n = m + 1 := ⟨n - 1, by omega⟩
    have h4 := L.2.1
    have eq : m_nextWord_0 g (n + 1) S2 = b_nextWord_0 g (m_nextWord_0 g n) S2 := rfl
    unfold b_nextWord_0 at eq
    rw [h18, M_le t hm L hj (by omega), Option.bind_some, if_neg (show ¬ i = le by omega), if_pos rfl, M_byte t hm (by omega), Option.bind_some] at eq
    unfold rdS
    by_cases q : rdB tp i = 32
    · rw [if_pos q, lt_d, nI_1] at eq
      rw [if_pos q]
      have f : Fi 0 (· = 18) S2 (sI S2 0 18 (nI (i + 1))) := Fi.sI rfl
      obtain ⟨S', a, b, d⟩ := ih n (i + 1) _ (by omega) (by omega) (by omega) (t.fi f (by decide)) (hm.fi f) sI_g
      exact ⟨S', eq.trans a, f.tr b, d⟩
    · rw [if_neg q] at eq
      rw [if_neg q]
      exact ⟨S2, eq, Fi.rf, h18⟩
theorem M_wd (L : rdL tp j le) : ∀ (k n i : Nat) (S2 : St), i + k = le → k < n → j ≤ i → TpM S2 tp → LM S2 → gI S2 0 18 = nI i → ∃ S', m_nextWord_112 g n S2 = some (S', 1) ∧ Fi 0 (fun k => k = 18 ∨ k = 21) S2 S' ∧ gI S' 0 18 = nI (rdN tp 32 k i) ∧ gI S' 0 21 = nI (rdN tp 32 k i) := by
  intro k
  induction k with
  | zero =>
    intro n i S2 hi hn hj t hm h18
    obtain ⟨n, rfl⟩ : ∃ m, n = m + 1 := ⟨n - 1, by omega⟩
    refine ⟨sI S2 0 21 (nI i), ?_, Fi.sI (Or.inr rfl), by rw [gI_ne (by omega)]; exact h18, sI_g⟩
    show b_nextWord_112 g (m_nextWord_112 g n) S2 = _
    unfold b_nextWord_112
    rw [h18, M_le t hm L hj (by omega), Option.bind_some, if_pos (show i = le by omega), if_neg (by decide), lt_d]
  | succ k ih =>
    intro n i S2 hi hn hj t hm h18
    obtain ⟨n, rfl⟩ : ∃ m, n = m + 1 := ⟨n - 1, by omega⟩
    have h4 := L.2.1
    have eq : m_nextWord_112 g (n + 1) S2 = b_nextWord_112 g (m_nextWord_112 g n) S2 := rfl
    unfold b_nextWord_112 at eq
    rw [h18, M_le t hm L hj (by omega), Option.bind_some, if_neg (show ¬ i = le by omega), if_pos rfl, M_byte t hm (by omega), Option.bind_some] at eq
    unfold rdN
    by_cases q : rdB tp i = 32
    · rw [if_pos q, lt_d] at eq
      rw [if_pos q]
      exact ⟨_, eq, Fi.sI (Or.inr rfl), by rw [gI_ne (by omega)]; exact h18, sI_g⟩
    · rw [if_neg q, lt_d, nI_1] at eq
      rw [if_neg q]
      have f : Fi 0 (fun k => k = 18 ∨ k = 21) S2 (sI S2 0 18 (nI (i + 1))) := Fi.sI (Or.inl rfl)
      obtain ⟨S', a, b, d⟩ := ih n (i + 1) _ (by omega) (by omega) (by omega) (t.fi f (by decide)) (hm.fi f) sI_g
      exact ⟨S', eq.trans a, f.tr b, d⟩
end RDA
