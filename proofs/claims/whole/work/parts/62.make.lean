/-! the class: a text is made; the pool -/
theorem endsC_snoc {cs : List (List Int32)} {l : List Int32} : endsC (cs ++ [l]) = endsC cs ++ [nI (cs.flatten.length + l.length)] := by
  unfold endsC
  rw [List.length_append, List.length_singleton, List.range_succ, List.map_append]
  congr 1
  · apply List.map_congr_left
    intro t ht
    have ht := List.mem_range.mp ht
    unfold stC
    rw [List.take_append_of_le_length (by omega)]
  · unfold stC
    rw [List.map_singleton, List.take_of_length_le (by rw [List.length_append, List.length_singleton]; omega), List.flatten_append, List.length_append]
    simp
/-- nothing but Rows 18 and 19 has changed -/
def FrT (S S' : St) : Prop := ∃ S1, Fr 18 S S1 ∧ Fr 19 S1 S'
theorem Rw.frT {x : Nat} {S S' : St} {l : List Int32} {ov : Int32} (h : FrT S S') (h1 : x ≠ 18) (h2 : x ≠ 19) (w : Rw S x l ov) : Rw S' x l ov := by
  obtain ⟨S1, a, b⟩ := h
  exact (w.fr a h1).fr b h2
theorem gOK.frT {S S' : St} (h : FrT S S') (w : gOK S) : gOK S' := by
  obtain ⟨S1, a, b⟩ := h
  exact (w.fr a).fr b
section MKC
variable {g : Nat} {S : St} {cs : List (List Int32)}
theorem C_make0 {x : Nat} {ovx : Int32} (wx : Rw S x [] ovx) : m_Tx_make g S x 0 = some (S, 0) := by
  unfold m_Tx_make
  rw [wx.2.2.1]
  rfl
theorem C_make {x : Nat} {lx : List Int32} {ovx own : Int32} (w : TXc S cs) (wx : Rw S x lx ovx) (h18 : x ≠ 18) (h19 : x ≠ 19) (hk : gOK S) (hr : cs.flatten.length + lx.length ≤ 27000) (hc : cs.length < 1465) (hown : own ≠ 0 ∨ lx ≠ []) : ∃ S', m_Tx_make g S x own = some (S', nI cs.length) ∧ FrT S S' ∧ TXc S' (cs ++ [lx]) := by
  have hbx := lim_b x wx.1.2 wx.1.1
  have hlx := wx.2.2.2.2.1
  obtain ⟨S1, a1, b1, c1⟩ := R_insert (g := g) (p := cs.flatten.length) (s := 0) (n := lx.length) w.1 wx h18 hk (Nat.le_refl _) (by omega)
  rw [show limC 18 = 27000 from rfl, if_pos hr, if_pos hr, List.take_of_length_le (Nat.le_refl _), List.drop_of_length_le (Nat.le_refl _), List.append_nil, seg_all] at c1
  have w19 := w.2.fr b1 (by decide)
  obtain ⟨S2, a2, b2, c2⟩ := R_add (g := g) (v := nI (cs.flatten.length + lx.length)) w19 (hk.fr b1)
  rw [endsC_len, show limC 19 = 1465 from rfl, if_pos hc, if_pos hc, ← endsC_snoc] at c2
  have e13 : m_Tx_make_13 g S x = some (S2, nI cs.length) := by
    unfold m_Tx_make_13
    rw [w.1.2.2.1, wx.2.2.1]
    rw [Nat.zero_add] at a1
    rw [show (0 : Int32) = nI 0 from rfl, a1, Option.bind_some]
    unfold m_Tx_make_33
    rw [c1.2.2.1, List.length_append, a2, Option.bind_some]
    unfold m_Tx_make_47
    rw [c2.2.2.1, endsC_len, List.length_append, List.length_singleton, show nI (cs.length + 1) - 1 = nI cs.length from nI_pred _]
  refine ⟨S2, ?_, ⟨S1, b1, b2⟩, ?_, c2⟩
  · unfold m_Tx_make
    rw [wx.2.2.1]
    by_cases h0 : lx = []
    · rw [h0, if_pos (show nI ([] : List Int32).length = 0 from rfl), if_neg (hown.resolve_right (fun z => z h0))]
      exact e13
    · rw [if_neg (nI_ne0 (List.length_pos_iff.mpr h0) (by omega))]
      exact e13
  · have := c1.fr b2 (by decide)
    rw [List.flatten_append, List.flatten_singleton]
    exact this
/-- the POOL of the class -/
def PoC (S : St) (pl : List Nat) : Prop := Rw S 20 (pl.map nI) 0
theorem C_pooled_l {x s n : Nat} {lx : List Int32} {ovx : Int32} {pl : List Nat} (hg : 100000 ≤ g) (w : TXc S cs) (wx : Rw S x lx ovx) (hp : PoC S pl) (hpl : ∀ p ∈ pl, p < cs.length) (hs : s + n ≤ lx.length) : ∀ (k f i : Nat), i + k = pl.length → k < f → m_Tx_pooledWith_3 g S f x (nI s) (nI (s + n)) (nI i) = some (oI (fndP cs (seg lx s n) (pl.drop i))) := by
  have hbx := lim_b x wx.1.2 wx.1.1
  have hlx := wx.2.2.2.2.1
  have hpl85 := hp.2.2.2.2.1
  rw [List.length_map, show limC 20 = 85 from rfl] at hpl85
  intro k
  induction k with
  | zero =>
    intro f i hi hf
    obtain ⟨f, rfl⟩ : ∃ m, f = m + 1 := ⟨f - 1, by omega⟩
    show b_Tx_pooledWith_3 g S (m_Tx_pooledWith_3 g S f) _ _ _ _ = _
    unfold b_Tx_pooledWith_3
    rw [hp.2.2.1, List.length_map, if_pos (nI_le (by omega) (by omega)), List.drop_of_length_le (by omega)]
    rfl
  | succ k ih =>
    intro f i hi hf
    obtain ⟨f, rfl⟩ : ∃ m, f = m + 1 := ⟨f - 1, by omega⟩
    have hlt : i < pl.length := by omega
    have hd : pl.drop i = pl.getD i 0 :: pl.drop (i + 1) := by
      rw [List.drop_eq_getElem_cons hlt]
      simp [hlt]
    have hlc := hpl (pl.getD i 0) (by rw [List.getD_eq_getElem?_getD, List.getElem?_eq_getElem hlt]; exact List.getElem_mem hlt)
    obtain ⟨l, hl⟩ : ∃ l, cs[pl.getD i 0]? = some l := ⟨cs[pl.getD i 0], by simp [hlc]⟩
    have hb := C_bounds w hl
    have em : (pl.map nI).getD i (-1) = nI (pl.getD i 0) := by simp [hlt]
    show b_Tx_pooledWith_3 g S (m_Tx_pooledWith_3 g S f) _ _ _ _ = _
    unfold b_Tx_pooledWith_3
    rw [hp.2.2.1, List.length_map, if_neg (nI_ge (by omega) (by omega)), R_at hp, atR_nI (by omega), em, Option.bind_some, C_size w hl, Option.bind_some, nI_sub (by omega), show s + n - s = n by omega, hd]
    have nx := ih f (i + 1) (by omega) (by omega)
    unfold fndP
    rw [hl]
    by_cases hq : l.length = n
    · rw [if_pos (by rw [hq]), C_start w hb.1, Option.bind_some, R_holdsC w.1 wx hg (by omega) hs, Option.bind_some]
      have e : seg cs.flatten (stC cs (pl.getD i 0)) n = l := by rw [← hq]; exact segC hl
      rw [e]
      by_cases he : l = seg lx s n
      · rw [c01_t ⟨by omega, he⟩, if_neg (by decide), if_pos (by rw [he])]
        rfl
      · rw [c01_f (fun z => he z.2), if_pos rfl, if_neg (fun z => he (Option.some.inj z)), lt_d, show nI i + 1 = nI (i + 1) from nI_1 i]
        exact nx
    · rw [if_neg (fun z => hq ((nI_eq (by omega) (by omega)).mp z)), if_neg (fun z => hq (by rw [Option.some.inj z, seg_len hs])), lt_d, show nI i + 1 = nI (i + 1) from nI_1 i]
      exact nx
theorem C_pooled {x s n : Nat} {lx : List Int32} {ovx : Int32} {pl : List Nat} (hg : 100000 ≤ g) (w : TXc S cs) (wx : Rw S x lx ovx) (hp : PoC S pl) (hpl : ∀ p ∈ pl, p < cs.length) (hs : s + n ≤ lx.length) : m_Tx_pooledWith g S x (nI s) (nI (s + n)) = some (oI (fndP cs (seg lx s n) pl)) := by
  have hpl85 := hp.2.2.2.2.1
  rw [List.length_map, show limC 20 = 85 from rfl] at hpl85
  have := C_pooled_l (g := g) hg w wx hp hpl hs pl.length g 0 (by omega) (by omega)
  rw [List.drop_zero] at this
  exact this
end MKC
