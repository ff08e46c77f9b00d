/-! READING: signs and LITERALS on both sides -/
/-- the class: only the place and the units read have changed -/
def F17 (S S' : St) : Prop := (∀ o k, ¬ (o = 3 ∧ k = 3) → o ≠ 17 → gI S' o k = gI S o k) ∧ S'.2.1 = S.2.1 ∧ S'.2.2.1 = S.2.2.1 ∧ (∀ a, a ≠ 41 → gN S' a = gN S a ∧ ∀ i, gF S' a i = gF S a i) ∧ S'.2.2.2.2.2 = S.2.2.2.2.2
theorem F17.rf {S : St} : F17 S S := ⟨fun _ _ _ _ => rfl, rfl, rfl, fun _ _ => ⟨rfl, fun _ => rfl⟩, rfl⟩
theorem F17.tr {S S1 S2 : St} (h1 : F17 S S1) (h2 : F17 S1 S2) : F17 S S2 := ⟨fun o k a b => (h2.1 o k a b).trans (h1.1 o k a b), h2.2.1.trans h1.2.1, h2.2.2.1.trans h1.2.2.1, fun a b => ⟨(h2.2.2.2.1 a b).1.trans (h1.2.2.2.1 a b).1, fun i => ((h2.2.2.2.1 a b).2 i).trans ((h1.2.2.2.1 a b).2 i)⟩, h2.2.2.2.2.trans h1.2.2.2.2⟩
theorem F17.fi {S S' : St} (h : Fi 3 (· = 3) S S') : F17 S S' := ⟨fun o k a _ => h.1 o k a, by rw [h.2], by rw [h.2], fun a _ => ⟨h.N a, fun i => h.F a i⟩, by rw [h.2]⟩
theorem F17.fr {S S' : St} (h : Fr 17 S S') : F17 S S' := ⟨fun o k _ b => h.1 o k b, h.2.1, h.2.2.1, fun a b => h.2.2.2.1 a b, h.2.2.2.2⟩
theorem Rw.f17 {x : Nat} {S S' : St} {l : List Int32} {ov : Int32} (w : Rw S x l ov) (h : F17 S S') (hx : x ≠ 17) : Rw S' x l ov := by
  obtain ⟨w0, w1, w2, w3, w4, w5, w6, w7, w8⟩ := w
  unfold Rw
  rw [h.1 x 0 (by omega) hx, h.1 x 2 (by omega) hx, h.1 x 3 (by omega) hx, (h.2.2.2.1 (x + 24) (by omega)).1]
  exact ⟨w0, w1, w2, w3, w4, w5, w6, w7, fun i hi => by rw [(h.2.2.2.1 (x + 24) (by omega)).2]; exact w8 i hi⟩
theorem gOK.f17 {S S' : St} (w : gOK S) (h : F17 S S') : gOK S' := by
  unfold gOK gR at *
  rw [h.2.2.1]
  exact w
theorem gOK.fi {o : Nat} {K : Nat → Prop} {S S' : St} (w : gOK S) (h : Fi o K S S') : gOK S' := by
  unfold gOK gR at *
  rw [h.2]
  exact w
theorem Scr.fi {o x : Nat} {K : Nat → Prop} {S S' : St} {v : List Int32} (w : Scr S x v) (h : Fi o K S S') (ho : o < 10) : Scr S' x v := by
  rcases w with ⟨h1, h2⟩ | ⟨h1, l, h2⟩
  · exact Or.inl ⟨h1, h2.fi h ho⟩
  · exact Or.inr ⟨h1, l, h2.fi h ho⟩
/-- the reference: only fields of the word that is read, and its units -/
def Fl (S S' : St) : Prop := (∀ x k, ¬ (x = 0 ∧ (k = 18 ∨ k = 21 ∨ k = 22 ∨ k = 24)) → gI S' x k = gI S x k) ∧ S'.2.1 = S.2.1 ∧ S'.2.2.1 = S.2.2.1 ∧ S'.2.2.2.1 = S.2.2.2.1 ∧ (∀ a, a ≠ 17 → ∀ i, gF S' a i = gF S a i) ∧ S'.2.2.2.2.2 = S.2.2.2.2.2
theorem Fl.rf {S : St} : Fl S S := ⟨fun _ _ _ => rfl, rfl, rfl, rfl, fun _ _ _ => rfl, rfl⟩
theorem Fl.tr {S S1 S2 : St} (h1 : Fl S S1) (h2 : Fl S1 S2) : Fl S S2 := ⟨fun x k a => (h2.1 x k a).trans (h1.1 x k a), h2.2.1.trans h1.2.1, h2.2.2.1.trans h1.2.2.1, h2.2.2.2.1.trans h1.2.2.2.1, fun a b i => (h2.2.2.2.2.1 a b i).trans (h1.2.2.2.2.1 a b i), h2.2.2.2.2.2.trans h1.2.2.2.2.2⟩
theorem Fl.fi {K : Nat → Prop} {S S' : St} (h : Fi 0 K S S') (hK : ∀ k, K k → k = 18 ∨ k = 21 ∨ k = 22 ∨ k = 24) : Fl S S' := ⟨fun x k n => h.1 x k fun ⟨a, b⟩ => n ⟨a, hK k b⟩, by rw [h.2], by rw [h.2], by rw [h.2], fun a _ i => h.F a i, by rw [h.2]⟩
theorem Fl.sI {S : St} {k : Nat} {v : Int32} (h : k = 18 ∨ k = 21 ∨ k = 22 ∨ k = 24) : Fl S (sI S 0 k v) := Fl.fi (K := (· = k)) (Fi.sI rfl) (fun j e => by rw [e]; exact h)
theorem Fl.sF {S : St} {i : Nat} {v : Int32} : Fl S (sF S 17 i v) := ⟨fun _ _ _ => rfl, rfl, rfl, rfl, fun a h _ => gF_ne h, rfl⟩
theorem LM.fl {S S' : St} (w : LM S) (h : Fl S S') : LM S' := w.of h.2.2.2.1
theorem TpM.fl {S S' : St} {tp : List Int32} (w : TpM S tp) (h : Fl S S') : TpM S' tp := ⟨by rw [h.1 0 5 (by omega)]; exact w.1, w.2.1, fun i hi => by rw [h.2.2.2.2.1 5 (by decide)]; exact w.2.2.1 i hi, w.2.2.2⟩
section RDC
variable {g : Nat} {S S2 : St} {tp : List Int32} {i j le : Nat}
theorem C_sign (hg : 100000 ≤ g) (hb : ∀ x ∈ tp, ∃ n : Nat, n < 256 ∧ x = nI n) (he : le ≤ tp.length) (hi : i < le) (w : Rw S 10 tp 0) (h3 : gI S 3 3 = nI i) (h4 : gI S 3 4 = nI le) : ∃ S', m_Rd_readSign g S = some (S', match rdG tp le i with | some x => nI x.1 | none => -1) ∧ Fi 3 (· = 3) S S' ∧ ∀ v j, rdG tp le i = some (v, j) → gI S' 3 3 = nI (j - 1) := by
  have hl : tp.length ≤ 3000 := w.2.2.2.2.1
  obtain ⟨b, b1, b2⟩ := rdB_b hb (show i < tp.length by omega)
  have f : Fi 3 (· = 3) S (sI S 3 3 (nI (i + 1))) := Fi.sI rfl
  have e4 : gI (sI S 3 3 (nI (i + 1))) 3 4 = nI le := by rw [f.1 3 4 (by omega)]; exact h4
  unfold m_Rd_readSign rdG
  rw [h3, C_byte w (by omega), Option.bind_some, b2, nI_nat (by omega)]
  dsimp only
  by_cases q1 : b = 92
  · subst q1
    rw [if_pos (show nI 92 = 92 from rfl), if_neg (show ¬ (92 < 32 ∨ 126 < 92) by omega), if_pos rfl, lt_d, nI_1, sI_g, e4]
    by_cases q2 : i + 1 < le
    · rw [if_neg (nI_ge q2 (by omega)), C_byte (w.fi f (by decide)) (by omega), Option.bind_some, if_pos q2]
      obtain ⟨x, x1, x2⟩ := rdB_b hb (show i + 1 < tp.length by omega)
      rw [x2, nI_nat (by omega)]
      unfold m_Rd_readSign_72
      have n34 : (nI x = 34) ↔ x = 34 := nI_eq (b := 34) (by omega) (by omega)
      have n92 : (nI x = 92) ↔ x = 92 := nI_eq (b := 92) (by omega) (by omega)
      have n110 : (nI x = 110) ↔ x = 110 := nI_eq (b := 110) (by omega) (by omega)
      have n116 : (nI x = 116) ↔ x = 116 := nI_eq (b := 116) (by omega) (by omega)
      have n117 : (nI x = 117) ↔ x = 117 := nI_eq (b := 117) (by omega) (by omega)
      by_cases q3 : x = 34
      · rw [if_pos (n34.mpr q3), if_pos (Or.inl q3)]
        exact ⟨_, rfl, f, fun v j h => by cases h; exact sI_g⟩
      rw [if_neg (fun z => q3 (n34.mp z))]
      by_cases q4 : x = 92
      · rw [if_pos (n92.mpr q4), if_pos (Or.inr q4)]
        exact ⟨_, rfl, f, fun v j h => by cases h; exact sI_g⟩
      rw [if_neg (fun z => q4 (n92.mp z)), if_neg (show ¬ (x = 34 ∨ x = 92) by omega)]
      by_cases q5 : x = 110
      · rw [if_pos (n110.mpr q5), if_pos q5]
        exact ⟨_, rfl, f, fun v j h => by cases h; exact sI_g⟩
      rw [if_neg (fun z => q5 (n110.mp z)), if_neg q5]
      by_cases q6 : x = 116
      · rw [if_pos (n116.mpr q6), if_pos q6]
        exact ⟨_, rfl, f, fun v j h => by cases h; exact sI_g⟩
      rw [if_neg (fun z => q6 (n116.mp z)), if_neg q6]
      by_cases q7 : x = 117
      · rw [if_pos (n117.mpr q7), if_pos q7]
        obtain ⟨S', a1, a2, a3⟩ := C_code (g := g) he hb 4 g (i + 1) 0 _ (by omega) (by omega) (by omega) (w.fi f (by decide)) sI_g e4
        have a1 : m_Rd_readCode g (sI S 3 3 (nI (i + 1))) = some (S', oN (rdH tp le 4 (i + 2) 0)) := a1
        have a3 : ∀ v, rdH tp le 4 (i + 2) 0 = some v → gI S' 3 3 = nI (i + 1 + 4) := a3
        rw [a1, Option.bind_some]
        refine ⟨S', ?_, f.tr a2, ?_⟩
        · cases rdH tp le 4 (i + 2) 0 <;> rfl
        · intro v j h
          cases q8 : rdH tp le 4 (i + 2) 0 with
          | none => rw [q8] at h; cases h
          | some v' =>
            rw [q8] at h
            cases h
            exact a3 _ q8
      · rw [if_neg (fun z => q7 (n117.mp z)), if_neg q7]
        exact ⟨_, rfl, f, fun v j h => by cases h⟩
    · rw [if_pos (nI_le (by omega) (by omega)), if_neg q2]
      refine ⟨_, ?_, f, fun v j h => by cases h⟩
      unfold m_Rd_readSign_72
      rw [if_neg (by decide), if_neg (by decide), if_neg (by decide), if_neg (by decide), if_neg (by decide)]
  · rw [if_neg (show ¬ nI b = 92 from fun z => q1 ((nI_eq (b := 92) (by omega) (by omega)).mp z)), if_neg q1]
    by_cases q2 : b < 32
    · rw [if_pos (show nI b < 32 from nI_lt (b := 32) q2 (by omega)), if_pos (Or.inl q2)]
      exact ⟨S, rfl, Fi.rf, fun v j h => by cases h⟩
    · rw [if_neg (show ¬ nI b < 32 from nI_nlt (b := 32) (by omega) (by omega))]
      by_cases q3 : 126 < b
      · rw [if_pos (show (126 : Int32) < nI b from nI_lt (a := 126) q3 (by omega)), if_pos (Or.inr q3)]
        exact ⟨S, rfl, Fi.rf, fun v j h => by cases h⟩
      · rw [if_neg (show ¬ (126 : Int32) < nI b from nI_nlt (a := 126) (by omega) (by omega)), if_neg (show ¬ (b < 32 ∨ 126 < b) by omega)]
        exact ⟨S, rfl, Fi.rf, fun v j h => by cases h; exact h3⟩
/-- behind a sign of the reference -/
theorem sg_153 {a : Nat} {x : Option Nat} {T : St} (hm : LM T) (h22 : gI T 0 22 = nI a) (ha : a < 400) (hx : ∀ v, x = some v → v < 65536) : ∃ S', m_sign_153 g T (oN x) = some S' ∧ Fl T S' ∧ gI S' 0 18 = gI T 0 18 ∧ ((x = none ∧ gI S' 0 24 = 0) ∨ ∃ v, x = some v ∧ gI S' 0 24 = 1 ∧ gI S' 0 22 = nI (a + 1) ∧ gF S' 17 a = nI v ∧ ∀ y, y ≠ a → gF S' 17 y = gF T 17 y) := by
  have h17 : gN T 17 = 401 := LMn hm 17
  unfold m_sign_153 m_sign_164 m_sign_167
  cases x with
  | none =>
    refine ⟨sI T 0 24 0, ?_, Fl.sI (by omega), gI_ne (by omega), Or.inl ⟨rfl, sI_g⟩⟩
    rw [if_pos (show oN none < 0 from by decide), if_pos (Or.inl rfl), lt_d, if_pos sI_g]
  | some v =>
    have hv := hx v rfl
    refine ⟨sI (sF (sI T 0 24 1) 17 a (nI v)) 0 22 (nI (a + 1)), ?_, (Fl.sI (by omega)).tr (Fl.sF.tr (Fl.sI (by omega))), ?_, Or.inr ⟨v, rfl, ?_, sI_g, ?_, fun y hy => ?_⟩⟩
    · rw [if_neg (show ¬ oN (some v) < 0 from nI_pos (by omega)), if_pos (Or.inr rfl), lt_d, if_neg (by rw [sI_g]; decide), gI_ne (by omega), h22, tI_at (show a < gN (sI T 0 24 1) 17 from by rw [show gN (sI T 0 24 1) 17 = gN T 17 from rfl]; omega) (show gN (sI T 0 24 1) 17 < 2 ^ 31 from by rw [show gN (sI T 0 24 1) 17 = gN T 17 from rfl]; omega), Option.bind_some, lt_d]
      rw [show gI (sF (sI T 0 24 1) 17 a (oN (some v))) 0 22 = nI a from by show gI (sI T 0 24 1) 0 22 = _; rw [gI_ne (by omega)]; exact h22, nI_1]
      rfl
    · rw [gI_ne (by omega)]
      show gI (sI T 0 24 1) 0 18 = _
      rw [gI_ne (by omega)]
    · rw [gI_ne (by omega)]
      show gI (sI T 0 24 1) 0 24 = _
      rw [sI_g]
    · show gF (sF (sI T 0 24 1) 17 a (nI v)) 17 a = _
      rw [gF_sF]
    · show gF (sF (sI T 0 24 1) 17 a (nI v)) 17 y = _
      rw [gF_sFi hy]
      rfl
theorem M_sign (hg : 100000 ≤ g) (t : TpM S2 tp) (hm : LM S2) (L : rdL tp j le) (hj : j ≤ i) (hi : i < le) {a : Nat} (ha : a ≤ 400) (h18 : gI S2 0 18 = nI i) (h22 : gI S2 0 22 = nI a) : ∃ S', m_sign g S2 = some S' ∧ Fl S2 S' ∧ (((rdG tp le i = none ∨ a = 400) ∧ gI S' 0 24 = 0 ∧ ∃ p, p ≤ le + 1 ∧ gI S' 0 18 = nI p) ∨ ∃ v z, rdG tp le i = some (v, z) ∧ a < 400 ∧ gI S' 0 24 = 1 ∧ gI S' 0 18 = nI z ∧ gI S' 0 22 = nI (a + 1) ∧ gF S' 17 a = nI v ∧ ∀ y, y ≠ a → gF S' 17 y = gF S2 17 y) := by
  have hl := t.2.1
  have he := L.2.1
  have hb := t.2.2.2
  obtain ⟨b, b1, b2⟩ := rdB_b hb (show i < tp.length by omega)
  have gb : rdG tp le i = (if b < 32 ∨ 126 < b then none else if b = 92 then (if i + 1 < le then (let x := (rdB tp (i + 1)).toNatClampNeg; if x = 34 ∨ x = 92 then some (x, i + 2) else if x = 110 then some (10, i + 2) else if x = 116 then some (9, i + 2) else if x = 117 then (match rdH tp le 4 (i + 2) 0 with | some v => some (v, i + 6) | none => none) else none) else none) else some (b, i + 1)) := by
    unfold rdG
    rw [b2, nI_nat (by omega)]
    rfl
  have bad : m_sign_39 g S2 (nI b) (nI b) = some (sI (sI S2 0 24 0) 0 18 (nI (i + 1))) := by
    unfold m_sign_39 m_sign_40
    have e24 : gI (sI (sI S2 0 24 0) 0 18 (nI (i + 1))) 0 24 = 0 := by rw [gI_ne (by omega), sI_g]
    rw [if_pos (Or.inl rfl), lt_d, lt_d, show gI (sI S2 0 24 0) 0 18 = nI i from by rw [gI_ne (by omega)]; exact h18, nI_1]
    unfold m_sign_167
    rw [if_pos e24]
    exact ifo rfl rfl
  have badO : (rdG tp le i = none ∨ a = 400) → m_sign g S2 = m_sign_39 g S2 (nI b) (nI b) → ∃ S', m_sign g S2 = some S' ∧ Fl S2 S' ∧ (((rdG tp le i = none ∨ a = 400) ∧ gI S' 0 24 = 0 ∧ ∃ p, p ≤ le + 1 ∧ gI S' 0 18 = nI p) ∨ ∃ v z, rdG tp le i = some (v, z) ∧ a < 400 ∧ gI S' 0 24 = 1 ∧ gI S' 0 18 = nI z ∧ gI S' 0 22 = nI (a + 1) ∧ gF S' 17 a = nI v ∧ ∀ y, y ≠ a → gF S' 17 y = gF S2 17 y) := fun h1 h2 => ⟨_, h2.trans bad, (Fl.sI (by omega)).tr (Fl.sI (by omega)), Or.inl ⟨h1, by rw [gI_ne (by omega), sI_g], i + 1, by omega, sI_g⟩⟩
  have eq : m_sign g S2 = (if nI b < 32 then m_sign_39 g S2 (nI b) (nI b) else if 126 < nI b then m_sign_39 g S2 (nI b) (nI b) else if (400 : Int32) ≤ nI a then m_sign_39 g S2 (nI b) (nI b) else m_sign_40 g S2 (nI b) (nI b) 1) := by
    unfold m_sign
    rw [h18, M_byte t hm (by omega), Option.bind_some, b2, h22]
  by_cases q1 : b < 32
  · rw [if_pos (show nI b < 32 from nI_lt (b := 32) q1 (by omega))] at eq
    exact badO (Or.inl (by rw [gb, if_pos (Or.inl q1)])) eq
  rw [if_neg (show ¬ nI b < 32 from nI_nlt (b := 32) (by omega) (by omega))] at eq
  by_cases q2 : 126 < b
  · rw [if_pos (show (126 : Int32) < nI b from nI_lt (a := 126) q2 (by omega))] at eq
    exact badO (Or.inl (by rw [gb, if_pos (Or.inr q2)])) eq
  rw [if_neg (show ¬ (126 : Int32) < nI b from nI_nlt (a := 126) (by omega) (by omega))] at eq
  rw [if_neg (show ¬ (b < 32 ∨ 126 < b) by omega)] at gb
  by_cases q3 : a = 400
  · rw [if_pos (show (400 : Int32) ≤ nI a from nI_le (a := 400) (by omega) (by omega))] at eq
    exact badO (Or.inr q3) eq
  rw [if_neg (show ¬ (400 : Int32) ≤ nI a from nI_ge (b := 400) (by omega) (by omega))] at eq
  unfold m_sign_40 at eq
  have f1 : Fi 0 (fun k => k = 24 ∨ k = 18) S2 (sI (sI S2 0 24 1) 0 18 (nI (i + 1))) := (Fi.sI (Or.inl rfl)).tr (Fi.sI (Or.inr rfl))
  have e24 : gI (sI (sI S2 0 24 1) 0 18 (nI (i + 1))) 0 24 = 1 := by rw [gI_ne (by omega), sI_g]
  have e22 : gI (sI (sI S2 0 24 1) 0 18 (nI (i + 1))) 0 22 = nI a := by rw [f1.1 0 22 (by omega)]; exact h22
  have fl1 : Fl S2 (sI (sI S2 0 24 1) 0 18 (nI (i + 1))) := (Fl.sI (by omega)).tr (Fl.sI (by omega))
  rw [if_pos (Or.inr rfl), lt_d, lt_d, show gI (sI S2 0 24 1) 0 18 = nI i from by rw [gI_ne (by omega)]; exact h18, nI_1] at eq
  generalize hT : sI (sI S2 0 24 1) 0 18 (nI (i + 1)) = T at eq f1 e24 e22 fl1
  have T18 : gI T 0 18 = nI (i + 1) := by rw [← hT, sI_g]
  have tT := t.fl fl1
  have mT := hm.fl fl1
  by_cases q4 : b = 92
  · subst q4
    rw [if_pos (show nI 92 = 92 from rfl), if_neg (by rw [e24]; decide), T18, M_le tT mT L (by omega) (by omega), Option.bind_some] at eq
    rw [if_pos rfl] at gb
    have fin : ∀ (y : Int32) (x : Option Nat) (k z : Nat), (∀ v, x = some v → v < 65536) → k = i + 2 → m_sign_90 g T y = m_sign_153 g (sI T 0 18 (nI k)) (oN x) → rdG tp le i = (match x with | some v => some (v, i + 2) | none => none) → m_sign g S2 = m_sign_90 g T y → ∃ S', m_sign g S2 = some S' ∧ Fl S2 S' ∧ (((rdG tp le i = none ∨ a = 400) ∧ gI S' 0 24 = 0 ∧ ∃ p, p ≤ le + 1 ∧ gI S' 0 18 = nI p) ∨ ∃ v z, rdG tp le i = some (v, z) ∧ a < 400 ∧ gI S' 0 24 = 1 ∧ gI S' 0 18 = nI z ∧ gI S' 0 22 = nI (a + 1) ∧ gF S' 17 a = nI v ∧ ∀ y, y ≠ a → gF S' 17 y = gF S2 17 y) := by
      intro y x k z hx hk h1 h2 h3
      have f2 : Fl T (sI T 0 18 (nI k)) := Fl.sI (by omega)
      obtain ⟨S', a1, a2, a3, a4⟩ := sg_153 (g := g) (a := a) (x := x) (mT.fl f2) (by rw [gI_ne (by omega)]; exact e22) (by omega) hx
      rw [sI_g] at a3
      refine ⟨S', h3.trans (h1.trans a1), fl1.tr (f2.tr a2), ?_⟩
      rcases a4 with ⟨z1, z2⟩ | ⟨v, z1, z2, z3, z4, z5⟩
      · rw [z1] at h2
        exact Or.inl ⟨Or.inl h2, z2, k, by omega, a3⟩
      · rw [z1] at h2
        refine Or.inr ⟨v, i + 2, h2, by omega, z2, by rw [a3, hk], z3, z4, fun y hy => ?_⟩
        rw [z5 y hy, ← hT]
        rfl
    by_cases q5 : i + 1 = le
    · rw [if_pos q5, if_neg (by decide)] at eq
      rw [if_neg (show ¬ i + 1 < le by omega)] at gb
      refine fin 0 none (i + 2) 0 (fun v h => by cases h) rfl ?_ gb eq
      unfold m_sign_90
      rw [T18, nI_1, lt_d, if_neg (by decide), if_neg (by decide), if_neg (by decide), if_neg (by decide), if_neg (by decide)]
      rfl
    · rw [if_neg q5, if_pos rfl, M_byte tT mT (by omega), Option.bind_some] at eq
      rw [if_pos (show i + 1 < le by omega)] at gb
      obtain ⟨x, x1, x2⟩ := rdB_b hb (show i + 1 < tp.length by omega)
      rw [x2] at eq
      rw [x2, nI_nat (by omega)] at gb
      dsimp only at gb
      have n34 : (nI x = 34) ↔ x = 34 := nI_eq (b := 34) (by omega) (by omega)
      have n92 : (nI x = 92) ↔ x = 92 := nI_eq (b := 92) (by omega) (by omega)
      have n110 : (nI x = 110) ↔ x = 110 := nI_eq (b := 110) (by omega) (by omega)
      have n116 : (nI x = 116) ↔ x = 116 := nI_eq (b := 116) (by omega) (by omega)
      have n117 : (nI x = 117) ↔ x = 117 := nI_eq (b := 117) (by omega) (by omega)
      have e90 : m_sign_90 g T (nI x) = (if nI x = 34 then m_sign_113 g (sI T 0 18 (nI (i + 2))) (nI x) else if nI x = 92 then m_sign_113 g (sI T 0 18 (nI (i + 2))) (nI x) else if nI x = 110 then m_sign_153 g (sI T 0 18 (nI (i + 2))) 10 else if nI x = 116 then m_sign_153 g (sI T 0 18 (nI (i + 2))) 9 else if nI x = 117 then (m_four g (sI T 0 18 (nI (i + 2)))).bind (fun (S_8, v_9) => m_sign_153 g S_8 v_9) else m_sign_153 g (sI T 0 18 (nI (i + 2))) (-1)) := by
        unfold m_sign_90
        rw [T18, nI_1, lt_d]
      by_cases q6 : x = 34 ∨ x = 92
      · rw [if_pos q6] at gb
        refine fin (nI x) (some x) (i + 2) 0 (fun v h => by cases h; omega) rfl ?_ gb eq
        rw [e90]
        rcases q6 with z | z
        · rw [if_pos (n34.mpr z)]
          rfl
        · rw [if_neg (fun q => by have := n34.mp q; omega), if_pos (n92.mpr z)]
          rfl
      rw [if_neg q6] at gb
      rw [if_neg (fun q => q6 (Or.inl (n34.mp q))), if_neg (fun q => q6 (Or.inr (n92.mp q)))] at e90
      by_cases q7 : x = 110
      · rw [if_pos q7] at gb
        rw [if_pos (n110.mpr q7)] at e90
        exact fin (nI x) (some 10) (i + 2) 0 (fun v h => by cases h; omega) rfl e90 gb eq
      rw [if_neg q7] at gb
      rw [if_neg (fun q => q7 (n110.mp q))] at e90
      by_cases q8 : x = 116
      · rw [if_pos q8] at gb
        rw [if_pos (n116.mpr q8)] at e90
        exact fin (nI x) (some 9) (i + 2) 0 (fun v h => by cases h; omega) rfl e90 gb eq
      rw [if_neg q8] at gb
      rw [if_neg (fun q => q8 (n116.mp q))] at e90
      by_cases q9 : x = 117
      · rw [if_pos q9] at gb
        rw [if_pos (n117.mpr q9)] at e90
        have f2 : Fl T (sI T 0 18 (nI (i + 2))) := Fl.sI (by omega)
        obtain ⟨S', a1, a2, a3, p, a4, a5⟩ := M_four (g := g) L 4 g (i + 2) 0 _ (by omega) (by omega) (by omega) (by omega) (tT.fl f2) (mT.fl f2) sI_g
        have a1 : m_four g (sI T 0 18 (nI (i + 2))) = some (S', oN (rdH tp le 4 (i + 2) 0)) := a1
        rw [a1, Option.bind_some] at e90
        have f3 : Fl (sI T 0 18 (nI (i + 2))) S' := Fl.fi a2 (fun k h => Or.inl h)
        obtain ⟨S3, c1, c2, c3, c4⟩ := sg_153 (g := g) (a := a) (x := rdH tp le 4 (i + 2) 0) ((mT.fl f2).fl f3) (by rw [a2.1 0 22 (by omega), gI_ne (by omega)]; exact e22) (by omega) (fun v h => by have := (rdH_b 4 (i + 2) 0 v h).1; omega)
        refine ⟨S3, eq.trans (e90.trans c1), fl1.tr (f2.tr (f3.tr c2)), ?_⟩
        rcases c4 with ⟨z1, z2⟩ | ⟨v, z1, z2, z3, z4, z5⟩
        · rw [z1] at gb
          exact Or.inl ⟨Or.inl gb, z2, p, by omega, by rw [c3]; exact a5⟩
        · rw [z1] at gb
          refine Or.inr ⟨v, i + 6, gb, by omega, z2, by rw [c3, a3 v z1], z3, z4, fun y hy => ?_⟩
          rw [z5 y hy, a2.F, ← hT]
          rfl
      · rw [if_neg q9] at gb
        rw [if_neg (fun q => q9 (n117.mp q))] at e90
        exact fin (nI x) none (i + 2) 0 (fun v h => by cases h) rfl e90 gb eq
  · rw [if_neg (show ¬ nI b = 92 from fun z => q4 ((nI_eq (b := 92) (by omega) (by omega)).mp z))] at eq
    rw [if_neg q4] at gb
    have h17 : gN T 17 = 401 := LMn mT 17
    unfold m_sign_167 at eq
    rw [if_neg (by rw [e24]; decide), e22, tI_at (by omega) (by omega), Option.bind_some, lt_d, show gI (sF T 17 a (nI b)) 0 22 = nI a from e22, nI_1] at eq
    refine ⟨_, eq, fl1.tr (Fl.sF.tr (Fl.sI (by omega))), Or.inr ⟨b, i + 1, gb, by omega, ?_, ?_, sI_g, ?_, fun y hy => ?_⟩⟩
    · rw [gI_ne (by omega)]; exact e24
    · rw [gI_ne (by omega)]; exact T18
    · show gF (sF T 17 a (nI b)) 17 a = _
      rw [gF_sF]
    · show gF (sF T 17 a (nI b)) 17 y = _
      rw [gF_sFi hy, ← hT]
      rfl
end RDC
