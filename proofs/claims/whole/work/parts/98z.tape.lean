/-! the TAPE: feed and cut -/
/-- the TAPE on both sides -/
def TpR (S S2 : St) (tp : List Int32) : Prop := Rw S 10 tp 0 ∧ gI S2 0 5 = nI tp.length ∧ tp.length ≤ 3000 ∧ (∀ i, i < tp.length → gF S2 5 i = tp.getD i 0) ∧ ∀ x ∈ tp, ∃ n : Nat, n < 256 ∧ x = nI n
/-- nothing but the TAPE has changed -/
def FTp (S S' : St) : Prop := S'.2.1 = S.2.1 ∧ S'.2.2.1 = S.2.2.1 ∧ S'.2.2.2.1 = S.2.2.2.1 ∧ S'.2.2.2.2.2 = S.2.2.2.2.2 ∧ (∀ k, k ≠ 5 → gI S' 0 k = gI S 0 k) ∧ ∀ a, a ≠ 5 → ∀ i, gF S' a i = gF S a i
theorem FTp.rf {S : St} : FTp S S := ⟨rfl, rfl, rfl, rfl, fun _ _ => rfl, fun _ _ _ => rfl⟩
theorem FTp.tr {S S1 S2 : St} (h1 : FTp S S1) (h2 : FTp S1 S2) : FTp S S2 := ⟨h2.1.trans h1.1, h2.2.1.trans h1.2.1, h2.2.2.1.trans h1.2.2.1, h2.2.2.2.1.trans h1.2.2.2.1, fun k h => (h2.2.2.2.2.1 k h).trans (h1.2.2.2.2.1 k h), fun a h i => (h2.2.2.2.2.2 a h i).trans (h1.2.2.2.2.2 a h i)⟩
theorem LM.tp {S S' : St} (w : LM S) (h : FTp S S') : LM S' := w.of h.2.2.1
theorem by255 (x : Int32) : ∃ n : Nat, n < 256 ∧ x &&& 255 = nI n := by
  refine ⟨(x &&& 255).toNatClampNeg, ?_⟩
  have h1 : (x &&& 255).toBitVec.toNat ≤ 255 := by
    rw [Int32.toBitVec_and, BitVec.toNat_and]
    exact Nat.and_le_right
  have h2 : (x &&& 255).toInt = ((x &&& 255).toBitVec.toNat : Int) := by
    show (x &&& 255).toBitVec.toInt = _
    rw [BitVec.toInt_eq_toNat_cond, if_pos (by omega)]
  have h3 : (x &&& 255).toNatClampNeg = (x &&& 255).toBitVec.toNat := by
    show (x &&& 255).toInt.toNat = _
    rw [h2]
    omega
  refine ⟨by omega, ?_⟩
  apply Int32.toInt_inj.mp
  rw [nI_toInt (by omega), h2, h3]
section TAP
variable {g : Nat}
theorem put1 {S S2 : St} {tp : List Int32} {v : Int32} (h : TpR S S2 tp) (hk : gOK S) (hm : LM S2) (hl : tp.length < 3000) (hv : ∃ n : Nat, n < 256 ∧ v = nI n) : ∃ S', m_Row_add g S 10 v = some S' ∧ Fr 10 S S' ∧ tI S2 5 (gI S2 0 5) v = some (sF S2 5 tp.length v) ∧ TpR S' (sI (sF S2 5 tp.length v) 0 5 (nI (tp.length + 1))) (tp ++ [v]) ∧ FTp S2 (sI (sF S2 5 tp.length v) 0 5 (nI (tp.length + 1))) := by
  obtain ⟨t1, t2, t3, t4, t5⟩ := h
  have h5 : gN S2 5 = 3000 := LMn hm 5
  obtain ⟨S', a1, a2, a3⟩ := R_add (g := g) (v := v) t1 hk
  rw [show limC 10 = 3000 from by decide +kernel, if_pos hl, if_pos hl] at a3
  refine ⟨S', a1, a2, by rw [t2]; exact tI_at (by omega) (by omega), ⟨a3, by rw [sI_g, List.length_append, List.length_singleton], by rw [List.length_append, List.length_singleton]; omega, fun i hi => ?_, fun x hx => ?_⟩, rfl, rfl, rfl, rfl, fun k hk => gI_ne (by omega), fun a ha i => gF_ne ha⟩
  · rw [List.length_append, List.length_singleton] at hi
    show gF (sF S2 5 tp.length v) 5 i = _
    by_cases e : i = tp.length
    · subst e
      rw [gF_sF]
      simp
    · rw [gF_sFi e, t4 i (by omega), List.getD_eq_getElem?_getD, List.getD_eq_getElem?_getD, List.getElem?_append_left (by omega)]
  · rcases List.mem_append.mp hx with h | h
    · exact t5 x h
    · rw [List.mem_singleton] at h
      rw [h]; exact hv
end TAP
