theorem dX8_letter_0 : decode cX8_letter 0 = .ok (.iload_n 1, 1) := by decide +kernel
theorem dX8_letter_1 : decode cX8_letter 1 = .ok (.ifCond .lt 14, 3) := by decide +kernel
theorem dX8_letter_4 : decode cX8_letter 4 = .ok (.iload_n 1, 1) := by decide +kernel
theorem dX8_letter_5 : decode cX8_letter 5 = .ok (.aload_n 0, 1) := by decide +kernel
theorem dX8_letter_6 : decode cX8_letter 6 = .ok (.getfield 197, 3) := by decide +kernel
theorem dX8_letter_9 : decode cX8_letter 9 = .ok (.invokevirtual 207, 3) := by decide +kernel
theorem dX8_letter_12 : decode cX8_letter 12 = .ok (.if_icmp .lt 8, 3) := by decide +kernel
theorem dX8_letter_15 : decode cX8_letter 15 = .ok (.bipush 32, 2) := by decide +kernel
theorem dX8_letter_17 : decode cX8_letter 17 = .ok (.goto 11, 3) := by decide +kernel
theorem dX8_letter_20 : decode cX8_letter 20 = .ok (.aload_n 0, 1) := by decide +kernel
theorem dX8_letter_21 : decode cX8_letter 21 = .ok (.getfield 197, 3) := by decide +kernel
theorem dX8_letter_24 : decode cX8_letter 24 = .ok (.iload_n 1, 1) := by decide +kernel
theorem dX8_letter_25 : decode cX8_letter 25 = .ok (.invokevirtual 213, 3) := by decide +kernel
theorem dX8_letter_28 : decode cX8_letter 28 = .ok (.ireturn, 1) := by decide +kernel
/-- Sort.letter -/
theorem so_197 : Cond.fieldLink RX8 197 "TextLessons$Sort" "words" "Ljava/lang/String;" ∈ tb := tb9 235 rfl rfl
theorem wd_lt : ∀ k, k < 56 → wdT.getD k 0 < 101 := by decide +kernel
theorem sp_lt : ∀ k, k < 56 → spT.getD k 0 < 101 := by decide +kernel
def lett (k : Nat) (i : Int32) : Int32 := if i < 0 then 32 else if i < sLen (wdT.getD k 0) then sCh (wdT.getD k 0) i else 32
theorem in_of_lt {j : Nat} (hj : j < 101) {i : Int32} (h0 : ¬ i < 0) (h1 : i < sLen j) : vp_in i (byT.getD j []).length := by
  have hlt := byT_len j hj
  obtain ⟨n, hn, rfl⟩ := nI_of h0
  have : n < (byT.getD j []).length := (nI_ltI hn (by omega)).mp h1
  exact vp_in_nI this (by omega)
set_option maxRecDepth 100000 in
theorem k_So_letter (l : Launch) (Z : Ad) (D : va_G) (T : Cy) (ρ : Nat → Nat) (sz : Nat) (S : St) {k : Nat} {i : Int32} (hk56 : k < 56) : MiC l Z D T ρ yX8_letter cX8_letter 2 (some .char) 4 85 S S (lett k i) [.ref (Z.1 k), .int i] sz := by
  refine x_inC (by decide) (Nat.le_of_ble_eq_true rfl) (fun p e s m below meth c ls C hr hk hcn hcw w hl => ?_)
  have hl : lv_has ls 2 [(0, .ref (Z.1 k)), (1, .int i)] := hl
  have hw := wd_lt k hk56
  refine lv_iload_n C.1 C.2.1 dX8_letter_0 rfl (lv_at hl 1 rfl) ?_
  refine lv_if_lt (tgt := 15) C.1 C.2.1 dX8_letter_1 (by decide) (fun hc => ?_) (fun h0 => ?_)
  · rw [show lett k i = 32 from if_pos hc]
    refine lv_bipush (v := 32) C.1 C.2.1 dX8_letter_15 (by decide) ?_
    refine lv_goto (tgt := 28) C.1 C.2.1 dX8_letter_17 (by decide) ?_
    exact x_tretM C w Ag.rf hr hk (by decide +kernel) dX8_letter_28 (Nat.zero_le _) (Nat.zero_le _)
  · refine lv_iload_n C.1 C.2.1 dX8_letter_4 rfl (lv_at hl 1 rfl) ?_
    refine lv_aload_n C.1 C.2.1 dX8_letter_5 rfl (lv_at hl 0 rfl) ?_
    refine x_eWd C w hcn hk56 so_197 dX8_letter_6 ?_
    refine x_callKi (As := []) (rest := [.int i]) C w hcn hcw (hcn.2.2.2.2.2.2.2.1 _ hw).1 (k_sLength l Z D T ρ s.heap.size S hw) vX8_207 (hRK (by decide) (by decide)) rfl rfl hl.1 (Nat.le_of_ble_eq_true rfl) ⟨Nat.zero_le _, Nat.zero_le _⟩ dX8_letter_9 (fun ρ1 H locs hag w => ?_)
    refine lv_icmp_lt (tgt := 20) C.1 C.2.1 dX8_letter_12 (by decide) (fun h1 => ?_) (fun h1 => ?_)
    · rw [show lett k i = sCh (wdT.getD k 0) i from (if_neg h0).trans (if_pos h1)]
      refine lv_aload_n C.1 C.2.1 dX8_letter_20 rfl (lv_at hl 0 rfl) ?_
      refine x_eWd C w hcn hk56 so_197 dX8_letter_21 ?_
      refine lv_iload_n C.1 C.2.1 dX8_letter_24 rfl (lv_at hl 1 rfl) ?_
      refine x_callKi (As := [.int i]) (rest := []) C w hcn hcw (hcn.2.2.2.2.2.2.2.1 _ hw).1 (k_sCharAt l Z D T ρ1 H.size S hw (in_of_lt hw h0 h1)) vX8_213 (hRK (by decide) (by decide)) rfl rfl hl.1 (Nat.le_of_ble_eq_true rfl) ⟨Nat.zero_le _, Nat.zero_le _⟩ dX8_letter_25 (fun ρ2 H locs hag2 w => ?_)
      exact x_tretM C w ((Ag.rf.trans hag).trans hag2) hr hk (sc_nar _) dX8_letter_28 (Nat.zero_le _) (Nat.zero_le _)
    · rw [show lett k i = 32 from (if_neg h0).trans (if_neg h1)]
      refine lv_bipush (v := 32) C.1 C.2.1 dX8_letter_15 (by decide) ?_
      refine lv_goto (tgt := 28) C.1 C.2.1 dX8_letter_17 (by decide) ?_
      exact x_tretM C w (Ag.rf.trans hag) hr hk (by decide +kernel) dX8_letter_28 (Nat.zero_le _) (Nat.zero_le _)
