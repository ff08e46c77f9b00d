theorem dX8_opensRange_0 : decode cX8_opensRange 0 = .ok (.aload_n 0, 1) := by decide +kernel
theorem dX8_opensRange_1 : decode cX8_opensRange 1 = .ok (.getstatic 165, 3) := by decide +kernel
theorem dX8_opensRange_4 : decode cX8_opensRange 4 = .ok (.if_acmp .eq 10, 3) := by decide +kernel
theorem dX8_opensRange_7 : decode cX8_opensRange 7 = .ok (.aload_n 0, 1) := by decide +kernel
theorem dX8_opensRange_8 : decode cX8_opensRange 8 = .ok (.getstatic 168, 3) := by decide +kernel
theorem dX8_opensRange_11 : decode cX8_opensRange 11 = .ok (.if_acmp .ne 7, 3) := by decide +kernel
theorem dX8_opensRange_14 : decode cX8_opensRange 14 = .ok (.iconst 1, 1) := by decide +kernel
theorem dX8_opensRange_15 : decode cX8_opensRange 15 = .ok (.goto 4, 3) := by decide +kernel
theorem dX8_opensRange_18 : decode cX8_opensRange 18 = .ok (.iconst 0, 1) := by decide +kernel
theorem dX8_opensRange_19 : decode cX8_opensRange 19 = .ok (.ireturn, 1) := by decide +kernel
theorem so_165 : Cond.fieldLink RX8 165 "TextLessons$Sort" (smN.getD 53 "") "LTextLessons$Sort;" ∈ tb := tb3 197 rfl rfl
theorem so_168 : Cond.fieldLink RX8 168 "TextLessons$Sort" (smN.getD 54 "") "LTextLessons$Sort;" ∈ tb := tb3 199 rfl rfl
def opn (k : Nat) : Int32 := if k = 53 then 1 else if k = 54 then 1 else 0
set_option maxRecDepth 100000 in
theorem k_So_opensRange (l : Launch) (Z : Ad) (D : va_G) (T : Cy) (ρ : Nat → Nat) (sz : Nat) (S : St) {k : Nat} (hk56 : k < 56) : MiC l Z D T ρ yX8_opensRange cX8_opensRange 1 (some .boolean) 0 0 S S (opn k) [.ref (Z.1 k)] sz := by
  refine x_inC (by decide) (Nat.le_of_ble_eq_true rfl) (fun p e s m below meth c ls C hr hk hcn hcw w hl => ?_)
  have hl : lv_has ls 1 [(0, .ref (Z.1 k))] := hl
  refine lv_aload_n C.1 C.2.1 dX8_opensRange_0 rfl (lv_at hl 0 rfl) ?_
  refine x_gsE (k := 53) C w hcn (by decide) so_165 dX8_opensRange_1 ?_
  refine x_acmpE (tgt := 14) C hcn hk56 (by decide) dX8_opensRange_4 (by decide) (fun h1 => ?_) (fun h1 => ?_)
  · rw [show opn k = 1 from if_pos h1]
    refine lv_iconst (v := 1) C.1 C.2.1 dX8_opensRange_14 (by decide) ?_
    refine lv_goto (tgt := 19) C.1 C.2.1 dX8_opensRange_15 (by decide) ?_
    exact x_tretM C w Ag.rf hr hk (by decide +kernel) dX8_opensRange_19 (Nat.zero_le _) (Nat.zero_le _)
  · refine lv_aload_n C.1 C.2.1 dX8_opensRange_7 rfl (lv_at hl 0 rfl) ?_
    refine x_gsE (k := 54) C w hcn (by decide) so_168 dX8_opensRange_8 ?_
    refine x_acmpN (tgt := 18) C hcn hk56 (by decide) dX8_opensRange_11 (by decide) (fun h2 => ?_) (fun h2 => ?_)
    · rw [show opn k = 0 from (if_neg h1).trans (if_neg h2)]
      refine lv_iconst (v := 0) C.1 C.2.1 dX8_opensRange_18 (by decide) ?_
      exact x_tretM C w Ag.rf hr hk (by decide +kernel) dX8_opensRange_19 (Nat.zero_le _) (Nat.zero_le _)
    · rw [show opn k = 1 from (if_neg h1).trans (if_pos h2)]
      refine lv_iconst (v := 1) C.1 C.2.1 dX8_opensRange_14 (by decide) ?_
      refine lv_goto (tgt := 19) C.1 C.2.1 dX8_opensRange_15 (by decide) ?_
      exact x_tretM C w Ag.rf hr hk (by decide +kernel) dX8_opensRange_19 (Nat.zero_le _) (Nat.zero_le _)
