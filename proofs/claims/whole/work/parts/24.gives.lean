theorem dX8_gives_0 : decode cX8_gives 0 = .ok (.aload_n 0, 1) := by decide +kernel
theorem dX8_gives_1 : decode cX8_gives 1 = .ok (.iconst 0, 1) := by decide +kernel
theorem dX8_gives_2 : decode cX8_gives 2 = .ok (.invokevirtual 217, 3) := by decide +kernel
theorem dX8_gives_5 : decode cX8_gives 5 = .ok (.istore_n 1, 1) := by decide +kernel
theorem dX8_gives_6 : decode cX8_gives 6 = .ok (.iload_n 1, 1) := by decide +kernel
theorem dX8_gives_7 : decode cX8_gives 7 = .ok (.bipush 118, 2) := by decide +kernel
theorem dX8_gives_9 : decode cX8_gives 9 = .ok (.if_icmp .eq 15, 3) := by decide +kernel
theorem dX8_gives_12 : decode cX8_gives 12 = .ok (.iload_n 1, 1) := by decide +kernel
theorem dX8_gives_13 : decode cX8_gives 13 = .ok (.bipush 119, 2) := by decide +kernel
theorem dX8_gives_15 : decode cX8_gives 15 = .ok (.if_icmp .eq 9, 3) := by decide +kernel
theorem dX8_gives_18 : decode cX8_gives 18 = .ok (.iload_n 1, 1) := by decide +kernel
theorem dX8_gives_19 : decode cX8_gives 19 = .ok (.bipush 66, 2) := by decide +kernel
theorem dX8_gives_21 : decode cX8_gives 21 = .ok (.if_icmp .ne 7, 3) := by decide +kernel
theorem dX8_gives_24 : decode cX8_gives 24 = .ok (.iconst 1, 1) := by decide +kernel
theorem dX8_gives_25 : decode cX8_gives 25 = .ok (.goto 4, 3) := by decide +kernel
theorem dX8_gives_28 : decode cX8_gives 28 = .ok (.iconst 0, 1) := by decide +kernel
theorem dX8_gives_29 : decode cX8_gives 29 = .ok (.ireturn, 1) := by decide +kernel
def giv (k : Nat) : Int32 := if lett k 0 = 118 then 1 else if lett k 0 = 119 then 1 else if lett k 0 = 66 then 1 else 0
set_option maxRecDepth 100000 in
theorem k_So_gives (l : Launch) (Z : Ad) (D : va_G) (T : Cy) (ρ : Nat → Nat) (sz : Nat) (S : St) {k : Nat} (hk56 : k < 56) : MiC l Z D T ρ yX8_gives cX8_gives 2 (some .boolean) 5 106 S S (giv k) [.ref (Z.1 k)] sz := by
  refine x_inC (by decide) (Nat.le_of_ble_eq_true rfl) (fun p e s m below meth c ls C hr hk hcn hcw w hl => ?_)
  have hl : lv_has ls 2 [(0, .ref (Z.1 k))] := hl
  refine lv_aload_n C.1 C.2.1 dX8_gives_0 rfl (lv_at hl 0 rfl) ?_
  refine lv_iconst (v := 0) C.1 C.2.1 dX8_gives_1 (by decide) ?_
  refine x_callKi (As := [.int 0]) (rest := []) C w hcn hcw (hcn.1.1 k (by rw [smN_len]; exact hk56)).2.1 (k_So_letter l Z D T ρ s.heap.size S hk56) vX8_217 (hRK (by decide) (by decide)) rfl rfl hl.1 (Nat.le_of_ble_eq_true rfl) ⟨Nat.zero_le _, Nat.zero_le _⟩ dX8_gives_2 (fun ρ1 H locs hag w => ?_)
  refine lv_istore_n (lv' := [(1, .int (lett k 0)), (0, .ref (Z.1 k))]) C.1 C.2.1 dX8_gives_5 rfl hl (by decide) rfl (fun ls hl => ?_)
  refine lv_iload_n C.1 C.2.1 dX8_gives_6 rfl (lv_at hl 0 rfl) ?_
  refine lv_bipush (v := 118) C.1 C.2.1 dX8_gives_7 (by decide) ?_
  refine lv_icmp_eq (tgt := 24) C.1 C.2.1 dX8_gives_9 (by decide) (fun h1 => ?_) (fun h1 => ?_)
  · rw [show giv k = 1 from if_pos h1]
    refine lv_iconst (v := 1) C.1 C.2.1 dX8_gives_24 (by decide) ?_
    refine lv_goto (tgt := 29) C.1 C.2.1 dX8_gives_25 (by decide) ?_
    exact x_tretM C w (Ag.rf.trans hag) hr hk (by decide +kernel) dX8_gives_29 (Nat.zero_le _) (Nat.zero_le _)
  refine lv_iload_n C.1 C.2.1 dX8_gives_12 rfl (lv_at hl 0 rfl) ?_
  refine lv_bipush (v := 119) C.1 C.2.1 dX8_gives_13 (by decide) ?_
  refine lv_icmp_eq (tgt := 24) C.1 C.2.1 dX8_gives_15 (by decide) (fun h2 => ?_) (fun h2 => ?_)
  · rw [show giv k = 1 from (if_neg h1).trans (if_pos h2)]
    refine lv_iconst (v := 1) C.1 C.2.1 dX8_gives_24 (by decide) ?_
    refine lv_goto (tgt := 29) C.1 C.2.1 dX8_gives_25 (by decide) ?_
    exact x_tretM C w (Ag.rf.trans hag) hr hk (by decide +kernel) dX8_gives_29 (Nat.zero_le _) (Nat.zero_le _)
  refine lv_iload_n C.1 C.2.1 dX8_gives_18 rfl (lv_at hl 0 rfl) ?_
  refine lv_bipush (v := 66) C.1 C.2.1 dX8_gives_19 (by decide) ?_
  refine lv_icmp_ne (tgt := 28) C.1 C.2.1 dX8_gives_21 (by decide) (fun h3 => ?_) (fun h3 => ?_)
  · rw [show giv k = 0 from (if_neg h1).trans ((if_neg h2).trans (if_neg h3))]
    refine lv_iconst (v := 0) C.1 C.2.1 dX8_gives_28 (by decide) ?_
    exact x_tretM C w (Ag.rf.trans hag) hr hk (by decide +kernel) dX8_gives_29 (Nat.zero_le _) (Nat.zero_le _)
  · rw [show giv k = 1 from (if_neg h1).trans ((if_neg h2).trans (if_pos h3))]
    refine lv_iconst (v := 1) C.1 C.2.1 dX8_gives_24 (by decide) ?_
    refine lv_goto (tgt := 29) C.1 C.2.1 dX8_gives_25 (by decide) ?_
    exact x_tretM C w (Ag.rf.trans hag) hr hk (by decide +kernel) dX8_gives_29 (Nat.zero_le _) (Nat.zero_le _)
