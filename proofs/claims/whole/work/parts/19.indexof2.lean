set_option maxRecDepth 100000 in
theorem k_lIndexOf (l : Launch) (Z : Ad) (D : va_G) (T : Cy) (ρ : Nat → Nat) (sz : Nat) (S : St) {j : Nat} {ch : Int32} (hj : j < 101) (h0 : ¬ ch < 0) (h1 : ¬ 255 < ch) : MiC l Z D T ρ yJ1_indexOf_4cfef cJ1_indexOf_4cfef 4 (some .int) 1 25 S S (sIx j ch) [.ref (Z.2.2.2.2 j), .int ch, .int 0, .int (sLen j)] sz := by
  refine x_inC (by decide) (Nat.le_of_ble_eq_true rfl) (fun p e s m below meth c ls C hr hk hcn hcw w hl => ?_)
  have hl : lv_has ls 4 [(0, .ref (Z.2.2.2.2 j)), (1, .int ch), (2, .int 0), (3, .int (sLen j))] := hl
  have hlt := byT_len j hj
  refine lv_iload_n C.1 C.2.1 dJ1_indexOf_4cfef_0 rfl (lv_at hl 1 rfl) ?_
  refine x_callKSi (As := [.int ch]) (rest := []) C w hcn hcw (k_canEncode l Z D T ρ s.heap.size S h0 h1) vJ1_88 (hRK (by decide) (by decide)) rfl rfl hl.1 (Nat.le_of_ble_eq_true rfl) ⟨Nat.zero_le _, Nat.zero_le _⟩ dJ1_indexOf_4cfef_1 (fun ρ1 H locs hag w => ?_)
  refine lv_if_ne (tgt := 9) C.1 C.2.1 dJ1_indexOf_4cfef_4 (by decide) (fun _ => ?_) (fun hc => absurd hc (by decide))
  refine lv_iload_n C.1 C.2.1 dJ1_indexOf_4cfef_9 rfl (lv_at hl 2 rfl) ?_
  refine lv_iconst (v := 0) C.1 C.2.1 dJ1_indexOf_4cfef_10 (by decide) ?_
  refine x_maxI C hl.1 vJ1_92.1 (hRK (by decide) (by decide)) (Nat.le_of_ble_eq_true rfl) ⟨Nat.zero_le _, Nat.zero_le _⟩ dJ1_indexOf_4cfef_11 ?_
  rw [show maxI 0 0 = 0 from by decide]
  refine lv_istore_n (lv' := [(2, .int 0), (0, .ref (Z.2.2.2.2 j)), (1, .int ch), (3, .int (sLen j))]) C.1 C.2.1 dJ1_indexOf_4cfef_14 rfl hl (by decide) rfl (fun ls hl => ?_)
  refine lv_iload_n C.1 C.2.1 dJ1_indexOf_4cfef_15 rfl (lv_at hl 3 rfl) ?_
  refine lv_aload_n C.1 C.2.1 dJ1_indexOf_4cfef_16 rfl (lv_at hl 1 rfl) ?_
  refine va_tlen C.1 C.2.1 (hcn.2.2.2.2.2.2.2.1 j hj).2.2.2 w.2.2.2.1 (v := sLen j) rfl dJ1_indexOf_4cfef_17 ?_
  refine x_minI C hl.1 vJ1_38.1 (hRK (by decide) (by decide)) (Nat.le_of_ble_eq_true rfl) ⟨Nat.zero_le _, Nat.zero_le _⟩ dJ1_indexOf_4cfef_18 ?_
  rw [show minI (sLen j) (sLen j) = sLen j from by unfold minI; exact ite_self _]
  refine lv_istore_n (lv' := [(3, .int (sLen j)), (2, .int 0), (0, .ref (Z.2.2.2.2 j)), (1, .int ch)]) C.1 C.2.1 dJ1_indexOf_4cfef_21 rfl hl (by decide) rfl (fun ls hl => ?_)
  refine lv_iload_n C.1 C.2.1 dJ1_indexOf_4cfef_22 rfl (lv_at hl 1 rfl) ?_
  refine lv_iload_n C.1 C.2.1 dJ1_indexOf_4cfef_23 rfl (lv_at hl 0 rfl) ?_
  refine lv_icmp_lt (tgt := 29) C.1 C.2.1 dJ1_indexOf_4cfef_24 (by decide) (fun _ => ?_) (fun hc => ?_)
  · refine lv_aload_n C.1 C.2.1 dJ1_indexOf_4cfef_29 rfl (lv_at hl 2 rfl) ?_
    refine lv_iload_n C.1 C.2.1 dJ1_indexOf_4cfef_30 rfl (lv_at hl 3 rfl) ?_
    refine lv_iload_n C.1 C.2.1 dJ1_indexOf_4cfef_31 rfl (lv_at hl 1 rfl) ?_
    refine lv_iload_n C.1 C.2.1 dJ1_indexOf_4cfef_32 rfl (lv_at hl 0 rfl) ?_
    refine x_callKSi (As := [.ref (Z.2.2.2.2 j), .int ch, .int 0, .int (sLen j)]) (rest := []) C w hcn hcw (k_indexOfChar l Z D T ρ1 H.size S hj) vJ1_95 (hRK (by decide) (by decide)) rfl rfl hl.1 (Nat.le_of_ble_eq_true rfl) ⟨Nat.zero_le _, Nat.zero_le _⟩ dJ1_indexOf_4cfef_33 (fun ρ2 H locs hag2 w => ?_)
    exact x_iretM C w ((Ag.rf.trans hag).trans hag2) hr hk dJ1_indexOf_4cfef_36 (Nat.zero_le _) (Nat.zero_le _)
  · have hz : (byT.getD j []).length = 0 := by
      rcases Nat.eq_zero_or_pos (byT.getD j []).length with q | q
      · exact q
      · exact absurd (show (0 : Int32) < sLen j from nI_lt (a := 0) q (by omega)) hc
    have hs : sIx j ch = -1 := by unfold sIx; rw [hz]; rfl
    rw [hs]
    refine lv_iconst (v := (-1)) C.1 C.2.1 dJ1_indexOf_4cfef_27 (by decide) ?_
    exact x_iretM C w (Ag.rf.trans hag) hr hk dJ1_indexOf_4cfef_28 (Nat.zero_le _) (Nat.zero_le _)
set_option maxRecDepth 100000 in
theorem k_sIndexOf2 (l : Launch) (Z : Ad) (D : va_G) (T : Cy) (ρ : Nat → Nat) (sz : Nat) (S : St) {j : Nat} {ch : Int32} (hj : j < 101) (h0 : ¬ ch < 0) (h1 : ¬ 255 < ch) : MiC l Z D T ρ yJ0_indexOf_7cf53 cJ0_indexOf_7cf53 3 (some .int) 2 48 S S (sIx j ch) [.ref (Z.2.2.2.1 j), .int ch, .int 0] sz := by
  refine x_inC (by decide) (Nat.le_of_ble_eq_true rfl) (fun p e s m below meth c ls C hr hk hcn hcw w hl => ?_)
  have hl : lv_has ls 3 [(0, .ref (Z.2.2.2.1 j)), (1, .int ch), (2, .int 0)] := hl
  refine lv_aload_n C.1 C.2.1 dJ0_indexOf_7cf53_0 rfl (lv_at hl 0 rfl) ?_
  refine x_callKi (As := []) (rest := []) C w hcn hcw (hcn.2.2.2.2.2.2.2.1 j hj).1 (k_sIsLatin1 l Z D T ρ s.heap.size S hj) vJ0_492 (hRK (by decide) (by decide)) rfl rfl hl.1 (Nat.le_of_ble_eq_true rfl) ⟨Nat.zero_le _, Nat.zero_le _⟩ dJ0_indexOf_7cf53_1 (fun ρ1 H locs hag w => ?_)
  refine lv_if_eq (tgt := 23) C.1 C.2.1 dJ0_indexOf_7cf53_4 (by decide) (fun hc => absurd hc (by decide)) (fun _ => ?_)
  refine lv_aload_n C.1 C.2.1 dJ0_indexOf_7cf53_7 rfl (lv_at hl 0 rfl) ?_
  refine vk_getf C.1 C.2.1 (hcn.2.2.2.2.2.2.2.1 j hj).2.2.1 w.2.2.2.1 C.2.2.2.1 (C.2.2.2.2 _ fs_9) (fun x h => h) dJ0_indexOf_7cf53_8 ?_
  refine lv_iload_n C.1 C.2.1 dJ0_indexOf_7cf53_11 rfl (lv_at hl 1 rfl) ?_
  refine lv_iload_n C.1 C.2.1 dJ0_indexOf_7cf53_12 rfl (lv_at hl 2 rfl) ?_
  refine lv_aload_n C.1 C.2.1 dJ0_indexOf_7cf53_13 rfl (lv_at hl 0 rfl) ?_
  refine x_callKi (As := []) (rest := [.int 0, .int ch, .ref (Z.2.2.2.2 j)]) C w hcn hcw (hcn.2.2.2.2.2.2.2.1 j hj).1 (k_sLength l Z D T ρ1 H.size S hj) vJ0_505 (hRK (by decide) (by decide)) rfl rfl hl.1 (Nat.le_of_ble_eq_true rfl) ⟨Nat.zero_le _, Nat.zero_le _⟩ dJ0_indexOf_7cf53_14 (fun ρ2 H locs hag2 w => ?_)
  refine x_callKSi (As := [.ref (Z.2.2.2.2 j), .int ch, .int 0, .int (sLen j)]) (rest := []) C w hcn hcw (k_lIndexOf l Z D T ρ2 H.size S hj h0 h1) vJ0_637 (hRK (by decide) (by decide)) rfl rfl hl.1 (Nat.le_of_ble_eq_true rfl) ⟨Nat.zero_le _, Nat.zero_le _⟩ dJ0_indexOf_7cf53_17 (fun ρ3 H locs hag3 w => ?_)
  refine lv_goto (tgt := 36) C.1 C.2.1 dJ0_indexOf_7cf53_20 (by decide) ?_
  exact x_iretM C w (((Ag.rf.trans hag).trans hag2).trans hag3) hr hk dJ0_indexOf_7cf53_36 (Nat.zero_le _) (Nat.zero_le _)
set_option maxRecDepth 100000 in
theorem k_sIndexOf (l : Launch) (Z : Ad) (D : va_G) (T : Cy) (ρ : Nat → Nat) (sz : Nat) (S : St) {j : Nat} {ch : Int32} (hj : j < 101) (h0 : ¬ ch < 0) (h1 : ¬ 255 < ch) : MiC l Z D T ρ yJ0_indexOf_0f7a4 cJ0_indexOf_0f7a4 2 (some .int) 3 70 S S (sIx j ch) [.ref (Z.2.2.2.1 j), .int ch] sz := by
  refine x_inC (by decide) (Nat.le_of_ble_eq_true rfl) (fun p e s m below meth c ls C hr hk hcn hcw w hl => ?_)
  have hl : lv_has ls 2 [(0, .ref (Z.2.2.2.1 j)), (1, .int ch)] := hl
  refine lv_aload_n C.1 C.2.1 dJ0_indexOf_0f7a4_0 rfl (lv_at hl 0 rfl) ?_
  refine lv_iload_n C.1 C.2.1 dJ0_indexOf_0f7a4_1 rfl (lv_at hl 1 rfl) ?_
  refine lv_iconst (v := 0) C.1 C.2.1 dJ0_indexOf_0f7a4_2 (by decide) ?_
  refine x_callKi (As := [.int ch, .int 0]) (rest := []) C w hcn hcw (hcn.2.2.2.2.2.2.2.1 j hj).1 (k_sIndexOf2 l Z D T ρ s.heap.size S hj h0 h1) vJ0_633 (hRK (by decide) (by decide)) rfl rfl hl.1 (Nat.le_of_ble_eq_true rfl) ⟨Nat.zero_le _, Nat.zero_le _⟩ dJ0_indexOf_0f7a4_3 (fun ρ1 H locs hag w => ?_)
  exact x_iretM C w (Ag.rf.trans hag) hr hk dJ0_indexOf_0f7a4_6 (Nat.zero_le _) (Nat.zero_le _)
