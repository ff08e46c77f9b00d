theorem dX4_isFault_0 : decode cX4_isFault 0 = .ok (.aload_n 0, 1) := by decide +kernel
theorem dX4_isFault_1 : decode cX4_isFault 1 = .ok (.iload_n 1, 1) := by decide +kernel
theorem dX4_isFault_2 : decode cX4_isFault 2 = .ok (.invokevirtual 103, 3) := by decide +kernel
theorem dX4_isFault_5 : decode cX4_isFault 5 = .ok (.iload_n 2, 1) := by decide +kernel
theorem dX4_isFault_6 : decode cX4_isFault 6 = .ok (.aload_n 0, 1) := by decide +kernel
theorem dX4_isFault_7 : decode cX4_isFault 7 = .ok (.getfield 15, 3) := by decide +kernel
theorem dX4_isFault_10 : decode cX4_isFault 10 = .ok (.iload_n 1, 1) := by decide +kernel
theorem dX4_isFault_11 : decode cX4_isFault 11 = .ok (.iaload, 1) := by decide +kernel
theorem dX4_isFault_12 : decode cX4_isFault 12 = .ok (.isub, 1) := by decide +kernel
theorem dX4_isFault_13 : decode cX4_isFault 13 = .ok (.invokevirtual 123, 3) := by decide +kernel
theorem dX4_isFault_16 : decode cX4_isFault 16 = .ok (.istore_n 3, 1) := by decide +kernel
theorem dX4_isFault_17 : decode cX4_isFault 17 = .ok (.iload_n 3, 1) := by decide +kernel
theorem dX4_isFault_18 : decode cX4_isFault 18 = .ok (.bipush 78, 2) := by decide +kernel
theorem dX4_isFault_20 : decode cX4_isFault 20 = .ok (.if_icmp .ne 42, 3) := by decide +kernel
theorem dX4_isFault_23 : decode cX4_isFault 23 = .ok (.aload_n 0, 1) := by decide +kernel
theorem dX4_isFault_24 : decode cX4_isFault 24 = .ok (.iload_n 1, 1) := by decide +kernel
theorem dX4_isFault_25 : decode cX4_isFault 25 = .ok (.invokevirtual 113, 3) := by decide +kernel
theorem dX4_isFault_28 : decode cX4_isFault 28 = .ok (.aload_n 0, 1) := by decide +kernel
theorem dX4_isFault_29 : decode cX4_isFault 29 = .ok (.getfield 53, 3) := by decide +kernel
theorem dX4_isFault_32 : decode cX4_isFault 32 = .ok (.ifCond .le 17, 3) := by decide +kernel
theorem dX4_isFault_35 : decode cX4_isFault 35 = .ok (.aload_n 0, 1) := by decide +kernel
theorem dX4_isFault_36 : decode cX4_isFault 36 = .ok (.getfield 47, 3) := by decide +kernel
theorem dX4_isFault_39 : decode cX4_isFault 39 = .ok (.aload_n 0, 1) := by decide +kernel
theorem dX4_isFault_40 : decode cX4_isFault 40 = .ok (.getfield 53, 3) := by decide +kernel
theorem dX4_isFault_43 : decode cX4_isFault 43 = .ok (.iconst 1, 1) := by decide +kernel
theorem dX4_isFault_44 : decode cX4_isFault 44 = .ok (.isub, 1) := by decide +kernel
theorem dX4_isFault_45 : decode cX4_isFault 45 = .ok (.iaload, 1) := by decide +kernel
theorem dX4_isFault_46 : decode cX4_isFault 46 = .ok (.goto 7, 3) := by decide +kernel
theorem dX4_isFault_49 : decode cX4_isFault 49 = .ok (.aload_n 0, 1) := by decide +kernel
theorem dX4_isFault_50 : decode cX4_isFault 50 = .ok (.getfield 43, 3) := by decide +kernel
theorem dX4_isFault_53 : decode cX4_isFault 53 = .ok (.if_icmp .le 7, 3) := by decide +kernel
theorem dX4_isFault_56 : decode cX4_isFault 56 = .ok (.iconst 1, 1) := by decide +kernel
theorem dX4_isFault_57 : decode cX4_isFault 57 = .ok (.goto 4, 3) := by decide +kernel
theorem dX4_isFault_60 : decode cX4_isFault 60 = .ok (.iconst 0, 1) := by decide +kernel
theorem dX4_isFault_61 : decode cX4_isFault 61 = .ok (.ireturn, 1) := by decide +kernel
theorem dX4_isFault_62 : decode cX4_isFault 62 = .ok (.iload_n 3, 1) := by decide +kernel
theorem dX4_isFault_63 : decode cX4_isFault 63 = .ok (.bipush 118, 2) := by decide +kernel
theorem dX4_isFault_65 : decode cX4_isFault 65 = .ok (.if_icmp .eq 15, 3) := by decide +kernel
theorem dX4_isFault_68 : decode cX4_isFault 68 = .ok (.iload_n 3, 1) := by decide +kernel
theorem dX4_isFault_69 : decode cX4_isFault 69 = .ok (.bipush 119, 2) := by decide +kernel
theorem dX4_isFault_71 : decode cX4_isFault 71 = .ok (.if_icmp .eq 9, 3) := by decide +kernel
theorem dX4_isFault_74 : decode cX4_isFault 74 = .ok (.iload_n 3, 1) := by decide +kernel
theorem dX4_isFault_75 : decode cX4_isFault 75 = .ok (.bipush 66, 2) := by decide +kernel
theorem dX4_isFault_77 : decode cX4_isFault 77 = .ok (.if_icmp .ne 5, 3) := by decide +kernel
theorem dX4_isFault_80 : decode cX4_isFault 80 = .ok (.iconst 0, 1) := by decide +kernel
theorem dX4_isFault_81 : decode cX4_isFault 81 = .ok (.ireturn, 1) := by decide +kernel
theorem dX4_isFault_82 : decode cX4_isFault 82 = .ok (.aload_n 0, 1) := by decide +kernel
theorem dX4_isFault_83 : decode cX4_isFault 83 = .ok (.iload_n 2, 1) := by decide +kernel
theorem dX4_isFault_84 : decode cX4_isFault 84 = .ok (.invokevirtual 127, 3) := by decide +kernel
theorem dX4_isFault_87 : decode cX4_isFault 87 = .ok (.lstore 4, 2) := by decide +kernel
theorem dX4_isFault_89 : decode cX4_isFault 89 = .ok (.aload_n 0, 1) := by decide +kernel
theorem dX4_isFault_90 : decode cX4_isFault 90 = .ok (.getfield 56, 3) := by decide +kernel
theorem dX4_isFault_93 : decode cX4_isFault 93 = .ok (.lload 4, 2) := by decide +kernel
theorem dX4_isFault_95 : decode cX4_isFault 95 = .ok (.land, 1) := by decide +kernel
theorem dX4_isFault_96 : decode cX4_isFault 96 = .ok (.lload 4, 2) := by decide +kernel
theorem dX4_isFault_98 : decode cX4_isFault 98 = .ok (.lcmp, 1) := by decide +kernel
theorem dX4_isFault_99 : decode cX4_isFault 99 = .ok (.ifCond .eq 7, 3) := by decide +kernel
theorem dX4_isFault_102 : decode cX4_isFault 102 = .ok (.iconst 1, 1) := by decide +kernel
theorem dX4_isFault_103 : decode cX4_isFault 103 = .ok (.goto 4, 3) := by decide +kernel
theorem dX4_isFault_106 : decode cX4_isFault 106 = .ok (.iconst 0, 1) := by decide +kernel
theorem dX4_isFault_107 : decode cX4_isFault 107 = .ok (.ireturn, 1) := by decide +kernel
def m_Pg_isFault_53 (g : Nat) (S : St) (y0 : Int32) (y1 : Int32) : Option (St × Int32) :=
if y0 ≤ y1 then (
  some (S, (0 : Int32))
) else (
  some (S, (1 : Int32))
)
def m_Pg_isFault (g : Nat) (S : St) (x0 : Nat) (x1 : Int32) (x2 : Int32) : Option (St × Int32) :=
(m_Pg_sortOf g S x0 x1).bind fun e_2 =>
(aI S (50 + 8 * x0 + 1) x1).bind fun v_3 =>
lt (lett e_2 (x2 - v_3)) fun x3_5 =>
if x3_5 = (78 : Int32) then (
  (m_Pg_rangeEnd g S x0 x1).bind fun v_7 =>
  if (gI S x0 11) ≤ 0 then (
    m_Pg_isFault_53 g S v_7 (gI S x0 8)
  ) else (
    (aI S (50 + 8 * x0 + 6) ((gI S x0 11) - (1 : Int32))).bind fun v_8 =>
    m_Pg_isFault_53 g S v_7 v_8
  )
) else (
  if x3_5 = (118 : Int32) then (
    some (S, (0 : Int32))
  ) else (
    if x3_5 = (119 : Int32) then (
      some (S, (0 : Int32))
    ) else (
      if x3_5 = (66 : Int32) then (
        some (S, (0 : Int32))
      ) else (
        (m_Pg_givenBit g S x0 x2).bind fun v_6 =>
        if ((gL S x0 12) &&& v_6) = v_6 then (
          some (S, (0 : Int32))
        ) else (
          some (S, (1 : Int32))
        )
      )
    )
  )
)
theorem km_Pg_isFault_53 {g : Nat} {S : St} {y0 : Int32} {y1 : Int32} {S' : St} {r : Int32} (h : m_Pg_isFault_53 g S y0 y1 = some (S', r)) : kap S ≤ kap S' := by
  unfold m_Pg_isFault_53 at h
  have nn : nq S S := nq_rf
  by_cases hc1 : y0 ≤ y1
  · replace h := ift hc1 h
    obtain ⟨rfl, rfl⟩ := prI h
    have hkn := nq_kap nn
    omega
  · replace h := iff0 hc1 h
    obtain ⟨rfl, rfl⟩ := prI h
    have hkn := nq_kap nn
    omega
theorem km_Pg_isFault {g : Nat} {S : St} {x0 : Nat} {x1 : Int32} {x2 : Int32} {S' : St} {r : Int32} (h : m_Pg_isFault g S x0 x1 x2 = some (S', r)) : kap S ≤ kap S' := by
  unfold m_Pg_isFault at h
  have nn : nq S S := nq_rf
  obtain ⟨e_2, he_2, h⟩ := bnd h
  obtain ⟨v_3, hv_3, h⟩ := bnd h
  obtain ⟨x3_5, ex3_5, h⟩ := lt_e h
  by_cases hc1 : x3_5 = (78 : Int32)
  · replace h := ift hc1 h
    obtain ⟨v_7, hv_7, h⟩ := bnd h
    by_cases hc2 : (gI S x0 11) ≤ 0
    · replace h := ift hc2 h
      have hkn := nq_kap nn
      have h2 := km_Pg_isFault_53 h
      omega
    · replace h := iff0 hc2 h
      obtain ⟨v_8, hv_8, h⟩ := bnd h
      have hkn := nq_kap nn
      have h2 := km_Pg_isFault_53 h
      omega
  · replace h := iff0 hc1 h
    by_cases hc3 : x3_5 = (118 : Int32)
    · replace h := ift hc3 h
      obtain ⟨rfl, rfl⟩ := prI h
      have hkn := nq_kap nn
      omega
    · replace h := iff0 hc3 h
      by_cases hc4 : x3_5 = (119 : Int32)
      · replace h := ift hc4 h
        obtain ⟨rfl, rfl⟩ := prI h
        have hkn := nq_kap nn
        omega
      · replace h := iff0 hc4 h
        by_cases hc5 : x3_5 = (66 : Int32)
        · replace h := ift hc5 h
          obtain ⟨rfl, rfl⟩ := prI h
          have hkn := nq_kap nn
          omega
        · replace h := iff0 hc5 h
          obtain ⟨v_6, hv_6, h⟩ := bnd h
          by_cases hc6 : ((gL S x0 12) &&& v_6) = v_6
          · replace h := ift hc6 h
            obtain ⟨rfl, rfl⟩ := prI h
            have hkn := nq_kap nn
            omega
          · replace h := iff0 hc6 h
            obtain ⟨rfl, rfl⟩ := prI h
            have hkn := nq_kap nn
            omega
section S_Pg_isFault
variable {p : Program} {l : Launch} {e : Env} {s : State} {m : MethodId} {args : Array Value} {below : List Frame} {meth : Method} {c : Code} {H : Heap} {locs : List Loc} {ls : Array Slot} {D : va_G} {T : Cy} {ρ ρ0 : Nat → Nat} {S0 : St} {A : Nat → Prop} {Z : Ad}
set_option maxRecDepth 100000 in
set_option maxHeartbeats 4000000 in
theorem w_Pg_isFault_53 {g : Nat} {S : St} {y0 : Int32} {y1 : Int32} (C : CallFix p m c cX4_isFault 6 s args tb RX4) (hr : meth.sig.returnType = (some .boolean)) (hk : meth.locks = false) (hcn : Kn Z A s s.heap) (hcw : Kw Z s) {S' : St} {r : Int32} (ha : Ag ρ0 ρ) (hm : kap S0 ≤ kap S) (w : Wn Yc D T ρ S A s H locs) (hl : lv_has ls 6 []) (h : m_Pg_isFault_53 g S y0 y1 = some (S', r)) : W p l e (rmK 5 106 (kap S' - kap S0)) s m args below meth c H locs (kap S - kap S0) (2 * (kap S - kap S0)) (MQ below (QiM D T ρ0 A S' r) args s (kap S' - kap S0) (2 * (kap S' - kap S0)) A) (F0 m 53 ls [.int y1, .int y0]) := by
  have hT := km_Pg_isFault_53 h
  unfold m_Pg_isFault_53 at h
  have nn : nq S S := nq_rf
  refine lv_icmp_le (tgt := 60) C.1 C.2.1 dX4_isFault_53 (by decide) (fun hc => ?_) (fun hc => ?_)
  · replace h := ift hc h
    refine lv_iconst (v := 0) C.1 C.2.1 dX4_isFault_60 (by decide) ?_
    obtain ⟨rfl, rfl⟩ := prI h
    exact x_zretM C w ha hr hk (by decide) dX4_isFault_61 (by have := nq_kap nn; omega) (by have := nq_kap nn; omega)
  · replace h := iff0 hc h
    refine lv_iconst (v := 1) C.1 C.2.1 dX4_isFault_56 (by decide) ?_
    refine lv_goto (tgt := 61) C.1 C.2.1 dX4_isFault_57 (by decide) ?_
    obtain ⟨rfl, rfl⟩ := prI h
    exact x_zretM C w ha hr hk (by decide) dX4_isFault_61 (by have := nq_kap nn; omega) (by have := nq_kap nn; omega)
set_option maxRecDepth 100000 in
set_option maxHeartbeats 4000000 in
theorem w_Pg_isFault_0 {g : Nat} {S : St} {x0 : Nat} {x1 : Int32} {x2 : Int32} (C : CallFix p m c cX4_isFault 6 s args tb RX4) (hr : meth.sig.returnType = (some .boolean)) (hk : meth.locks = false) (hcn : Kn Z A s s.heap) (hcw : Kw Z s) {S' : St} {r : Int32} (ha : Ag ρ0 ρ) (hm : kap S0 ≤ kap S) (w : Wn Yc D T ρ S A s H locs) (hl : lv_has ls 6 [(0, .ref (ρ x0)), (1, .int x1), (2, .int x2)]) (ho_x0 : Ob Yc x0 2) (h : m_Pg_isFault g S x0 x1 x2 = some (S', r)) : W p l e (rmK 5 106 (kap S' - kap S0)) s m args below meth c H locs (kap S - kap S0) (2 * (kap S - kap S0)) (MQ below (QiM D T ρ0 A S' r) args s (kap S' - kap S0) (2 * (kap S' - kap S0)) A) (F0 m 0 ls []) := by
  have hT := km_Pg_isFault h
  unfold m_Pg_isFault at h
  have nn : nq S S := nq_rf
  refine lv_aload_n C.1 C.2.1 dX4_isFault_0 rfl (lv_at hl 0 rfl) ?_
  refine lv_iload_n C.1 C.2.1 dX4_isFault_1 rfl (lv_at hl 1 rfl) ?_
  obtain ⟨e_2, he_2, h⟩ := bnd h
  refine x_callVeC (q := (RX4, TX4, 16)) (As := [.int x1]) (rest := []) C w hcn hcw (k_Pg_sortOf l Z D T ρ g H.size S ho_x0 he_2) vX4_103 (hRK (by decide) (by decide)) ho_x0 (by decide) rfl rfl rfl hl.1 (Nat.le_of_ble_eq_true rfl) (hcK hT) dX4_isFault_2 (fun ρ_1 H locs hag w => ?_)
  replace ha := ha.trans hag
  rw [← hag x0 (ncP ho_x0)] at hl
  refine lv_iload_n C.1 C.2.1 dX4_isFault_5 rfl (lv_at hl 2 rfl) ?_
  refine lv_aload_n C.1 C.2.1 dX4_isFault_6 rfl (lv_at hl 0 rfl) ?_
  refine x_getC C w (50 + 8 * x0 + 1) fX4_15 ho_x0 (crP1 ho_x0) dX4_isFault_7 ?_
  refine lv_iload_n C.1 C.2.1 dX4_isFault_10 rfl (lv_at hl 1 rfl) ?_
  obtain ⟨v_3, hv_3, h⟩ := bnd h
  refine x_iald C w (obP1 ho_x0) hv_3 dX4_isFault_11 ?_
  refine lv_isub C.1 C.2.1 dX4_isFault_12 ?_
  refine x_callKi (As := [.int (x2 - v_3)]) (rest := []) C w hcn hcw (hcn.1.1 _ (by rw [smN_len]; exact (so_lt he_2))).2.1 (k_So_letter l Z D T ρ_1 H.size S (so_lt he_2)) vX4_123 (hRK (by decide) (by decide)) rfl rfl hl.1 (Nat.le_of_ble_eq_true rfl) (hcK hT) dX4_isFault_13 (fun ρ_4 H locs hag w => ?_)
  replace ha := ha.trans hag
  rw [← hag x0 (ncP ho_x0)] at hl
  obtain ⟨x3_5, ex3_5, h⟩ := lt_e h
  refine x_nm ex3_5 ?_
  refine lv_istore_n (lv' := [(3, .int x3_5), (0, .ref (ρ_4 x0)), (1, .int x1), (2, .int x2)]) C.1 C.2.1 dX4_isFault_16 rfl hl (by decide) rfl (fun ls hl => ?_)
  refine lv_iload_n C.1 C.2.1 dX4_isFault_17 rfl (lv_at hl 0 rfl) ?_
  refine lv_bipush (v := 78) C.1 C.2.1 dX4_isFault_18 (by decide) ?_
  refine lv_icmp_ne (tgt := 62) C.1 C.2.1 dX4_isFault_20 (by decide) (fun hc => ?_) (fun hc => ?_)
  · replace h := iff0 hc h
    refine lv_iload_n C.1 C.2.1 dX4_isFault_62 rfl (lv_at hl 0 rfl) ?_
    refine lv_bipush (v := 118) C.1 C.2.1 dX4_isFault_63 (by decide) ?_
    refine lv_icmp_eq (tgt := 80) C.1 C.2.1 dX4_isFault_65 (by decide) (fun hc => ?_) (fun hc => ?_)
    · replace h := ift hc h
      refine lv_iconst (v := 0) C.1 C.2.1 dX4_isFault_80 (by decide) ?_
      obtain ⟨rfl, rfl⟩ := prI h
      exact x_zretM C w ha hr hk (by decide) dX4_isFault_81 (by have := nq_kap nn; omega) (by have := nq_kap nn; omega)
    · replace h := iff0 hc h
      refine lv_iload_n C.1 C.2.1 dX4_isFault_68 rfl (lv_at hl 0 rfl) ?_
      refine lv_bipush (v := 119) C.1 C.2.1 dX4_isFault_69 (by decide) ?_
      refine lv_icmp_eq (tgt := 80) C.1 C.2.1 dX4_isFault_71 (by decide) (fun hc => ?_) (fun hc => ?_)
      · replace h := ift hc h
        refine lv_iconst (v := 0) C.1 C.2.1 dX4_isFault_80 (by decide) ?_
        obtain ⟨rfl, rfl⟩ := prI h
        exact x_zretM C w ha hr hk (by decide) dX4_isFault_81 (by have := nq_kap nn; omega) (by have := nq_kap nn; omega)
      · replace h := iff0 hc h
        refine lv_iload_n C.1 C.2.1 dX4_isFault_74 rfl (lv_at hl 0 rfl) ?_
        refine lv_bipush (v := 66) C.1 C.2.1 dX4_isFault_75 (by decide) ?_
        refine lv_icmp_ne (tgt := 82) C.1 C.2.1 dX4_isFault_77 (by decide) (fun hc => ?_) (fun hc => ?_)
        · replace h := iff0 hc h
          refine lv_aload_n C.1 C.2.1 dX4_isFault_82 rfl (lv_at hl 1 rfl) ?_
          refine lv_iload_n C.1 C.2.1 dX4_isFault_83 rfl (lv_at hl 3 rfl) ?_
          obtain ⟨v_6, hv_6, h⟩ := bnd h
          refine x_callVj (q := (RX4, TX4, 16)) (As := [.int x2]) (rest := []) C w (k_Pg_givenBit l D T ρ_4 g H.size S ho_x0 hv_6) vX4_127 (hRK (by decide) (by decide)) ho_x0 (by decide) rfl rfl rfl hl.1 (Nat.le_of_ble_eq_true rfl) (hcK hT) dX4_isFault_84 (fun H locs w => ?_)
          refine lv_lstore (lv' := [(4, .long v_6), (3, .int x3_5), (0, .ref (ρ_4 x0)), (1, .int x1), (2, .int x2)]) C.1 C.2.1 dX4_isFault_87 hl (by decide) rfl (fun ls hl => ?_)
          refine lv_aload_n C.1 C.2.1 dX4_isFault_89 rfl (lv_at hl 2 rfl) ?_
          refine x_getL C w fX4_56 ho_x0 dX4_isFault_90 ?_
          refine lv_lload C.1 C.2.1 dX4_isFault_93 (lv_at hl 0 rfl) ?_
          refine lv_land C.1 C.2.1 dX4_isFault_95 ?_
          refine lv_lload C.1 C.2.1 dX4_isFault_96 (lv_at hl 0 rfl) ?_
          refine x_l_eq (tgt := 106) C dX4_isFault_98 dX4_isFault_99 (by decide) (fun hc => ?_) (fun hc => ?_)
          · replace h := ift hc h
            refine lv_iconst (v := 0) C.1 C.2.1 dX4_isFault_106 (by decide) ?_
            obtain ⟨rfl, rfl⟩ := prI h
            exact x_zretM C w ha hr hk (by decide) dX4_isFault_107 (by have := nq_kap nn; omega) (by have := nq_kap nn; omega)
          · replace h := iff0 hc h
            refine lv_iconst (v := 1) C.1 C.2.1 dX4_isFault_102 (by decide) ?_
            refine lv_goto (tgt := 107) C.1 C.2.1 dX4_isFault_103 (by decide) ?_
            obtain ⟨rfl, rfl⟩ := prI h
            exact x_zretM C w ha hr hk (by decide) dX4_isFault_107 (by have := nq_kap nn; omega) (by have := nq_kap nn; omega)
        · replace h := ift hc h
          refine lv_iconst (v := 0) C.1 C.2.1 dX4_isFault_80 (by decide) ?_
          obtain ⟨rfl, rfl⟩ := prI h
          exact x_zretM C w ha hr hk (by decide) dX4_isFault_81 (by have := nq_kap nn; omega) (by have := nq_kap nn; omega)
  · replace h := ift hc h
    refine lv_aload_n C.1 C.2.1 dX4_isFault_23 rfl (lv_at hl 1 rfl) ?_
    refine lv_iload_n C.1 C.2.1 dX4_isFault_24 rfl (lv_at hl 2 rfl) ?_
    obtain ⟨v_7, hv_7, h⟩ := bnd h
    refine x_callVi (q := (RX4, TX4, 16)) (As := [.int x1]) (rest := []) C w (k_Pg_rangeEnd l D T ρ_4 g H.size S ho_x0 hv_7) vX4_113 (hRK (by decide) (by decide)) ho_x0 (by decide) rfl rfl rfl hl.1 (Nat.le_of_ble_eq_true rfl) (hcK hT) dX4_isFault_25 (fun H locs w => ?_)
    refine lv_aload_n C.1 C.2.1 dX4_isFault_28 rfl (lv_at hl 1 rfl) ?_
    refine x_getI C w fX4_53 ho_x0 dX4_isFault_29 ?_
    refine lv_if_le (tgt := 49) C.1 C.2.1 dX4_isFault_32 (by decide) (fun hc => ?_) (fun hc => ?_)
    · replace h := ift hc h
      refine lv_aload_n C.1 C.2.1 dX4_isFault_49 rfl (lv_at hl 1 rfl) ?_
      refine x_getI C w fX4_43 ho_x0 dX4_isFault_50 ?_
      have hkn := nq_kap nn
      refine W.widen (k := kap S - kap S0) (n := 2 * (kap S - kap S0)) (by omega) (by omega) ?_
      exact w_Pg_isFault_53 C hr hk hcn hcw ha (by omega) w (lv_sub hl [] rfl) h
    · replace h := iff0 hc h
      refine lv_aload_n C.1 C.2.1 dX4_isFault_35 rfl (lv_at hl 1 rfl) ?_
      refine x_getC C w (50 + 8 * x0 + 6) fX4_47 ho_x0 (crP9 ho_x0) dX4_isFault_36 ?_
      refine lv_aload_n C.1 C.2.1 dX4_isFault_39 rfl (lv_at hl 1 rfl) ?_
      refine x_getI C w fX4_53 ho_x0 dX4_isFault_40 ?_
      refine lv_iconst (v := 1) C.1 C.2.1 dX4_isFault_43 (by decide) ?_
      refine lv_isub C.1 C.2.1 dX4_isFault_44 ?_
      obtain ⟨v_8, hv_8, h⟩ := bnd h
      refine x_iald C w (obP9 ho_x0) hv_8 dX4_isFault_45 ?_
      refine lv_goto (tgt := 53) C.1 C.2.1 dX4_isFault_46 (by decide) ?_
      have hkn := nq_kap nn
      refine W.widen (k := kap S - kap S0) (n := 2 * (kap S - kap S0)) (by omega) (by omega) ?_
      exact w_Pg_isFault_53 C hr hk hcn hcw ha (by omega) w (lv_sub hl [] rfl) h
end S_Pg_isFault
set_option maxRecDepth 100000 in
theorem k_Pg_isFault (l : Launch) (Z : Ad) (D : va_G) (T : Cy) (ρ : Nat → Nat) (g sz : Nat) (S : St) {x0 : Nat} {x1 : Int32} {x2 : Int32} (ho_x0 : Ob Yc x0 2) {S' : St} {r : Int32} (h : m_Pg_isFault g S x0 x1 x2 = some (S', r)) : MiC l Z D T ρ yX4_isFault cX4_isFault 6 (some .boolean) 5 106 S S' r [.ref (ρ x0), .int x1, .int x2] sz :=
  x_inC (by decide) (Nat.le_of_ble_eq_true rfl) (fun p e s m below meth c ls C hr hk hcn hcw w hl => W.widen (Nat.zero_le _) (Nat.zero_le _) (w_Pg_isFault_0 C hr hk hcn hcw Ag.rf (Nat.le_refl _) w hl ho_x0 h))

theorem dX4_passStep_0 : decode cX4_passStep 0 = .ok (.aload_n 0, 1) := by decide +kernel
theorem dX4_passStep_1 : decode cX4_passStep 1 = .ok (.iload_n 1, 1) := by decide +kernel
theorem dX4_passStep_2 : decode cX4_passStep 2 = .ok (.invokevirtual 103, 3) := by decide +kernel
theorem dX4_passStep_5 : decode cX4_passStep 5 = .ok (.astore_n 2, 1) := by decide +kernel
theorem dX4_passStep_6 : decode cX4_passStep 6 = .ok (.aload_n 2, 1) := by decide +kernel
theorem dX4_passStep_7 : decode cX4_passStep 7 = .ok (.invokevirtual 131, 3) := by decide +kernel
theorem dX4_passStep_10 : decode cX4_passStep 10 = .ok (.ifCond .eq 16, 3) := by decide +kernel
theorem dX4_passStep_13 : decode cX4_passStep 13 = .ok (.aload_n 0, 1) := by decide +kernel
theorem dX4_passStep_14 : decode cX4_passStep 14 = .ok (.aload_n 0, 1) := by decide +kernel
theorem dX4_passStep_15 : decode cX4_passStep 15 = .ok (.getfield 15, 3) := by decide +kernel
theorem dX4_passStep_18 : decode cX4_passStep 18 = .ok (.iload_n 1, 1) := by decide +kernel
theorem dX4_passStep_19 : decode cX4_passStep 19 = .ok (.iaload, 1) := by decide +kernel
theorem dX4_passStep_20 : decode cX4_passStep 20 = .ok (.invokevirtual 127, 3) := by decide +kernel
theorem dX4_passStep_23 : decode cX4_passStep 23 = .ok (.goto 4, 3) := by decide +kernel
theorem dX4_passStep_26 : decode cX4_passStep 26 = .ok (.lconst 0, 1) := by decide +kernel
theorem dX4_passStep_27 : decode cX4_passStep 27 = .ok (.lstore_n 3, 1) := by decide +kernel
theorem dX4_passStep_28 : decode cX4_passStep 28 = .ok (.aload_n 2, 1) := by decide +kernel
theorem dX4_passStep_29 : decode cX4_passStep 29 = .ok (.invokevirtual 107, 3) := by decide +kernel
theorem dX4_passStep_32 : decode cX4_passStep 32 = .ok (.ifCond .ne 16, 3) := by decide +kernel
theorem dX4_passStep_35 : decode cX4_passStep 35 = .ok (.aload_n 0, 1) := by decide +kernel
theorem dX4_passStep_36 : decode cX4_passStep 36 = .ok (.dup, 1) := by decide +kernel
theorem dX4_passStep_37 : decode cX4_passStep 37 = .ok (.getfield 56, 3) := by decide +kernel
theorem dX4_passStep_40 : decode cX4_passStep 40 = .ok (.lload_n 3, 1) := by decide +kernel
theorem dX4_passStep_41 : decode cX4_passStep 41 = .ok (.lor, 1) := by decide +kernel
theorem dX4_passStep_42 : decode cX4_passStep 42 = .ok (.putfield 56, 3) := by decide +kernel
theorem dX4_passStep_45 : decode cX4_passStep 45 = .ok (.goto 51, 3) := by decide +kernel
theorem dX4_passStep_48 : decode cX4_passStep 48 = .ok (.aload_n 0, 1) := by decide +kernel
theorem dX4_passStep_49 : decode cX4_passStep 49 = .ok (.getfield 53, 3) := by decide +kernel
theorem dX4_passStep_52 : decode cX4_passStep 52 = .ok (.bipush 60, 2) := by decide +kernel
theorem dX4_passStep_54 : decode cX4_passStep 54 = .ok (.if_icmp .ge 42, 3) := by decide +kernel
theorem dX4_passStep_57 : decode cX4_passStep 57 = .ok (.aload_n 0, 1) := by decide +kernel
theorem dX4_passStep_58 : decode cX4_passStep 58 = .ok (.getfield 47, 3) := by decide +kernel
theorem dX4_passStep_61 : decode cX4_passStep 61 = .ok (.aload_n 0, 1) := by decide +kernel
theorem dX4_passStep_62 : decode cX4_passStep 62 = .ok (.getfield 53, 3) := by decide +kernel
theorem dX4_passStep_65 : decode cX4_passStep 65 = .ok (.aload_n 0, 1) := by decide +kernel
theorem dX4_passStep_66 : decode cX4_passStep 66 = .ok (.iload_n 1, 1) := by decide +kernel
theorem dX4_passStep_67 : decode cX4_passStep 67 = .ok (.invokevirtual 113, 3) := by decide +kernel
theorem dX4_passStep_70 : decode cX4_passStep 70 = .ok (.iastore, 1) := by decide +kernel
theorem dX4_passStep_71 : decode cX4_passStep 71 = .ok (.aload_n 0, 1) := by decide +kernel
theorem dX4_passStep_72 : decode cX4_passStep 72 = .ok (.getfield 50, 3) := by decide +kernel
theorem dX4_passStep_75 : decode cX4_passStep 75 = .ok (.aload_n 0, 1) := by decide +kernel
theorem dX4_passStep_76 : decode cX4_passStep 76 = .ok (.getfield 53, 3) := by decide +kernel
theorem dX4_passStep_79 : decode cX4_passStep 79 = .ok (.aload_n 0, 1) := by decide +kernel
theorem dX4_passStep_80 : decode cX4_passStep 80 = .ok (.getfield 56, 3) := by decide +kernel
theorem dX4_passStep_83 : decode cX4_passStep 83 = .ok (.lload_n 3, 1) := by decide +kernel
theorem dX4_passStep_84 : decode cX4_passStep 84 = .ok (.lor, 1) := by decide +kernel
theorem dX4_passStep_85 : decode cX4_passStep 85 = .ok (.lastore, 1) := by decide +kernel
theorem dX4_passStep_86 : decode cX4_passStep 86 = .ok (.aload_n 0, 1) := by decide +kernel
theorem dX4_passStep_87 : decode cX4_passStep 87 = .ok (.dup, 1) := by decide +kernel
theorem dX4_passStep_88 : decode cX4_passStep 88 = .ok (.getfield 53, 3) := by decide +kernel
theorem dX4_passStep_91 : decode cX4_passStep 91 = .ok (.iconst 1, 1) := by decide +kernel
theorem dX4_passStep_92 : decode cX4_passStep 92 = .ok (.iadd, 1) := by decide +kernel
theorem dX4_passStep_93 : decode cX4_passStep 93 = .ok (.putfield 53, 3) := by decide +kernel
theorem dX4_passStep_96 : decode cX4_passStep 96 = .ok (.return_, 1) := by decide +kernel
def m_Pg_passStep_27 (g : Nat) (S : St) (x0 : Nat) (x1 : Int32) (x2 : Nat) (y0 : Int64) : Option St :=
if (opn x2) = 0 then (
  lt (sL S x0 12 ((gL S x0 12) ||| y0)) fun S_9 =>
  some S_9
) else (
  if (60 : Int32) ≤ (gI S x0 11) then (
    some S
  ) else (
    (m_Pg_rangeEnd g S x0 x1).bind fun v_5 =>
    (tI S (50 + 8 * x0 + 6) (gI S x0 11) v_5).bind fun S_6 =>
    (tJ S_6 (50 + 8 * x0 + 7) (gI S_6 x0 11) ((gL S_6 x0 12) ||| y0)).bind fun S_7 =>
    lt (sI S_7 x0 11 ((gI S_7 x0 11) + (1 : Int32))) fun S_8 =>
    some S_8
  )
)
def m_Pg_passStep (g : Nat) (S : St) (x0 : Nat) (x1 : Int32) : Option St :=
(m_Pg_sortOf g S x0 x1).bind fun e_2 =>
if (giv e_2) = 0 then (
  m_Pg_passStep_27 g S x0 x1 e_2 (0 : Int64)
) else (
  (aI S (50 + 8 * x0 + 1) x1).bind fun v_4 =>
  (m_Pg_givenBit g S x0 v_4).bind fun v_5 =>
  m_Pg_passStep_27 g S x0 x1 e_2 v_5
)
theorem km_Pg_passStep_27 {g : Nat} {S : St} {x0 : Nat} {x1 : Int32} {x2 : Nat} {y0 : Int64} {S' : St} (h : m_Pg_passStep_27 g S x0 x1 x2 y0 = some S') : kap S ≤ kap S' := by
  unfold m_Pg_passStep_27 at h
  have nn : nq S S := nq_rf
  by_cases hc1 : (opn x2) = 0
  · replace h := ift hc1 h
    obtain ⟨S_9, eS_9, h⟩ := lt_e h
    replace nn : nq S_9 S := nq_tr (by rw [eS_9]; rfl) nn
    obtain rfl := som h
    have hkn := nq_kap nn
    omega
  · replace h := iff0 hc1 h
    by_cases hc2 : (60 : Int32) ≤ (gI S x0 11)
    · replace h := ift hc2 h
      obtain rfl := som h
      have hkn := nq_kap nn
      omega
    · replace h := iff0 hc2 h
      obtain ⟨v_5, hv_5, h⟩ := bnd h
      obtain ⟨S_6, hS_6, h⟩ := bnd h
      replace nn : nq S_6 S := nq_tr (nq_tI hS_6) nn
      obtain ⟨S_7, hS_7, h⟩ := bnd h
      replace nn : nq S_7 S := nq_tr (nq_tJ hS_7) nn
      obtain ⟨S_8, eS_8, h⟩ := lt_e h
      replace nn : nq S_8 S := nq_tr (by rw [eS_8]; rfl) nn
      obtain rfl := som h
      have hkn := nq_kap nn
      omega
theorem km_Pg_passStep {g : Nat} {S : St} {x0 : Nat} {x1 : Int32} {S' : St} (h : m_Pg_passStep g S x0 x1 = some S') : kap S ≤ kap S' := by
  unfold m_Pg_passStep at h
  have nn : nq S S := nq_rf
  obtain ⟨e_2, he_2, h⟩ := bnd h
  by_cases hc1 : (giv e_2) = 0
  · replace h := ift hc1 h
    have hkn := nq_kap nn
    have h2 := km_Pg_passStep_27 h
    omega
  · replace h := iff0 hc1 h
    obtain ⟨v_4, hv_4, h⟩ := bnd h
    obtain ⟨v_5, hv_5, h⟩ := bnd h
    have hkn := nq_kap nn
    have h2 := km_Pg_passStep_27 h
    omega
section S_Pg_passStep
variable {p : Program} {l : Launch} {e : Env} {s : State} {m : MethodId} {args : Array Value} {below : List Frame} {meth : Method} {c : Code} {H : Heap} {locs : List Loc} {ls : Array Slot} {D : va_G} {T : Cy} {ρ ρ0 : Nat → Nat} {S0 : St} {A : Nat → Prop} {Z : Ad}
set_option maxRecDepth 100000 in
set_option maxHeartbeats 4000000 in
theorem w_Pg_passStep_27 {g : Nat} {S : St} {x0 : Nat} {x1 : Int32} {x2 : Nat} {y0 : Int64} (C : CallFix p m c cX4_passStep 5 s args tb RX4) (hr : meth.sig.returnType = none) (hk : meth.locks = false) (hcn : Kn Z A s s.heap) (hcw : Kw Z s) {S' : St} (ha : Ag ρ0 ρ) (hm : kap S0 ≤ kap S) (w : Wn Yc D T ρ S A s H locs) (hl : lv_has ls 5 [(0, .ref (ρ x0)), (1, .int x1), (2, .ref (Z.1 x2))]) (ho_x0 : Ob Yc x0 2) (ho_x2 : x2 < 56) (h : m_Pg_passStep_27 g S x0 x1 x2 y0 = some S') : W p l e (rmK 6 127 (kap S' - kap S0)) s m args below meth c H locs (kap S - kap S0) (2 * (kap S - kap S0)) (MQ below (QvM D T ρ0 A S') args s (kap S' - kap S0) (2 * (kap S' - kap S0)) A) (F0 m 27 ls [.long y0]) := by
  have hT := km_Pg_passStep_27 h
  unfold m_Pg_passStep_27 at h
  have nn : nq S S := nq_rf
  refine lv_lstore_n (lv' := [(3, .long y0), (0, .ref (ρ x0)), (1, .int x1), (2, .ref (Z.1 x2))]) C.1 C.2.1 dX4_passStep_27 rfl hl (by decide) rfl (fun ls hl => ?_)
  refine lv_aload_n C.1 C.2.1 dX4_passStep_28 rfl (lv_at hl 3 rfl) ?_
  refine x_callKi (As := []) (rest := []) C w hcn hcw (hcn.1.1 _ (by rw [smN_len]; exact ho_x2)).2.1 (k_So_opensRange l Z D T ρ H.size S ho_x2) vX4_107 (hRK (by decide) (by decide)) rfl rfl hl.1 (Nat.le_of_ble_eq_true rfl) (hcK hT) dX4_passStep_29 (fun ρ_4 H locs hag w => ?_)
  replace ha := ha.trans hag
  rw [← hag x0 (ncP ho_x0)] at hl
  refine lv_if_ne (tgt := 48) C.1 C.2.1 dX4_passStep_32 (by decide) (fun hc => ?_) (fun hc => ?_)
  · replace h := iff0 hc h
    refine lv_aload_n C.1 C.2.1 dX4_passStep_48 rfl (lv_at hl 1 rfl) ?_
    refine x_getI C w fX4_53 ho_x0 dX4_passStep_49 ?_
    refine lv_bipush (v := 60) C.1 C.2.1 dX4_passStep_52 (by decide) ?_
    refine lv_icmp_ge (tgt := 96) C.1 C.2.1 dX4_passStep_54 (by decide) (fun hc => ?_) (fun hc => ?_)
    · replace h := ift hc h
      obtain rfl := som h
      exact x_vretM C w ha hr hk dX4_passStep_96 (by have := nq_kap nn; omega) (by have := nq_kap nn; omega)
    · replace h := iff0 hc h
      refine lv_aload_n C.1 C.2.1 dX4_passStep_57 rfl (lv_at hl 1 rfl) ?_
      refine x_getC C w (50 + 8 * x0 + 6) fX4_47 ho_x0 (crP9 ho_x0) dX4_passStep_58 ?_
      refine lv_aload_n C.1 C.2.1 dX4_passStep_61 rfl (lv_at hl 1 rfl) ?_
      refine x_getI C w fX4_53 ho_x0 dX4_passStep_62 ?_
      refine lv_aload_n C.1 C.2.1 dX4_passStep_65 rfl (lv_at hl 1 rfl) ?_
      refine lv_iload_n C.1 C.2.1 dX4_passStep_66 rfl (lv_at hl 2 rfl) ?_
      obtain ⟨v_5, hv_5, h⟩ := bnd h
      refine x_callVi (q := (RX4, TX4, 16)) (As := [.int x1]) (rest := [.int (gI S x0 11), .ref (ρ_4 (50 + 8 * x0 + 6))]) C w (k_Pg_rangeEnd l D T ρ_4 g H.size S ho_x0 hv_5) vX4_113 (hRK (by decide) (by decide)) ho_x0 (by decide) rfl rfl rfl hl.1 (Nat.le_of_ble_eq_true rfl) (hcK hT) dX4_passStep_67 (fun H locs w => ?_)
      obtain ⟨S_6, hS_6, h⟩ := bnd h
      replace nn : nq S_6 S := nq_tr (nq_tI hS_6) nn
      refine x_iast C w (obP9 ho_x0) hS_6 dX4_passStep_70 (fun H locs w => ?_)
      refine lv_aload_n C.1 C.2.1 dX4_passStep_71 rfl (lv_at hl 1 rfl) ?_
      refine x_getC C w (50 + 8 * x0 + 7) fX4_50 ho_x0 (crP10 ho_x0) dX4_passStep_72 ?_
      refine lv_aload_n C.1 C.2.1 dX4_passStep_75 rfl (lv_at hl 1 rfl) ?_
      refine x_getI C w fX4_53 ho_x0 dX4_passStep_76 ?_
      refine lv_aload_n C.1 C.2.1 dX4_passStep_79 rfl (lv_at hl 1 rfl) ?_
      refine x_getL C w fX4_56 ho_x0 dX4_passStep_80 ?_
      refine lv_lload_n C.1 C.2.1 dX4_passStep_83 rfl (lv_at hl 0 rfl) ?_
      refine lv_lor C.1 C.2.1 dX4_passStep_84 ?_
      obtain ⟨S_7, hS_7, h⟩ := bnd h
      replace nn : nq S_7 S := nq_tr (nq_tJ hS_7) nn
      refine x_last C w (obP10 ho_x0) hS_7 dX4_passStep_85 (fun H locs w => ?_)
      refine lv_aload_n C.1 C.2.1 dX4_passStep_86 rfl (lv_at hl 1 rfl) ?_
      refine lv_dup C.1 C.2.1 dX4_passStep_87 rfl ?_
      refine x_getI C w fX4_53 ho_x0 dX4_passStep_88 ?_
      refine lv_iconst (v := 1) C.1 C.2.1 dX4_passStep_91 (by decide) ?_
      refine lv_iadd C.1 C.2.1 dX4_passStep_92 ?_
      obtain ⟨S_8, eS_8, h⟩ := lt_e h
      replace nn : nq S_8 S := nq_tr (by rw [eS_8]; rfl) nn
      refine y_putI C w eS_8 fX4_53 pX4_11 ho_x0 dX4_passStep_93 (fun H locs w => ?_)
      obtain rfl := som h
      exact x_vretM C w ha hr hk dX4_passStep_96 (by have := nq_kap nn; omega) (by have := nq_kap nn; omega)
  · replace h := ift hc h
    refine lv_aload_n C.1 C.2.1 dX4_passStep_35 rfl (lv_at hl 1 rfl) ?_
    refine lv_dup C.1 C.2.1 dX4_passStep_36 rfl ?_
    refine x_getL C w fX4_56 ho_x0 dX4_passStep_37 ?_
    refine lv_lload_n C.1 C.2.1 dX4_passStep_40 rfl (lv_at hl 0 rfl) ?_
    refine lv_lor C.1 C.2.1 dX4_passStep_41 ?_
    obtain ⟨S_9, eS_9, h⟩ := lt_e h
    replace nn : nq S_9 S := nq_tr (by rw [eS_9]; rfl) nn
    refine y_putL C w eS_9 fX4_56 pX4_12 ho_x0 dX4_passStep_42 (fun H locs w => ?_)
    refine lv_goto (tgt := 96) C.1 C.2.1 dX4_passStep_45 (by decide) ?_
    obtain rfl := som h
    exact x_vretM C w ha hr hk dX4_passStep_96 (by have := nq_kap nn; omega) (by have := nq_kap nn; omega)
set_option maxRecDepth 100000 in
set_option maxHeartbeats 4000000 in
theorem w_Pg_passStep_0 {g : Nat} {S : St} {x0 : Nat} {x1 : Int32} (C : CallFix p m c cX4_passStep 5 s args tb RX4) (hr : meth.sig.returnType = none) (hk : meth.locks = false) (hcn : Kn Z A s s.heap) (hcw : Kw Z s) {S' : St} (ha : Ag ρ0 ρ) (hm : kap S0 ≤ kap S) (w : Wn Yc D T ρ S A s H locs) (hl : lv_has ls 5 [(0, .ref (ρ x0)), (1, .int x1)]) (ho_x0 : Ob Yc x0 2) (h : m_Pg_passStep g S x0 x1 = some S') : W p l e (rmK 6 127 (kap S' - kap S0)) s m args below meth c H locs (kap S - kap S0) (2 * (kap S - kap S0)) (MQ below (QvM D T ρ0 A S') args s (kap S' - kap S0) (2 * (kap S' - kap S0)) A) (F0 m 0 ls []) := by
  have hT := km_Pg_passStep h
  unfold m_Pg_passStep at h
  have nn : nq S S := nq_rf
  refine lv_aload_n C.1 C.2.1 dX4_passStep_0 rfl (lv_at hl 0 rfl) ?_
  refine lv_iload_n C.1 C.2.1 dX4_passStep_1 rfl (lv_at hl 1 rfl) ?_
  obtain ⟨e_2, he_2, h⟩ := bnd h
  refine x_callVeC (q := (RX4, TX4, 16)) (As := [.int x1]) (rest := []) C w hcn hcw (k_Pg_sortOf l Z D T ρ g H.size S ho_x0 he_2) vX4_103 (hRK (by decide) (by decide)) ho_x0 (by decide) rfl rfl rfl hl.1 (Nat.le_of_ble_eq_true rfl) (hcK hT) dX4_passStep_2 (fun ρ_1 H locs hag w => ?_)
  replace ha := ha.trans hag
  rw [← hag x0 (ncP ho_x0)] at hl
  refine lv_astore_n (lv' := [(2, .ref (Z.1 e_2)), (0, .ref (ρ_1 x0)), (1, .int x1)]) C.1 C.2.1 dX4_passStep_5 rfl hl (by decide) rfl (fun ls hl => ?_)
  refine lv_aload_n C.1 C.2.1 dX4_passStep_6 rfl (lv_at hl 0 rfl) ?_
  refine x_callKi (As := []) (rest := []) C w hcn hcw (hcn.1.1 _ (by rw [smN_len]; exact (so_lt he_2))).2.1 (k_So_gives l Z D T ρ_1 H.size S (so_lt he_2)) vX4_131 (hRK (by decide) (by decide)) rfl rfl hl.1 (Nat.le_of_ble_eq_true rfl) (hcK hT) dX4_passStep_7 (fun ρ_3 H locs hag w => ?_)
  replace ha := ha.trans hag
  rw [← hag x0 (ncP ho_x0)] at hl
  refine lv_if_eq (tgt := 26) C.1 C.2.1 dX4_passStep_10 (by decide) (fun hc => ?_) (fun hc => ?_)
  · replace h := ift hc h
    refine lv_lconst (v := 0) C.1 C.2.1 dX4_passStep_26 (by decide) ?_
    have hkn := nq_kap nn
    refine W.widen (k := kap S - kap S0) (n := 2 * (kap S - kap S0)) (by omega) (by omega) ?_
    exact w_Pg_passStep_27 C hr hk hcn hcw ha (by omega) w (lv_sub hl [1, 2, 0] rfl) ho_x0 (so_lt he_2) h
  · replace h := iff0 hc h
    refine lv_aload_n C.1 C.2.1 dX4_passStep_13 rfl (lv_at hl 1 rfl) ?_
    refine lv_aload_n C.1 C.2.1 dX4_passStep_14 rfl (lv_at hl 1 rfl) ?_
    refine x_getC C w (50 + 8 * x0 + 1) fX4_15 ho_x0 (crP1 ho_x0) dX4_passStep_15 ?_
    refine lv_iload_n C.1 C.2.1 dX4_passStep_18 rfl (lv_at hl 2 rfl) ?_
    obtain ⟨v_4, hv_4, h⟩ := bnd h
    refine x_iald C w (obP1 ho_x0) hv_4 dX4_passStep_19 ?_
    obtain ⟨v_5, hv_5, h⟩ := bnd h
    refine x_callVj (q := (RX4, TX4, 16)) (As := [.int v_4]) (rest := []) C w (k_Pg_givenBit l D T ρ_3 g H.size S ho_x0 hv_5) vX4_127 (hRK (by decide) (by decide)) ho_x0 (by decide) rfl rfl rfl hl.1 (Nat.le_of_ble_eq_true rfl) (hcK hT) dX4_passStep_20 (fun H locs w => ?_)
    refine lv_goto (tgt := 27) C.1 C.2.1 dX4_passStep_23 (by decide) ?_
    have hkn := nq_kap nn
    refine W.widen (k := kap S - kap S0) (n := 2 * (kap S - kap S0)) (by omega) (by omega) ?_
    exact w_Pg_passStep_27 C hr hk hcn hcw ha (by omega) w (lv_sub hl [1, 2, 0] rfl) ho_x0 (so_lt he_2) h
end S_Pg_passStep
set_option maxRecDepth 100000 in
theorem k_Pg_passStep (l : Launch) (Z : Ad) (D : va_G) (T : Cy) (ρ : Nat → Nat) (g sz : Nat) (S : St) {x0 : Nat} {x1 : Int32} (ho_x0 : Ob Yc x0 2) {S' : St} (h : m_Pg_passStep g S x0 x1 = some S') : MvC l Z D T ρ yX4_passStep cX4_passStep 5 none 6 127 S S' [.ref (ρ x0), .int x1] sz :=
  x_inC (by decide) (Nat.le_of_ble_eq_true rfl) (fun p e s m below meth c ls C hr hk hcn hcw w hl => W.widen (Nat.zero_le _) (Nat.zero_le _) (w_Pg_passStep_0 C hr hk hcn hcw Ag.rf (Nat.le_refl _) w hl ho_x0 h))

theorem dX4_judged_0 : decode cX4_judged 0 = .ok (.aload_n 0, 1) := by decide +kernel
theorem dX4_judged_1 : decode cX4_judged 1 = .ok (.iconst 0, 1) := by decide +kernel
theorem dX4_judged_2 : decode cX4_judged 2 = .ok (.putfield 53, 3) := by decide +kernel
theorem dX4_judged_5 : decode cX4_judged 5 = .ok (.aload_n 0, 1) := by decide +kernel
theorem dX4_judged_6 : decode cX4_judged 6 = .ok (.lconst 0, 1) := by decide +kernel
theorem dX4_judged_7 : decode cX4_judged 7 = .ok (.putfield 56, 3) := by decide +kernel
theorem dX4_judged_10 : decode cX4_judged 10 = .ok (.iconst 0, 1) := by decide +kernel
theorem dX4_judged_11 : decode cX4_judged 11 = .ok (.istore_n 1, 1) := by decide +kernel
theorem dX4_judged_12 : decode cX4_judged 12 = .ok (.iload_n 1, 1) := by decide +kernel
theorem dX4_judged_13 : decode cX4_judged 13 = .ok (.aload_n 0, 1) := by decide +kernel
theorem dX4_judged_14 : decode cX4_judged 14 = .ok (.getfield 43, 3) := by decide +kernel
theorem dX4_judged_17 : decode cX4_judged 17 = .ok (.if_icmp .ge 102, 3) := by decide +kernel
theorem dX4_judged_20 : decode cX4_judged 20 = .ok (.aload_n 0, 1) := by decide +kernel
theorem dX4_judged_21 : decode cX4_judged 21 = .ok (.getfield 53, 3) := by decide +kernel
theorem dX4_judged_24 : decode cX4_judged 24 = .ok (.istore_n 2, 1) := by decide +kernel
theorem dX4_judged_25 : decode cX4_judged 25 = .ok (.iload_n 2, 1) := by decide +kernel
theorem dX4_judged_26 : decode cX4_judged 26 = .ok (.ifCond .le 41, 3) := by decide +kernel
theorem dX4_judged_29 : decode cX4_judged 29 = .ok (.aload_n 0, 1) := by decide +kernel
theorem dX4_judged_30 : decode cX4_judged 30 = .ok (.getfield 47, 3) := by decide +kernel
theorem dX4_judged_33 : decode cX4_judged 33 = .ok (.iload_n 2, 1) := by decide +kernel
theorem dX4_judged_34 : decode cX4_judged 34 = .ok (.iconst 1, 1) := by decide +kernel
theorem dX4_judged_35 : decode cX4_judged 35 = .ok (.isub, 1) := by decide +kernel
theorem dX4_judged_36 : decode cX4_judged 36 = .ok (.iaload, 1) := by decide +kernel
theorem dX4_judged_37 : decode cX4_judged 37 = .ok (.iload_n 1, 1) := by decide +kernel
theorem dX4_judged_38 : decode cX4_judged 38 = .ok (.if_icmp .gt 29, 3) := by decide +kernel
theorem dX4_judged_41 : decode cX4_judged 41 = .ok (.aload_n 0, 1) := by decide +kernel
theorem dX4_judged_42 : decode cX4_judged 42 = .ok (.iload_n 2, 1) := by decide +kernel
theorem dX4_judged_43 : decode cX4_judged 43 = .ok (.iconst 1, 1) := by decide +kernel
theorem dX4_judged_44 : decode cX4_judged 44 = .ok (.isub, 1) := by decide +kernel
theorem dX4_judged_45 : decode cX4_judged 45 = .ok (.putfield 53, 3) := by decide +kernel
theorem dX4_judged_48 : decode cX4_judged 48 = .ok (.aload_n 0, 1) := by decide +kernel
theorem dX4_judged_49 : decode cX4_judged 49 = .ok (.aload_n 0, 1) := by decide +kernel
theorem dX4_judged_50 : decode cX4_judged 50 = .ok (.getfield 50, 3) := by decide +kernel
theorem dX4_judged_53 : decode cX4_judged 53 = .ok (.aload_n 0, 1) := by decide +kernel
theorem dX4_judged_54 : decode cX4_judged 54 = .ok (.getfield 53, 3) := by decide +kernel
theorem dX4_judged_57 : decode cX4_judged 57 = .ok (.laload, 1) := by decide +kernel
theorem dX4_judged_58 : decode cX4_judged 58 = .ok (.putfield 56, 3) := by decide +kernel
theorem dX4_judged_61 : decode cX4_judged 61 = .ok (.iinc 2 (-1), 3) := by decide +kernel
theorem dX4_judged_64 : decode cX4_judged 64 = .ok (.goto (-39), 3) := by decide +kernel
theorem dX4_judged_67 : decode cX4_judged 67 = .ok (.aload_n 0, 1) := by decide +kernel
theorem dX4_judged_68 : decode cX4_judged 68 = .ok (.getfield 15, 3) := by decide +kernel
theorem dX4_judged_71 : decode cX4_judged 71 = .ok (.iload_n 1, 1) := by decide +kernel
theorem dX4_judged_72 : decode cX4_judged 72 = .ok (.iaload, 1) := by decide +kernel
theorem dX4_judged_73 : decode cX4_judged 73 = .ok (.istore_n 2, 1) := by decide +kernel
theorem dX4_judged_74 : decode cX4_judged 74 = .ok (.iload_n 2, 1) := by decide +kernel
theorem dX4_judged_75 : decode cX4_judged 75 = .ok (.aload_n 0, 1) := by decide +kernel
theorem dX4_judged_76 : decode cX4_judged 76 = .ok (.getfield 15, 3) := by decide +kernel
theorem dX4_judged_79 : decode cX4_judged 79 = .ok (.iload_n 1, 1) := by decide +kernel
theorem dX4_judged_80 : decode cX4_judged 80 = .ok (.iconst 1, 1) := by decide +kernel
theorem dX4_judged_81 : decode cX4_judged 81 = .ok (.iadd, 1) := by decide +kernel
theorem dX4_judged_82 : decode cX4_judged 82 = .ok (.iaload, 1) := by decide +kernel
theorem dX4_judged_83 : decode cX4_judged 83 = .ok (.if_icmp .ge 25, 3) := by decide +kernel
theorem dX4_judged_86 : decode cX4_judged 86 = .ok (.aload_n 0, 1) := by decide +kernel
theorem dX4_judged_87 : decode cX4_judged 87 = .ok (.iload_n 1, 1) := by decide +kernel
theorem dX4_judged_88 : decode cX4_judged 88 = .ok (.iload_n 2, 1) := by decide +kernel
theorem dX4_judged_89 : decode cX4_judged 89 = .ok (.invokevirtual 116, 3) := by decide +kernel
theorem dX4_judged_92 : decode cX4_judged 92 = .ok (.ifCond .eq 10, 3) := by decide +kernel
theorem dX4_judged_95 : decode cX4_judged 95 = .ok (.aload_n 0, 1) := by decide +kernel
theorem dX4_judged_96 : decode cX4_judged 96 = .ok (.getfield 28, 3) := by decide +kernel
theorem dX4_judged_99 : decode cX4_judged 99 = .ok (.iload_n 2, 1) := by decide +kernel
theorem dX4_judged_100 : decode cX4_judged 100 = .ok (.iaload, 1) := by decide +kernel
theorem dX4_judged_101 : decode cX4_judged 101 = .ok (.ireturn, 1) := by decide +kernel
theorem dX4_judged_102 : decode cX4_judged 102 = .ok (.iinc 2 1, 3) := by decide +kernel
theorem dX4_judged_105 : decode cX4_judged 105 = .ok (.goto (-31), 3) := by decide +kernel
theorem dX4_judged_108 : decode cX4_judged 108 = .ok (.aload_n 0, 1) := by decide +kernel
theorem dX4_judged_109 : decode cX4_judged 109 = .ok (.iload_n 1, 1) := by decide +kernel
theorem dX4_judged_110 : decode cX4_judged 110 = .ok (.invokevirtual 120, 3) := by decide +kernel
theorem dX4_judged_113 : decode cX4_judged 113 = .ok (.iinc 1 1, 3) := by decide +kernel
theorem dX4_judged_116 : decode cX4_judged 116 = .ok (.goto (-104), 3) := by decide +kernel
theorem dX4_judged_119 : decode cX4_judged 119 = .ok (.iconst (-1), 1) := by decide +kernel
theorem dX4_judged_120 : decode cX4_judged 120 = .ok (.ireturn, 1) := by decide +kernel
def m_Pg_judged_113 (g : Nat) (k12 : St → Nat → Int32 → Option (St × Int32)) (S : St) (x0 : Nat) (x1 : Int32) : Option (St × Int32) :=
lt (x1 + (1 : Int32)) fun x1_7 =>
k12 S x0 x1_7
def m_Pg_judged_92 (g : Nat) (k12 : St → Nat → Int32 → Option (St × Int32)) (k74 : St → Nat → Int32 → Int32 → Option (St × Int32)) (S : St) (x0 : Nat) (x1 : Int32) (x2 : Int32) (y0 : Int32) : Option (St × Int32) :=
if y0 = 0 then (
  lt (x2 + (1 : Int32)) fun x2_9 =>
  k74 S x0 x1 x2_9
) else (
  (aI S (50 + 8 * x0 + 5) x2).bind fun v_10 =>
  some (S, v_10)
)
def b_Pg_judged_74 (g : Nat) (k12 : St → Nat → Int32 → Option (St × Int32)) (k74 : St → Nat → Int32 → Int32 → Option (St × Int32)) (S : St) (x0 : Nat) (x1 : Int32) (x2 : Int32) : Option (St × Int32) :=
(aI S (50 + 8 * x0 + 1) (x1 + (1 : Int32))).bind fun v_5 =>
if v_5 ≤ x2 then (
  (m_Pg_passStep g S x0 x1).bind fun S_6 =>
  m_Pg_judged_113 g k12 S_6 x0 x1
) else (
  (m_Pg_isFault g S x0 x1 x2).bind fun (S_7, v_8) =>
  m_Pg_judged_92 g k12 k74 S_7 x0 x1 x2 v_8
)
def m_Pg_judged_74 (g : Nat) (k12 : St → Nat → Int32 → Option (St × Int32)) : Nat → St → Nat → Int32 → Int32 → Option (St × Int32)
  | 0, _, _, _, _ => none
  | n + 1, S, x0, x1, x2 => b_Pg_judged_74 g k12 (m_Pg_judged_74 g k12 n) S x0 x1 x2
def b_Pg_judged_25 (g : Nat) (k12 : St → Nat → Int32 → Option (St × Int32)) (k25 : St → Nat → Int32 → Int32 → Option (St × Int32)) (S : St) (x0 : Nat) (x1 : Int32) (x2 : Int32) : Option (St × Int32) :=
if x2 ≤ 0 then (
  (aI S (50 + 8 * x0 + 1) x1).bind fun v_4 =>
  m_Pg_judged_74 g k12 g S x0 x1 v_4
) else (
  (aI S (50 + 8 * x0 + 6) (x2 - (1 : Int32))).bind fun v_5 =>
  if x1 < v_5 then (
    (aI S (50 + 8 * x0 + 1) x1).bind fun v_6 =>
    m_Pg_judged_74 g k12 g S x0 x1 v_6
  ) else (
    lt (sI S x0 11 (x2 - (1 : Int32))) fun S_7 =>
    (aJ S_7 (50 + 8 * x0 + 7) (gI S_7 x0 11)).bind fun v_8 =>
    lt (sL S_7 x0 12 v_8) fun S_9 =>
    lt (x2 + (-1 : Int32)) fun x2_10 =>
    k25 S_9 x0 x1 x2_10
  )
)
def m_Pg_judged_25 (g : Nat) (k12 : St → Nat → Int32 → Option (St × Int32)) : Nat → St → Nat → Int32 → Int32 → Option (St × Int32)
  | 0, _, _, _, _ => none
  | n + 1, S, x0, x1, x2 => b_Pg_judged_25 g k12 (m_Pg_judged_25 g k12 n) S x0 x1 x2
def b_Pg_judged_12 (g : Nat) (k12 : St → Nat → Int32 → Option (St × Int32)) (S : St) (x0 : Nat) (x1 : Int32) : Option (St × Int32) :=
if (gI S x0 8) ≤ x1 then (
  some (S, (-1 : Int32))
) else (
  lt (gI S x0 11) fun x2_3 =>
  m_Pg_judged_25 g k12 g S x0 x1 x2_3
)
def m_Pg_judged_12 (g : Nat) : Nat → St → Nat → Int32 → Option (St × Int32)
  | 0, _, _, _ => none
  | n + 1, S, x0, x1 => b_Pg_judged_12 g (m_Pg_judged_12 g n) S x0 x1
def m_Pg_judged (g : Nat) (S : St) (x0 : Nat) : Option (St × Int32) :=
lt (sI S x0 11 (0 : Int32)) fun S_1 =>
lt (sL S_1 x0 12 (0 : Int64)) fun S_2 =>
m_Pg_judged_12 g g S_2 x0 (0 : Int32)
theorem km_Pg_judged_113 {g : Nat} {S : St} {x0 : Nat} {x1 : Int32} {S' : St} {r : Int32} {k12 : St → Nat → Int32 → Option (St × Int32)} (km12 : ∀ (S : St) (x0 : Nat) (x1 : Int32), k12 S x0 x1 = some (S', r) → kap S ≤ kap S') (h : m_Pg_judged_113 g k12 S x0 x1 = some (S', r)) : kap S ≤ kap S' := by
  unfold m_Pg_judged_113 at h
  have nn : nq S S := nq_rf
  obtain ⟨x1_7, ex1_7, h⟩ := lt_e h
  have hkn := nq_kap nn
  have h2 := km12 _ _ _ h
  omega
theorem km_Pg_judged_92 {g : Nat} {S : St} {x0 : Nat} {x1 : Int32} {x2 : Int32} {y0 : Int32} {S' : St} {r : Int32} {k12 : St → Nat → Int32 → Option (St × Int32)} (km12 : ∀ (S : St) (x0 : Nat) (x1 : Int32), k12 S x0 x1 = some (S', r) → kap S ≤ kap S') {k74 : St → Nat → Int32 → Int32 → Option (St × Int32)} (km74 : ∀ (S : St) (x0 : Nat) (x1 : Int32) (x2 : Int32), k74 S x0 x1 x2 = some (S', r) → kap S ≤ kap S') (h : m_Pg_judged_92 g k12 k74 S x0 x1 x2 y0 = some (S', r)) : kap S ≤ kap S' := by
  unfold m_Pg_judged_92 at h
  have nn : nq S S := nq_rf
  by_cases hc1 : y0 = 0
  · replace h := ift hc1 h
    obtain ⟨x2_9, ex2_9, h⟩ := lt_e h
    have hkn := nq_kap nn
    have h2 := km74 _ _ _ _ h
    omega
  · replace h := iff0 hc1 h
    obtain ⟨v_10, hv_10, h⟩ := bnd h
    obtain ⟨rfl, rfl⟩ := prI h
    have hkn := nq_kap nn
    omega
theorem kmb_Pg_judged_74 {g : Nat} {S : St} {x0 : Nat} {x1 : Int32} {x2 : Int32} {S' : St} {r : Int32} {k12 : St → Nat → Int32 → Option (St × Int32)} (km12 : ∀ (S : St) (x0 : Nat) (x1 : Int32), k12 S x0 x1 = some (S', r) → kap S ≤ kap S') {k74 : St → Nat → Int32 → Int32 → Option (St × Int32)} (km74 : ∀ (S : St) (x0 : Nat) (x1 : Int32) (x2 : Int32), k74 S x0 x1 x2 = some (S', r) → kap S ≤ kap S') (h : b_Pg_judged_74 g k12 k74 S x0 x1 x2 = some (S', r)) : kap S ≤ kap S' := by
  unfold b_Pg_judged_74 at h
  have nn : nq S S := nq_rf
  obtain ⟨v_5, hv_5, h⟩ := bnd h
  by_cases hc1 : v_5 ≤ x2
  · replace h := ift hc1 h
    obtain ⟨S_6, hS_6, h⟩ := bnd h
    have hk1 := km_Pg_passStep hS_6
    have hkn := nq_kap nn
    have h2 := km_Pg_judged_113 km12 h
    omega
  · replace h := iff0 hc1 h
    obtain ⟨⟨S_7, v_8⟩, hv_8, h⟩ := bnd h
    have hk1 := km_Pg_isFault hv_8
    have hkn := nq_kap nn
    have h2 := km_Pg_judged_92 km12 km74 h
    omega
theorem km_Pg_judged_74 {g : Nat} {S' : St} {r : Int32} {k12 : St → Nat → Int32 → Option (St × Int32)} (km12 : ∀ (S : St) (x0 : Nat) (x1 : Int32), k12 S x0 x1 = some (S', r) → kap S ≤ kap S') (n : Nat) : ∀ (S : St) (x0 : Nat) (x1 : Int32) (x2 : Int32), m_Pg_judged_74 g k12 n S x0 x1 x2 = some (S', r) → kap S ≤ kap S' := by
  induction n with
  | zero => intro S x0 x1 x2 h; exact absurd h (fun q => by cases q)
  | succ n ih => intro S x0 x1 x2 h; exact kmb_Pg_judged_74 km12 ih h
theorem kmb_Pg_judged_25 {g : Nat} {S : St} {x0 : Nat} {x1 : Int32} {x2 : Int32} {S' : St} {r : Int32} {k12 : St → Nat → Int32 → Option (St × Int32)} (km12 : ∀ (S : St) (x0 : Nat) (x1 : Int32), k12 S x0 x1 = some (S', r) → kap S ≤ kap S') {k25 : St → Nat → Int32 → Int32 → Option (St × Int32)} (km25 : ∀ (S : St) (x0 : Nat) (x1 : Int32) (x2 : Int32), k25 S x0 x1 x2 = some (S', r) → kap S ≤ kap S') (h : b_Pg_judged_25 g k12 k25 S x0 x1 x2 = some (S', r)) : kap S ≤ kap S' := by
  unfold b_Pg_judged_25 at h
  have nn : nq S S := nq_rf
  by_cases hc1 : x2 ≤ 0
  · replace h := ift hc1 h
    obtain ⟨v_4, hv_4, h⟩ := bnd h
    have hkn := nq_kap nn
    have h2 := km_Pg_judged_74 km12 g _ _ _ _ h
    omega
  · replace h := iff0 hc1 h
    obtain ⟨v_5, hv_5, h⟩ := bnd h
    by_cases hc2 : x1 < v_5
    · replace h := ift hc2 h
      obtain ⟨v_6, hv_6, h⟩ := bnd h
      have hkn := nq_kap nn
      have h2 := km_Pg_judged_74 km12 g _ _ _ _ h
      omega
    · replace h := iff0 hc2 h
      obtain ⟨S_7, eS_7, h⟩ := lt_e h
      replace nn : nq S_7 S := nq_tr (by rw [eS_7]; rfl) nn
      obtain ⟨v_8, hv_8, h⟩ := bnd h
      obtain ⟨S_9, eS_9, h⟩ := lt_e h
      replace nn : nq S_9 S := nq_tr (by rw [eS_9]; rfl) nn
      obtain ⟨x2_10, ex2_10, h⟩ := lt_e h
      have hkn := nq_kap nn
      have h2 := km25 _ _ _ _ h
      omega
theorem km_Pg_judged_25 {g : Nat} {S' : St} {r : Int32} {k12 : St → Nat → Int32 → Option (St × Int32)} (km12 : ∀ (S : St) (x0 : Nat) (x1 : Int32), k12 S x0 x1 = some (S', r) → kap S ≤ kap S') (n : Nat) : ∀ (S : St) (x0 : Nat) (x1 : Int32) (x2 : Int32), m_Pg_judged_25 g k12 n S x0 x1 x2 = some (S', r) → kap S ≤ kap S' := by
  induction n with
  | zero => intro S x0 x1 x2 h; exact absurd h (fun q => by cases q)
  | succ n ih => intro S x0 x1 x2 h; exact kmb_Pg_judged_25 km12 ih h
theorem kmb_Pg_judged_12 {g : Nat} {S : St} {x0 : Nat} {x1 : Int32} {S' : St} {r : Int32} {k12 : St → Nat → Int32 → Option (St × Int32)} (km12 : ∀ (S : St) (x0 : Nat) (x1 : Int32), k12 S x0 x1 = some (S', r) → kap S ≤ kap S') (h : b_Pg_judged_12 g k12 S x0 x1 = some (S', r)) : kap S ≤ kap S' := by
  unfold b_Pg_judged_12 at h
  have nn : nq S S := nq_rf
  by_cases hc1 : (gI S x0 8) ≤ x1
  · replace h := ift hc1 h
    obtain ⟨rfl, rfl⟩ := prI h
    have hkn := nq_kap nn
    omega
  · replace h := iff0 hc1 h
    obtain ⟨x2_3, ex2_3, h⟩ := lt_e h
    have hkn := nq_kap nn
    have h2 := km_Pg_judged_25 km12 g _ _ _ _ h
    omega
theorem km_Pg_judged_12 {g : Nat} {S' : St} {r : Int32} (n : Nat) : ∀ (S : St) (x0 : Nat) (x1 : Int32), m_Pg_judged_12 g n S x0 x1 = some (S', r) → kap S ≤ kap S' := by
  induction n with
  | zero => intro S x0 x1 h; exact absurd h (fun q => by cases q)
  | succ n ih => intro S x0 x1 h; exact kmb_Pg_judged_12 ih h
theorem km_Pg_judged {g : Nat} {S : St} {x0 : Nat} {S' : St} {r : Int32} (h : m_Pg_judged g S x0 = some (S', r)) : kap S ≤ kap S' := by
  unfold m_Pg_judged at h
  have nn : nq S S := nq_rf
  obtain ⟨S_1, eS_1, h⟩ := lt_e h
  replace nn : nq S_1 S := nq_tr (by rw [eS_1]; rfl) nn
  obtain ⟨S_2, eS_2, h⟩ := lt_e h
  replace nn : nq S_2 S := nq_tr (by rw [eS_2]; rfl) nn
  have hkn := nq_kap nn
  have h2 := km_Pg_judged_12 g _ _ _ h
  omega
section S_Pg_judged
variable {p : Program} {l : Launch} {e : Env} {s : State} {m : MethodId} {args : Array Value} {below : List Frame} {meth : Method} {c : Code} {H : Heap} {locs : List Loc} {ls : Array Slot} {D : va_G} {T : Cy} {ρ ρ0 : Nat → Nat} {S0 : St} {A : Nat → Prop} {Z : Ad}
set_option maxRecDepth 100000 in
set_option maxHeartbeats 4000000 in
theorem w_Pg_judged_113 {g : Nat} {S : St} {x0 : Nat} {x1 : Int32} (C : CallFix p m c cX4_judged 3 s args tb RX4) (hr : meth.sig.returnType = (some .int)) (hk : meth.locks = false) (hcn : Kn Z A s s.heap) (hcw : Kw Z s) {S' : St} {r : Int32} {k12 : St → Nat → Int32 → Option (St × Int32)} (kk12 : ∀ (ρ : Nat → Nat) (S : St) (x0 : Nat) (x1 : Int32) (H : Heap) (locs : List Loc) (ls : Array Slot), Ag ρ0 ρ → kap S0 ≤ kap S → Wn Yc D T ρ S A s H locs → lv_has ls 3 [(0, .ref (ρ x0)), (1, .int x1)] → Ob Yc x0 2 → k12 S x0 x1 = some (S', r) → W p l e (rmK 7 151 (kap S' - kap S0)) s m args below meth c H locs (kap S - kap S0) (2 * (kap S - kap S0)) (MQ below (QiM D T ρ0 A S' r) args s (kap S' - kap S0) (2 * (kap S' - kap S0)) A) (F0 m 12 ls [])) (km12 : ∀ (S : St) (x0 : Nat) (x1 : Int32), k12 S x0 x1 = some (S', r) → kap S ≤ kap S') (ha : Ag ρ0 ρ) (hm : kap S0 ≤ kap S) (w : Wn Yc D T ρ S A s H locs) (hl : lv_has ls 3 [(0, .ref (ρ x0)), (1, .int x1)]) (ho_x0 : Ob Yc x0 2) (h : m_Pg_judged_113 g k12 S x0 x1 = some (S', r)) : W p l e (rmK 7 151 (kap S' - kap S0)) s m args below meth c H locs (kap S - kap S0) (2 * (kap S - kap S0)) (MQ below (QiM D T ρ0 A S' r) args s (kap S' - kap S0) (2 * (kap S' - kap S0)) A) (F0 m 113 ls []) := by
  have hT := km_Pg_judged_113 km12 h
  unfold m_Pg_judged_113 at h
  have nn : nq S S := nq_rf
  obtain ⟨x1_7, ex1_7, h⟩ := lt_e h
  refine lv_iinc (v := x1_7) (lv' := [(1, .int x1_7), (0, .ref (ρ x0))]) C.1 C.2.1 dX4_judged_113 hl (k := 1) rfl (by rw [ex1_7]; rfl) (by decide) rfl (fun ls hl => ?_)
  refine lv_goto (tgt := 12) C.1 C.2.1 dX4_judged_116 (by decide) ?_
  have hkn := nq_kap nn
  refine W.widen (k := kap S - kap S0) (n := 2 * (kap S - kap S0)) (by omega) (by omega) ?_
  exact kk12 _ _ _ _ _ _ _ ha (by omega) w (lv_sub hl [1, 0] rfl) ho_x0 h
set_option maxRecDepth 100000 in
set_option maxHeartbeats 4000000 in
theorem w_Pg_judged_92 {g : Nat} {S : St} {x0 : Nat} {x1 : Int32} {x2 : Int32} {y0 : Int32} (C : CallFix p m c cX4_judged 3 s args tb RX4) (hr : meth.sig.returnType = (some .int)) (hk : meth.locks = false) (hcn : Kn Z A s s.heap) (hcw : Kw Z s) {S' : St} {r : Int32} {k12 : St → Nat → Int32 → Option (St × Int32)} (kk12 : ∀ (ρ : Nat → Nat) (S : St) (x0 : Nat) (x1 : Int32) (H : Heap) (locs : List Loc) (ls : Array Slot), Ag ρ0 ρ → kap S0 ≤ kap S → Wn Yc D T ρ S A s H locs → lv_has ls 3 [(0, .ref (ρ x0)), (1, .int x1)] → Ob Yc x0 2 → k12 S x0 x1 = some (S', r) → W p l e (rmK 7 151 (kap S' - kap S0)) s m args below meth c H locs (kap S - kap S0) (2 * (kap S - kap S0)) (MQ below (QiM D T ρ0 A S' r) args s (kap S' - kap S0) (2 * (kap S' - kap S0)) A) (F0 m 12 ls [])) (km12 : ∀ (S : St) (x0 : Nat) (x1 : Int32), k12 S x0 x1 = some (S', r) → kap S ≤ kap S') {k74 : St → Nat → Int32 → Int32 → Option (St × Int32)} (kk74 : ∀ (ρ : Nat → Nat) (S : St) (x0 : Nat) (x1 : Int32) (x2 : Int32) (H : Heap) (locs : List Loc) (ls : Array Slot), Ag ρ0 ρ → kap S0 ≤ kap S → Wn Yc D T ρ S A s H locs → lv_has ls 3 [(0, .ref (ρ x0)), (1, .int x1), (2, .int x2)] → Ob Yc x0 2 → k74 S x0 x1 x2 = some (S', r) → W p l e (rmK 7 151 (kap S' - kap S0)) s m args below meth c H locs (kap S - kap S0) (2 * (kap S - kap S0)) (MQ below (QiM D T ρ0 A S' r) args s (kap S' - kap S0) (2 * (kap S' - kap S0)) A) (F0 m 74 ls [])) (km74 : ∀ (S : St) (x0 : Nat) (x1 : Int32) (x2 : Int32), k74 S x0 x1 x2 = some (S', r) → kap S ≤ kap S') (ha : Ag ρ0 ρ) (hm : kap S0 ≤ kap S) (w : Wn Yc D T ρ S A s H locs) (hl : lv_has ls 3 [(0, .ref (ρ x0)), (1, .int x1), (2, .int x2)]) (ho_x0 : Ob Yc x0 2) (h : m_Pg_judged_92 g k12 k74 S x0 x1 x2 y0 = some (S', r)) : W p l e (rmK 7 151 (kap S' - kap S0)) s m args below meth c H locs (kap S - kap S0) (2 * (kap S - kap S0)) (MQ below (QiM D T ρ0 A S' r) args s (kap S' - kap S0) (2 * (kap S' - kap S0)) A) (F0 m 92 ls [.int y0]) := by
  have hT := km_Pg_judged_92 km12 km74 h
  unfold m_Pg_judged_92 at h
  have nn : nq S S := nq_rf
  refine lv_if_eq (tgt := 102) C.1 C.2.1 dX4_judged_92 (by decide) (fun hc => ?_) (fun hc => ?_)
  · replace h := ift hc h
    obtain ⟨x2_9, ex2_9, h⟩ := lt_e h
    refine lv_iinc (v := x2_9) (lv' := [(2, .int x2_9), (0, .ref (ρ x0)), (1, .int x1)]) C.1 C.2.1 dX4_judged_102 hl (k := 2) rfl (by rw [ex2_9]; rfl) (by decide) rfl (fun ls hl => ?_)
    refine lv_goto (tgt := 74) C.1 C.2.1 dX4_judged_105 (by decide) ?_
    have hkn := nq_kap nn
    refine W.widen (k := kap S - kap S0) (n := 2 * (kap S - kap S0)) (by omega) (by omega) ?_
    exact kk74 _ _ _ _ _ _ _ _ ha (by omega) w (lv_sub hl [1, 2, 0] rfl) ho_x0 h
  · replace h := iff0 hc h
    refine lv_aload_n C.1 C.2.1 dX4_judged_95 rfl (lv_at hl 0 rfl) ?_
    refine x_getC C w (50 + 8 * x0 + 5) fX4_28 ho_x0 (crP5 ho_x0) dX4_judged_96 ?_
    refine lv_iload_n C.1 C.2.1 dX4_judged_99 rfl (lv_at hl 2 rfl) ?_
    obtain ⟨v_10, hv_10, h⟩ := bnd h
    refine x_iald C w (obP5 ho_x0) hv_10 dX4_judged_100 ?_
    obtain ⟨rfl, rfl⟩ := prI h
    exact x_iretM C w ha hr hk dX4_judged_101 (by have := nq_kap nn; omega) (by have := nq_kap nn; omega)
set_option maxRecDepth 100000 in
set_option maxHeartbeats 4000000 in
theorem wb_Pg_judged_74 {g : Nat} {S : St} {x0 : Nat} {x1 : Int32} {x2 : Int32} (C : CallFix p m c cX4_judged 3 s args tb RX4) (hr : meth.sig.returnType = (some .int)) (hk : meth.locks = false) (hcn : Kn Z A s s.heap) (hcw : Kw Z s) {S' : St} {r : Int32} {k12 : St → Nat → Int32 → Option (St × Int32)} (kk12 : ∀ (ρ : Nat → Nat) (S : St) (x0 : Nat) (x1 : Int32) (H : Heap) (locs : List Loc) (ls : Array Slot), Ag ρ0 ρ → kap S0 ≤ kap S → Wn Yc D T ρ S A s H locs → lv_has ls 3 [(0, .ref (ρ x0)), (1, .int x1)] → Ob Yc x0 2 → k12 S x0 x1 = some (S', r) → W p l e (rmK 7 151 (kap S' - kap S0)) s m args below meth c H locs (kap S - kap S0) (2 * (kap S - kap S0)) (MQ below (QiM D T ρ0 A S' r) args s (kap S' - kap S0) (2 * (kap S' - kap S0)) A) (F0 m 12 ls [])) (km12 : ∀ (S : St) (x0 : Nat) (x1 : Int32), k12 S x0 x1 = some (S', r) → kap S ≤ kap S') {k74 : St → Nat → Int32 → Int32 → Option (St × Int32)} (kk74 : ∀ (ρ : Nat → Nat) (S : St) (x0 : Nat) (x1 : Int32) (x2 : Int32) (H : Heap) (locs : List Loc) (ls : Array Slot), Ag ρ0 ρ → kap S0 ≤ kap S → Wn Yc D T ρ S A s H locs → lv_has ls 3 [(0, .ref (ρ x0)), (1, .int x1), (2, .int x2)] → Ob Yc x0 2 → k74 S x0 x1 x2 = some (S', r) → W p l e (rmK 7 151 (kap S' - kap S0)) s m args below meth c H locs (kap S - kap S0) (2 * (kap S - kap S0)) (MQ below (QiM D T ρ0 A S' r) args s (kap S' - kap S0) (2 * (kap S' - kap S0)) A) (F0 m 74 ls [])) (km74 : ∀ (S : St) (x0 : Nat) (x1 : Int32) (x2 : Int32), k74 S x0 x1 x2 = some (S', r) → kap S ≤ kap S') (ha : Ag ρ0 ρ) (hm : kap S0 ≤ kap S) (w : Wn Yc D T ρ S A s H locs) (hl : lv_has ls 3 [(0, .ref (ρ x0)), (1, .int x1), (2, .int x2)]) (ho_x0 : Ob Yc x0 2) (h : b_Pg_judged_74 g k12 k74 S x0 x1 x2 = some (S', r)) : W p l e (rmK 7 151 (kap S' - kap S0)) s m args below meth c H locs (kap S - kap S0) (2 * (kap S - kap S0)) (MQ below (QiM D T ρ0 A S' r) args s (kap S' - kap S0) (2 * (kap S' - kap S0)) A) (F0 m 74 ls []) := by
  have hT := kmb_Pg_judged_74 km12 km74 h
  unfold b_Pg_judged_74 at h
  have nn : nq S S := nq_rf
  refine lv_iload_n C.1 C.2.1 dX4_judged_74 rfl (lv_at hl 2 rfl) ?_
  refine lv_aload_n C.1 C.2.1 dX4_judged_75 rfl (lv_at hl 0 rfl) ?_
  refine x_getC C w (50 + 8 * x0 + 1) fX4_15 ho_x0 (crP1 ho_x0) dX4_judged_76 ?_
  refine lv_iload_n C.1 C.2.1 dX4_judged_79 rfl (lv_at hl 1 rfl) ?_
  refine lv_iconst (v := 1) C.1 C.2.1 dX4_judged_80 (by decide) ?_
  refine lv_iadd C.1 C.2.1 dX4_judged_81 ?_
  obtain ⟨v_5, hv_5, h⟩ := bnd h
  refine x_iald C w (obP1 ho_x0) hv_5 dX4_judged_82 ?_
  refine lv_icmp_ge (tgt := 108) C.1 C.2.1 dX4_judged_83 (by decide) (fun hc => ?_) (fun hc => ?_)
  · replace h := ift hc h
    refine lv_aload_n C.1 C.2.1 dX4_judged_108 rfl (lv_at hl 0 rfl) ?_
    refine lv_iload_n C.1 C.2.1 dX4_judged_109 rfl (lv_at hl 1 rfl) ?_
    obtain ⟨S_6, hS_6, h⟩ := bnd h
    have hkn := nq_kap nn
    have hk1 := km_Pg_passStep hS_6
    have hT2 := km_Pg_judged_113 km12 h
    refine x_callVvC (q := (RX4, TX4, 16)) (As := [.int x1]) (rest := []) C w hcn hcw (k_Pg_passStep l Z D T ρ g H.size S ho_x0 hS_6) vX4_120 (hRK (by decide) (by decide)) ho_x0 (by decide) rfl rfl rfl hl.1 (Nat.le_of_ble_eq_true rfl) (hcM hm hkn hk1 hT2) dX4_judged_110 (fun ρ1 H locs hag w => ?_)
    replace ha := ha.trans hag
    rw [← hag x0 (ncP ho_x0)] at hl
    refine W.widen (k := kap S_6 - kap S0) (n := 2 * (kap S_6 - kap S0)) (by omega) (by omega) ?_
    exact w_Pg_judged_113 C hr hk hcn hcw kk12 km12 ha (by omega) w (lv_sub hl [0, 1] rfl) ho_x0 h
  · replace h := iff0 hc h
    refine lv_aload_n C.1 C.2.1 dX4_judged_86 rfl (lv_at hl 0 rfl) ?_
    refine lv_iload_n C.1 C.2.1 dX4_judged_87 rfl (lv_at hl 1 rfl) ?_
    refine lv_iload_n C.1 C.2.1 dX4_judged_88 rfl (lv_at hl 2 rfl) ?_
    obtain ⟨⟨S_7, v_8⟩, hv_8, h⟩ := bnd h
    have hkn := nq_kap nn
    have hk1 := km_Pg_isFault hv_8
    have hT2 := km_Pg_judged_92 km12 km74 h
    refine x_callViC (q := (RX4, TX4, 16)) (As := [.int x1, .int x2]) (rest := []) C w hcn hcw (k_Pg_isFault l Z D T ρ g H.size S ho_x0 hv_8) vX4_116 (hRK (by decide) (by decide)) ho_x0 (by decide) rfl rfl rfl hl.1 (Nat.le_of_ble_eq_true rfl) (hcM hm hkn hk1 hT2) dX4_judged_89 (fun ρ1 H locs hag w => ?_)
    replace ha := ha.trans hag
    rw [← hag x0 (ncP ho_x0)] at hl
    refine W.widen (k := kap S_7 - kap S0) (n := 2 * (kap S_7 - kap S0)) (by omega) (by omega) ?_
    exact w_Pg_judged_92 C hr hk hcn hcw kk12 km12 kk74 km74 ha (by omega) w (lv_sub hl [0, 1, 2] rfl) ho_x0 h
theorem w_Pg_judged_74 {g : Nat} (C : CallFix p m c cX4_judged 3 s args tb RX4) (hr : meth.sig.returnType = (some .int)) (hk : meth.locks = false) (hcn : Kn Z A s s.heap) (hcw : Kw Z s) {S' : St} {r : Int32} {k12 : St → Nat → Int32 → Option (St × Int32)} (kk12 : ∀ (ρ : Nat → Nat) (S : St) (x0 : Nat) (x1 : Int32) (H : Heap) (locs : List Loc) (ls : Array Slot), Ag ρ0 ρ → kap S0 ≤ kap S → Wn Yc D T ρ S A s H locs → lv_has ls 3 [(0, .ref (ρ x0)), (1, .int x1)] → Ob Yc x0 2 → k12 S x0 x1 = some (S', r) → W p l e (rmK 7 151 (kap S' - kap S0)) s m args below meth c H locs (kap S - kap S0) (2 * (kap S - kap S0)) (MQ below (QiM D T ρ0 A S' r) args s (kap S' - kap S0) (2 * (kap S' - kap S0)) A) (F0 m 12 ls [])) (km12 : ∀ (S : St) (x0 : Nat) (x1 : Int32), k12 S x0 x1 = some (S', r) → kap S ≤ kap S') (n : Nat) : ∀ (ρ : Nat → Nat) (S : St) (x0 : Nat) (x1 : Int32) (x2 : Int32) (H : Heap) (locs : List Loc) (ls : Array Slot), Ag ρ0 ρ → kap S0 ≤ kap S → Wn Yc D T ρ S A s H locs → lv_has ls 3 [(0, .ref (ρ x0)), (1, .int x1), (2, .int x2)] → Ob Yc x0 2 → m_Pg_judged_74 g k12 n S x0 x1 x2 = some (S', r) → W p l e (rmK 7 151 (kap S' - kap S0)) s m args below meth c H locs (kap S - kap S0) (2 * (kap S - kap S0)) (MQ below (QiM D T ρ0 A S' r) args s (kap S' - kap S0) (2 * (kap S' - kap S0)) A) (F0 m 74 ls []) := by
  induction n with
  | zero => intro ρ S x0 x1 x2 H locs ls ha hm w hl ho_x0 h; exact absurd h (fun q => by cases q)
  | succ n ih => intro ρ S x0 x1 x2 H locs ls ha hm w hl ho_x0 h; exact wb_Pg_judged_74 C hr hk hcn hcw kk12 km12 ih (km_Pg_judged_74 km12 n) ha hm w hl ho_x0 h
set_option maxRecDepth 100000 in
set_option maxHeartbeats 4000000 in
theorem wb_Pg_judged_25 {g : Nat} {S : St} {x0 : Nat} {x1 : Int32} {x2 : Int32} (C : CallFix p m c cX4_judged 3 s args tb RX4) (hr : meth.sig.returnType = (some .int)) (hk : meth.locks = false) (hcn : Kn Z A s s.heap) (hcw : Kw Z s) {S' : St} {r : Int32} {k12 : St → Nat → Int32 → Option (St × Int32)} (kk12 : ∀ (ρ : Nat → Nat) (S : St) (x0 : Nat) (x1 : Int32) (H : Heap) (locs : List Loc) (ls : Array Slot), Ag ρ0 ρ → kap S0 ≤ kap S → Wn Yc D T ρ S A s H locs → lv_has ls 3 [(0, .ref (ρ x0)), (1, .int x1)] → Ob Yc x0 2 → k12 S x0 x1 = some (S', r) → W p l e (rmK 7 151 (kap S' - kap S0)) s m args below meth c H locs (kap S - kap S0) (2 * (kap S - kap S0)) (MQ below (QiM D T ρ0 A S' r) args s (kap S' - kap S0) (2 * (kap S' - kap S0)) A) (F0 m 12 ls [])) (km12 : ∀ (S : St) (x0 : Nat) (x1 : Int32), k12 S x0 x1 = some (S', r) → kap S ≤ kap S') {k25 : St → Nat → Int32 → Int32 → Option (St × Int32)} (kk25 : ∀ (ρ : Nat → Nat) (S : St) (x0 : Nat) (x1 : Int32) (x2 : Int32) (H : Heap) (locs : List Loc) (ls : Array Slot), Ag ρ0 ρ → kap S0 ≤ kap S → Wn Yc D T ρ S A s H locs → lv_has ls 3 [(0, .ref (ρ x0)), (1, .int x1), (2, .int x2)] → Ob Yc x0 2 → k25 S x0 x1 x2 = some (S', r) → W p l e (rmK 7 151 (kap S' - kap S0)) s m args below meth c H locs (kap S - kap S0) (2 * (kap S - kap S0)) (MQ below (QiM D T ρ0 A S' r) args s (kap S' - kap S0) (2 * (kap S' - kap S0)) A) (F0 m 25 ls [])) (km25 : ∀ (S : St) (x0 : Nat) (x1 : Int32) (x2 : Int32), k25 S x0 x1 x2 = some (S', r) → kap S ≤ kap S') (ha : Ag ρ0 ρ) (hm : kap S0 ≤ kap S) (w : Wn Yc D T ρ S A s H locs) (hl : lv_has ls 3 [(0, .ref (ρ x0)), (1, .int x1), (2, .int x2)]) (ho_x0 : Ob Yc x0 2) (h : b_Pg_judged_25 g k12 k25 S x0 x1 x2 = some (S', r)) : W p l e (rmK 7 151 (kap S' - kap S0)) s m args below meth c H locs (kap S - kap S0) (2 * (kap S - kap S0)) (MQ below (QiM D T ρ0 A S' r) args s (kap S' - kap S0) (2 * (kap S' - kap S0)) A) (F0 m 25 ls []) := by
  have hT := kmb_Pg_judged_25 km12 km25 h
  unfold b_Pg_judged_25 at h
  have nn : nq S S := nq_rf
  refine lv_iload_n C.1 C.2.1 dX4_judged_25 rfl (lv_at hl 2 rfl) ?_
  refine lv_if_le (tgt := 67) C.1 C.2.1 dX4_judged_26 (by decide) (fun hc => ?_) (fun hc => ?_)
  · replace h := ift hc h
    refine lv_aload_n C.1 C.2.1 dX4_judged_67 rfl (lv_at hl 0 rfl) ?_
    refine x_getC C w (50 + 8 * x0 + 1) fX4_15 ho_x0 (crP1 ho_x0) dX4_judged_68 ?_
    refine lv_iload_n C.1 C.2.1 dX4_judged_71 rfl (lv_at hl 1 rfl) ?_
    obtain ⟨v_4, hv_4, h⟩ := bnd h
    refine x_iald C w (obP1 ho_x0) hv_4 dX4_judged_72 ?_
    refine lv_istore_n (lv' := [(2, .int v_4), (0, .ref (ρ x0)), (1, .int x1)]) C.1 C.2.1 dX4_judged_73 rfl hl (by decide) rfl (fun ls hl => ?_)
    have hkn := nq_kap nn
    refine W.widen (k := kap S - kap S0) (n := 2 * (kap S - kap S0)) (by omega) (by omega) ?_
    exact w_Pg_judged_74 C hr hk hcn hcw kk12 km12 g _ _ _ _ _ _ _ _ ha (by omega) w (lv_sub hl [1, 2, 0] rfl) ho_x0 h
  · replace h := iff0 hc h
    refine lv_aload_n C.1 C.2.1 dX4_judged_29 rfl (lv_at hl 0 rfl) ?_
    refine x_getC C w (50 + 8 * x0 + 6) fX4_47 ho_x0 (crP9 ho_x0) dX4_judged_30 ?_
    refine lv_iload_n C.1 C.2.1 dX4_judged_33 rfl (lv_at hl 2 rfl) ?_
    refine lv_iconst (v := 1) C.1 C.2.1 dX4_judged_34 (by decide) ?_
    refine lv_isub C.1 C.2.1 dX4_judged_35 ?_
    obtain ⟨v_5, hv_5, h⟩ := bnd h
    refine x_iald C w (obP9 ho_x0) hv_5 dX4_judged_36 ?_
    refine lv_iload_n C.1 C.2.1 dX4_judged_37 rfl (lv_at hl 1 rfl) ?_
    refine lv_icmp_gt (tgt := 67) C.1 C.2.1 dX4_judged_38 (by decide) (fun hc => ?_) (fun hc => ?_)
    · replace h := ift hc h
      refine lv_aload_n C.1 C.2.1 dX4_judged_67 rfl (lv_at hl 0 rfl) ?_
      refine x_getC C w (50 + 8 * x0 + 1) fX4_15 ho_x0 (crP1 ho_x0) dX4_judged_68 ?_
      refine lv_iload_n C.1 C.2.1 dX4_judged_71 rfl (lv_at hl 1 rfl) ?_
      obtain ⟨v_6, hv_6, h⟩ := bnd h
      refine x_iald C w (obP1 ho_x0) hv_6 dX4_judged_72 ?_
      refine lv_istore_n (lv' := [(2, .int v_6), (0, .ref (ρ x0)), (1, .int x1)]) C.1 C.2.1 dX4_judged_73 rfl hl (by decide) rfl (fun ls hl => ?_)
      have hkn := nq_kap nn
      refine W.widen (k := kap S - kap S0) (n := 2 * (kap S - kap S0)) (by omega) (by omega) ?_
      exact w_Pg_judged_74 C hr hk hcn hcw kk12 km12 g _ _ _ _ _ _ _ _ ha (by omega) w (lv_sub hl [1, 2, 0] rfl) ho_x0 h
    · replace h := iff0 hc h
      refine lv_aload_n C.1 C.2.1 dX4_judged_41 rfl (lv_at hl 0 rfl) ?_
      refine lv_iload_n C.1 C.2.1 dX4_judged_42 rfl (lv_at hl 2 rfl) ?_
      refine lv_iconst (v := 1) C.1 C.2.1 dX4_judged_43 (by decide) ?_
      refine lv_isub C.1 C.2.1 dX4_judged_44 ?_
      obtain ⟨S_7, eS_7, h⟩ := lt_e h
      replace nn : nq S_7 S := nq_tr (by rw [eS_7]; rfl) nn
      refine y_putI C w eS_7 fX4_53 pX4_11 ho_x0 dX4_judged_45 (fun H locs w => ?_)
      refine lv_aload_n C.1 C.2.1 dX4_judged_48 rfl (lv_at hl 0 rfl) ?_
      refine lv_aload_n C.1 C.2.1 dX4_judged_49 rfl (lv_at hl 0 rfl) ?_
      refine x_getC C w (50 + 8 * x0 + 7) fX4_50 ho_x0 (crP10 ho_x0) dX4_judged_50 ?_
      refine lv_aload_n C.1 C.2.1 dX4_judged_53 rfl (lv_at hl 0 rfl) ?_
      refine x_getI C w fX4_53 ho_x0 dX4_judged_54 ?_
      obtain ⟨v_8, hv_8, h⟩ := bnd h
      refine x_lald C w (obP10 ho_x0) hv_8 dX4_judged_57 ?_
      obtain ⟨S_9, eS_9, h⟩ := lt_e h
      replace nn : nq S_9 S := nq_tr (by rw [eS_9]; rfl) nn
      refine y_putL C w eS_9 fX4_56 pX4_12 ho_x0 dX4_judged_58 (fun H locs w => ?_)
      obtain ⟨x2_10, ex2_10, h⟩ := lt_e h
      refine lv_iinc (v := x2_10) (lv' := [(2, .int x2_10), (0, .ref (ρ x0)), (1, .int x1)]) C.1 C.2.1 dX4_judged_61 hl (k := 2) rfl (by rw [ex2_10]; rfl) (by decide) rfl (fun ls hl => ?_)
      refine lv_goto (tgt := 25) C.1 C.2.1 dX4_judged_64 (by decide) ?_
      have hkn := nq_kap nn
      refine W.widen (k := kap S_9 - kap S0) (n := 2 * (kap S_9 - kap S0)) (by omega) (by omega) ?_
      exact kk25 _ _ _ _ _ _ _ _ ha (by omega) w (lv_sub hl [1, 2, 0] rfl) ho_x0 h
theorem w_Pg_judged_25 {g : Nat} (C : CallFix p m c cX4_judged 3 s args tb RX4) (hr : meth.sig.returnType = (some .int)) (hk : meth.locks = false) (hcn : Kn Z A s s.heap) (hcw : Kw Z s) {S' : St} {r : Int32} {k12 : St → Nat → Int32 → Option (St × Int32)} (kk12 : ∀ (ρ : Nat → Nat) (S : St) (x0 : Nat) (x1 : Int32) (H : Heap) (locs : List Loc) (ls : Array Slot), Ag ρ0 ρ → kap S0 ≤ kap S → Wn Yc D T ρ S A s H locs → lv_has ls 3 [(0, .ref (ρ x0)), (1, .int x1)] → Ob Yc x0 2 → k12 S x0 x1 = some (S', r) → W p l e (rmK 7 151 (kap S' - kap S0)) s m args below meth c H locs (kap S - kap S0) (2 * (kap S - kap S0)) (MQ below (QiM D T ρ0 A S' r) args s (kap S' - kap S0) (2 * (kap S' - kap S0)) A) (F0 m 12 ls [])) (km12 : ∀ (S : St) (x0 : Nat) (x1 : Int32), k12 S x0 x1 = some (S', r) → kap S ≤ kap S') (n : Nat) : ∀ (ρ : Nat → Nat) (S : St) (x0 : Nat) (x1 : Int32) (x2 : Int32) (H : Heap) (locs : List Loc) (ls : Array Slot), Ag ρ0 ρ → kap S0 ≤ kap S → Wn Yc D T ρ S A s H locs → lv_has ls 3 [(0, .ref (ρ x0)), (1, .int x1), (2, .int x2)] → Ob Yc x0 2 → m_Pg_judged_25 g k12 n S x0 x1 x2 = some (S', r) → W p l e (rmK 7 151 (kap S' - kap S0)) s m args below meth c H locs (kap S - kap S0) (2 * (kap S - kap S0)) (MQ below (QiM D T ρ0 A S' r) args s (kap S' - kap S0) (2 * (kap S' - kap S0)) A) (F0 m 25 ls []) := by
  induction n with
  | zero => intro ρ S x0 x1 x2 H locs ls ha hm w hl ho_x0 h; exact absurd h (fun q => by cases q)
  | succ n ih => intro ρ S x0 x1 x2 H locs ls ha hm w hl ho_x0 h; exact wb_Pg_judged_25 C hr hk hcn hcw kk12 km12 ih (km_Pg_judged_25 km12 n) ha hm w hl ho_x0 h
set_option maxRecDepth 100000 in
set_option maxHeartbeats 4000000 in
theorem wb_Pg_judged_12 {g : Nat} {S : St} {x0 : Nat} {x1 : Int32} (C : CallFix p m c cX4_judged 3 s args tb RX4) (hr : meth.sig.returnType = (some .int)) (hk : meth.locks = false) (hcn : Kn Z A s s.heap) (hcw : Kw Z s) {S' : St} {r : Int32} {k12 : St → Nat → Int32 → Option (St × Int32)} (kk12 : ∀ (ρ : Nat → Nat) (S : St) (x0 : Nat) (x1 : Int32) (H : Heap) (locs : List Loc) (ls : Array Slot), Ag ρ0 ρ → kap S0 ≤ kap S → Wn Yc D T ρ S A s H locs → lv_has ls 3 [(0, .ref (ρ x0)), (1, .int x1)] → Ob Yc x0 2 → k12 S x0 x1 = some (S', r) → W p l e (rmK 7 151 (kap S' - kap S0)) s m args below meth c H locs (kap S - kap S0) (2 * (kap S - kap S0)) (MQ below (QiM D T ρ0 A S' r) args s (kap S' - kap S0) (2 * (kap S' - kap S0)) A) (F0 m 12 ls [])) (km12 : ∀ (S : St) (x0 : Nat) (x1 : Int32), k12 S x0 x1 = some (S', r) → kap S ≤ kap S') (ha : Ag ρ0 ρ) (hm : kap S0 ≤ kap S) (w : Wn Yc D T ρ S A s H locs) (hl : lv_has ls 3 [(0, .ref (ρ x0)), (1, .int x1)]) (ho_x0 : Ob Yc x0 2) (h : b_Pg_judged_12 g k12 S x0 x1 = some (S', r)) : W p l e (rmK 7 151 (kap S' - kap S0)) s m args below meth c H locs (kap S - kap S0) (2 * (kap S - kap S0)) (MQ below (QiM D T ρ0 A S' r) args s (kap S' - kap S0) (2 * (kap S' - kap S0)) A) (F0 m 12 ls []) := by
  have hT := kmb_Pg_judged_12 km12 h
  unfold b_Pg_judged_12 at h
  have nn : nq S S := nq_rf
  refine lv_iload_n C.1 C.2.1 dX4_judged_12 rfl (lv_at hl 1 rfl) ?_
  refine lv_aload_n C.1 C.2.1 dX4_judged_13 rfl (lv_at hl 0 rfl) ?_
  refine x_getI C w fX4_43 ho_x0 dX4_judged_14 ?_
  refine lv_icmp_ge (tgt := 119) C.1 C.2.1 dX4_judged_17 (by decide) (fun hc => ?_) (fun hc => ?_)
  · replace h := ift hc h
    refine lv_iconst (v := (-1)) C.1 C.2.1 dX4_judged_119 (by decide) ?_
    obtain ⟨rfl, rfl⟩ := prI h
    exact x_iretM C w ha hr hk dX4_judged_120 (by have := nq_kap nn; omega) (by have := nq_kap nn; omega)
  · replace h := iff0 hc h
    refine lv_aload_n C.1 C.2.1 dX4_judged_20 rfl (lv_at hl 0 rfl) ?_
    refine x_getI C w fX4_53 ho_x0 dX4_judged_21 ?_
    obtain ⟨x2_3, ex2_3, h⟩ := lt_e h
    refine x_nm ex2_3 ?_
    refine lv_istore_n (lv' := [(2, .int x2_3), (0, .ref (ρ x0)), (1, .int x1)]) C.1 C.2.1 dX4_judged_24 rfl hl (by decide) rfl (fun ls hl => ?_)
    have hkn := nq_kap nn
    refine W.widen (k := kap S - kap S0) (n := 2 * (kap S - kap S0)) (by omega) (by omega) ?_
    exact w_Pg_judged_25 C hr hk hcn hcw kk12 km12 g _ _ _ _ _ _ _ _ ha (by omega) w (lv_sub hl [1, 2, 0] rfl) ho_x0 h
theorem w_Pg_judged_12 {g : Nat} (C : CallFix p m c cX4_judged 3 s args tb RX4) (hr : meth.sig.returnType = (some .int)) (hk : meth.locks = false) (hcn : Kn Z A s s.heap) (hcw : Kw Z s) {S' : St} {r : Int32} (n : Nat) : ∀ (ρ : Nat → Nat) (S : St) (x0 : Nat) (x1 : Int32) (H : Heap) (locs : List Loc) (ls : Array Slot), Ag ρ0 ρ → kap S0 ≤ kap S → Wn Yc D T ρ S A s H locs → lv_has ls 3 [(0, .ref (ρ x0)), (1, .int x1)] → Ob Yc x0 2 → m_Pg_judged_12 g n S x0 x1 = some (S', r) → W p l e (rmK 7 151 (kap S' - kap S0)) s m args below meth c H locs (kap S - kap S0) (2 * (kap S - kap S0)) (MQ below (QiM D T ρ0 A S' r) args s (kap S' - kap S0) (2 * (kap S' - kap S0)) A) (F0 m 12 ls []) := by
  induction n with
  | zero => intro ρ S x0 x1 H locs ls ha hm w hl ho_x0 h; exact absurd h (fun q => by cases q)
  | succ n ih => intro ρ S x0 x1 H locs ls ha hm w hl ho_x0 h; exact wb_Pg_judged_12 C hr hk hcn hcw ih (km_Pg_judged_12 n) ha hm w hl ho_x0 h
set_option maxRecDepth 100000 in
set_option maxHeartbeats 4000000 in
theorem w_Pg_judged_0 {g : Nat} {S : St} {x0 : Nat} (C : CallFix p m c cX4_judged 3 s args tb RX4) (hr : meth.sig.returnType = (some .int)) (hk : meth.locks = false) (hcn : Kn Z A s s.heap) (hcw : Kw Z s) {S' : St} {r : Int32} (ha : Ag ρ0 ρ) (hm : kap S0 ≤ kap S) (w : Wn Yc D T ρ S A s H locs) (hl : lv_has ls 3 [(0, .ref (ρ x0))]) (ho_x0 : Ob Yc x0 2) (h : m_Pg_judged g S x0 = some (S', r)) : W p l e (rmK 7 151 (kap S' - kap S0)) s m args below meth c H locs (kap S - kap S0) (2 * (kap S - kap S0)) (MQ below (QiM D T ρ0 A S' r) args s (kap S' - kap S0) (2 * (kap S' - kap S0)) A) (F0 m 0 ls []) := by
  have hT := km_Pg_judged h
  unfold m_Pg_judged at h
  have nn : nq S S := nq_rf
  refine lv_aload_n C.1 C.2.1 dX4_judged_0 rfl (lv_at hl 0 rfl) ?_
  refine lv_iconst (v := 0) C.1 C.2.1 dX4_judged_1 (by decide) ?_
  obtain ⟨S_1, eS_1, h⟩ := lt_e h
  replace nn : nq S_1 S := nq_tr (by rw [eS_1]; rfl) nn
  refine y_putI C w eS_1 fX4_53 pX4_11 ho_x0 dX4_judged_2 (fun H locs w => ?_)
  refine lv_aload_n C.1 C.2.1 dX4_judged_5 rfl (lv_at hl 0 rfl) ?_
  refine lv_lconst (v := 0) C.1 C.2.1 dX4_judged_6 (by decide) ?_
  obtain ⟨S_2, eS_2, h⟩ := lt_e h
  replace nn : nq S_2 S := nq_tr (by rw [eS_2]; rfl) nn
  refine y_putL C w eS_2 fX4_56 pX4_12 ho_x0 dX4_judged_7 (fun H locs w => ?_)
  refine lv_iconst (v := 0) C.1 C.2.1 dX4_judged_10 (by decide) ?_
  refine lv_istore_n (lv' := [(1, .int (0 : Int32)), (0, .ref (ρ x0))]) C.1 C.2.1 dX4_judged_11 rfl hl (by decide) rfl (fun ls hl => ?_)
  have hkn := nq_kap nn
  refine W.widen (k := kap S_2 - kap S0) (n := 2 * (kap S_2 - kap S0)) (by omega) (by omega) ?_
  exact w_Pg_judged_12 C hr hk hcn hcw g _ _ _ _ _ _ _ ha (by omega) w (lv_sub hl [1, 0] rfl) ho_x0 h
end S_Pg_judged
set_option maxRecDepth 100000 in
theorem k_Pg_judged (l : Launch) (Z : Ad) (D : va_G) (T : Cy) (ρ : Nat → Nat) (g sz : Nat) (S : St) {x0 : Nat} (ho_x0 : Ob Yc x0 2) {S' : St} {r : Int32} (h : m_Pg_judged g S x0 = some (S', r)) : MiC l Z D T ρ yX4_judged cX4_judged 3 (some .int) 7 151 S S' r [.ref (ρ x0)] sz :=
  x_inC (by decide) (Nat.le_of_ble_eq_true rfl) (fun p e s m below meth c ls C hr hk hcn hcw w hl => W.widen (Nat.zero_le _) (Nat.zero_le _) (w_Pg_judged_0 C hr hk hcn hcw Ag.rf (Nat.le_refl _) w hl ho_x0 h))

theorem dX4_spelledByte_0 : decode cX4_spelledByte 0 = .ok (.iload_n 1, 1) := by decide +kernel
theorem dX4_spelledByte_1 : decode cX4_spelledByte 1 = .ok (.ifCond .lt 15, 3) := by decide +kernel
theorem dX4_spelledByte_4 : decode cX4_spelledByte 4 = .ok (.iload_n 1, 1) := by decide +kernel
theorem dX4_spelledByte_5 : decode cX4_spelledByte 5 = .ok (.aload_n 0, 1) := by decide +kernel
theorem dX4_spelledByte_6 : decode cX4_spelledByte 6 = .ok (.getfield 43, 3) := by decide +kernel
theorem dX4_spelledByte_9 : decode cX4_spelledByte 9 = .ok (.if_icmp .ge 7, 3) := by decide +kernel
theorem dX4_spelledByte_12 : decode cX4_spelledByte 12 = .ok (.iload_n 2, 1) := by decide +kernel
theorem dX4_spelledByte_13 : decode cX4_spelledByte 13 = .ok (.ifCond .ge 5, 3) := by decide +kernel
theorem dX4_spelledByte_16 : decode cX4_spelledByte 16 = .ok (.iconst (-1), 1) := by decide +kernel
theorem dX4_spelledByte_17 : decode cX4_spelledByte 17 = .ok (.ireturn, 1) := by decide +kernel
theorem dX4_spelledByte_18 : decode cX4_spelledByte 18 = .ok (.aload_n 0, 1) := by decide +kernel
theorem dX4_spelledByte_19 : decode cX4_spelledByte 19 = .ok (.iload_n 2, 1) := by decide +kernel
theorem dX4_spelledByte_20 : decode cX4_spelledByte 20 = .ok (.putfield 60, 3) := by decide +kernel
theorem dX4_spelledByte_23 : decode cX4_spelledByte 23 = .ok (.aload_n 0, 1) := by decide +kernel
theorem dX4_spelledByte_24 : decode cX4_spelledByte 24 = .ok (.iconst (-1), 1) := by decide +kernel
theorem dX4_spelledByte_25 : decode cX4_spelledByte 25 = .ok (.putfield 63, 3) := by decide +kernel
theorem dX4_spelledByte_28 : decode cX4_spelledByte 28 = .ok (.aload_n 0, 1) := by decide +kernel
theorem dX4_spelledByte_29 : decode cX4_spelledByte 29 = .ok (.iload_n 1, 1) := by decide +kernel
theorem dX4_spelledByte_30 : decode cX4_spelledByte 30 = .ok (.invokevirtual 103, 3) := by decide +kernel
theorem dX4_spelledByte_33 : decode cX4_spelledByte 33 = .ok (.getfield 138, 3) := by decide +kernel
theorem dX4_spelledByte_36 : decode cX4_spelledByte 36 = .ok (.astore_n 3, 1) := by decide +kernel
theorem dX4_spelledByte_37 : decode cX4_spelledByte 37 = .ok (.iconst 0, 1) := by decide +kernel
theorem dX4_spelledByte_38 : decode cX4_spelledByte 38 = .ok (.istore 4, 2) := by decide +kernel
theorem dX4_spelledByte_40 : decode cX4_spelledByte 40 = .ok (.iload 4, 2) := by decide +kernel
theorem dX4_spelledByte_42 : decode cX4_spelledByte 42 = .ok (.aload_n 3, 1) := by decide +kernel
theorem dX4_spelledByte_43 : decode cX4_spelledByte 43 = .ok (.invokevirtual 142, 3) := by decide +kernel
theorem dX4_spelledByte_46 : decode cX4_spelledByte 46 = .ok (.if_icmp .ge 19, 3) := by decide +kernel
theorem dX4_spelledByte_49 : decode cX4_spelledByte 49 = .ok (.aload_n 0, 1) := by decide +kernel
theorem dX4_spelledByte_50 : decode cX4_spelledByte 50 = .ok (.aload_n 3, 1) := by decide +kernel
theorem dX4_spelledByte_51 : decode cX4_spelledByte 51 = .ok (.iload 4, 2) := by decide +kernel
theorem dX4_spelledByte_53 : decode cX4_spelledByte 53 = .ok (.invokevirtual 148, 3) := by decide +kernel
theorem dX4_spelledByte_56 : decode cX4_spelledByte 56 = .ok (.invokevirtual 151, 3) := by decide +kernel
theorem dX4_spelledByte_59 : decode cX4_spelledByte 59 = .ok (.iinc 4 1, 3) := by decide +kernel
theorem dX4_spelledByte_62 : decode cX4_spelledByte 62 = .ok (.goto (-22), 3) := by decide +kernel
theorem dX4_spelledByte_65 : decode cX4_spelledByte 65 = .ok (.aload_n 0, 1) := by decide +kernel
theorem dX4_spelledByte_66 : decode cX4_spelledByte 66 = .ok (.getfield 15, 3) := by decide +kernel
theorem dX4_spelledByte_69 : decode cX4_spelledByte 69 = .ok (.iload_n 1, 1) := by decide +kernel
theorem dX4_spelledByte_70 : decode cX4_spelledByte 70 = .ok (.iaload, 1) := by decide +kernel
theorem dX4_spelledByte_71 : decode cX4_spelledByte 71 = .ok (.istore 4, 2) := by decide +kernel
theorem dX4_spelledByte_73 : decode cX4_spelledByte 73 = .ok (.iload 4, 2) := by decide +kernel
theorem dX4_spelledByte_75 : decode cX4_spelledByte 75 = .ok (.aload_n 0, 1) := by decide +kernel
theorem dX4_spelledByte_76 : decode cX4_spelledByte 76 = .ok (.getfield 15, 3) := by decide +kernel
theorem dX4_spelledByte_79 : decode cX4_spelledByte 79 = .ok (.iload_n 1, 1) := by decide +kernel
theorem dX4_spelledByte_80 : decode cX4_spelledByte 80 = .ok (.iconst 1, 1) := by decide +kernel
theorem dX4_spelledByte_81 : decode cX4_spelledByte 81 = .ok (.iadd, 1) := by decide +kernel
theorem dX4_spelledByte_82 : decode cX4_spelledByte 82 = .ok (.iaload, 1) := by decide +kernel
theorem dX4_spelledByte_83 : decode cX4_spelledByte 83 = .ok (.if_icmp .ge 21, 3) := by decide +kernel
theorem dX4_spelledByte_86 : decode cX4_spelledByte 86 = .ok (.aload_n 0, 1) := by decide +kernel
theorem dX4_spelledByte_87 : decode cX4_spelledByte 87 = .ok (.bipush 32, 2) := by decide +kernel
theorem dX4_spelledByte_89 : decode cX4_spelledByte 89 = .ok (.invokevirtual 151, 3) := by decide +kernel
theorem dX4_spelledByte_92 : decode cX4_spelledByte 92 = .ok (.aload_n 0, 1) := by decide +kernel
theorem dX4_spelledByte_93 : decode cX4_spelledByte 93 = .ok (.iload 4, 2) := by decide +kernel
theorem dX4_spelledByte_95 : decode cX4_spelledByte 95 = .ok (.invokevirtual 154, 3) := by decide +kernel
theorem dX4_spelledByte_98 : decode cX4_spelledByte 98 = .ok (.iinc 4 1, 3) := by decide +kernel
theorem dX4_spelledByte_101 : decode cX4_spelledByte 101 = .ok (.goto (-28), 3) := by decide +kernel
theorem dX4_spelledByte_104 : decode cX4_spelledByte 104 = .ok (.aload_n 0, 1) := by decide +kernel
theorem dX4_spelledByte_105 : decode cX4_spelledByte 105 = .ok (.getfield 63, 3) := by decide +kernel
theorem dX4_spelledByte_108 : decode cX4_spelledByte 108 = .ok (.ireturn, 1) := by decide +kernel
def m_Pg_spelledByte_98 (g : Nat) (k73 : St → Nat → Int32 → Int32 → Option (St × Int32)) (S : St) (x0 : Nat) (x1 : Int32) (x4 : Int32) : Option (St × Int32) :=
lt (x4 + (1 : Int32)) fun x4_10 =>
k73 S x0 x1 x4_10
def b_Pg_spelledByte_73 (g : Nat) (k73 : St → Nat → Int32 → Int32 → Option (St × Int32)) (S : St) (x0 : Nat) (x1 : Int32) (x4 : Int32) : Option (St × Int32) :=
(aI S (50 + 8 * x0 + 1) (x1 + (1 : Int32))).bind fun v_7 =>
if v_7 ≤ x4 then (
  some (S, gI S x0 14)
) else (
  (m_Pg_say g S x0 (32 : Int32)).bind fun S_8 =>
  (m_Pg_sayWord g S_8 x0 x4).bind fun S_9 =>
  m_Pg_spelledByte_98 g k73 S_9 x0 x1 x4
)
def m_Pg_spelledByte_73 (g : Nat) : Nat → St → Nat → Int32 → Int32 → Option (St × Int32)
  | 0, _, _, _, _ => none
  | n + 1, S, x0, x1, x4 => b_Pg_spelledByte_73 g (m_Pg_spelledByte_73 g n) S x0 x1 x4
def b_Pg_spelledByte_40 (g : Nat) (k40 : St → Nat → Int32 → Nat → Int32 → Option (St × Int32)) (S : St) (x0 : Nat) (x1 : Int32) (x3 : Nat) (x4 : Int32) : Option (St × Int32) :=
if (sLen x3) ≤ x4 then (
  (aI S (50 + 8 * x0 + 1) x1).bind fun v_6 =>
  m_Pg_spelledByte_73 g g S x0 x1 v_6
) else (
  (cC x3 x4).bind fun v_8 =>
  (m_Pg_say g S x0 v_8).bind fun S_9 =>
  lt (x4 + (1 : Int32)) fun x4_10 =>
  k40 S_9 x0 x1 x3 x4_10
)
def m_Pg_spelledByte_40 (g : Nat) : Nat → St → Nat → Int32 → Nat → Int32 → Option (St × Int32)
  | 0, _, _, _, _, _ => none
  | n + 1, S, x0, x1, x3, x4 => b_Pg_spelledByte_40 g (m_Pg_spelledByte_40 g n) S x0 x1 x3 x4
def m_Pg_spelledByte (g : Nat) (S : St) (x0 : Nat) (x1 : Int32) (x2 : Int32) : Option (St × Int32) :=
if x1 < 0 then (
  some (S, (-1 : Int32))
) else (
  if (gI S x0 8) ≤ x1 then (
    some (S, (-1 : Int32))
  ) else (
    if 0 ≤ x2 then (
      lt (sI S x0 13 x2) fun S_1 =>
      lt (sI S_1 x0 14 (-1 : Int32)) fun S_2 =>
      (m_Pg_sortOf g S_2 x0 x1).bind fun e_4 =>
      m_Pg_spelledByte_40 g g S_2 x0 x1 (spT.getD e_4 0) (0 : Int32)
    ) else (
      some (S, (-1 : Int32))
    )
  )
)
theorem km_Pg_spelledByte_98 {g : Nat} {S : St} {x0 : Nat} {x1 : Int32} {x4 : Int32} {S' : St} {r : Int32} {k73 : St → Nat → Int32 → Int32 → Option (St × Int32)} (km73 : ∀ (S : St) (x0 : Nat) (x1 : Int32) (x4 : Int32), k73 S x0 x1 x4 = some (S', r) → kap S ≤ kap S') (h : m_Pg_spelledByte_98 g k73 S x0 x1 x4 = some (S', r)) : kap S ≤ kap S' := by
  unfold m_Pg_spelledByte_98 at h
  have nn : nq S S := nq_rf
  obtain ⟨x4_10, ex4_10, h⟩ := lt_e h
  have hkn := nq_kap nn
  have h2 := km73 _ _ _ _ h
  omega
theorem kmb_Pg_spelledByte_73 {g : Nat} {S : St} {x0 : Nat} {x1 : Int32} {x4 : Int32} {S' : St} {r : Int32} {k73 : St → Nat → Int32 → Int32 → Option (St × Int32)} (km73 : ∀ (S : St) (x0 : Nat) (x1 : Int32) (x4 : Int32), k73 S x0 x1 x4 = some (S', r) → kap S ≤ kap S') (h : b_Pg_spelledByte_73 g k73 S x0 x1 x4 = some (S', r)) : kap S ≤ kap S' := by
  unfold b_Pg_spelledByte_73 at h
  have nn : nq S S := nq_rf
  obtain ⟨v_7, hv_7, h⟩ := bnd h
  by_cases hc1 : v_7 ≤ x4
  · replace h := ift hc1 h
    obtain ⟨rfl, rfl⟩ := prI h
    have hkn := nq_kap nn
    omega
  · replace h := iff0 hc1 h
    obtain ⟨S_8, hS_8, h⟩ := bnd h
    replace nn : nq S_8 S := nq_tr (kq_Pg_say hS_8) nn
    obtain ⟨S_9, hS_9, h⟩ := bnd h
    have hk1 := km_Pg_sayWord hS_9
    have hkn := nq_kap nn
    have h2 := km_Pg_spelledByte_98 km73 h
    omega
theorem km_Pg_spelledByte_73 {g : Nat} {S' : St} {r : Int32} (n : Nat) : ∀ (S : St) (x0 : Nat) (x1 : Int32) (x4 : Int32), m_Pg_spelledByte_73 g n S x0 x1 x4 = some (S', r) → kap S ≤ kap S' := by
  induction n with
  | zero => intro S x0 x1 x4 h; exact absurd h (fun q => by cases q)
  | succ n ih => intro S x0 x1 x4 h; exact kmb_Pg_spelledByte_73 ih h
theorem kmb_Pg_spelledByte_40 {g : Nat} {S : St} {x0 : Nat} {x1 : Int32} {x3 : Nat} {x4 : Int32} {S' : St} {r : Int32} {k40 : St → Nat → Int32 → Nat → Int32 → Option (St × Int32)} (km40 : ∀ (S : St) (x0 : Nat) (x1 : Int32) (x3 : Nat) (x4 : Int32), k40 S x0 x1 x3 x4 = some (S', r) → kap S ≤ kap S') (h : b_Pg_spelledByte_40 g k40 S x0 x1 x3 x4 = some (S', r)) : kap S ≤ kap S' := by
  unfold b_Pg_spelledByte_40 at h
  have nn : nq S S := nq_rf
  by_cases hc1 : (sLen x3) ≤ x4
  · replace h := ift hc1 h
    obtain ⟨v_6, hv_6, h⟩ := bnd h
    have hkn := nq_kap nn
    have h2 := km_Pg_spelledByte_73 g _ _ _ _ h
    omega
  · replace h := iff0 hc1 h
    obtain ⟨v_8, hv_8, h⟩ := bnd h
    obtain ⟨S_9, hS_9, h⟩ := bnd h
    replace nn : nq S_9 S := nq_tr (kq_Pg_say hS_9) nn
    obtain ⟨x4_10, ex4_10, h⟩ := lt_e h
    have hkn := nq_kap nn
    have h2 := km40 _ _ _ _ _ h
    omega
theorem km_Pg_spelledByte_40 {g : Nat} {S' : St} {r : Int32} (n : Nat) : ∀ (S : St) (x0 : Nat) (x1 : Int32) (x3 : Nat) (x4 : Int32), m_Pg_spelledByte_40 g n S x0 x1 x3 x4 = some (S', r) → kap S ≤ kap S' := by
  induction n with
  | zero => intro S x0 x1 x3 x4 h; exact absurd h (fun q => by cases q)
  | succ n ih => intro S x0 x1 x3 x4 h; exact kmb_Pg_spelledByte_40 ih h
theorem km_Pg_spelledByte {g : Nat} {S : St} {x0 : Nat} {x1 : Int32} {x2 : Int32} {S' : St} {r : Int32} (h : m_Pg_spelledByte g S x0 x1 x2 = some (S', r)) : kap S ≤ kap S' := by
  unfold m_Pg_spelledByte at h
  have nn : nq S S := nq_rf
  by_cases hc1 : x1 < 0
  · replace h := ift hc1 h
    obtain ⟨rfl, rfl⟩ := prI h
    have hkn := nq_kap nn
    omega
  · replace h := iff0 hc1 h
    by_cases hc2 : (gI S x0 8) ≤ x1
    · replace h := ift hc2 h
      obtain ⟨rfl, rfl⟩ := prI h
      have hkn := nq_kap nn
      omega
    · replace h := iff0 hc2 h
      by_cases hc3 : 0 ≤ x2
      · replace h := ift hc3 h
        obtain ⟨S_1, eS_1, h⟩ := lt_e h
        replace nn : nq S_1 S := nq_tr (by rw [eS_1]; rfl) nn
        obtain ⟨S_2, eS_2, h⟩ := lt_e h
        replace nn : nq S_2 S := nq_tr (by rw [eS_2]; rfl) nn
        obtain ⟨e_4, he_4, h⟩ := bnd h
        have hkn := nq_kap nn
        have h2 := km_Pg_spelledByte_40 g _ _ _ _ _ h
        omega
      · replace h := iff0 hc3 h
        obtain ⟨rfl, rfl⟩ := prI h
        have hkn := nq_kap nn
        omega
section S_Pg_spelledByte
variable {p : Program} {l : Launch} {e : Env} {s : State} {m : MethodId} {args : Array Value} {below : List Frame} {meth : Method} {c : Code} {H : Heap} {locs : List Loc} {ls : Array Slot} {D : va_G} {T : Cy} {ρ ρ0 : Nat → Nat} {S0 : St} {A : Nat → Prop} {Z : Ad}
set_option maxRecDepth 100000 in
set_option maxHeartbeats 4000000 in
theorem w_Pg_spelledByte_98 {g : Nat} {S : St} {x0 : Nat} {x1 : Int32} {x4 : Int32} (C : CallFix p m c cX4_spelledByte 5 s args tb RX4) (hr : meth.sig.returnType = (some .int)) (hk : meth.locks = false) (hcn : Kn Z A s s.heap) (hcw : Kw Z s) {S' : St} {r : Int32} {k73 : St → Nat → Int32 → Int32 → Option (St × Int32)} (kk73 : ∀ (ρ : Nat → Nat) (S : St) (x0 : Nat) (x1 : Int32) (x4 : Int32) (H : Heap) (locs : List Loc) (ls : Array Slot), Ag ρ0 ρ → kap S0 ≤ kap S → Wn Yc D T ρ S A s H locs → lv_has ls 5 [(0, .ref (ρ x0)), (1, .int x1), (4, .int x4)] → Ob Yc x0 2 → k73 S x0 x1 x4 = some (S', r) → W p l e (rmK 5 122 (kap S' - kap S0)) s m args below meth c H locs (kap S - kap S0) (2 * (kap S - kap S0)) (MQ below (QiM D T ρ0 A S' r) args s (kap S' - kap S0) (2 * (kap S' - kap S0)) A) (F0 m 73 ls [])) (km73 : ∀ (S : St) (x0 : Nat) (x1 : Int32) (x4 : Int32), k73 S x0 x1 x4 = some (S', r) → kap S ≤ kap S') (ha : Ag ρ0 ρ) (hm : kap S0 ≤ kap S) (w : Wn Yc D T ρ S A s H locs) (hl : lv_has ls 5 [(0, .ref (ρ x0)), (1, .int x1), (4, .int x4)]) (ho_x0 : Ob Yc x0 2) (h : m_Pg_spelledByte_98 g k73 S x0 x1 x4 = some (S', r)) : W p l e (rmK 5 122 (kap S' - kap S0)) s m args below meth c H locs (kap S - kap S0) (2 * (kap S - kap S0)) (MQ below (QiM D T ρ0 A S' r) args s (kap S' - kap S0) (2 * (kap S' - kap S0)) A) (F0 m 98 ls []) := by
  have hT := km_Pg_spelledByte_98 km73 h
  unfold m_Pg_spelledByte_98 at h
  have nn : nq S S := nq_rf
  obtain ⟨x4_10, ex4_10, h⟩ := lt_e h
  refine lv_iinc (v := x4_10) (lv' := [(4, .int x4_10), (0, .ref (ρ x0)), (1, .int x1)]) C.1 C.2.1 dX4_spelledByte_98 hl (k := 2) rfl (by rw [ex4_10]; rfl) (by decide) rfl (fun ls hl => ?_)
  refine lv_goto (tgt := 73) C.1 C.2.1 dX4_spelledByte_101 (by decide) ?_
  have hkn := nq_kap nn
  refine W.widen (k := kap S - kap S0) (n := 2 * (kap S - kap S0)) (by omega) (by omega) ?_
  exact kk73 _ _ _ _ _ _ _ _ ha (by omega) w (lv_sub hl [1, 2, 0] rfl) ho_x0 h
set_option maxRecDepth 100000 in
set_option maxHeartbeats 4000000 in
theorem wb_Pg_spelledByte_73 {g : Nat} {S : St} {x0 : Nat} {x1 : Int32} {x4 : Int32} (C : CallFix p m c cX4_spelledByte 5 s args tb RX4) (hr : meth.sig.returnType = (some .int)) (hk : meth.locks = false) (hcn : Kn Z A s s.heap) (hcw : Kw Z s) {S' : St} {r : Int32} {k73 : St → Nat → Int32 → Int32 → Option (St × Int32)} (kk73 : ∀ (ρ : Nat → Nat) (S : St) (x0 : Nat) (x1 : Int32) (x4 : Int32) (H : Heap) (locs : List Loc) (ls : Array Slot), Ag ρ0 ρ → kap S0 ≤ kap S → Wn Yc D T ρ S A s H locs → lv_has ls 5 [(0, .ref (ρ x0)), (1, .int x1), (4, .int x4)] → Ob Yc x0 2 → k73 S x0 x1 x4 = some (S', r) → W p l e (rmK 5 122 (kap S' - kap S0)) s m args below meth c H locs (kap S - kap S0) (2 * (kap S - kap S0)) (MQ below (QiM D T ρ0 A S' r) args s (kap S' - kap S0) (2 * (kap S' - kap S0)) A) (F0 m 73 ls [])) (km73 : ∀ (S : St) (x0 : Nat) (x1 : Int32) (x4 : Int32), k73 S x0 x1 x4 = some (S', r) → kap S ≤ kap S') (ha : Ag ρ0 ρ) (hm : kap S0 ≤ kap S) (w : Wn Yc D T ρ S A s H locs) (hl : lv_has ls 5 [(0, .ref (ρ x0)), (1, .int x1), (4, .int x4)]) (ho_x0 : Ob Yc x0 2) (h : b_Pg_spelledByte_73 g k73 S x0 x1 x4 = some (S', r)) : W p l e (rmK 5 122 (kap S' - kap S0)) s m args below meth c H locs (kap S - kap S0) (2 * (kap S - kap S0)) (MQ below (QiM D T ρ0 A S' r) args s (kap S' - kap S0) (2 * (kap S' - kap S0)) A) (F0 m 73 ls []) := by
  have hT := kmb_Pg_spelledByte_73 km73 h
  unfold b_Pg_spelledByte_73 at h
  have nn : nq S S := nq_rf
  refine lv_iload C.1 C.2.1 dX4_spelledByte_73 (lv_at hl 2 rfl) ?_
  refine lv_aload_n C.1 C.2.1 dX4_spelledByte_75 rfl (lv_at hl 0 rfl) ?_
  refine x_getC C w (50 + 8 * x0 + 1) fX4_15 ho_x0 (crP1 ho_x0) dX4_spelledByte_76 ?_
  refine lv_iload_n C.1 C.2.1 dX4_spelledByte_79 rfl (lv_at hl 1 rfl) ?_
  refine lv_iconst (v := 1) C.1 C.2.1 dX4_spelledByte_80 (by decide) ?_
  refine lv_iadd C.1 C.2.1 dX4_spelledByte_81 ?_
  obtain ⟨v_7, hv_7, h⟩ := bnd h
  refine x_iald C w (obP1 ho_x0) hv_7 dX4_spelledByte_82 ?_
  refine lv_icmp_ge (tgt := 104) C.1 C.2.1 dX4_spelledByte_83 (by decide) (fun hc => ?_) (fun hc => ?_)
  · replace h := ift hc h
    refine lv_aload_n C.1 C.2.1 dX4_spelledByte_104 rfl (lv_at hl 0 rfl) ?_
    refine x_getI C w fX4_63 ho_x0 dX4_spelledByte_105 ?_
    obtain ⟨rfl, rfl⟩ := prI h
    exact x_iretM C w ha hr hk dX4_spelledByte_108 (by have := nq_kap nn; omega) (by have := nq_kap nn; omega)
  · replace h := iff0 hc h
    refine lv_aload_n C.1 C.2.1 dX4_spelledByte_86 rfl (lv_at hl 0 rfl) ?_
    refine lv_bipush (v := 32) C.1 C.2.1 dX4_spelledByte_87 (by decide) ?_
    obtain ⟨S_8, hS_8, h⟩ := bnd h
    replace nn : nq S_8 S := nq_tr (kq_Pg_say hS_8) nn
    refine x_callVv (q := (RX4, TX4, 16)) (As := [.int (32 : Int32)]) (rest := []) C w (k_Pg_say l D T ρ g H.size S ho_x0 hS_8) vX4_151 (hRK (by decide) (by decide)) ho_x0 (by decide) rfl rfl rfl hl.1 (Nat.le_of_ble_eq_true rfl) (hcK hT) dX4_spelledByte_89 (fun H locs w => ?_)
    refine lv_aload_n C.1 C.2.1 dX4_spelledByte_92 rfl (lv_at hl 0 rfl) ?_
    refine lv_iload C.1 C.2.1 dX4_spelledByte_93 (lv_at hl 2 rfl) ?_
    obtain ⟨S_9, hS_9, h⟩ := bnd h
    have hkn := nq_kap nn
    have hk1 := km_Pg_sayWord hS_9
    have hT2 := km_Pg_spelledByte_98 km73 h
    refine x_callVvM (q := (RX4, TX4, 16)) (As := [.int x4]) (rest := []) C w (k_Pg_sayWord l D T ρ g H.size S_8 ho_x0 hS_9) vX4_154 (hRK (by decide) (by decide)) ho_x0 (by decide) rfl rfl rfl hl.1 (Nat.le_of_ble_eq_true rfl) (hcM hm hkn hk1 hT2) dX4_spelledByte_95 (fun ρ1 H locs hag w => ?_)
    replace ha := ha.trans hag
    rw [← hag x0 (ncP ho_x0)] at hl
    refine W.widen (k := kap S_9 - kap S0) (n := 2 * (kap S_9 - kap S0)) (by omega) (by omega) ?_
    exact w_Pg_spelledByte_98 C hr hk hcn hcw kk73 km73 ha (by omega) w (lv_sub hl [0, 1, 2] rfl) ho_x0 h
theorem w_Pg_spelledByte_73 {g : Nat} (C : CallFix p m c cX4_spelledByte 5 s args tb RX4) (hr : meth.sig.returnType = (some .int)) (hk : meth.locks = false) (hcn : Kn Z A s s.heap) (hcw : Kw Z s) {S' : St} {r : Int32} (n : Nat) : ∀ (ρ : Nat → Nat) (S : St) (x0 : Nat) (x1 : Int32) (x4 : Int32) (H : Heap) (locs : List Loc) (ls : Array Slot), Ag ρ0 ρ → kap S0 ≤ kap S → Wn Yc D T ρ S A s H locs → lv_has ls 5 [(0, .ref (ρ x0)), (1, .int x1), (4, .int x4)] → Ob Yc x0 2 → m_Pg_spelledByte_73 g n S x0 x1 x4 = some (S', r) → W p l e (rmK 5 122 (kap S' - kap S0)) s m args below meth c H locs (kap S - kap S0) (2 * (kap S - kap S0)) (MQ below (QiM D T ρ0 A S' r) args s (kap S' - kap S0) (2 * (kap S' - kap S0)) A) (F0 m 73 ls []) := by
  induction n with
  | zero => intro ρ S x0 x1 x4 H locs ls ha hm w hl ho_x0 h; exact absurd h (fun q => by cases q)
  | succ n ih => intro ρ S x0 x1 x4 H locs ls ha hm w hl ho_x0 h; exact wb_Pg_spelledByte_73 C hr hk hcn hcw ih (km_Pg_spelledByte_73 n) ha hm w hl ho_x0 h
set_option maxRecDepth 100000 in
set_option maxHeartbeats 4000000 in
theorem wb_Pg_spelledByte_40 {g : Nat} {S : St} {x0 : Nat} {x1 : Int32} {x3 : Nat} {x4 : Int32} (C : CallFix p m c cX4_spelledByte 5 s args tb RX4) (hr : meth.sig.returnType = (some .int)) (hk : meth.locks = false) (hcn : Kn Z A s s.heap) (hcw : Kw Z s) {S' : St} {r : Int32} {k40 : St → Nat → Int32 → Nat → Int32 → Option (St × Int32)} (kk40 : ∀ (ρ : Nat → Nat) (S : St) (x0 : Nat) (x1 : Int32) (x3 : Nat) (x4 : Int32) (H : Heap) (locs : List Loc) (ls : Array Slot), Ag ρ0 ρ → kap S0 ≤ kap S → Wn Yc D T ρ S A s H locs → lv_has ls 5 [(0, .ref (ρ x0)), (1, .int x1), (3, .ref (Z.2.2.2.1 x3)), (4, .int x4)] → Ob Yc x0 2 → x3 < 101 → k40 S x0 x1 x3 x4 = some (S', r) → W p l e (rmK 5 122 (kap S' - kap S0)) s m args below meth c H locs (kap S - kap S0) (2 * (kap S - kap S0)) (MQ below (QiM D T ρ0 A S' r) args s (kap S' - kap S0) (2 * (kap S' - kap S0)) A) (F0 m 40 ls [])) (km40 : ∀ (S : St) (x0 : Nat) (x1 : Int32) (x3 : Nat) (x4 : Int32), k40 S x0 x1 x3 x4 = some (S', r) → kap S ≤ kap S') (ha : Ag ρ0 ρ) (hm : kap S0 ≤ kap S) (w : Wn Yc D T ρ S A s H locs) (hl : lv_has ls 5 [(0, .ref (ρ x0)), (1, .int x1), (3, .ref (Z.2.2.2.1 x3)), (4, .int x4)]) (ho_x0 : Ob Yc x0 2) (ho_x3 : x3 < 101) (h : b_Pg_spelledByte_40 g k40 S x0 x1 x3 x4 = some (S', r)) : W p l e (rmK 5 122 (kap S' - kap S0)) s m args below meth c H locs (kap S - kap S0) (2 * (kap S - kap S0)) (MQ below (QiM D T ρ0 A S' r) args s (kap S' - kap S0) (2 * (kap S' - kap S0)) A) (F0 m 40 ls []) := by
  have hT := kmb_Pg_spelledByte_40 km40 h
  unfold b_Pg_spelledByte_40 at h
  have nn : nq S S := nq_rf
  refine lv_iload C.1 C.2.1 dX4_spelledByte_40 (lv_at hl 3 rfl) ?_
  refine lv_aload_n C.1 C.2.1 dX4_spelledByte_42 rfl (lv_at hl 2 rfl) ?_
  refine x_callKi (As := []) (rest := [.int x4]) C w hcn hcw (hcn.2.2.2.2.2.2.2.1 _ ho_x3).1 (k_sLength l Z D T ρ H.size S ho_x3) vX4_142 (hRK (by decide) (by decide)) rfl rfl hl.1 (Nat.le_of_ble_eq_true rfl) (hcK hT) dX4_spelledByte_43 (fun ρ_5 H locs hag w => ?_)
  replace ha := ha.trans hag
  rw [← hag x0 (ncP ho_x0)] at hl
  refine lv_icmp_ge (tgt := 65) C.1 C.2.1 dX4_spelledByte_46 (by decide) (fun hc => ?_) (fun hc => ?_)
  · replace h := ift hc h
    refine lv_aload_n C.1 C.2.1 dX4_spelledByte_65 rfl (lv_at hl 0 rfl) ?_
    refine x_getC C w (50 + 8 * x0 + 1) fX4_15 ho_x0 (crP1 ho_x0) dX4_spelledByte_66 ?_
    refine lv_iload_n C.1 C.2.1 dX4_spelledByte_69 rfl (lv_at hl 1 rfl) ?_
    obtain ⟨v_6, hv_6, h⟩ := bnd h
    refine x_iald C w (obP1 ho_x0) hv_6 dX4_spelledByte_70 ?_
    refine lv_istore (lv' := [(4, .int v_6), (0, .ref (ρ_5 x0)), (1, .int x1), (3, .ref (Z.2.2.2.1 x3))]) C.1 C.2.1 dX4_spelledByte_71 hl (by decide) rfl (fun ls hl => ?_)
    have hkn := nq_kap nn
    refine W.widen (k := kap S - kap S0) (n := 2 * (kap S - kap S0)) (by omega) (by omega) ?_
    exact w_Pg_spelledByte_73 C hr hk hcn hcw g _ _ _ _ _ _ _ _ ha (by omega) w (lv_sub hl [1, 2, 0] rfl) ho_x0 h
  · replace h := iff0 hc h
    refine lv_aload_n C.1 C.2.1 dX4_spelledByte_49 rfl (lv_at hl 0 rfl) ?_
    refine lv_aload_n C.1 C.2.1 dX4_spelledByte_50 rfl (lv_at hl 2 rfl) ?_
    refine lv_iload C.1 C.2.1 dX4_spelledByte_51 (lv_at hl 3 rfl) ?_
    obtain ⟨v_8, hv_8, h⟩ := bnd h
    obtain ⟨hiv_8, hev_8⟩ := cC_some hv_8
    refine x_callKi (r := v_8) (As := [.int x4]) (rest := [.ref (ρ_5 x0)]) C w hcn hcw (hcn.2.2.2.2.2.2.2.1 _ ho_x3).1 (hev_8 ▸ k_sCharAt l Z D T ρ_5 H.size S ho_x3 hiv_8) vX4_148 (hRK (by decide) (by decide)) rfl rfl hl.1 (Nat.le_of_ble_eq_true rfl) (hcK hT) dX4_spelledByte_53 (fun ρ_7 H locs hag w => ?_)
    replace ha := ha.trans hag
    rw [← hag x0 (ncP ho_x0)] at hl
    rw [← hag x0 (ncP ho_x0)]
    obtain ⟨S_9, hS_9, h⟩ := bnd h
    replace nn : nq S_9 S := nq_tr (kq_Pg_say hS_9) nn
    refine x_callVv (q := (RX4, TX4, 16)) (As := [.int v_8]) (rest := []) C w (k_Pg_say l D T ρ_7 g H.size S ho_x0 hS_9) vX4_151 (hRK (by decide) (by decide)) ho_x0 (by decide) rfl rfl rfl hl.1 (Nat.le_of_ble_eq_true rfl) (hcK hT) dX4_spelledByte_56 (fun H locs w => ?_)
    obtain ⟨x4_10, ex4_10, h⟩ := lt_e h
    refine lv_iinc (v := x4_10) (lv' := [(4, .int x4_10), (0, .ref (ρ_7 x0)), (1, .int x1), (3, .ref (Z.2.2.2.1 x3))]) C.1 C.2.1 dX4_spelledByte_59 hl (k := 3) rfl (by rw [ex4_10]; rfl) (by decide) rfl (fun ls hl => ?_)
    refine lv_goto (tgt := 40) C.1 C.2.1 dX4_spelledByte_62 (by decide) ?_
    have hkn := nq_kap nn
    refine W.widen (k := kap S_9 - kap S0) (n := 2 * (kap S_9 - kap S0)) (by omega) (by omega) ?_
    exact kk40 _ _ _ _ _ _ _ _ _ ha (by omega) w (lv_sub hl [1, 2, 3, 0] rfl) ho_x0 ho_x3 h
theorem w_Pg_spelledByte_40 {g : Nat} (C : CallFix p m c cX4_spelledByte 5 s args tb RX4) (hr : meth.sig.returnType = (some .int)) (hk : meth.locks = false) (hcn : Kn Z A s s.heap) (hcw : Kw Z s) {S' : St} {r : Int32} (n : Nat) : ∀ (ρ : Nat → Nat) (S : St) (x0 : Nat) (x1 : Int32) (x3 : Nat) (x4 : Int32) (H : Heap) (locs : List Loc) (ls : Array Slot), Ag ρ0 ρ → kap S0 ≤ kap S → Wn Yc D T ρ S A s H locs → lv_has ls 5 [(0, .ref (ρ x0)), (1, .int x1), (3, .ref (Z.2.2.2.1 x3)), (4, .int x4)] → Ob Yc x0 2 → x3 < 101 → m_Pg_spelledByte_40 g n S x0 x1 x3 x4 = some (S', r) → W p l e (rmK 5 122 (kap S' - kap S0)) s m args below meth c H locs (kap S - kap S0) (2 * (kap S - kap S0)) (MQ below (QiM D T ρ0 A S' r) args s (kap S' - kap S0) (2 * (kap S' - kap S0)) A) (F0 m 40 ls []) := by
  induction n with
  | zero => intro ρ S x0 x1 x3 x4 H locs ls ha hm w hl ho_x0 ho_x3 h; exact absurd h (fun q => by cases q)
  | succ n ih => intro ρ S x0 x1 x3 x4 H locs ls ha hm w hl ho_x0 ho_x3 h; exact wb_Pg_spelledByte_40 C hr hk hcn hcw ih (km_Pg_spelledByte_40 n) ha hm w hl ho_x0 ho_x3 h
set_option maxRecDepth 100000 in
set_option maxHeartbeats 4000000 in
theorem w_Pg_spelledByte_0 {g : Nat} {S : St} {x0 : Nat} {x1 : Int32} {x2 : Int32} (C : CallFix p m c cX4_spelledByte 5 s args tb RX4) (hr : meth.sig.returnType = (some .int)) (hk : meth.locks = false) (hcn : Kn Z A s s.heap) (hcw : Kw Z s) {S' : St} {r : Int32} (ha : Ag ρ0 ρ) (hm : kap S0 ≤ kap S) (w : Wn Yc D T ρ S A s H locs) (hl : lv_has ls 5 [(0, .ref (ρ x0)), (1, .int x1), (2, .int x2)]) (ho_x0 : Ob Yc x0 2) (h : m_Pg_spelledByte g S x0 x1 x2 = some (S', r)) : W p l e (rmK 5 122 (kap S' - kap S0)) s m args below meth c H locs (kap S - kap S0) (2 * (kap S - kap S0)) (MQ below (QiM D T ρ0 A S' r) args s (kap S' - kap S0) (2 * (kap S' - kap S0)) A) (F0 m 0 ls []) := by
  have hT := km_Pg_spelledByte h
  unfold m_Pg_spelledByte at h
  have nn : nq S S := nq_rf
  refine lv_iload_n C.1 C.2.1 dX4_spelledByte_0 rfl (lv_at hl 1 rfl) ?_
  refine lv_if_lt (tgt := 16) C.1 C.2.1 dX4_spelledByte_1 (by decide) (fun hc => ?_) (fun hc => ?_)
  · replace h := ift hc h
    refine lv_iconst (v := (-1)) C.1 C.2.1 dX4_spelledByte_16 (by decide) ?_
    obtain ⟨rfl, rfl⟩ := prI h
    exact x_iretM C w ha hr hk dX4_spelledByte_17 (by have := nq_kap nn; omega) (by have := nq_kap nn; omega)
  · replace h := iff0 hc h
    refine lv_iload_n C.1 C.2.1 dX4_spelledByte_4 rfl (lv_at hl 1 rfl) ?_
    refine lv_aload_n C.1 C.2.1 dX4_spelledByte_5 rfl (lv_at hl 0 rfl) ?_
    refine x_getI C w fX4_43 ho_x0 dX4_spelledByte_6 ?_
    refine lv_icmp_ge (tgt := 16) C.1 C.2.1 dX4_spelledByte_9 (by decide) (fun hc => ?_) (fun hc => ?_)
    · replace h := ift hc h
      refine lv_iconst (v := (-1)) C.1 C.2.1 dX4_spelledByte_16 (by decide) ?_
      obtain ⟨rfl, rfl⟩ := prI h
      exact x_iretM C w ha hr hk dX4_spelledByte_17 (by have := nq_kap nn; omega) (by have := nq_kap nn; omega)
    · replace h := iff0 hc h
      refine lv_iload_n C.1 C.2.1 dX4_spelledByte_12 rfl (lv_at hl 2 rfl) ?_
      refine lv_if_ge (tgt := 18) C.1 C.2.1 dX4_spelledByte_13 (by decide) (fun hc => ?_) (fun hc => ?_)
      · replace h := ift hc h
        refine lv_aload_n C.1 C.2.1 dX4_spelledByte_18 rfl (lv_at hl 0 rfl) ?_
        refine lv_iload_n C.1 C.2.1 dX4_spelledByte_19 rfl (lv_at hl 2 rfl) ?_
        obtain ⟨S_1, eS_1, h⟩ := lt_e h
        replace nn : nq S_1 S := nq_tr (by rw [eS_1]; rfl) nn
        refine y_putI C w eS_1 fX4_60 pX4_13 ho_x0 dX4_spelledByte_20 (fun H locs w => ?_)
        refine lv_aload_n C.1 C.2.1 dX4_spelledByte_23 rfl (lv_at hl 0 rfl) ?_
        refine lv_iconst (v := (-1)) C.1 C.2.1 dX4_spelledByte_24 (by decide) ?_
        obtain ⟨S_2, eS_2, h⟩ := lt_e h
        replace nn : nq S_2 S := nq_tr (by rw [eS_2]; rfl) nn
        refine y_putI C w eS_2 fX4_63 pX4_14 ho_x0 dX4_spelledByte_25 (fun H locs w => ?_)
        refine lv_aload_n C.1 C.2.1 dX4_spelledByte_28 rfl (lv_at hl 0 rfl) ?_
        refine lv_iload_n C.1 C.2.1 dX4_spelledByte_29 rfl (lv_at hl 1 rfl) ?_
        obtain ⟨e_4, he_4, h⟩ := bnd h
        refine x_callVeC (q := (RX4, TX4, 16)) (As := [.int x1]) (rest := []) C w hcn hcw (k_Pg_sortOf l Z D T ρ g H.size S_2 ho_x0 he_4) vX4_103 (hRK (by decide) (by decide)) ho_x0 (by decide) rfl rfl rfl hl.1 (Nat.le_of_ble_eq_true rfl) (hcK hT) dX4_spelledByte_30 (fun ρ_3 H locs hag w => ?_)
        replace ha := ha.trans hag
        rw [← hag x0 (ncP ho_x0)] at hl
        refine x_eSp C w hcn (so_lt he_4) gkX4_138 dX4_spelledByte_33 ?_
        refine lv_astore_n (lv' := [(3, .ref (Z.2.2.2.1 (spT.getD e_4 0))), (0, .ref (ρ_3 x0)), (1, .int x1), (2, .int x2)]) C.1 C.2.1 dX4_spelledByte_36 rfl hl (by decide) rfl (fun ls hl => ?_)
        refine lv_iconst (v := 0) C.1 C.2.1 dX4_spelledByte_37 (by decide) ?_
        refine lv_istore (lv' := [(4, .int (0 : Int32)), (3, .ref (Z.2.2.2.1 (spT.getD e_4 0))), (0, .ref (ρ_3 x0)), (1, .int x1), (2, .int x2)]) C.1 C.2.1 dX4_spelledByte_38 hl (by decide) rfl (fun ls hl => ?_)
        have hkn := nq_kap nn
        refine W.widen (k := kap S_2 - kap S0) (n := 2 * (kap S_2 - kap S0)) (by omega) (by omega) ?_
        exact w_Pg_spelledByte_40 C hr hk hcn hcw g _ _ _ _ _ _ _ _ _ ha (by omega) w (lv_sub hl [2, 3, 1, 0] rfl) ho_x0 (sp_lt _ (so_lt he_4)) h
      · replace h := iff0 hc h
        refine lv_iconst (v := (-1)) C.1 C.2.1 dX4_spelledByte_16 (by decide) ?_
        obtain ⟨rfl, rfl⟩ := prI h
        exact x_iretM C w ha hr hk dX4_spelledByte_17 (by have := nq_kap nn; omega) (by have := nq_kap nn; omega)
end S_Pg_spelledByte
set_option maxRecDepth 100000 in
theorem k_Pg_spelledByte (l : Launch) (Z : Ad) (D : va_G) (T : Cy) (ρ : Nat → Nat) (g sz : Nat) (S : St) {x0 : Nat} {x1 : Int32} {x2 : Int32} (ho_x0 : Ob Yc x0 2) {S' : St} {r : Int32} (h : m_Pg_spelledByte g S x0 x1 x2 = some (S', r)) : MiC l Z D T ρ yX4_spelledByte cX4_spelledByte 5 (some .int) 5 122 S S' r [.ref (ρ x0), .int x1, .int x2] sz :=
  x_inC (by decide) (Nat.le_of_ble_eq_true rfl) (fun p e s m below meth c ls C hr hk hcn hcw w hl => W.widen (Nat.zero_le _) (Nat.zero_le _) (w_Pg_spelledByte_0 C hr hk hcn hcw Ag.rf (Nat.le_refl _) w hl ho_x0 h))

theorem dX5_readWord_0 : decode cX5_readWord 0 = .ok (.aload_n 0, 1) := by decide +kernel
theorem dX5_readWord_1 : decode cX5_readWord 1 = .ok (.getfield 20, 3) := by decide +kernel
theorem dX5_readWord_4 : decode cX5_readWord 4 = .ok (.istore_n 2, 1) := by decide +kernel
theorem dX5_readWord_5 : decode cX5_readWord 5 = .ok (.aload_n 0, 1) := by decide +kernel
theorem dX5_readWord_6 : decode cX5_readWord 6 = .ok (.getfield 27, 3) := by decide +kernel
theorem dX5_readWord_9 : decode cX5_readWord 9 = .ok (.aload_n 0, 1) := by decide +kernel
theorem dX5_readWord_10 : decode cX5_readWord 10 = .ok (.getfield 20, 3) := by decide +kernel
theorem dX5_readWord_13 : decode cX5_readWord 13 = .ok (.invokevirtual 67, 3) := by decide +kernel
theorem dX5_readWord_16 : decode cX5_readWord 16 = .ok (.istore_n 3, 1) := by decide +kernel
theorem dX5_readWord_17 : decode cX5_readWord 17 = .ok (.iload_n 3, 1) := by decide +kernel
theorem dX5_readWord_18 : decode cX5_readWord 18 = .ok (.bipush 34, 2) := by decide +kernel
theorem dX5_readWord_20 : decode cX5_readWord 20 = .ok (.if_icmp .ne 25, 3) := by decide +kernel
theorem dX5_readWord_23 : decode cX5_readWord 23 = .ok (.iload_n 1, 1) := by decide +kernel
theorem dX5_readWord_24 : decode cX5_readWord 24 = .ok (.ldc 99, 2) := by decide +kernel
theorem dX5_readWord_26 : decode cX5_readWord 26 = .ok (.invokestatic 101, 3) := by decide +kernel
theorem dX5_readWord_29 : decode cX5_readWord 29 = .ok (.ifCond .eq 14, 3) := by decide +kernel
theorem dX5_readWord_32 : decode cX5_readWord 32 = .ok (.aload_n 0, 1) := by decide +kernel
theorem dX5_readWord_33 : decode cX5_readWord 33 = .ok (.invokevirtual 105, 3) := by decide +kernel
theorem dX5_readWord_36 : decode cX5_readWord 36 = .ok (.ifCond .eq 7, 3) := by decide +kernel
theorem dX5_readWord_39 : decode cX5_readWord 39 = .ok (.iconst 1, 1) := by decide +kernel
theorem dX5_readWord_40 : decode cX5_readWord 40 = .ok (.goto 4, 3) := by decide +kernel
theorem dX5_readWord_43 : decode cX5_readWord 43 = .ok (.iconst 0, 1) := by decide +kernel
theorem dX5_readWord_44 : decode cX5_readWord 44 = .ok (.ireturn, 1) := by decide +kernel
theorem dX5_readWord_45 : decode cX5_readWord 45 = .ok (.aload_n 0, 1) := by decide +kernel
theorem dX5_readWord_46 : decode cX5_readWord 46 = .ok (.bipush 32, 2) := by decide +kernel
theorem dX5_readWord_48 : decode cX5_readWord 48 = .ok (.aload_n 0, 1) := by decide +kernel
theorem dX5_readWord_49 : decode cX5_readWord 49 = .ok (.getfield 20, 3) := by decide +kernel
theorem dX5_readWord_52 : decode cX5_readWord 52 = .ok (.aload_n 0, 1) := by decide +kernel
theorem dX5_readWord_53 : decode cX5_readWord 53 = .ok (.getfield 24, 3) := by decide +kernel
theorem dX5_readWord_56 : decode cX5_readWord 56 = .ok (.invokevirtual 42, 3) := by decide +kernel
theorem dX5_readWord_59 : decode cX5_readWord 59 = .ok (.istore 4, 2) := by decide +kernel
theorem dX5_readWord_61 : decode cX5_readWord 61 = .ok (.aload_n 0, 1) := by decide +kernel
theorem dX5_readWord_62 : decode cX5_readWord 62 = .ok (.iload 4, 2) := by decide +kernel
theorem dX5_readWord_64 : decode cX5_readWord 64 = .ok (.putfield 20, 3) := by decide +kernel
theorem dX5_readWord_67 : decode cX5_readWord 67 = .ok (.iload_n 1, 1) := by decide +kernel
theorem dX5_readWord_68 : decode cX5_readWord 68 = .ok (.bipush 78, 2) := by decide +kernel
theorem dX5_readWord_70 : decode cX5_readWord 70 = .ok (.if_icmp .ne 11, 3) := by decide +kernel
theorem dX5_readWord_73 : decode cX5_readWord 73 = .ok (.aload_n 0, 1) := by decide +kernel
theorem dX5_readWord_74 : decode cX5_readWord 74 = .ok (.iload_n 2, 1) := by decide +kernel
theorem dX5_readWord_75 : decode cX5_readWord 75 = .ok (.iload 4, 2) := by decide +kernel
theorem dX5_readWord_77 : decode cX5_readWord 77 = .ok (.invokevirtual 109, 3) := by decide +kernel
theorem dX5_readWord_80 : decode cX5_readWord 80 = .ok (.ireturn, 1) := by decide +kernel
theorem dX5_readWord_81 : decode cX5_readWord 81 = .ok (.iload_n 1, 1) := by decide +kernel
theorem dX5_readWord_82 : decode cX5_readWord 82 = .ok (.bipush 88, 2) := by decide +kernel
theorem dX5_readWord_84 : decode cX5_readWord 84 = .ok (.if_icmp .ne 27, 3) := by decide +kernel
theorem dX5_readWord_87 : decode cX5_readWord 87 = .ok (.iload_n 3, 1) := by decide +kernel
theorem dX5_readWord_88 : decode cX5_readWord 88 = .ok (.bipush 64, 2) := by decide +kernel
theorem dX5_readWord_90 : decode cX5_readWord 90 = .ok (.if_icmp .eq 9, 3) := by decide +kernel
theorem dX5_readWord_93 : decode cX5_readWord 93 = .ok (.iload_n 3, 1) := by decide +kernel
theorem dX5_readWord_94 : decode cX5_readWord 94 = .ok (.bipush 63, 2) := by decide +kernel
theorem dX5_readWord_96 : decode cX5_readWord 96 = .ok (.if_icmp .ne 15, 3) := by decide +kernel
theorem dX5_readWord_99 : decode cX5_readWord 99 = .ok (.aload_n 0, 1) := by decide +kernel
theorem dX5_readWord_100 : decode cX5_readWord 100 = .ok (.iload_n 3, 1) := by decide +kernel
theorem dX5_readWord_101 : decode cX5_readWord 101 = .ok (.iload_n 2, 1) := by decide +kernel
theorem dX5_readWord_102 : decode cX5_readWord 102 = .ok (.iload_n 2, 1) := by decide +kernel
theorem dX5_readWord_103 : decode cX5_readWord 103 = .ok (.iconst 1, 1) := by decide +kernel
theorem dX5_readWord_104 : decode cX5_readWord 104 = .ok (.iadd, 1) := by decide +kernel
theorem dX5_readWord_105 : decode cX5_readWord 105 = .ok (.iload 4, 2) := by decide +kernel
theorem dX5_readWord_107 : decode cX5_readWord 107 = .ok (.invokevirtual 113, 3) := by decide +kernel
theorem dX5_readWord_110 : decode cX5_readWord 110 = .ok (.ireturn, 1) := by decide +kernel
theorem dX5_readWord_111 : decode cX5_readWord 111 = .ok (.iload_n 3, 1) := by decide +kernel
theorem dX5_readWord_112 : decode cX5_readWord 112 = .ok (.lookupswitch 120 #[(98, 64), (118, 36), (119, 92)], 36) := by decide +kernel
theorem dX5_readWord_148 : decode cX5_readWord 148 = .ok (.iload_n 1, 1) := by decide +kernel
theorem dX5_readWord_149 : decode cX5_readWord 149 = .ok (.ldc 117, 2) := by decide +kernel
theorem dX5_readWord_151 : decode cX5_readWord 151 = .ok (.invokestatic 101, 3) := by decide +kernel
theorem dX5_readWord_154 : decode cX5_readWord 154 = .ok (.ifCond .eq 20, 3) := by decide +kernel
theorem dX5_readWord_157 : decode cX5_readWord 157 = .ok (.aload_n 0, 1) := by decide +kernel
theorem dX5_readWord_158 : decode cX5_readWord 158 = .ok (.bipush 32, 2) := by decide +kernel
theorem dX5_readWord_160 : decode cX5_readWord 160 = .ok (.iload_n 2, 1) := by decide +kernel
theorem dX5_readWord_161 : decode cX5_readWord 161 = .ok (.iload_n 2, 1) := by decide +kernel
theorem dX5_readWord_162 : decode cX5_readWord 162 = .ok (.iload 4, 2) := by decide +kernel
theorem dX5_readWord_164 : decode cX5_readWord 164 = .ok (.invokevirtual 119, 3) := by decide +kernel
theorem dX5_readWord_167 : decode cX5_readWord 167 = .ok (.ifCond .eq 7, 3) := by decide +kernel
theorem dX5_readWord_170 : decode cX5_readWord 170 = .ok (.iconst 1, 1) := by decide +kernel
theorem dX5_readWord_171 : decode cX5_readWord 171 = .ok (.goto 4, 3) := by decide +kernel
theorem dX5_readWord_174 : decode cX5_readWord 174 = .ok (.iconst 0, 1) := by decide +kernel
theorem dX5_readWord_175 : decode cX5_readWord 175 = .ok (.ireturn, 1) := by decide +kernel
theorem dX5_readWord_176 : decode cX5_readWord 176 = .ok (.iload_n 1, 1) := by decide +kernel
theorem dX5_readWord_177 : decode cX5_readWord 177 = .ok (.ldc 122, 2) := by decide +kernel
theorem dX5_readWord_179 : decode cX5_readWord 179 = .ok (.invokestatic 101, 3) := by decide +kernel
theorem dX5_readWord_182 : decode cX5_readWord 182 = .ok (.ifCond .eq 20, 3) := by decide +kernel
theorem dX5_readWord_185 : decode cX5_readWord 185 = .ok (.aload_n 0, 1) := by decide +kernel
theorem dX5_readWord_186 : decode cX5_readWord 186 = .ok (.bipush 32, 2) := by decide +kernel
theorem dX5_readWord_188 : decode cX5_readWord 188 = .ok (.iload_n 2, 1) := by decide +kernel
theorem dX5_readWord_189 : decode cX5_readWord 189 = .ok (.iload_n 2, 1) := by decide +kernel
theorem dX5_readWord_190 : decode cX5_readWord 190 = .ok (.iload 4, 2) := by decide +kernel
theorem dX5_readWord_192 : decode cX5_readWord 192 = .ok (.invokevirtual 119, 3) := by decide +kernel
theorem dX5_readWord_195 : decode cX5_readWord 195 = .ok (.ifCond .eq 7, 3) := by decide +kernel
theorem dX5_readWord_198 : decode cX5_readWord 198 = .ok (.iconst 1, 1) := by decide +kernel
theorem dX5_readWord_199 : decode cX5_readWord 199 = .ok (.goto 4, 3) := by decide +kernel
theorem dX5_readWord_202 : decode cX5_readWord 202 = .ok (.iconst 0, 1) := by decide +kernel
theorem dX5_readWord_203 : decode cX5_readWord 203 = .ok (.ireturn, 1) := by decide +kernel
theorem dX5_readWord_204 : decode cX5_readWord 204 = .ok (.iload_n 1, 1) := by decide +kernel
theorem dX5_readWord_205 : decode cX5_readWord 205 = .ok (.ldc 124, 2) := by decide +kernel
theorem dX5_readWord_207 : decode cX5_readWord 207 = .ok (.invokestatic 101, 3) := by decide +kernel
theorem dX5_readWord_210 : decode cX5_readWord 210 = .ok (.ifCond .eq 20, 3) := by decide +kernel
theorem dX5_readWord_213 : decode cX5_readWord 213 = .ok (.aload_n 0, 1) := by decide +kernel
theorem dX5_readWord_214 : decode cX5_readWord 214 = .ok (.bipush 32, 2) := by decide +kernel
theorem dX5_readWord_216 : decode cX5_readWord 216 = .ok (.iload_n 2, 1) := by decide +kernel
theorem dX5_readWord_217 : decode cX5_readWord 217 = .ok (.iload_n 2, 1) := by decide +kernel
theorem dX5_readWord_218 : decode cX5_readWord 218 = .ok (.iload 4, 2) := by decide +kernel
theorem dX5_readWord_220 : decode cX5_readWord 220 = .ok (.invokevirtual 119, 3) := by decide +kernel
theorem dX5_readWord_223 : decode cX5_readWord 223 = .ok (.ifCond .eq 7, 3) := by decide +kernel
theorem dX5_readWord_226 : decode cX5_readWord 226 = .ok (.iconst 1, 1) := by decide +kernel
theorem dX5_readWord_227 : decode cX5_readWord 227 = .ok (.goto 4, 3) := by decide +kernel
theorem dX5_readWord_230 : decode cX5_readWord 230 = .ok (.iconst 0, 1) := by decide +kernel
theorem dX5_readWord_231 : decode cX5_readWord 231 = .ok (.ireturn, 1) := by decide +kernel
theorem dX5_readWord_232 : decode cX5_readWord 232 = .ok (.iload_n 1, 1) := by decide +kernel
theorem dX5_readWord_233 : decode cX5_readWord 233 = .ok (.ldc 126, 2) := by decide +kernel
theorem dX5_readWord_235 : decode cX5_readWord 235 = .ok (.invokestatic 101, 3) := by decide +kernel
theorem dX5_readWord_238 : decode cX5_readWord 238 = .ok (.ifCond .eq 20, 3) := by decide +kernel
theorem dX5_readWord_241 : decode cX5_readWord 241 = .ok (.aload_n 0, 1) := by decide +kernel
theorem dX5_readWord_242 : decode cX5_readWord 242 = .ok (.bipush 32, 2) := by decide +kernel
theorem dX5_readWord_244 : decode cX5_readWord 244 = .ok (.iload_n 2, 1) := by decide +kernel
theorem dX5_readWord_245 : decode cX5_readWord 245 = .ok (.iload_n 2, 1) := by decide +kernel
theorem dX5_readWord_246 : decode cX5_readWord 246 = .ok (.iload 4, 2) := by decide +kernel
theorem dX5_readWord_248 : decode cX5_readWord 248 = .ok (.invokevirtual 128, 3) := by decide +kernel
theorem dX5_readWord_251 : decode cX5_readWord 251 = .ok (.ifCond .eq 7, 3) := by decide +kernel
theorem dX5_readWord_254 : decode cX5_readWord 254 = .ok (.iconst 1, 1) := by decide +kernel
theorem dX5_readWord_255 : decode cX5_readWord 255 = .ok (.goto 4, 3) := by decide +kernel
theorem dX5_readWord_258 : decode cX5_readWord 258 = .ok (.iconst 0, 1) := by decide +kernel
theorem dX5_readWord_259 : decode cX5_readWord 259 = .ok (.ireturn, 1) := by decide +kernel
def m_Rd_readWord_111 (g : Nat) (S : St) (x1 : Int32) (x2 : Int32) (x3 : Int32) (x4 : Int32) : Option (St × Int32) :=
if x3 = (98 : Int32) then (
  (alw 2 x1).bind fun v_6 =>
  if v_6 = 0 then (
    some (S, (0 : Int32))
  ) else (
    (m_Rd_readName g S (32 : Int32) x2 x2 x4).bind fun (S_7, v_8) =>
    if v_8 = 0 then (
      some (S_7, (0 : Int32))
    ) else (
      some (S_7, (1 : Int32))
    )
  )
) else
if x3 = (118 : Int32) then (
  (alw 1 x1).bind fun v_10 =>
  if v_10 = 0 then (
    some (S, (0 : Int32))
  ) else (
    (m_Rd_readName g S (32 : Int32) x2 x2 x4).bind fun (S_11, v_12) =>
    if v_12 = 0 then (
      some (S_11, (0 : Int32))
    ) else (
      some (S_11, (1 : Int32))
    )
  )
) else
if x3 = (119 : Int32) then (
  (alw 3 x1).bind fun v_14 =>
  if v_14 = 0 then (
    some (S, (0 : Int32))
  ) else (
    (m_Rd_readName g S (32 : Int32) x2 x2 x4).bind fun (S_15, v_16) =>
    if v_16 = 0 then (
      some (S_15, (0 : Int32))
    ) else (
      some (S_15, (1 : Int32))
    )
  )
) else
(
  (alw 4 x1).bind fun v_18 =>
  if v_18 = 0 then (
    some (S, (0 : Int32))
  ) else (
    (m_Rd_readNumber g S (32 : Int32) x2 x2 x4).bind fun (S_19, v_20) =>
    if v_20 = 0 then (
      some (S_19, (0 : Int32))
    ) else (
      some (S_19, (1 : Int32))
    )
  )
)
def m_Rd_readWord_99 (g : Nat) (S : St) (x2 : Int32) (x3 : Int32) (x4 : Int32) : Option (St × Int32) :=
(m_Rd_readWhole g S x3 x2 (x2 + (1 : Int32)) x4).bind fun (S_5, v_6) =>
if v_6 = 0 ∨ v_6 = 1 then some (S_5, v_6) else none
def m_Rd_readWord_36 (g : Nat) (S : St) (y0 : Int32) : Option (St × Int32) :=
if y0 = 0 then (
  some (S, (0 : Int32))
) else (
  some (S, (1 : Int32))
)
def m_Rd_readWord (g : Nat) (S : St) (x1 : Int32) : Option (St × Int32) :=
lt (gI S 3 3) fun x2_1 =>
(m_Row_at g S 10 (gI S 3 3)).bind fun v_2 =>
if v_2 = (34 : Int32) then (
  (alw 0 x1).bind fun v_9 =>
  if v_9 = 0 then (
    some (S, (0 : Int32))
  ) else (
    (m_Rd_readLiteral g S).bind fun (S_10, v_11) =>
    m_Rd_readWord_36 g S_10 v_11
  )
) else (
  (m_Rd_nextByte g S (32 : Int32) (gI S 3 3) (gI S 3 4)).bind fun v_3 =>
  lt (sI S 3 3 v_3) fun S_4 =>
  if x1 = (78 : Int32) then (
    (m_Rd_readCount g S_4 x2_1 v_3).bind fun (S_5, v_6) =>
    if v_6 = 0 ∨ v_6 = 1 then some (S_5, v_6) else none
  ) else (
    if x1 = (88 : Int32) then (
      if v_2 = (64 : Int32) then (
        m_Rd_readWord_99 g S_4 x2_1 v_2 v_3
      ) else (
        if v_2 = (63 : Int32) then (
          m_Rd_readWord_99 g S_4 x2_1 v_2 v_3
        ) else (
          m_Rd_readWord_111 g S_4 x1 x2_1 v_2 v_3
        )
      )
    ) else (
      m_Rd_readWord_111 g S_4 x1 x2_1 v_2 v_3
    )
  )
)
theorem km_Rd_readWord_111 {g : Nat} {S : St} {x1 : Int32} {x2 : Int32} {x3 : Int32} {x4 : Int32} {S' : St} {r : Int32} (h : m_Rd_readWord_111 g S x1 x2 x3 x4 = some (S', r)) : kap S ≤ kap S' := by
  unfold m_Rd_readWord_111 at h
  have nn : nq S S := nq_rf
  by_cases hc1 : x3 = (98 : Int32)
  · replace h := ift hc1 h
    obtain ⟨v_6, hv_6, h⟩ := bnd h
    by_cases hc2 : v_6 = 0
    · replace h := ift hc2 h
      obtain ⟨rfl, rfl⟩ := prI h
      have hkn := nq_kap nn
      omega
    · replace h := iff0 hc2 h
      obtain ⟨⟨S_7, v_8⟩, hv_8, h⟩ := bnd h
      replace nn : nq S_7 S := nq_tr (kq_Rd_readName hv_8) nn
      by_cases hc3 : v_8 = 0
      · replace h := ift hc3 h
        obtain ⟨rfl, rfl⟩ := prI h
        have hkn := nq_kap nn
        omega
      · replace h := iff0 hc3 h
        obtain ⟨rfl, rfl⟩ := prI h
        have hkn := nq_kap nn
        omega
  replace h := iff0 hc1 h
  by_cases hc4 : x3 = (118 : Int32)
  · replace h := ift hc4 h
    obtain ⟨v_10, hv_10, h⟩ := bnd h
    by_cases hc5 : v_10 = 0
    · replace h := ift hc5 h
      obtain ⟨rfl, rfl⟩ := prI h
      have hkn := nq_kap nn
      omega
    · replace h := iff0 hc5 h
      obtain ⟨⟨S_11, v_12⟩, hv_12, h⟩ := bnd h
      replace nn : nq S_11 S := nq_tr (kq_Rd_readName hv_12) nn
      by_cases hc6 : v_12 = 0
      · replace h := ift hc6 h
        obtain ⟨rfl, rfl⟩ := prI h
        have hkn := nq_kap nn
        omega
      · replace h := iff0 hc6 h
        obtain ⟨rfl, rfl⟩ := prI h
        have hkn := nq_kap nn
        omega
  replace h := iff0 hc4 h
  by_cases hc7 : x3 = (119 : Int32)
  · replace h := ift hc7 h
    obtain ⟨v_14, hv_14, h⟩ := bnd h
    by_cases hc8 : v_14 = 0
    · replace h := ift hc8 h
      obtain ⟨rfl, rfl⟩ := prI h
      have hkn := nq_kap nn
      omega
    · replace h := iff0 hc8 h
      obtain ⟨⟨S_15, v_16⟩, hv_16, h⟩ := bnd h
      replace nn : nq S_15 S := nq_tr (kq_Rd_readName hv_16) nn
      by_cases hc9 : v_16 = 0
      · replace h := ift hc9 h
        obtain ⟨rfl, rfl⟩ := prI h
        have hkn := nq_kap nn
        omega
      · replace h := iff0 hc9 h
        obtain ⟨rfl, rfl⟩ := prI h
        have hkn := nq_kap nn
        omega
  replace h := iff0 hc7 h
  obtain ⟨v_18, hv_18, h⟩ := bnd h
  by_cases hc10 : v_18 = 0
  · replace h := ift hc10 h
    obtain ⟨rfl, rfl⟩ := prI h
    have hkn := nq_kap nn
    omega
  · replace h := iff0 hc10 h
    obtain ⟨⟨S_19, v_20⟩, hv_20, h⟩ := bnd h
    replace nn : nq S_19 S := nq_tr (kq_Rd_readNumber hv_20) nn
    by_cases hc11 : v_20 = 0
    · replace h := ift hc11 h
      obtain ⟨rfl, rfl⟩ := prI h
      have hkn := nq_kap nn
      omega
    · replace h := iff0 hc11 h
      obtain ⟨rfl, rfl⟩ := prI h
      have hkn := nq_kap nn
      omega
theorem km_Rd_readWord_99 {g : Nat} {S : St} {x2 : Int32} {x3 : Int32} {x4 : Int32} {S' : St} {r : Int32} (h : m_Rd_readWord_99 g S x2 x3 x4 = some (S', r)) : kap S ≤ kap S' := by
  unfold m_Rd_readWord_99 at h
  have nn : nq S S := nq_rf
  obtain ⟨⟨S_5, v_6⟩, hv_6, h⟩ := bnd h
  replace nn : nq S_5 S := nq_tr (kq_Rd_readWhole hv_6) nn
  by_cases hc1 : v_6 = 0 ∨ v_6 = 1
  case neg => exact absurd (iff0 hc1 h) (fun q => by cases q)
  replace h := ift hc1 h
  obtain ⟨rfl, rfl⟩ := prI h
  have hkn := nq_kap nn
  omega
theorem km_Rd_readWord_36 {g : Nat} {S : St} {y0 : Int32} {S' : St} {r : Int32} (h : m_Rd_readWord_36 g S y0 = some (S', r)) : kap S ≤ kap S' := by
  unfold m_Rd_readWord_36 at h
  have nn : nq S S := nq_rf
  by_cases hc1 : y0 = 0
  · replace h := ift hc1 h
    obtain ⟨rfl, rfl⟩ := prI h
    have hkn := nq_kap nn
    omega
  · replace h := iff0 hc1 h
    obtain ⟨rfl, rfl⟩ := prI h
    have hkn := nq_kap nn
    omega
theorem km_Rd_readWord {g : Nat} {S : St} {x1 : Int32} {S' : St} {r : Int32} (h : m_Rd_readWord g S x1 = some (S', r)) : kap S ≤ kap S' := by
  unfold m_Rd_readWord at h
  have nn : nq S S := nq_rf
  obtain ⟨x2_1, ex2_1, h⟩ := lt_e h
  obtain ⟨v_2, hv_2, h⟩ := bnd h
  by_cases hc1 : v_2 = (34 : Int32)
  · replace h := ift hc1 h
    obtain ⟨v_9, hv_9, h⟩ := bnd h
    by_cases hc2 : v_9 = 0
    · replace h := ift hc2 h
      obtain ⟨rfl, rfl⟩ := prI h
      have hkn := nq_kap nn
      omega
    · replace h := iff0 hc2 h
      obtain ⟨⟨S_10, v_11⟩, hv_11, h⟩ := bnd h
      have hk1 := km_Rd_readLiteral hv_11
      have hkn := nq_kap nn
      have h2 := km_Rd_readWord_36 h
      omega
  · replace h := iff0 hc1 h
    obtain ⟨v_3, hv_3, h⟩ := bnd h
    obtain ⟨S_4, eS_4, h⟩ := lt_e h
    replace nn : nq S_4 S := nq_tr (by rw [eS_4]; rfl) nn
    by_cases hc3 : x1 = (78 : Int32)
    · replace h := ift hc3 h
      obtain ⟨⟨S_5, v_6⟩, hv_6, h⟩ := bnd h
      replace nn : nq S_5 S := nq_tr (kq_Rd_readCount hv_6) nn
      by_cases hc4 : v_6 = 0 ∨ v_6 = 1
      case neg => exact absurd (iff0 hc4 h) (fun q => by cases q)
      replace h := ift hc4 h
      obtain ⟨rfl, rfl⟩ := prI h
      have hkn := nq_kap nn
      omega
    · replace h := iff0 hc3 h
      by_cases hc5 : x1 = (88 : Int32)
      · replace h := ift hc5 h
        by_cases hc6 : v_2 = (64 : Int32)
        · replace h := ift hc6 h
          have hkn := nq_kap nn
          have h2 := km_Rd_readWord_99 h
          omega
        · replace h := iff0 hc6 h
          by_cases hc7 : v_2 = (63 : Int32)
          · replace h := ift hc7 h
            have hkn := nq_kap nn
            have h2 := km_Rd_readWord_99 h
            omega
          · replace h := iff0 hc7 h
            have hkn := nq_kap nn
            have h2 := km_Rd_readWord_111 h
            omega
      · replace h := iff0 hc5 h
        have hkn := nq_kap nn
        have h2 := km_Rd_readWord_111 h
        omega
section S_Rd_readWord
variable {p : Program} {l : Launch} {e : Env} {s : State} {m : MethodId} {args : Array Value} {below : List Frame} {meth : Method} {c : Code} {H : Heap} {locs : List Loc} {ls : Array Slot} {D : va_G} {T : Cy} {ρ ρ0 : Nat → Nat} {S0 : St} {A : Nat → Prop} {Z : Ad}
set_option maxRecDepth 100000 in
set_option maxHeartbeats 4000000 in
theorem w_Rd_readWord_111 {g : Nat} {S : St} {x1 : Int32} {x2 : Int32} {x3 : Int32} {x4 : Int32} (C : CallFix p m c cX5_readWord 5 s args tb RX5) (hr : meth.sig.returnType = (some .boolean)) (hk : meth.locks = false) (hcn : Kn Z A s s.heap) (hcw : Kw Z s) {S' : St} {r : Int32} (ha : Ag ρ0 ρ) (hm : kap S0 ≤ kap S) (w : Wn Yc D T ρ S A s H locs) (hl : lv_has ls 5 [(0, .ref (ρ 3)), (1, .int x1), (2, .int x2), (3, .int x3), (4, .int x4)]) (h : m_Rd_readWord_111 g S x1 x2 x3 x4 = some (S', r)) : W p l e (rmK 5 120 (kap S' - kap S0)) s m args below meth c H locs (kap S - kap S0) (2 * (kap S - kap S0)) (MQ below (QiM D T ρ0 A S' r) args s (kap S' - kap S0) (2 * (kap S' - kap S0)) A) (F0 m 111 ls []) := by
  have hT := km_Rd_readWord_111 h
  unfold m_Rd_readWord_111 at h
  have nn : nq S S := nq_rf
  refine lv_iload_n C.1 C.2.1 dX5_readWord_111 rfl (lv_at hl 3 rfl) ?_
  by_cases hz112_0 : x3 = (98 : Int32)
  · replace h := ift hz112_0 h
    refine lv_lookup (off := 64) (tgt := 176) C.1 C.2.1 dX5_readWord_112 (by decide) (off_t (by rw [hz112_0]; decide)) (by decide) ?_
    refine lv_iload_n C.1 C.2.1 dX5_readWord_176 rfl (lv_at hl 1 rfl) ?_
    refine x_ldS (j := 2) (tx := "bBX") C hcw (List.mem_of_getElem? (i := 2) rfl) dX5_readWord_177 ?_
    obtain ⟨v_6, hv_6, h⟩ := bnd h
    refine x_callKSi (As := [.int x1, .ref (Z.2.2.2.1 2)]) (rest := []) C w hcn hcw (k_Rd_allows l Z D T ρ H.size S (by decide) hv_6) vX5_101 (hRK (by decide) (by decide)) rfl rfl hl.1 (Nat.le_of_ble_eq_true rfl) (hcK hT) dX5_readWord_179 (fun ρ_5 H locs hag w => ?_)
    replace ha := ha.trans hag
    rw [← hag 3 (by decide)] at hl
    refine lv_if_eq (tgt := 202) C.1 C.2.1 dX5_readWord_182 (by decide) (fun hc => ?_) (fun hc => ?_)
    · replace h := ift hc h
      refine lv_iconst (v := 0) C.1 C.2.1 dX5_readWord_202 (by decide) ?_
      obtain ⟨rfl, rfl⟩ := prI h
      exact x_zretM C w ha hr hk (by decide) dX5_readWord_203 (by have := nq_kap nn; omega) (by have := nq_kap nn; omega)
    · replace h := iff0 hc h
      refine lv_aload_n C.1 C.2.1 dX5_readWord_185 rfl (lv_at hl 0 rfl) ?_
      refine lv_bipush (v := 32) C.1 C.2.1 dX5_readWord_186 (by decide) ?_
      refine lv_iload_n C.1 C.2.1 dX5_readWord_188 rfl (lv_at hl 2 rfl) ?_
      refine lv_iload_n C.1 C.2.1 dX5_readWord_189 rfl (lv_at hl 2 rfl) ?_
      refine lv_iload C.1 C.2.1 dX5_readWord_190 (lv_at hl 4 rfl) ?_
      obtain ⟨⟨S_7, v_8⟩, hv_8, h⟩ := bnd h
      replace nn : nq S_7 S := nq_tr (kq_Rd_readName hv_8) nn
      refine x_callVi (q := (RX5, TX5, 5)) (As := [.int (32 : Int32), .int x2, .int x2, .int x4]) (rest := []) C w (k_Rd_readName l D T ρ_5 g H.size S hv_8) vX5_119 (hRK (by decide) (by decide)) obC3 (by decide) rfl rfl rfl hl.1 (Nat.le_of_ble_eq_true rfl) (hcK hT) dX5_readWord_192 (fun H locs w => ?_)
      refine lv_if_eq (tgt := 202) C.1 C.2.1 dX5_readWord_195 (by decide) (fun hc => ?_) (fun hc => ?_)
      · replace h := ift hc h
        refine lv_iconst (v := 0) C.1 C.2.1 dX5_readWord_202 (by decide) ?_
        obtain ⟨rfl, rfl⟩ := prI h
        exact x_zretM C w ha hr hk (by decide) dX5_readWord_203 (by have := nq_kap nn; omega) (by have := nq_kap nn; omega)
      · replace h := iff0 hc h
        refine lv_iconst (v := 1) C.1 C.2.1 dX5_readWord_198 (by decide) ?_
        refine lv_goto (tgt := 203) C.1 C.2.1 dX5_readWord_199 (by decide) ?_
        obtain ⟨rfl, rfl⟩ := prI h
        exact x_zretM C w ha hr hk (by decide) dX5_readWord_203 (by have := nq_kap nn; omega) (by have := nq_kap nn; omega)
  replace h := iff0 hz112_0 h
  by_cases hz112_1 : x3 = (118 : Int32)
  · replace h := ift hz112_1 h
    refine lv_lookup (off := 36) (tgt := 148) C.1 C.2.1 dX5_readWord_112 (by decide) (off_f (i_ne (v := (98 : Int32)) (by decide) hz112_0) (off_t (by rw [hz112_1]; decide))) (by decide) ?_
    refine lv_iload_n C.1 C.2.1 dX5_readWord_148 rfl (lv_at hl 1 rfl) ?_
    refine x_ldS (j := 1) (tx := "vTtX") C hcw (List.mem_of_getElem? (i := 1) rfl) dX5_readWord_149 ?_
    obtain ⟨v_10, hv_10, h⟩ := bnd h
    refine x_callKSi (As := [.int x1, .ref (Z.2.2.2.1 1)]) (rest := []) C w hcn hcw (k_Rd_allows l Z D T ρ H.size S (by decide) hv_10) vX5_101 (hRK (by decide) (by decide)) rfl rfl hl.1 (Nat.le_of_ble_eq_true rfl) (hcK hT) dX5_readWord_151 (fun ρ_9 H locs hag w => ?_)
    replace ha := ha.trans hag
    rw [← hag 3 (by decide)] at hl
    refine lv_if_eq (tgt := 174) C.1 C.2.1 dX5_readWord_154 (by decide) (fun hc => ?_) (fun hc => ?_)
    · replace h := ift hc h
      refine lv_iconst (v := 0) C.1 C.2.1 dX5_readWord_174 (by decide) ?_
      obtain ⟨rfl, rfl⟩ := prI h
      exact x_zretM C w ha hr hk (by decide) dX5_readWord_175 (by have := nq_kap nn; omega) (by have := nq_kap nn; omega)
    · replace h := iff0 hc h
      refine lv_aload_n C.1 C.2.1 dX5_readWord_157 rfl (lv_at hl 0 rfl) ?_
      refine lv_bipush (v := 32) C.1 C.2.1 dX5_readWord_158 (by decide) ?_
      refine lv_iload_n C.1 C.2.1 dX5_readWord_160 rfl (lv_at hl 2 rfl) ?_
      refine lv_iload_n C.1 C.2.1 dX5_readWord_161 rfl (lv_at hl 2 rfl) ?_
      refine lv_iload C.1 C.2.1 dX5_readWord_162 (lv_at hl 4 rfl) ?_
      obtain ⟨⟨S_11, v_12⟩, hv_12, h⟩ := bnd h
      replace nn : nq S_11 S := nq_tr (kq_Rd_readName hv_12) nn
      refine x_callVi (q := (RX5, TX5, 5)) (As := [.int (32 : Int32), .int x2, .int x2, .int x4]) (rest := []) C w (k_Rd_readName l D T ρ_9 g H.size S hv_12) vX5_119 (hRK (by decide) (by decide)) obC3 (by decide) rfl rfl rfl hl.1 (Nat.le_of_ble_eq_true rfl) (hcK hT) dX5_readWord_164 (fun H locs w => ?_)
      refine lv_if_eq (tgt := 174) C.1 C.2.1 dX5_readWord_167 (by decide) (fun hc => ?_) (fun hc => ?_)
      · replace h := ift hc h
        refine lv_iconst (v := 0) C.1 C.2.1 dX5_readWord_174 (by decide) ?_
        obtain ⟨rfl, rfl⟩ := prI h
        exact x_zretM C w ha hr hk (by decide) dX5_readWord_175 (by have := nq_kap nn; omega) (by have := nq_kap nn; omega)
      · replace h := iff0 hc h
        refine lv_iconst (v := 1) C.1 C.2.1 dX5_readWord_170 (by decide) ?_
        refine lv_goto (tgt := 175) C.1 C.2.1 dX5_readWord_171 (by decide) ?_
        obtain ⟨rfl, rfl⟩ := prI h
        exact x_zretM C w ha hr hk (by decide) dX5_readWord_175 (by have := nq_kap nn; omega) (by have := nq_kap nn; omega)
  replace h := iff0 hz112_1 h
  by_cases hz112_2 : x3 = (119 : Int32)
  · replace h := ift hz112_2 h
    refine lv_lookup (off := 92) (tgt := 204) C.1 C.2.1 dX5_readWord_112 (by decide) (off_f (i_ne (v := (98 : Int32)) (by decide) hz112_0) (off_f (i_ne (v := (118 : Int32)) (by decide) hz112_1) (off_t (by rw [hz112_2]; decide)))) (by decide) ?_
    refine lv_iload_n C.1 C.2.1 dX5_readWord_204 rfl (lv_at hl 1 rfl) ?_
    refine x_ldS (j := 3) (tx := "wWX") C hcw (List.mem_of_getElem? (i := 3) rfl) dX5_readWord_205 ?_
    obtain ⟨v_14, hv_14, h⟩ := bnd h
    refine x_callKSi (As := [.int x1, .ref (Z.2.2.2.1 3)]) (rest := []) C w hcn hcw (k_Rd_allows l Z D T ρ H.size S (by decide) hv_14) vX5_101 (hRK (by decide) (by decide)) rfl rfl hl.1 (Nat.le_of_ble_eq_true rfl) (hcK hT) dX5_readWord_207 (fun ρ_13 H locs hag w => ?_)
    replace ha := ha.trans hag
    rw [← hag 3 (by decide)] at hl
    refine lv_if_eq (tgt := 230) C.1 C.2.1 dX5_readWord_210 (by decide) (fun hc => ?_) (fun hc => ?_)
    · replace h := ift hc h
      refine lv_iconst (v := 0) C.1 C.2.1 dX5_readWord_230 (by decide) ?_
      obtain ⟨rfl, rfl⟩ := prI h
      exact x_zretM C w ha hr hk (by decide) dX5_readWord_231 (by have := nq_kap nn; omega) (by have := nq_kap nn; omega)
    · replace h := iff0 hc h
      refine lv_aload_n C.1 C.2.1 dX5_readWord_213 rfl (lv_at hl 0 rfl) ?_
      refine lv_bipush (v := 32) C.1 C.2.1 dX5_readWord_214 (by decide) ?_
      refine lv_iload_n C.1 C.2.1 dX5_readWord_216 rfl (lv_at hl 2 rfl) ?_
      refine lv_iload_n C.1 C.2.1 dX5_readWord_217 rfl (lv_at hl 2 rfl) ?_
      refine lv_iload C.1 C.2.1 dX5_readWord_218 (lv_at hl 4 rfl) ?_
      obtain ⟨⟨S_15, v_16⟩, hv_16, h⟩ := bnd h
      replace nn : nq S_15 S := nq_tr (kq_Rd_readName hv_16) nn
      refine x_callVi (q := (RX5, TX5, 5)) (As := [.int (32 : Int32), .int x2, .int x2, .int x4]) (rest := []) C w (k_Rd_readName l D T ρ_13 g H.size S hv_16) vX5_119 (hRK (by decide) (by decide)) obC3 (by decide) rfl rfl rfl hl.1 (Nat.le_of_ble_eq_true rfl) (hcK hT) dX5_readWord_220 (fun H locs w => ?_)
      refine lv_if_eq (tgt := 230) C.1 C.2.1 dX5_readWord_223 (by decide) (fun hc => ?_) (fun hc => ?_)
      · replace h := ift hc h
        refine lv_iconst (v := 0) C.1 C.2.1 dX5_readWord_230 (by decide) ?_
        obtain ⟨rfl, rfl⟩ := prI h
        exact x_zretM C w ha hr hk (by decide) dX5_readWord_231 (by have := nq_kap nn; omega) (by have := nq_kap nn; omega)
      · replace h := iff0 hc h
        refine lv_iconst (v := 1) C.1 C.2.1 dX5_readWord_226 (by decide) ?_
        refine lv_goto (tgt := 231) C.1 C.2.1 dX5_readWord_227 (by decide) ?_
        obtain ⟨rfl, rfl⟩ := prI h
        exact x_zretM C w ha hr hk (by decide) dX5_readWord_231 (by have := nq_kap nn; omega) (by have := nq_kap nn; omega)
  replace h := iff0 hz112_2 h
  refine lv_lookup (off := 120) (tgt := 232) C.1 C.2.1 dX5_readWord_112 (by decide) (off_f (i_ne (v := (98 : Int32)) (by decide) hz112_0) (off_f (i_ne (v := (118 : Int32)) (by decide) hz112_1) (off_f (i_ne (v := (119 : Int32)) (by decide) hz112_2) rfl))) (by decide) ?_
  refine lv_iload_n C.1 C.2.1 dX5_readWord_232 rfl (lv_at hl 1 rfl) ?_
  refine x_ldS (j := 4) (tx := "WX") C hcw (List.mem_of_getElem? (i := 4) rfl) dX5_readWord_233 ?_
  obtain ⟨v_18, hv_18, h⟩ := bnd h
  refine x_callKSi (As := [.int x1, .ref (Z.2.2.2.1 4)]) (rest := []) C w hcn hcw (k_Rd_allows l Z D T ρ H.size S (by decide) hv_18) vX5_101 (hRK (by decide) (by decide)) rfl rfl hl.1 (Nat.le_of_ble_eq_true rfl) (hcK hT) dX5_readWord_235 (fun ρ_17 H locs hag w => ?_)
  replace ha := ha.trans hag
  rw [← hag 3 (by decide)] at hl
  refine lv_if_eq (tgt := 258) C.1 C.2.1 dX5_readWord_238 (by decide) (fun hc => ?_) (fun hc => ?_)
  · replace h := ift hc h
    refine lv_iconst (v := 0) C.1 C.2.1 dX5_readWord_258 (by decide) ?_
    obtain ⟨rfl, rfl⟩ := prI h
    exact x_zretM C w ha hr hk (by decide) dX5_readWord_259 (by have := nq_kap nn; omega) (by have := nq_kap nn; omega)
  · replace h := iff0 hc h
    refine lv_aload_n C.1 C.2.1 dX5_readWord_241 rfl (lv_at hl 0 rfl) ?_
    refine lv_bipush (v := 32) C.1 C.2.1 dX5_readWord_242 (by decide) ?_
    refine lv_iload_n C.1 C.2.1 dX5_readWord_244 rfl (lv_at hl 2 rfl) ?_
    refine lv_iload_n C.1 C.2.1 dX5_readWord_245 rfl (lv_at hl 2 rfl) ?_
    refine lv_iload C.1 C.2.1 dX5_readWord_246 (lv_at hl 4 rfl) ?_
    obtain ⟨⟨S_19, v_20⟩, hv_20, h⟩ := bnd h
    replace nn : nq S_19 S := nq_tr (kq_Rd_readNumber hv_20) nn
    refine x_callVi (q := (RX5, TX5, 5)) (As := [.int (32 : Int32), .int x2, .int x2, .int x4]) (rest := []) C w (k_Rd_readNumber l D T ρ_17 g H.size S hv_20) vX5_128 (hRK (by decide) (by decide)) obC3 (by decide) rfl rfl rfl hl.1 (Nat.le_of_ble_eq_true rfl) (hcK hT) dX5_readWord_248 (fun H locs w => ?_)
    refine lv_if_eq (tgt := 258) C.1 C.2.1 dX5_readWord_251 (by decide) (fun hc => ?_) (fun hc => ?_)
    · replace h := ift hc h
      refine lv_iconst (v := 0) C.1 C.2.1 dX5_readWord_258 (by decide) ?_
      obtain ⟨rfl, rfl⟩ := prI h
      exact x_zretM C w ha hr hk (by decide) dX5_readWord_259 (by have := nq_kap nn; omega) (by have := nq_kap nn; omega)
    · replace h := iff0 hc h
      refine lv_iconst (v := 1) C.1 C.2.1 dX5_readWord_254 (by decide) ?_
      refine lv_goto (tgt := 259) C.1 C.2.1 dX5_readWord_255 (by decide) ?_
      obtain ⟨rfl, rfl⟩ := prI h
      exact x_zretM C w ha hr hk (by decide) dX5_readWord_259 (by have := nq_kap nn; omega) (by have := nq_kap nn; omega)
set_option maxRecDepth 100000 in
set_option maxHeartbeats 4000000 in
theorem w_Rd_readWord_99 {g : Nat} {S : St} {x2 : Int32} {x3 : Int32} {x4 : Int32} (C : CallFix p m c cX5_readWord 5 s args tb RX5) (hr : meth.sig.returnType = (some .boolean)) (hk : meth.locks = false) (hcn : Kn Z A s s.heap) (hcw : Kw Z s) {S' : St} {r : Int32} (ha : Ag ρ0 ρ) (hm : kap S0 ≤ kap S) (w : Wn Yc D T ρ S A s H locs) (hl : lv_has ls 5 [(0, .ref (ρ 3)), (2, .int x2), (3, .int x3), (4, .int x4)]) (h : m_Rd_readWord_99 g S x2 x3 x4 = some (S', r)) : W p l e (rmK 5 120 (kap S' - kap S0)) s m args below meth c H locs (kap S - kap S0) (2 * (kap S - kap S0)) (MQ below (QiM D T ρ0 A S' r) args s (kap S' - kap S0) (2 * (kap S' - kap S0)) A) (F0 m 99 ls []) := by
  have hT := km_Rd_readWord_99 h
  unfold m_Rd_readWord_99 at h
  have nn : nq S S := nq_rf
  refine lv_aload_n C.1 C.2.1 dX5_readWord_99 rfl (lv_at hl 0 rfl) ?_
  refine lv_iload_n C.1 C.2.1 dX5_readWord_100 rfl (lv_at hl 2 rfl) ?_
  refine lv_iload_n C.1 C.2.1 dX5_readWord_101 rfl (lv_at hl 1 rfl) ?_
  refine lv_iload_n C.1 C.2.1 dX5_readWord_102 rfl (lv_at hl 1 rfl) ?_
  refine lv_iconst (v := 1) C.1 C.2.1 dX5_readWord_103 (by decide) ?_
  refine lv_iadd C.1 C.2.1 dX5_readWord_104 ?_
  refine lv_iload C.1 C.2.1 dX5_readWord_105 (lv_at hl 3 rfl) ?_
  obtain ⟨⟨S_5, v_6⟩, hv_6, h⟩ := bnd h
  replace nn : nq S_5 S := nq_tr (kq_Rd_readWhole hv_6) nn
  refine x_callVi (q := (RX5, TX5, 5)) (As := [.int x3, .int x2, .int (x2 + (1 : Int32)), .int x4]) (rest := []) C w (k_Rd_readWhole l D T ρ g H.size S hv_6) vX5_113 (hRK (by decide) (by decide)) obC3 (by decide) rfl rfl rfl hl.1 (Nat.le_of_ble_eq_true rfl) (hcK hT) dX5_readWord_107 (fun H locs w => ?_)
  by_cases hz_7 : v_6 = 0 ∨ v_6 = 1
  case neg => exact absurd (iff0 hz_7 h) (fun q => by cases q)
  replace h := ift hz_7 h
  obtain ⟨rfl, rfl⟩ := prI h
  exact x_zretM C w ha hr hk hz_7 dX5_readWord_110 (by have := nq_kap nn; omega) (by have := nq_kap nn; omega)
set_option maxRecDepth 100000 in
set_option maxHeartbeats 4000000 in
theorem w_Rd_readWord_36 {g : Nat} {S : St} {y0 : Int32} (C : CallFix p m c cX5_readWord 5 s args tb RX5) (hr : meth.sig.returnType = (some .boolean)) (hk : meth.locks = false) (hcn : Kn Z A s s.heap) (hcw : Kw Z s) {S' : St} {r : Int32} (ha : Ag ρ0 ρ) (hm : kap S0 ≤ kap S) (w : Wn Yc D T ρ S A s H locs) (hl : lv_has ls 5 []) (h : m_Rd_readWord_36 g S y0 = some (S', r)) : W p l e (rmK 5 120 (kap S' - kap S0)) s m args below meth c H locs (kap S - kap S0) (2 * (kap S - kap S0)) (MQ below (QiM D T ρ0 A S' r) args s (kap S' - kap S0) (2 * (kap S' - kap S0)) A) (F0 m 36 ls [.int y0]) := by
  have hT := km_Rd_readWord_36 h
  unfold m_Rd_readWord_36 at h
  have nn : nq S S := nq_rf
  refine lv_if_eq (tgt := 43) C.1 C.2.1 dX5_readWord_36 (by decide) (fun hc => ?_) (fun hc => ?_)
  · replace h := ift hc h
    refine lv_iconst (v := 0) C.1 C.2.1 dX5_readWord_43 (by decide) ?_
    obtain ⟨rfl, rfl⟩ := prI h
    exact x_zretM C w ha hr hk (by decide) dX5_readWord_44 (by have := nq_kap nn; omega) (by have := nq_kap nn; omega)
  · replace h := iff0 hc h
    refine lv_iconst (v := 1) C.1 C.2.1 dX5_readWord_39 (by decide) ?_
    refine lv_goto (tgt := 44) C.1 C.2.1 dX5_readWord_40 (by decide) ?_
    obtain ⟨rfl, rfl⟩ := prI h
    exact x_zretM C w ha hr hk (by decide) dX5_readWord_44 (by have := nq_kap nn; omega) (by have := nq_kap nn; omega)
set_option maxRecDepth 100000 in
set_option maxHeartbeats 4000000 in
theorem w_Rd_readWord_0 {g : Nat} {S : St} {x1 : Int32} (C : CallFix p m c cX5_readWord 5 s args tb RX5) (hr : meth.sig.returnType = (some .boolean)) (hk : meth.locks = false) (hcn : Kn Z A s s.heap) (hcw : Kw Z s) {S' : St} {r : Int32} (ha : Ag ρ0 ρ) (hm : kap S0 ≤ kap S) (w : Wn Yc D T ρ S A s H locs) (hl : lv_has ls 5 [(0, .ref (ρ 3)), (1, .int x1)]) (h : m_Rd_readWord g S x1 = some (S', r)) : W p l e (rmK 5 120 (kap S' - kap S0)) s m args below meth c H locs (kap S - kap S0) (2 * (kap S - kap S0)) (MQ below (QiM D T ρ0 A S' r) args s (kap S' - kap S0) (2 * (kap S' - kap S0)) A) (F0 m 0 ls []) := by
  have hT := km_Rd_readWord h
  unfold m_Rd_readWord at h
  have nn : nq S S := nq_rf
  refine lv_aload_n C.1 C.2.1 dX5_readWord_0 rfl (lv_at hl 0 rfl) ?_
  refine x_getI C w fX5_20 obC3 dX5_readWord_1 ?_
  obtain ⟨x2_1, ex2_1, h⟩ := lt_e h
  refine x_nm ex2_1 ?_
  refine lv_istore_n (lv' := [(2, .int x2_1), (0, .ref (ρ 3)), (1, .int x1)]) C.1 C.2.1 dX5_readWord_4 rfl hl (by decide) rfl (fun ls hl => ?_)
  refine lv_aload_n C.1 C.2.1 dX5_readWord_5 rfl (lv_at hl 1 rfl) ?_
  refine x_getC C w 10 fX5_27 obC3 rfl dX5_readWord_6 ?_
  refine lv_aload_n C.1 C.2.1 dX5_readWord_9 rfl (lv_at hl 1 rfl) ?_
  refine x_getI C w fX5_20 obC3 dX5_readWord_10 ?_
  obtain ⟨v_2, hv_2, h⟩ := bnd h
  refine x_callVi (q := (RX6, TX6, 4)) (As := [.int (gI S 3 3)]) (rest := []) C w (k_Row_at l D T ρ g H.size S obC10 hv_2) vX5_67 (hRK (by decide) (by decide)) obC10 (by decide) rfl rfl rfl hl.1 (Nat.le_of_ble_eq_true rfl) (hcK hT) dX5_readWord_13 (fun H locs w => ?_)
  refine lv_istore_n (lv' := [(3, .int v_2), (2, .int x2_1), (0, .ref (ρ 3)), (1, .int x1)]) C.1 C.2.1 dX5_readWord_16 rfl hl (by decide) rfl (fun ls hl => ?_)
  refine lv_iload_n C.1 C.2.1 dX5_readWord_17 rfl (lv_at hl 0 rfl) ?_
  refine lv_bipush (v := 34) C.1 C.2.1 dX5_readWord_18 (by decide) ?_
  refine lv_icmp_ne (tgt := 45) C.1 C.2.1 dX5_readWord_20 (by decide) (fun hc => ?_) (fun hc => ?_)
  · replace h := iff0 hc h
    refine lv_aload_n C.1 C.2.1 dX5_readWord_45 rfl (lv_at hl 2 rfl) ?_
    refine lv_bipush (v := 32) C.1 C.2.1 dX5_readWord_46 (by decide) ?_
    refine lv_aload_n C.1 C.2.1 dX5_readWord_48 rfl (lv_at hl 2 rfl) ?_
    refine x_getI C w fX5_20 obC3 dX5_readWord_49 ?_
    refine lv_aload_n C.1 C.2.1 dX5_readWord_52 rfl (lv_at hl 2 rfl) ?_
    refine x_getI C w fX5_24 obC3 dX5_readWord_53 ?_
    obtain ⟨v_3, hv_3, h⟩ := bnd h
    refine x_callVi (q := (RX5, TX5, 5)) (As := [.int (32 : Int32), .int (gI S 3 3), .int (gI S 3 4)]) (rest := []) C w (k_Rd_nextByte l D T ρ g H.size S hv_3) vX5_42 (hRK (by decide) (by decide)) obC3 (by decide) rfl rfl rfl hl.1 (Nat.le_of_ble_eq_true rfl) (hcK hT) dX5_readWord_56 (fun H locs w => ?_)
    refine lv_istore (lv' := [(4, .int v_3), (3, .int v_2), (2, .int x2_1), (0, .ref (ρ 3)), (1, .int x1)]) C.1 C.2.1 dX5_readWord_59 hl (by decide) rfl (fun ls hl => ?_)
    refine lv_aload_n C.1 C.2.1 dX5_readWord_61 rfl (lv_at hl 3 rfl) ?_
    refine lv_iload C.1 C.2.1 dX5_readWord_62 (lv_at hl 0 rfl) ?_
    obtain ⟨S_4, eS_4, h⟩ := lt_e h
    replace nn : nq S_4 S := nq_tr (by rw [eS_4]; rfl) nn
    refine y_putI C w eS_4 fX5_20 pX5_3 obC3 dX5_readWord_64 (fun H locs w => ?_)
    refine lv_iload_n C.1 C.2.1 dX5_readWord_67 rfl (lv_at hl 4 rfl) ?_
    refine lv_bipush (v := 78) C.1 C.2.1 dX5_readWord_68 (by decide) ?_
    refine lv_icmp_ne (tgt := 81) C.1 C.2.1 dX5_readWord_70 (by decide) (fun hc => ?_) (fun hc => ?_)
    · replace h := iff0 hc h
      refine lv_iload_n C.1 C.2.1 dX5_readWord_81 rfl (lv_at hl 4 rfl) ?_
      refine lv_bipush (v := 88) C.1 C.2.1 dX5_readWord_82 (by decide) ?_
      refine lv_icmp_ne (tgt := 111) C.1 C.2.1 dX5_readWord_84 (by decide) (fun hc => ?_) (fun hc => ?_)
      · replace h := iff0 hc h
        have hkn := nq_kap nn
        refine W.widen (k := kap S_4 - kap S0) (n := 2 * (kap S_4 - kap S0)) (by omega) (by omega) ?_
        exact w_Rd_readWord_111 C hr hk hcn hcw ha (by omega) w (lv_sub hl [3, 4, 2, 1, 0] rfl) h
      · replace h := ift hc h
        refine lv_iload_n C.1 C.2.1 dX5_readWord_87 rfl (lv_at hl 1 rfl) ?_
        refine lv_bipush (v := 64) C.1 C.2.1 dX5_readWord_88 (by decide) ?_
        refine lv_icmp_eq (tgt := 99) C.1 C.2.1 dX5_readWord_90 (by decide) (fun hc => ?_) (fun hc => ?_)
        · replace h := ift hc h
          have hkn := nq_kap nn
          refine W.widen (k := kap S_4 - kap S0) (n := 2 * (kap S_4 - kap S0)) (by omega) (by omega) ?_
          exact w_Rd_readWord_99 C hr hk hcn hcw ha (by omega) w (lv_sub hl [3, 2, 1, 0] rfl) h
        · replace h := iff0 hc h
          refine lv_iload_n C.1 C.2.1 dX5_readWord_93 rfl (lv_at hl 1 rfl) ?_
          refine lv_bipush (v := 63) C.1 C.2.1 dX5_readWord_94 (by decide) ?_
          refine lv_icmp_ne (tgt := 111) C.1 C.2.1 dX5_readWord_96 (by decide) (fun hc => ?_) (fun hc => ?_)
          · replace h := iff0 hc h
            have hkn := nq_kap nn
            refine W.widen (k := kap S_4 - kap S0) (n := 2 * (kap S_4 - kap S0)) (by omega) (by omega) ?_
            exact w_Rd_readWord_111 C hr hk hcn hcw ha (by omega) w (lv_sub hl [3, 4, 2, 1, 0] rfl) h
          · replace h := ift hc h
            have hkn := nq_kap nn
            refine W.widen (k := kap S_4 - kap S0) (n := 2 * (kap S_4 - kap S0)) (by omega) (by omega) ?_
            exact w_Rd_readWord_99 C hr hk hcn hcw ha (by omega) w (lv_sub hl [3, 2, 1, 0] rfl) h
    · replace h := ift hc h
      refine lv_aload_n C.1 C.2.1 dX5_readWord_73 rfl (lv_at hl 3 rfl) ?_
      refine lv_iload_n C.1 C.2.1 dX5_readWord_74 rfl (lv_at hl 2 rfl) ?_
      refine lv_iload C.1 C.2.1 dX5_readWord_75 (lv_at hl 0 rfl) ?_
      obtain ⟨⟨S_5, v_6⟩, hv_6, h⟩ := bnd h
      replace nn : nq S_5 S := nq_tr (kq_Rd_readCount hv_6) nn
      refine x_callVi (q := (RX5, TX5, 5)) (As := [.int x2_1, .int v_3]) (rest := []) C w (k_Rd_readCount l D T ρ g H.size S_4 hv_6) vX5_109 (hRK (by decide) (by decide)) obC3 (by decide) rfl rfl rfl hl.1 (Nat.le_of_ble_eq_true rfl) (hcK hT) dX5_readWord_77 (fun H locs w => ?_)
      by_cases hz_7 : v_6 = 0 ∨ v_6 = 1
      case neg => exact absurd (iff0 hz_7 h) (fun q => by cases q)
      replace h := ift hz_7 h
      obtain ⟨rfl, rfl⟩ := prI h
      exact x_zretM C w ha hr hk hz_7 dX5_readWord_80 (by have := nq_kap nn; omega) (by have := nq_kap nn; omega)
  · replace h := ift hc h
    refine lv_iload_n C.1 C.2.1 dX5_readWord_23 rfl (lv_at hl 3 rfl) ?_
    refine x_ldS (j := 0) (tx := "TtX") C hcw (List.mem_of_getElem? (i := 0) rfl) dX5_readWord_24 ?_
    obtain ⟨v_9, hv_9, h⟩ := bnd h
    refine x_callKSi (As := [.int x1, .ref (Z.2.2.2.1 0)]) (rest := []) C w hcn hcw (k_Rd_allows l Z D T ρ H.size S (by decide) hv_9) vX5_101 (hRK (by decide) (by decide)) rfl rfl hl.1 (Nat.le_of_ble_eq_true rfl) (hcK hT) dX5_readWord_26 (fun ρ_8 H locs hag w => ?_)
    replace ha := ha.trans hag
    rw [← hag 3 (by decide)] at hl
    refine lv_if_eq (tgt := 43) C.1 C.2.1 dX5_readWord_29 (by decide) (fun hc => ?_) (fun hc => ?_)
    · replace h := ift hc h
      refine lv_iconst (v := 0) C.1 C.2.1 dX5_readWord_43 (by decide) ?_
      obtain ⟨rfl, rfl⟩ := prI h
      exact x_zretM C w ha hr hk (by decide) dX5_readWord_44 (by have := nq_kap nn; omega) (by have := nq_kap nn; omega)
    · replace h := iff0 hc h
      refine lv_aload_n C.1 C.2.1 dX5_readWord_32 rfl (lv_at hl 2 rfl) ?_
      obtain ⟨⟨S_10, v_11⟩, hv_11, h⟩ := bnd h
      have hkn := nq_kap nn
      have hk1 := km_Rd_readLiteral hv_11
      have hT2 := km_Rd_readWord_36 h
      refine x_callViM (q := (RX5, TX5, 5)) (As := []) (rest := []) C w (k_Rd_readLiteral l D T ρ_8 g H.size S hv_11) vX5_105 (hRK (by decide) (by decide)) obC3 (by decide) rfl rfl rfl hl.1 (Nat.le_of_ble_eq_true rfl) (hcM hm hkn hk1 hT2) dX5_readWord_33 (fun ρ1 H locs hag w => ?_)
      replace ha := ha.trans hag
      rw [← hag 3 (by decide)] at hl
      refine W.widen (k := kap S_10 - kap S0) (n := 2 * (kap S_10 - kap S0)) (by omega) (by omega) ?_
      exact w_Rd_readWord_36 C hr hk hcn hcw ha (by omega) w (lv_sub hl [] rfl) h
end S_Rd_readWord
set_option maxRecDepth 100000 in
theorem k_Rd_readWord (l : Launch) (Z : Ad) (D : va_G) (T : Cy) (ρ : Nat → Nat) (g sz : Nat) (S : St) {x1 : Int32} {S' : St} {r : Int32} (h : m_Rd_readWord g S x1 = some (S', r)) : MiC l Z D T ρ yX5_readWord cX5_readWord 5 (some .boolean) 5 120 S S' r [.ref (ρ 3), .int x1] sz :=
  x_inC (by decide) (Nat.le_of_ble_eq_true rfl) (fun p e s m below meth c ls C hr hk hcn hcw w hl => W.widen (Nat.zero_le _) (Nat.zero_le _) (w_Rd_readWord_0 C hr hk hcn hcw Ag.rf (Nat.le_refl _) w hl h))
