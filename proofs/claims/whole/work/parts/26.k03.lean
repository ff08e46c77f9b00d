theorem dX5_readWords_0 : decode cX5_readWords 0 = .ok (.aload_n 1, 1) := by decide +kernel
theorem dX5_readWords_1 : decode cX5_readWords 1 = .ok (.getfield 86, 3) := by decide +kernel
theorem dX5_readWords_4 : decode cX5_readWords 4 = .ok (.invokevirtual 76, 3) := by decide +kernel
theorem dX5_readWords_7 : decode cX5_readWords 7 = .ok (.istore_n 2, 1) := by decide +kernel
theorem dX5_readWords_8 : decode cX5_readWords 8 = .ok (.iconst 0, 1) := by decide +kernel
theorem dX5_readWords_9 : decode cX5_readWords 9 = .ok (.istore_n 3, 1) := by decide +kernel
theorem dX5_readWords_10 : decode cX5_readWords 10 = .ok (.iload_n 3, 1) := by decide +kernel
theorem dX5_readWords_11 : decode cX5_readWords 11 = .ok (.iload_n 2, 1) := by decide +kernel
theorem dX5_readWords_12 : decode cX5_readWords 12 = .ok (.if_icmp .gt 67, 3) := by decide +kernel
theorem dX5_readWords_15 : decode cX5_readWords 15 = .ok (.aload_n 0, 1) := by decide +kernel
theorem dX5_readWords_16 : decode cX5_readWords 16 = .ok (.invokevirtual 46, 3) := by decide +kernel
theorem dX5_readWords_19 : decode cX5_readWords 19 = .ok (.aload_n 0, 1) := by decide +kernel
theorem dX5_readWords_20 : decode cX5_readWords 20 = .ok (.getfield 20, 3) := by decide +kernel
theorem dX5_readWords_23 : decode cX5_readWords 23 = .ok (.aload_n 0, 1) := by decide +kernel
theorem dX5_readWords_24 : decode cX5_readWords 24 = .ok (.getfield 24, 3) := by decide +kernel
theorem dX5_readWords_27 : decode cX5_readWords 27 = .ok (.if_icmp .lt 20, 3) := by decide +kernel
theorem dX5_readWords_30 : decode cX5_readWords 30 = .ok (.iload_n 3, 1) := by decide +kernel
theorem dX5_readWords_31 : decode cX5_readWords 31 = .ok (.aload_n 1, 1) := by decide +kernel
theorem dX5_readWords_32 : decode cX5_readWords 32 = .ok (.getfield 89, 3) := by decide +kernel
theorem dX5_readWords_35 : decode cX5_readWords 35 = .ok (.if_icmp .ge 10, 3) := by decide +kernel
theorem dX5_readWords_38 : decode cX5_readWords 38 = .ok (.aload_n 0, 1) := by decide +kernel
theorem dX5_readWords_39 : decode cX5_readWords 39 = .ok (.getfield 24, 3) := by decide +kernel
theorem dX5_readWords_42 : decode cX5_readWords 42 = .ok (.goto 4, 3) := by decide +kernel
theorem dX5_readWords_45 : decode cX5_readWords 45 = .ok (.iconst (-1), 1) := by decide +kernel
theorem dX5_readWords_46 : decode cX5_readWords 46 = .ok (.ireturn, 1) := by decide +kernel
theorem dX5_readWords_47 : decode cX5_readWords 47 = .ok (.aload_n 0, 1) := by decide +kernel
theorem dX5_readWords_48 : decode cX5_readWords 48 = .ok (.getfield 20, 3) := by decide +kernel
theorem dX5_readWords_51 : decode cX5_readWords 51 = .ok (.istore 4, 2) := by decide +kernel
theorem dX5_readWords_53 : decode cX5_readWords 53 = .ok (.iload_n 3, 1) := by decide +kernel
theorem dX5_readWords_54 : decode cX5_readWords 54 = .ok (.iload_n 2, 1) := by decide +kernel
theorem dX5_readWords_55 : decode cX5_readWords 55 = .ok (.if_icmp .eq 15, 3) := by decide +kernel
theorem dX5_readWords_58 : decode cX5_readWords 58 = .ok (.aload_n 0, 1) := by decide +kernel
theorem dX5_readWords_59 : decode cX5_readWords 59 = .ok (.aload_n 1, 1) := by decide +kernel
theorem dX5_readWords_60 : decode cX5_readWords 60 = .ok (.iload_n 3, 1) := by decide +kernel
theorem dX5_readWords_61 : decode cX5_readWords 61 = .ok (.invokevirtual 92, 3) := by decide +kernel
theorem dX5_readWords_64 : decode cX5_readWords 64 = .ok (.invokevirtual 95, 3) := by decide +kernel
theorem dX5_readWords_67 : decode cX5_readWords 67 = .ok (.ifCond .ne 6, 3) := by decide +kernel
theorem dX5_readWords_70 : decode cX5_readWords 70 = .ok (.iload 4, 2) := by decide +kernel
theorem dX5_readWords_72 : decode cX5_readWords 72 = .ok (.ireturn, 1) := by decide +kernel
theorem dX5_readWords_73 : decode cX5_readWords 73 = .ok (.iinc 3 1, 3) := by decide +kernel
theorem dX5_readWords_76 : decode cX5_readWords 76 = .ok (.goto (-66), 3) := by decide +kernel
theorem dX5_readWords_79 : decode cX5_readWords 79 = .ok (.iconst (-1), 1) := by decide +kernel
theorem dX5_readWords_80 : decode cX5_readWords 80 = .ok (.ireturn, 1) := by decide +kernel
def m_Rd_readWords_67 (g : Nat) (k10 : St → Nat → Int32 → Int32 → Option (St × Int32)) (S : St) (x1 : Nat) (x2 : Int32) (x3 : Int32) (x4 : Int32) (y0 : Int32) : Option (St × Int32) :=
if y0 = 0 then (
  some (S, x4)
) else (
  lt (x3 + (1 : Int32)) fun x3_8 =>
  k10 S x1 x2 x3_8
)
def b_Rd_readWords_10 (g : Nat) (k10 : St → Nat → Int32 → Int32 → Option (St × Int32)) (S : St) (x1 : Nat) (x2 : Int32) (x3 : Int32) : Option (St × Int32) :=
if x2 < x3 then (
  some (S, (-1 : Int32))
) else (
  (m_Rd_skipBlanks g S).bind fun S_3 =>
  if (gI S_3 3 3) < (gI S_3 3 4) then (
    lt (gI S_3 3 3) fun x4_4 =>
    if x3 = x2 then (
      some (S_3, x4_4)
    ) else (
      (m_Rd_readWord g S_3 (lett x1 x3)).bind fun (S_6, v_7) =>
      m_Rd_readWords_67 g k10 S_6 x1 x2 x3 x4_4 v_7
    )
  ) else (
    if (leT.getD x1 0) ≤ x3 then (
      some (S_3, (-1 : Int32))
    ) else (
      some (S_3, gI S_3 3 4)
    )
  )
)
def m_Rd_readWords_10 (g : Nat) : Nat → St → Nat → Int32 → Int32 → Option (St × Int32)
  | 0, _, _, _, _ => none
  | n + 1, S, x1, x2, x3 => b_Rd_readWords_10 g (m_Rd_readWords_10 g n) S x1 x2 x3
def m_Rd_readWords (g : Nat) (S : St) (x1 : Nat) : Option (St × Int32) :=
lt (sLen (wdT.getD x1 0)) fun x2_2 =>
m_Rd_readWords_10 g g S x1 x2_2 (0 : Int32)
theorem km_Rd_readWords_67 {g : Nat} {S : St} {x1 : Nat} {x2 : Int32} {x3 : Int32} {x4 : Int32} {y0 : Int32} {S' : St} {r : Int32} {k10 : St → Nat → Int32 → Int32 → Option (St × Int32)} (km10 : ∀ (S : St) (x1 : Nat) (x2 : Int32) (x3 : Int32), k10 S x1 x2 x3 = some (S', r) → kap S ≤ kap S') (h : m_Rd_readWords_67 g k10 S x1 x2 x3 x4 y0 = some (S', r)) : kap S ≤ kap S' := by
  unfold m_Rd_readWords_67 at h
  have nn : nq S S := nq_rf
  by_cases hc1 : y0 = 0
  · replace h := ift hc1 h
    obtain ⟨rfl, rfl⟩ := prI h
    have hkn := nq_kap nn
    omega
  · replace h := iff0 hc1 h
    obtain ⟨x3_8, ex3_8, h⟩ := lt_e h
    have hkn := nq_kap nn
    have h2 := km10 _ _ _ _ h
    omega
theorem kmb_Rd_readWords_10 {g : Nat} {S : St} {x1 : Nat} {x2 : Int32} {x3 : Int32} {S' : St} {r : Int32} {k10 : St → Nat → Int32 → Int32 → Option (St × Int32)} (km10 : ∀ (S : St) (x1 : Nat) (x2 : Int32) (x3 : Int32), k10 S x1 x2 x3 = some (S', r) → kap S ≤ kap S') (h : b_Rd_readWords_10 g k10 S x1 x2 x3 = some (S', r)) : kap S ≤ kap S' := by
  unfold b_Rd_readWords_10 at h
  have nn : nq S S := nq_rf
  by_cases hc1 : x2 < x3
  · replace h := ift hc1 h
    obtain ⟨rfl, rfl⟩ := prI h
    have hkn := nq_kap nn
    omega
  · replace h := iff0 hc1 h
    obtain ⟨S_3, hS_3, h⟩ := bnd h
    replace nn : nq S_3 S := nq_tr (kq_Rd_skipBlanks hS_3) nn
    by_cases hc2 : (gI S_3 3 3) < (gI S_3 3 4)
    · replace h := ift hc2 h
      obtain ⟨x4_4, ex4_4, h⟩ := lt_e h
      by_cases hc3 : x3 = x2
      · replace h := ift hc3 h
        obtain ⟨rfl, rfl⟩ := prI h
        have hkn := nq_kap nn
        omega
      · replace h := iff0 hc3 h
        obtain ⟨⟨S_6, v_7⟩, hv_7, h⟩ := bnd h
        have hk1 := km_Rd_readWord hv_7
        have hkn := nq_kap nn
        have h2 := km_Rd_readWords_67 km10 h
        omega
    · replace h := iff0 hc2 h
      by_cases hc4 : (leT.getD x1 0) ≤ x3
      · replace h := ift hc4 h
        obtain ⟨rfl, rfl⟩ := prI h
        have hkn := nq_kap nn
        omega
      · replace h := iff0 hc4 h
        obtain ⟨rfl, rfl⟩ := prI h
        have hkn := nq_kap nn
        omega
theorem km_Rd_readWords_10 {g : Nat} {S' : St} {r : Int32} (n : Nat) : ∀ (S : St) (x1 : Nat) (x2 : Int32) (x3 : Int32), m_Rd_readWords_10 g n S x1 x2 x3 = some (S', r) → kap S ≤ kap S' := by
  induction n with
  | zero => intro S x1 x2 x3 h; exact absurd h (fun q => by cases q)
  | succ n ih => intro S x1 x2 x3 h; exact kmb_Rd_readWords_10 ih h
theorem km_Rd_readWords {g : Nat} {S : St} {x1 : Nat} {S' : St} {r : Int32} (h : m_Rd_readWords g S x1 = some (S', r)) : kap S ≤ kap S' := by
  unfold m_Rd_readWords at h
  have nn : nq S S := nq_rf
  obtain ⟨x2_2, ex2_2, h⟩ := lt_e h
  have hkn := nq_kap nn
  have h2 := km_Rd_readWords_10 g _ _ _ _ h
  omega
section S_Rd_readWords
variable {p : Program} {l : Launch} {e : Env} {s : State} {m : MethodId} {args : Array Value} {below : List Frame} {meth : Method} {c : Code} {H : Heap} {locs : List Loc} {ls : Array Slot} {D : va_G} {T : Cy} {ρ ρ0 : Nat → Nat} {S0 : St} {A : Nat → Prop} {Z : Ad}
set_option maxRecDepth 100000 in
set_option maxHeartbeats 4000000 in
theorem w_Rd_readWords_67 {g : Nat} {S : St} {x1 : Nat} {x2 : Int32} {x3 : Int32} {x4 : Int32} {y0 : Int32} (C : CallFix p m c cX5_readWords 5 s args tb RX5) (hr : meth.sig.returnType = (some .int)) (hk : meth.locks = false) (hcn : Kn Z A s s.heap) (hcw : Kw Z s) {S' : St} {r : Int32} {k10 : St → Nat → Int32 → Int32 → Option (St × Int32)} (kk10 : ∀ (ρ : Nat → Nat) (S : St) (x1 : Nat) (x2 : Int32) (x3 : Int32) (H : Heap) (locs : List Loc) (ls : Array Slot), Ag ρ0 ρ → kap S0 ≤ kap S → Wn Yc D T ρ S A s H locs → lv_has ls 5 [(0, .ref (ρ 3)), (1, .ref (Z.1 x1)), (2, .int x2), (3, .int x3)] → x1 < 56 → k10 S x1 x2 x3 = some (S', r) → W p l e (rmK 6 144 (kap S' - kap S0)) s m args below meth c H locs (kap S - kap S0) (2 * (kap S - kap S0)) (MQ below (QiM D T ρ0 A S' r) args s (kap S' - kap S0) (2 * (kap S' - kap S0)) A) (F0 m 10 ls [])) (km10 : ∀ (S : St) (x1 : Nat) (x2 : Int32) (x3 : Int32), k10 S x1 x2 x3 = some (S', r) → kap S ≤ kap S') (ha : Ag ρ0 ρ) (hm : kap S0 ≤ kap S) (w : Wn Yc D T ρ S A s H locs) (hl : lv_has ls 5 [(0, .ref (ρ 3)), (1, .ref (Z.1 x1)), (2, .int x2), (3, .int x3), (4, .int x4)]) (ho_x1 : x1 < 56) (h : m_Rd_readWords_67 g k10 S x1 x2 x3 x4 y0 = some (S', r)) : W p l e (rmK 6 144 (kap S' - kap S0)) s m args below meth c H locs (kap S - kap S0) (2 * (kap S - kap S0)) (MQ below (QiM D T ρ0 A S' r) args s (kap S' - kap S0) (2 * (kap S' - kap S0)) A) (F0 m 67 ls [.int y0]) := by
  have hT := km_Rd_readWords_67 km10 h
  unfold m_Rd_readWords_67 at h
  have nn : nq S S := nq_rf
  refine lv_if_ne (tgt := 73) C.1 C.2.1 dX5_readWords_67 (by decide) (fun hc => ?_) (fun hc => ?_)
  · replace h := iff0 hc h
    obtain ⟨x3_8, ex3_8, h⟩ := lt_e h
    refine lv_iinc (v := x3_8) (lv' := [(3, .int x3_8), (0, .ref (ρ 3)), (1, .ref (Z.1 x1)), (2, .int x2), (4, .int x4)]) C.1 C.2.1 dX5_readWords_73 hl (k := 3) rfl (by rw [ex3_8]; rfl) (by decide) rfl (fun ls hl => ?_)
    refine lv_goto (tgt := 10) C.1 C.2.1 dX5_readWords_76 (by decide) ?_
    have hkn := nq_kap nn
    refine W.widen (k := kap S - kap S0) (n := 2 * (kap S - kap S0)) (by omega) (by omega) ?_
    exact kk10 _ _ _ _ _ _ _ _ ha (by omega) w (lv_sub hl [1, 2, 3, 0] rfl) ho_x1 h
  · replace h := ift hc h
    refine lv_iload C.1 C.2.1 dX5_readWords_70 (lv_at hl 4 rfl) ?_
    obtain ⟨rfl, rfl⟩ := prI h
    exact x_iretM C w ha hr hk dX5_readWords_72 (by have := nq_kap nn; omega) (by have := nq_kap nn; omega)
set_option maxRecDepth 100000 in
set_option maxHeartbeats 4000000 in
theorem wb_Rd_readWords_10 {g : Nat} {S : St} {x1 : Nat} {x2 : Int32} {x3 : Int32} (C : CallFix p m c cX5_readWords 5 s args tb RX5) (hr : meth.sig.returnType = (some .int)) (hk : meth.locks = false) (hcn : Kn Z A s s.heap) (hcw : Kw Z s) {S' : St} {r : Int32} {k10 : St → Nat → Int32 → Int32 → Option (St × Int32)} (kk10 : ∀ (ρ : Nat → Nat) (S : St) (x1 : Nat) (x2 : Int32) (x3 : Int32) (H : Heap) (locs : List Loc) (ls : Array Slot), Ag ρ0 ρ → kap S0 ≤ kap S → Wn Yc D T ρ S A s H locs → lv_has ls 5 [(0, .ref (ρ 3)), (1, .ref (Z.1 x1)), (2, .int x2), (3, .int x3)] → x1 < 56 → k10 S x1 x2 x3 = some (S', r) → W p l e (rmK 6 144 (kap S' - kap S0)) s m args below meth c H locs (kap S - kap S0) (2 * (kap S - kap S0)) (MQ below (QiM D T ρ0 A S' r) args s (kap S' - kap S0) (2 * (kap S' - kap S0)) A) (F0 m 10 ls [])) (km10 : ∀ (S : St) (x1 : Nat) (x2 : Int32) (x3 : Int32), k10 S x1 x2 x3 = some (S', r) → kap S ≤ kap S') (ha : Ag ρ0 ρ) (hm : kap S0 ≤ kap S) (w : Wn Yc D T ρ S A s H locs) (hl : lv_has ls 5 [(0, .ref (ρ 3)), (1, .ref (Z.1 x1)), (2, .int x2), (3, .int x3)]) (ho_x1 : x1 < 56) (h : b_Rd_readWords_10 g k10 S x1 x2 x3 = some (S', r)) : W p l e (rmK 6 144 (kap S' - kap S0)) s m args below meth c H locs (kap S - kap S0) (2 * (kap S - kap S0)) (MQ below (QiM D T ρ0 A S' r) args s (kap S' - kap S0) (2 * (kap S' - kap S0)) A) (F0 m 10 ls []) := by
  have hT := kmb_Rd_readWords_10 km10 h
  unfold b_Rd_readWords_10 at h
  have nn : nq S S := nq_rf
  refine lv_iload_n C.1 C.2.1 dX5_readWords_10 rfl (lv_at hl 3 rfl) ?_
  refine lv_iload_n C.1 C.2.1 dX5_readWords_11 rfl (lv_at hl 2 rfl) ?_
  refine lv_icmp_gt (tgt := 79) C.1 C.2.1 dX5_readWords_12 (by decide) (fun hc => ?_) (fun hc => ?_)
  · replace h := ift hc h
    refine lv_iconst (v := (-1)) C.1 C.2.1 dX5_readWords_79 (by decide) ?_
    obtain ⟨rfl, rfl⟩ := prI h
    exact x_iretM C w ha hr hk dX5_readWords_80 (by have := nq_kap nn; omega) (by have := nq_kap nn; omega)
  · replace h := iff0 hc h
    refine lv_aload_n C.1 C.2.1 dX5_readWords_15 rfl (lv_at hl 0 rfl) ?_
    obtain ⟨S_3, hS_3, h⟩ := bnd h
    replace nn : nq S_3 S := nq_tr (kq_Rd_skipBlanks hS_3) nn
    refine x_callVv (q := (RX5, TX5, 5)) (As := []) (rest := []) C w (k_Rd_skipBlanks l D T ρ g H.size S hS_3) vX5_46 (hRK (by decide) (by decide)) obC3 (by decide) rfl rfl rfl hl.1 (Nat.le_of_ble_eq_true rfl) (hcK hT) dX5_readWords_16 (fun H locs w => ?_)
    refine lv_aload_n C.1 C.2.1 dX5_readWords_19 rfl (lv_at hl 0 rfl) ?_
    refine x_getI C w fX5_20 obC3 dX5_readWords_20 ?_
    refine lv_aload_n C.1 C.2.1 dX5_readWords_23 rfl (lv_at hl 0 rfl) ?_
    refine x_getI C w fX5_24 obC3 dX5_readWords_24 ?_
    refine lv_icmp_lt (tgt := 47) C.1 C.2.1 dX5_readWords_27 (by decide) (fun hc => ?_) (fun hc => ?_)
    · replace h := ift hc h
      refine lv_aload_n C.1 C.2.1 dX5_readWords_47 rfl (lv_at hl 0 rfl) ?_
      refine x_getI C w fX5_20 obC3 dX5_readWords_48 ?_
      obtain ⟨x4_4, ex4_4, h⟩ := lt_e h
      refine x_nm ex4_4 ?_
      refine lv_istore (lv' := [(4, .int x4_4), (0, .ref (ρ 3)), (1, .ref (Z.1 x1)), (2, .int x2), (3, .int x3)]) C.1 C.2.1 dX5_readWords_51 hl (by decide) rfl (fun ls hl => ?_)
      refine lv_iload_n C.1 C.2.1 dX5_readWords_53 rfl (lv_at hl 4 rfl) ?_
      refine lv_iload_n C.1 C.2.1 dX5_readWords_54 rfl (lv_at hl 3 rfl) ?_
      refine lv_icmp_eq (tgt := 70) C.1 C.2.1 dX5_readWords_55 (by decide) (fun hc => ?_) (fun hc => ?_)
      · replace h := ift hc h
        refine lv_iload C.1 C.2.1 dX5_readWords_70 (lv_at hl 0 rfl) ?_
        obtain ⟨rfl, rfl⟩ := prI h
        exact x_iretM C w ha hr hk dX5_readWords_72 (by have := nq_kap nn; omega) (by have := nq_kap nn; omega)
      · replace h := iff0 hc h
        refine lv_aload_n C.1 C.2.1 dX5_readWords_58 rfl (lv_at hl 1 rfl) ?_
        refine lv_aload_n C.1 C.2.1 dX5_readWords_59 rfl (lv_at hl 2 rfl) ?_
        refine lv_iload_n C.1 C.2.1 dX5_readWords_60 rfl (lv_at hl 4 rfl) ?_
        refine x_callKi (As := [.int x3]) (rest := [.ref (ρ 3)]) C w hcn hcw (hcn.1.1 _ (by rw [smN_len]; exact ho_x1)).2.1 (k_So_letter l Z D T ρ H.size S_3 ho_x1) vX5_92 (hRK (by decide) (by decide)) rfl rfl hl.1 (Nat.le_of_ble_eq_true rfl) (hcK hT) dX5_readWords_61 (fun ρ_5 H locs hag w => ?_)
        replace ha := ha.trans hag
        rw [← hag 3 (by decide)] at hl
        rw [← hag 3 (by decide)]
        obtain ⟨⟨S_6, v_7⟩, hv_7, h⟩ := bnd h
        have hkn := nq_kap nn
        have hk1 := km_Rd_readWord hv_7
        have hT2 := km_Rd_readWords_67 km10 h
        refine x_callViC (q := (RX5, TX5, 5)) (As := [.int (lett x1 x3)]) (rest := []) C w hcn hcw (k_Rd_readWord l Z D T ρ_5 g H.size S_3 hv_7) vX5_95 (hRK (by decide) (by decide)) obC3 (by decide) rfl rfl rfl hl.1 (Nat.le_of_ble_eq_true rfl) (hcM hm hkn hk1 hT2) dX5_readWords_64 (fun ρ1 H locs hag w => ?_)
        replace ha := ha.trans hag
        rw [← hag 3 (by decide)] at hl
        refine W.widen (k := kap S_6 - kap S0) (n := 2 * (kap S_6 - kap S0)) (by omega) (by omega) ?_
        exact w_Rd_readWords_67 C hr hk hcn hcw kk10 km10 ha (by omega) w (lv_sub hl [1, 2, 3, 4, 0] rfl) ho_x1 h
    · replace h := iff0 hc h
      refine lv_iload_n C.1 C.2.1 dX5_readWords_30 rfl (lv_at hl 3 rfl) ?_
      refine lv_aload_n C.1 C.2.1 dX5_readWords_31 rfl (lv_at hl 1 rfl) ?_
      refine x_eLe C w hcn ho_x1 gkX5_89 dX5_readWords_32 ?_
      refine lv_icmp_ge (tgt := 45) C.1 C.2.1 dX5_readWords_35 (by decide) (fun hc => ?_) (fun hc => ?_)
      · replace h := ift hc h
        refine lv_iconst (v := (-1)) C.1 C.2.1 dX5_readWords_45 (by decide) ?_
        obtain ⟨rfl, rfl⟩ := prI h
        exact x_iretM C w ha hr hk dX5_readWords_46 (by have := nq_kap nn; omega) (by have := nq_kap nn; omega)
      · replace h := iff0 hc h
        refine lv_aload_n C.1 C.2.1 dX5_readWords_38 rfl (lv_at hl 0 rfl) ?_
        refine x_getI C w fX5_24 obC3 dX5_readWords_39 ?_
        refine lv_goto (tgt := 46) C.1 C.2.1 dX5_readWords_42 (by decide) ?_
        obtain ⟨rfl, rfl⟩ := prI h
        exact x_iretM C w ha hr hk dX5_readWords_46 (by have := nq_kap nn; omega) (by have := nq_kap nn; omega)
theorem w_Rd_readWords_10 {g : Nat} (C : CallFix p m c cX5_readWords 5 s args tb RX5) (hr : meth.sig.returnType = (some .int)) (hk : meth.locks = false) (hcn : Kn Z A s s.heap) (hcw : Kw Z s) {S' : St} {r : Int32} (n : Nat) : ∀ (ρ : Nat → Nat) (S : St) (x1 : Nat) (x2 : Int32) (x3 : Int32) (H : Heap) (locs : List Loc) (ls : Array Slot), Ag ρ0 ρ → kap S0 ≤ kap S → Wn Yc D T ρ S A s H locs → lv_has ls 5 [(0, .ref (ρ 3)), (1, .ref (Z.1 x1)), (2, .int x2), (3, .int x3)] → x1 < 56 → m_Rd_readWords_10 g n S x1 x2 x3 = some (S', r) → W p l e (rmK 6 144 (kap S' - kap S0)) s m args below meth c H locs (kap S - kap S0) (2 * (kap S - kap S0)) (MQ below (QiM D T ρ0 A S' r) args s (kap S' - kap S0) (2 * (kap S' - kap S0)) A) (F0 m 10 ls []) := by
  induction n with
  | zero => intro ρ S x1 x2 x3 H locs ls ha hm w hl ho_x1 h; exact absurd h (fun q => by cases q)
  | succ n ih => intro ρ S x1 x2 x3 H locs ls ha hm w hl ho_x1 h; exact wb_Rd_readWords_10 C hr hk hcn hcw ih (km_Rd_readWords_10 n) ha hm w hl ho_x1 h
set_option maxRecDepth 100000 in
set_option maxHeartbeats 4000000 in
theorem w_Rd_readWords_0 {g : Nat} {S : St} {x1 : Nat} (C : CallFix p m c cX5_readWords 5 s args tb RX5) (hr : meth.sig.returnType = (some .int)) (hk : meth.locks = false) (hcn : Kn Z A s s.heap) (hcw : Kw Z s) {S' : St} {r : Int32} (ha : Ag ρ0 ρ) (hm : kap S0 ≤ kap S) (w : Wn Yc D T ρ S A s H locs) (hl : lv_has ls 5 [(0, .ref (ρ 3)), (1, .ref (Z.1 x1))]) (ho_x1 : x1 < 56) (h : m_Rd_readWords g S x1 = some (S', r)) : W p l e (rmK 6 144 (kap S' - kap S0)) s m args below meth c H locs (kap S - kap S0) (2 * (kap S - kap S0)) (MQ below (QiM D T ρ0 A S' r) args s (kap S' - kap S0) (2 * (kap S' - kap S0)) A) (F0 m 0 ls []) := by
  have hT := km_Rd_readWords h
  unfold m_Rd_readWords at h
  have nn : nq S S := nq_rf
  refine lv_aload_n C.1 C.2.1 dX5_readWords_0 rfl (lv_at hl 1 rfl) ?_
  refine x_eWd C w hcn ho_x1 gkX5_86 dX5_readWords_1 ?_
  refine x_callKi (As := []) (rest := []) C w hcn hcw (hcn.2.2.2.2.2.2.2.1 _ (wd_lt _ ho_x1)).1 (k_sLength l Z D T ρ H.size S (wd_lt _ ho_x1)) vX5_76 (hRK (by decide) (by decide)) rfl rfl hl.1 (Nat.le_of_ble_eq_true rfl) (hcK hT) dX5_readWords_4 (fun ρ_1 H locs hag w => ?_)
  replace ha := ha.trans hag
  rw [← hag 3 (by decide)] at hl
  obtain ⟨x2_2, ex2_2, h⟩ := lt_e h
  refine x_nm ex2_2 ?_
  refine lv_istore_n (lv' := [(2, .int x2_2), (0, .ref (ρ_1 3)), (1, .ref (Z.1 x1))]) C.1 C.2.1 dX5_readWords_7 rfl hl (by decide) rfl (fun ls hl => ?_)
  refine lv_iconst (v := 0) C.1 C.2.1 dX5_readWords_8 (by decide) ?_
  refine lv_istore_n (lv' := [(3, .int (0 : Int32)), (2, .int x2_2), (0, .ref (ρ_1 3)), (1, .ref (Z.1 x1))]) C.1 C.2.1 dX5_readWords_9 rfl hl (by decide) rfl (fun ls hl => ?_)
  have hkn := nq_kap nn
  refine W.widen (k := kap S - kap S0) (n := 2 * (kap S - kap S0)) (by omega) (by omega) ?_
  exact w_Rd_readWords_10 C hr hk hcn hcw g _ _ _ _ _ _ _ _ ha (by omega) w (lv_sub hl [2, 3, 1, 0] rfl) ho_x1 h
end S_Rd_readWords
set_option maxRecDepth 100000 in
theorem k_Rd_readWords (l : Launch) (Z : Ad) (D : va_G) (T : Cy) (ρ : Nat → Nat) (g sz : Nat) (S : St) {x1 : Nat} (ho_x1 : x1 < 56) {S' : St} {r : Int32} (h : m_Rd_readWords g S x1 = some (S', r)) : MiC l Z D T ρ yX5_readWords cX5_readWords 5 (some .int) 6 144 S S' r [.ref (ρ 3), .ref (Z.1 x1)] sz :=
  x_inC (by decide) (Nat.le_of_ble_eq_true rfl) (fun p e s m below meth c ls C hr hk hcn hcw w hl => W.widen (Nat.zero_le _) (Nat.zero_le _) (w_Rd_readWords_0 C hr hk hcn hcw Ag.rf (Nat.le_refl _) w hl ho_x1 h))

theorem dX5_sortNamed_0 : decode cX5_sortNamed 0 = .ok (.iconst 0, 1) := by decide +kernel
theorem dX5_sortNamed_1 : decode cX5_sortNamed 1 = .ok (.istore_n 3, 1) := by decide +kernel
theorem dX5_sortNamed_2 : decode cX5_sortNamed 2 = .ok (.iload_n 3, 1) := by decide +kernel
theorem dX5_sortNamed_3 : decode cX5_sortNamed 3 = .ok (.bipush 56, 2) := by decide +kernel
theorem dX5_sortNamed_5 : decode cX5_sortNamed 5 = .ok (.if_icmp .ge 79, 3) := by decide +kernel
theorem dX5_sortNamed_8 : decode cX5_sortNamed 8 = .ok (.getstatic 59, 3) := by decide +kernel
theorem dX5_sortNamed_11 : decode cX5_sortNamed 11 = .ok (.iload_n 3, 1) := by decide +kernel
theorem dX5_sortNamed_12 : decode cX5_sortNamed 12 = .ok (.aaload, 1) := by decide +kernel
theorem dX5_sortNamed_13 : decode cX5_sortNamed 13 = .ok (.getfield 70, 3) := by decide +kernel
theorem dX5_sortNamed_16 : decode cX5_sortNamed 16 = .ok (.astore 4, 2) := by decide +kernel
theorem dX5_sortNamed_18 : decode cX5_sortNamed 18 = .ok (.iconst 0, 1) := by decide +kernel
theorem dX5_sortNamed_19 : decode cX5_sortNamed 19 = .ok (.istore 5, 2) := by decide +kernel
theorem dX5_sortNamed_21 : decode cX5_sortNamed 21 = .ok (.iload 5, 2) := by decide +kernel
theorem dX5_sortNamed_23 : decode cX5_sortNamed 23 = .ok (.aload 4, 2) := by decide +kernel
theorem dX5_sortNamed_25 : decode cX5_sortNamed 25 = .ok (.invokevirtual 76, 3) := by decide +kernel
theorem dX5_sortNamed_28 : decode cX5_sortNamed 28 = .ok (.if_icmp .ge 30, 3) := by decide +kernel
theorem dX5_sortNamed_31 : decode cX5_sortNamed 31 = .ok (.aload_n 0, 1) := by decide +kernel
theorem dX5_sortNamed_32 : decode cX5_sortNamed 32 = .ok (.getfield 27, 3) := by decide +kernel
theorem dX5_sortNamed_35 : decode cX5_sortNamed 35 = .ok (.iload_n 1, 1) := by decide +kernel
theorem dX5_sortNamed_36 : decode cX5_sortNamed 36 = .ok (.iload 5, 2) := by decide +kernel
theorem dX5_sortNamed_38 : decode cX5_sortNamed 38 = .ok (.iadd, 1) := by decide +kernel
theorem dX5_sortNamed_39 : decode cX5_sortNamed 39 = .ok (.invokevirtual 67, 3) := by decide +kernel
theorem dX5_sortNamed_42 : decode cX5_sortNamed 42 = .ok (.aload 4, 2) := by decide +kernel
theorem dX5_sortNamed_44 : decode cX5_sortNamed 44 = .ok (.iload 5, 2) := by decide +kernel
theorem dX5_sortNamed_46 : decode cX5_sortNamed 46 = .ok (.invokevirtual 82, 3) := by decide +kernel
theorem dX5_sortNamed_49 : decode cX5_sortNamed 49 = .ok (.if_icmp .ne 9, 3) := by decide +kernel
theorem dX5_sortNamed_52 : decode cX5_sortNamed 52 = .ok (.iinc 5 1, 3) := by decide +kernel
theorem dX5_sortNamed_55 : decode cX5_sortNamed 55 = .ok (.goto (-34), 3) := by decide +kernel
theorem dX5_sortNamed_58 : decode cX5_sortNamed 58 = .ok (.iload 5, 2) := by decide +kernel
theorem dX5_sortNamed_60 : decode cX5_sortNamed 60 = .ok (.aload 4, 2) := by decide +kernel
theorem dX5_sortNamed_62 : decode cX5_sortNamed 62 = .ok (.invokevirtual 76, 3) := by decide +kernel
theorem dX5_sortNamed_65 : decode cX5_sortNamed 65 = .ok (.if_icmp .ne 13, 3) := by decide +kernel
theorem dX5_sortNamed_68 : decode cX5_sortNamed 68 = .ok (.iload 5, 2) := by decide +kernel
theorem dX5_sortNamed_70 : decode cX5_sortNamed 70 = .ok (.iload_n 2, 1) := by decide +kernel
theorem dX5_sortNamed_71 : decode cX5_sortNamed 71 = .ok (.iload_n 1, 1) := by decide +kernel
theorem dX5_sortNamed_72 : decode cX5_sortNamed 72 = .ok (.isub, 1) := by decide +kernel
theorem dX5_sortNamed_73 : decode cX5_sortNamed 73 = .ok (.if_icmp .ne 5, 3) := by decide +kernel
theorem dX5_sortNamed_76 : decode cX5_sortNamed 76 = .ok (.iload_n 3, 1) := by decide +kernel
theorem dX5_sortNamed_77 : decode cX5_sortNamed 77 = .ok (.ireturn, 1) := by decide +kernel
theorem dX5_sortNamed_78 : decode cX5_sortNamed 78 = .ok (.iinc 3 1, 3) := by decide +kernel
theorem dX5_sortNamed_81 : decode cX5_sortNamed 81 = .ok (.goto (-79), 3) := by decide +kernel
theorem dX5_sortNamed_84 : decode cX5_sortNamed 84 = .ok (.iconst (-1), 1) := by decide +kernel
theorem dX5_sortNamed_85 : decode cX5_sortNamed 85 = .ok (.ireturn, 1) := by decide +kernel
def m_Rd_sortNamed_58 (g : Nat) (k2 : St → Int32 → Int32 → Int32 → Option (St × Int32)) (S : St) (x1 : Int32) (x2 : Int32) (x3 : Int32) (x4 : Nat) (x5 : Int32) : Option (St × Int32) :=
if x5 = (sLen x4) then (
  if x5 = (x2 - x1) then (
    some (S, x3)
  ) else (
    lt (x3 + (1 : Int32)) fun x3_5 =>
    k2 S x1 x2 x3_5
  )
) else (
  lt (x3 + (1 : Int32)) fun x3_4 =>
  k2 S x1 x2 x3_4
)
def b_Rd_sortNamed_21 (g : Nat) (k2 : St → Int32 → Int32 → Int32 → Option (St × Int32)) (k21 : St → Int32 → Int32 → Int32 → Nat → Int32 → Option (St × Int32)) (S : St) (x1 : Int32) (x2 : Int32) (x3 : Int32) (x4 : Nat) (x5 : Int32) : Option (St × Int32) :=
if (sLen x4) ≤ x5 then (
  m_Rd_sortNamed_58 g k2 S x1 x2 x3 x4 x5
) else (
  (m_Row_at g S 10 (x1 + x5)).bind fun v_3 =>
  (cC x4 x5).bind fun v_5 =>
  if v_3 = v_5 then (
    lt (x5 + (1 : Int32)) fun x5_6 =>
    k21 S x1 x2 x3 x4 x5_6
  ) else (
    m_Rd_sortNamed_58 g k2 S x1 x2 x3 x4 x5
  )
)
def m_Rd_sortNamed_21 (g : Nat) (k2 : St → Int32 → Int32 → Int32 → Option (St × Int32)) : Nat → St → Int32 → Int32 → Int32 → Nat → Int32 → Option (St × Int32)
  | 0, _, _, _, _, _, _ => none
  | n + 1, S, x1, x2, x3, x4, x5 => b_Rd_sortNamed_21 g k2 (m_Rd_sortNamed_21 g k2 n) S x1 x2 x3 x4 x5
def b_Rd_sortNamed_2 (g : Nat) (k2 : St → Int32 → Int32 → Int32 → Option (St × Int32)) (S : St) (x1 : Int32) (x2 : Int32) (x3 : Int32) : Option (St × Int32) :=
if (56 : Int32) ≤ x3 then (
  some (S, (-1 : Int32))
) else (
  (eS x3).bind fun e_1 =>
  m_Rd_sortNamed_21 g k2 g S x1 x2 x3 (spT.getD e_1 0) (0 : Int32)
)
def m_Rd_sortNamed_2 (g : Nat) : Nat → St → Int32 → Int32 → Int32 → Option (St × Int32)
  | 0, _, _, _, _ => none
  | n + 1, S, x1, x2, x3 => b_Rd_sortNamed_2 g (m_Rd_sortNamed_2 g n) S x1 x2 x3
def m_Rd_sortNamed (g : Nat) (S : St) (x1 : Int32) (x2 : Int32) : Option (St × Int32) :=
m_Rd_sortNamed_2 g g S x1 x2 (0 : Int32)
theorem km_Rd_sortNamed_58 {g : Nat} {S : St} {x1 : Int32} {x2 : Int32} {x3 : Int32} {x4 : Nat} {x5 : Int32} {S' : St} {r : Int32} {k2 : St → Int32 → Int32 → Int32 → Option (St × Int32)} (km2 : ∀ (S : St) (x1 : Int32) (x2 : Int32) (x3 : Int32), k2 S x1 x2 x3 = some (S', r) → kap S ≤ kap S') (h : m_Rd_sortNamed_58 g k2 S x1 x2 x3 x4 x5 = some (S', r)) : kap S ≤ kap S' := by
  unfold m_Rd_sortNamed_58 at h
  have nn : nq S S := nq_rf
  by_cases hc1 : x5 = (sLen x4)
  · replace h := ift hc1 h
    by_cases hc2 : x5 = (x2 - x1)
    · replace h := ift hc2 h
      obtain ⟨rfl, rfl⟩ := prI h
      have hkn := nq_kap nn
      omega
    · replace h := iff0 hc2 h
      obtain ⟨x3_5, ex3_5, h⟩ := lt_e h
      have hkn := nq_kap nn
      have h2 := km2 _ _ _ _ h
      omega
  · replace h := iff0 hc1 h
    obtain ⟨x3_4, ex3_4, h⟩ := lt_e h
    have hkn := nq_kap nn
    have h2 := km2 _ _ _ _ h
    omega
theorem kmb_Rd_sortNamed_21 {g : Nat} {S : St} {x1 : Int32} {x2 : Int32} {x3 : Int32} {x4 : Nat} {x5 : Int32} {S' : St} {r : Int32} {k2 : St → Int32 → Int32 → Int32 → Option (St × Int32)} (km2 : ∀ (S : St) (x1 : Int32) (x2 : Int32) (x3 : Int32), k2 S x1 x2 x3 = some (S', r) → kap S ≤ kap S') {k21 : St → Int32 → Int32 → Int32 → Nat → Int32 → Option (St × Int32)} (km21 : ∀ (S : St) (x1 : Int32) (x2 : Int32) (x3 : Int32) (x4 : Nat) (x5 : Int32), k21 S x1 x2 x3 x4 x5 = some (S', r) → kap S ≤ kap S') (h : b_Rd_sortNamed_21 g k2 k21 S x1 x2 x3 x4 x5 = some (S', r)) : kap S ≤ kap S' := by
  unfold b_Rd_sortNamed_21 at h
  have nn : nq S S := nq_rf
  by_cases hc1 : (sLen x4) ≤ x5
  · replace h := ift hc1 h
    have hkn := nq_kap nn
    have h2 := km_Rd_sortNamed_58 km2 h
    omega
  · replace h := iff0 hc1 h
    obtain ⟨v_3, hv_3, h⟩ := bnd h
    obtain ⟨v_5, hv_5, h⟩ := bnd h
    by_cases hc2 : v_3 = v_5
    · replace h := ift hc2 h
      obtain ⟨x5_6, ex5_6, h⟩ := lt_e h
      have hkn := nq_kap nn
      have h2 := km21 _ _ _ _ _ _ h
      omega
    · replace h := iff0 hc2 h
      have hkn := nq_kap nn
      have h2 := km_Rd_sortNamed_58 km2 h
      omega
theorem km_Rd_sortNamed_21 {g : Nat} {S' : St} {r : Int32} {k2 : St → Int32 → Int32 → Int32 → Option (St × Int32)} (km2 : ∀ (S : St) (x1 : Int32) (x2 : Int32) (x3 : Int32), k2 S x1 x2 x3 = some (S', r) → kap S ≤ kap S') (n : Nat) : ∀ (S : St) (x1 : Int32) (x2 : Int32) (x3 : Int32) (x4 : Nat) (x5 : Int32), m_Rd_sortNamed_21 g k2 n S x1 x2 x3 x4 x5 = some (S', r) → kap S ≤ kap S' := by
  induction n with
  | zero => intro S x1 x2 x3 x4 x5 h; exact absurd h (fun q => by cases q)
  | succ n ih => intro S x1 x2 x3 x4 x5 h; exact kmb_Rd_sortNamed_21 km2 ih h
theorem kmb_Rd_sortNamed_2 {g : Nat} {S : St} {x1 : Int32} {x2 : Int32} {x3 : Int32} {S' : St} {r : Int32} {k2 : St → Int32 → Int32 → Int32 → Option (St × Int32)} (km2 : ∀ (S : St) (x1 : Int32) (x2 : Int32) (x3 : Int32), k2 S x1 x2 x3 = some (S', r) → kap S ≤ kap S') (h : b_Rd_sortNamed_2 g k2 S x1 x2 x3 = some (S', r)) : kap S ≤ kap S' := by
  unfold b_Rd_sortNamed_2 at h
  have nn : nq S S := nq_rf
  by_cases hc1 : (56 : Int32) ≤ x3
  · replace h := ift hc1 h
    obtain ⟨rfl, rfl⟩ := prI h
    have hkn := nq_kap nn
    omega
  · replace h := iff0 hc1 h
    obtain ⟨e_1, he_1, h⟩ := bnd h
    have hkn := nq_kap nn
    have h2 := km_Rd_sortNamed_21 km2 g _ _ _ _ _ _ h
    omega
theorem km_Rd_sortNamed_2 {g : Nat} {S' : St} {r : Int32} (n : Nat) : ∀ (S : St) (x1 : Int32) (x2 : Int32) (x3 : Int32), m_Rd_sortNamed_2 g n S x1 x2 x3 = some (S', r) → kap S ≤ kap S' := by
  induction n with
  | zero => intro S x1 x2 x3 h; exact absurd h (fun q => by cases q)
  | succ n ih => intro S x1 x2 x3 h; exact kmb_Rd_sortNamed_2 ih h
theorem km_Rd_sortNamed {g : Nat} {S : St} {x1 : Int32} {x2 : Int32} {S' : St} {r : Int32} (h : m_Rd_sortNamed g S x1 x2 = some (S', r)) : kap S ≤ kap S' := by
  unfold m_Rd_sortNamed at h
  have nn : nq S S := nq_rf
  have hkn := nq_kap nn
  have h2 := km_Rd_sortNamed_2 g _ _ _ _ h
  omega
section S_Rd_sortNamed
variable {p : Program} {l : Launch} {e : Env} {s : State} {m : MethodId} {args : Array Value} {below : List Frame} {meth : Method} {c : Code} {H : Heap} {locs : List Loc} {ls : Array Slot} {D : va_G} {T : Cy} {ρ ρ0 : Nat → Nat} {S0 : St} {A : Nat → Prop} {Z : Ad}
set_option maxRecDepth 100000 in
set_option maxHeartbeats 4000000 in
theorem w_Rd_sortNamed_58 {g : Nat} {S : St} {x1 : Int32} {x2 : Int32} {x3 : Int32} {x4 : Nat} {x5 : Int32} (C : CallFix p m c cX5_sortNamed 6 s args tb RX5) (hr : meth.sig.returnType = (some .int)) (hk : meth.locks = false) (hcn : Kn Z A s s.heap) (hcw : Kw Z s) {S' : St} {r : Int32} {k2 : St → Int32 → Int32 → Int32 → Option (St × Int32)} (kk2 : ∀ (ρ : Nat → Nat) (S : St) (x1 : Int32) (x2 : Int32) (x3 : Int32) (H : Heap) (locs : List Loc) (ls : Array Slot), Ag ρ0 ρ → kap S0 ≤ kap S → Wn Yc D T ρ S A s H locs → lv_has ls 6 [(0, .ref (ρ 3)), (1, .int x1), (2, .int x2), (3, .int x3)] → k2 S x1 x2 x3 = some (S', r) → W p l e (rmK 4 85 (kap S' - kap S0)) s m args below meth c H locs (kap S - kap S0) (2 * (kap S - kap S0)) (MQ below (QiM D T ρ0 A S' r) args s (kap S' - kap S0) (2 * (kap S' - kap S0)) A) (F0 m 2 ls [])) (km2 : ∀ (S : St) (x1 : Int32) (x2 : Int32) (x3 : Int32), k2 S x1 x2 x3 = some (S', r) → kap S ≤ kap S') (ha : Ag ρ0 ρ) (hm : kap S0 ≤ kap S) (w : Wn Yc D T ρ S A s H locs) (hl : lv_has ls 6 [(0, .ref (ρ 3)), (1, .int x1), (2, .int x2), (3, .int x3), (4, .ref (Z.2.2.2.1 x4)), (5, .int x5)]) (ho_x4 : x4 < 101) (h : m_Rd_sortNamed_58 g k2 S x1 x2 x3 x4 x5 = some (S', r)) : W p l e (rmK 4 85 (kap S' - kap S0)) s m args below meth c H locs (kap S - kap S0) (2 * (kap S - kap S0)) (MQ below (QiM D T ρ0 A S' r) args s (kap S' - kap S0) (2 * (kap S' - kap S0)) A) (F0 m 58 ls []) := by
  have hT := km_Rd_sortNamed_58 km2 h
  unfold m_Rd_sortNamed_58 at h
  have nn : nq S S := nq_rf
  refine lv_iload C.1 C.2.1 dX5_sortNamed_58 (lv_at hl 5 rfl) ?_
  refine lv_aload C.1 C.2.1 dX5_sortNamed_60 (lv_at hl 4 rfl) ?_
  refine x_callKi (As := []) (rest := [.int x5]) C w hcn hcw (hcn.2.2.2.2.2.2.2.1 _ ho_x4).1 (k_sLength l Z D T ρ H.size S ho_x4) vX5_76 (hRK (by decide) (by decide)) rfl rfl hl.1 (Nat.le_of_ble_eq_true rfl) (hcK hT) dX5_sortNamed_62 (fun ρ_3 H locs hag w => ?_)
  replace ha := ha.trans hag
  rw [← hag 3 (by decide)] at hl
  refine lv_icmp_ne (tgt := 78) C.1 C.2.1 dX5_sortNamed_65 (by decide) (fun hc => ?_) (fun hc => ?_)
  · replace h := iff0 hc h
    obtain ⟨x3_4, ex3_4, h⟩ := lt_e h
    refine lv_iinc (v := x3_4) (lv' := [(3, .int x3_4), (0, .ref (ρ_3 3)), (1, .int x1), (2, .int x2), (4, .ref (Z.2.2.2.1 x4)), (5, .int x5)]) C.1 C.2.1 dX5_sortNamed_78 hl (k := 3) rfl (by rw [ex3_4]; rfl) (by decide) rfl (fun ls hl => ?_)
    refine lv_goto (tgt := 2) C.1 C.2.1 dX5_sortNamed_81 (by decide) ?_
    have hkn := nq_kap nn
    refine W.widen (k := kap S - kap S0) (n := 2 * (kap S - kap S0)) (by omega) (by omega) ?_
    exact kk2 _ _ _ _ _ _ _ _ ha (by omega) w (lv_sub hl [1, 2, 3, 0] rfl) h
  · replace h := ift hc h
    refine lv_iload C.1 C.2.1 dX5_sortNamed_68 (lv_at hl 5 rfl) ?_
    refine lv_iload_n C.1 C.2.1 dX5_sortNamed_70 rfl (lv_at hl 2 rfl) ?_
    refine lv_iload_n C.1 C.2.1 dX5_sortNamed_71 rfl (lv_at hl 1 rfl) ?_
    refine lv_isub C.1 C.2.1 dX5_sortNamed_72 ?_
    refine lv_icmp_ne (tgt := 78) C.1 C.2.1 dX5_sortNamed_73 (by decide) (fun hc => ?_) (fun hc => ?_)
    · replace h := iff0 hc h
      obtain ⟨x3_5, ex3_5, h⟩ := lt_e h
      refine lv_iinc (v := x3_5) (lv' := [(3, .int x3_5), (0, .ref (ρ_3 3)), (1, .int x1), (2, .int x2), (4, .ref (Z.2.2.2.1 x4)), (5, .int x5)]) C.1 C.2.1 dX5_sortNamed_78 hl (k := 3) rfl (by rw [ex3_5]; rfl) (by decide) rfl (fun ls hl => ?_)
      refine lv_goto (tgt := 2) C.1 C.2.1 dX5_sortNamed_81 (by decide) ?_
      have hkn := nq_kap nn
      refine W.widen (k := kap S - kap S0) (n := 2 * (kap S - kap S0)) (by omega) (by omega) ?_
      exact kk2 _ _ _ _ _ _ _ _ ha (by omega) w (lv_sub hl [1, 2, 3, 0] rfl) h
    · replace h := ift hc h
      refine lv_iload_n C.1 C.2.1 dX5_sortNamed_76 rfl (lv_at hl 3 rfl) ?_
      obtain ⟨rfl, rfl⟩ := prI h
      exact x_iretM C w ha hr hk dX5_sortNamed_77 (by have := nq_kap nn; omega) (by have := nq_kap nn; omega)
set_option maxRecDepth 100000 in
set_option maxHeartbeats 4000000 in
theorem wb_Rd_sortNamed_21 {g : Nat} {S : St} {x1 : Int32} {x2 : Int32} {x3 : Int32} {x4 : Nat} {x5 : Int32} (C : CallFix p m c cX5_sortNamed 6 s args tb RX5) (hr : meth.sig.returnType = (some .int)) (hk : meth.locks = false) (hcn : Kn Z A s s.heap) (hcw : Kw Z s) {S' : St} {r : Int32} {k2 : St → Int32 → Int32 → Int32 → Option (St × Int32)} (kk2 : ∀ (ρ : Nat → Nat) (S : St) (x1 : Int32) (x2 : Int32) (x3 : Int32) (H : Heap) (locs : List Loc) (ls : Array Slot), Ag ρ0 ρ → kap S0 ≤ kap S → Wn Yc D T ρ S A s H locs → lv_has ls 6 [(0, .ref (ρ 3)), (1, .int x1), (2, .int x2), (3, .int x3)] → k2 S x1 x2 x3 = some (S', r) → W p l e (rmK 4 85 (kap S' - kap S0)) s m args below meth c H locs (kap S - kap S0) (2 * (kap S - kap S0)) (MQ below (QiM D T ρ0 A S' r) args s (kap S' - kap S0) (2 * (kap S' - kap S0)) A) (F0 m 2 ls [])) (km2 : ∀ (S : St) (x1 : Int32) (x2 : Int32) (x3 : Int32), k2 S x1 x2 x3 = some (S', r) → kap S ≤ kap S') {k21 : St → Int32 → Int32 → Int32 → Nat → Int32 → Option (St × Int32)} (kk21 : ∀ (ρ : Nat → Nat) (S : St) (x1 : Int32) (x2 : Int32) (x3 : Int32) (x4 : Nat) (x5 : Int32) (H : Heap) (locs : List Loc) (ls : Array Slot), Ag ρ0 ρ → kap S0 ≤ kap S → Wn Yc D T ρ S A s H locs → lv_has ls 6 [(0, .ref (ρ 3)), (1, .int x1), (2, .int x2), (3, .int x3), (4, .ref (Z.2.2.2.1 x4)), (5, .int x5)] → x4 < 101 → k21 S x1 x2 x3 x4 x5 = some (S', r) → W p l e (rmK 4 85 (kap S' - kap S0)) s m args below meth c H locs (kap S - kap S0) (2 * (kap S - kap S0)) (MQ below (QiM D T ρ0 A S' r) args s (kap S' - kap S0) (2 * (kap S' - kap S0)) A) (F0 m 21 ls [])) (km21 : ∀ (S : St) (x1 : Int32) (x2 : Int32) (x3 : Int32) (x4 : Nat) (x5 : Int32), k21 S x1 x2 x3 x4 x5 = some (S', r) → kap S ≤ kap S') (ha : Ag ρ0 ρ) (hm : kap S0 ≤ kap S) (w : Wn Yc D T ρ S A s H locs) (hl : lv_has ls 6 [(0, .ref (ρ 3)), (1, .int x1), (2, .int x2), (3, .int x3), (4, .ref (Z.2.2.2.1 x4)), (5, .int x5)]) (ho_x4 : x4 < 101) (h : b_Rd_sortNamed_21 g k2 k21 S x1 x2 x3 x4 x5 = some (S', r)) : W p l e (rmK 4 85 (kap S' - kap S0)) s m args below meth c H locs (kap S - kap S0) (2 * (kap S - kap S0)) (MQ below (QiM D T ρ0 A S' r) args s (kap S' - kap S0) (2 * (kap S' - kap S0)) A) (F0 m 21 ls []) := by
  have hT := kmb_Rd_sortNamed_21 km2 km21 h
  unfold b_Rd_sortNamed_21 at h
  have nn : nq S S := nq_rf
  refine lv_iload C.1 C.2.1 dX5_sortNamed_21 (lv_at hl 5 rfl) ?_
  refine lv_aload C.1 C.2.1 dX5_sortNamed_23 (lv_at hl 4 rfl) ?_
  refine x_callKi (As := []) (rest := [.int x5]) C w hcn hcw (hcn.2.2.2.2.2.2.2.1 _ ho_x4).1 (k_sLength l Z D T ρ H.size S ho_x4) vX5_76 (hRK (by decide) (by decide)) rfl rfl hl.1 (Nat.le_of_ble_eq_true rfl) (hcK hT) dX5_sortNamed_25 (fun ρ_2 H locs hag w => ?_)
  replace ha := ha.trans hag
  rw [← hag 3 (by decide)] at hl
  refine lv_icmp_ge (tgt := 58) C.1 C.2.1 dX5_sortNamed_28 (by decide) (fun hc => ?_) (fun hc => ?_)
  · replace h := ift hc h
    have hkn := nq_kap nn
    refine W.widen (k := kap S - kap S0) (n := 2 * (kap S - kap S0)) (by omega) (by omega) ?_
    exact w_Rd_sortNamed_58 C hr hk hcn hcw kk2 km2 ha (by omega) w (lv_sub hl [0, 1, 2, 3, 4, 5] rfl) ho_x4 h
  · replace h := iff0 hc h
    refine lv_aload_n C.1 C.2.1 dX5_sortNamed_31 rfl (lv_at hl 0 rfl) ?_
    refine x_getC C w 10 fX5_27 obC3 rfl dX5_sortNamed_32 ?_
    refine lv_iload_n C.1 C.2.1 dX5_sortNamed_35 rfl (lv_at hl 1 rfl) ?_
    refine lv_iload C.1 C.2.1 dX5_sortNamed_36 (lv_at hl 5 rfl) ?_
    refine lv_iadd C.1 C.2.1 dX5_sortNamed_38 ?_
    obtain ⟨v_3, hv_3, h⟩ := bnd h
    refine x_callVi (q := (RX6, TX6, 4)) (As := [.int (x1 + x5)]) (rest := []) C w (k_Row_at l D T ρ_2 g H.size S obC10 hv_3) vX5_67 (hRK (by decide) (by decide)) obC10 (by decide) rfl rfl rfl hl.1 (Nat.le_of_ble_eq_true rfl) (hcK hT) dX5_sortNamed_39 (fun H locs w => ?_)
    refine lv_aload C.1 C.2.1 dX5_sortNamed_42 (lv_at hl 4 rfl) ?_
    refine lv_iload C.1 C.2.1 dX5_sortNamed_44 (lv_at hl 5 rfl) ?_
    obtain ⟨v_5, hv_5, h⟩ := bnd h
    obtain ⟨hiv_5, hev_5⟩ := cC_some hv_5
    refine x_callKi (r := v_5) (As := [.int x5]) (rest := [.int v_3]) C w hcn hcw (hcn.2.2.2.2.2.2.2.1 _ ho_x4).1 (hev_5 ▸ k_sCharAt l Z D T ρ_2 H.size S ho_x4 hiv_5) vX5_82 (hRK (by decide) (by decide)) rfl rfl hl.1 (Nat.le_of_ble_eq_true rfl) (hcK hT) dX5_sortNamed_46 (fun ρ_4 H locs hag w => ?_)
    replace ha := ha.trans hag
    rw [← hag 3 (by decide)] at hl
    refine lv_icmp_ne (tgt := 58) C.1 C.2.1 dX5_sortNamed_49 (by decide) (fun hc => ?_) (fun hc => ?_)
    · replace h := iff0 hc h
      have hkn := nq_kap nn
      refine W.widen (k := kap S - kap S0) (n := 2 * (kap S - kap S0)) (by omega) (by omega) ?_
      exact w_Rd_sortNamed_58 C hr hk hcn hcw kk2 km2 ha (by omega) w (lv_sub hl [0, 1, 2, 3, 4, 5] rfl) ho_x4 h
    · replace h := ift hc h
      obtain ⟨x5_6, ex5_6, h⟩ := lt_e h
      refine lv_iinc (v := x5_6) (lv' := [(5, .int x5_6), (0, .ref (ρ_4 3)), (1, .int x1), (2, .int x2), (3, .int x3), (4, .ref (Z.2.2.2.1 x4))]) C.1 C.2.1 dX5_sortNamed_52 hl (k := 5) rfl (by rw [ex5_6]; rfl) (by decide) rfl (fun ls hl => ?_)
      refine lv_goto (tgt := 21) C.1 C.2.1 dX5_sortNamed_55 (by decide) ?_
      have hkn := nq_kap nn
      refine W.widen (k := kap S - kap S0) (n := 2 * (kap S - kap S0)) (by omega) (by omega) ?_
      exact kk21 _ _ _ _ _ _ _ _ _ _ ha (by omega) w (lv_sub hl [1, 2, 3, 4, 5, 0] rfl) ho_x4 h
theorem w_Rd_sortNamed_21 {g : Nat} (C : CallFix p m c cX5_sortNamed 6 s args tb RX5) (hr : meth.sig.returnType = (some .int)) (hk : meth.locks = false) (hcn : Kn Z A s s.heap) (hcw : Kw Z s) {S' : St} {r : Int32} {k2 : St → Int32 → Int32 → Int32 → Option (St × Int32)} (kk2 : ∀ (ρ : Nat → Nat) (S : St) (x1 : Int32) (x2 : Int32) (x3 : Int32) (H : Heap) (locs : List Loc) (ls : Array Slot), Ag ρ0 ρ → kap S0 ≤ kap S → Wn Yc D T ρ S A s H locs → lv_has ls 6 [(0, .ref (ρ 3)), (1, .int x1), (2, .int x2), (3, .int x3)] → k2 S x1 x2 x3 = some (S', r) → W p l e (rmK 4 85 (kap S' - kap S0)) s m args below meth c H locs (kap S - kap S0) (2 * (kap S - kap S0)) (MQ below (QiM D T ρ0 A S' r) args s (kap S' - kap S0) (2 * (kap S' - kap S0)) A) (F0 m 2 ls [])) (km2 : ∀ (S : St) (x1 : Int32) (x2 : Int32) (x3 : Int32), k2 S x1 x2 x3 = some (S', r) → kap S ≤ kap S') (n : Nat) : ∀ (ρ : Nat → Nat) (S : St) (x1 : Int32) (x2 : Int32) (x3 : Int32) (x4 : Nat) (x5 : Int32) (H : Heap) (locs : List Loc) (ls : Array Slot), Ag ρ0 ρ → kap S0 ≤ kap S → Wn Yc D T ρ S A s H locs → lv_has ls 6 [(0, .ref (ρ 3)), (1, .int x1), (2, .int x2), (3, .int x3), (4, .ref (Z.2.2.2.1 x4)), (5, .int x5)] → x4 < 101 → m_Rd_sortNamed_21 g k2 n S x1 x2 x3 x4 x5 = some (S', r) → W p l e (rmK 4 85 (kap S' - kap S0)) s m args below meth c H locs (kap S - kap S0) (2 * (kap S - kap S0)) (MQ below (QiM D T ρ0 A S' r) args s (kap S' - kap S0) (2 * (kap S' - kap S0)) A) (F0 m 21 ls []) := by
  induction n with
  | zero => intro ρ S x1 x2 x3 x4 x5 H locs ls ha hm w hl ho_x4 h; exact absurd h (fun q => by cases q)
  | succ n ih => intro ρ S x1 x2 x3 x4 x5 H locs ls ha hm w hl ho_x4 h; exact wb_Rd_sortNamed_21 C hr hk hcn hcw kk2 km2 ih (km_Rd_sortNamed_21 km2 n) ha hm w hl ho_x4 h
set_option maxRecDepth 100000 in
set_option maxHeartbeats 4000000 in
theorem wb_Rd_sortNamed_2 {g : Nat} {S : St} {x1 : Int32} {x2 : Int32} {x3 : Int32} (C : CallFix p m c cX5_sortNamed 6 s args tb RX5) (hr : meth.sig.returnType = (some .int)) (hk : meth.locks = false) (hcn : Kn Z A s s.heap) (hcw : Kw Z s) {S' : St} {r : Int32} {k2 : St → Int32 → Int32 → Int32 → Option (St × Int32)} (kk2 : ∀ (ρ : Nat → Nat) (S : St) (x1 : Int32) (x2 : Int32) (x3 : Int32) (H : Heap) (locs : List Loc) (ls : Array Slot), Ag ρ0 ρ → kap S0 ≤ kap S → Wn Yc D T ρ S A s H locs → lv_has ls 6 [(0, .ref (ρ 3)), (1, .int x1), (2, .int x2), (3, .int x3)] → k2 S x1 x2 x3 = some (S', r) → W p l e (rmK 4 85 (kap S' - kap S0)) s m args below meth c H locs (kap S - kap S0) (2 * (kap S - kap S0)) (MQ below (QiM D T ρ0 A S' r) args s (kap S' - kap S0) (2 * (kap S' - kap S0)) A) (F0 m 2 ls [])) (km2 : ∀ (S : St) (x1 : Int32) (x2 : Int32) (x3 : Int32), k2 S x1 x2 x3 = some (S', r) → kap S ≤ kap S') (ha : Ag ρ0 ρ) (hm : kap S0 ≤ kap S) (w : Wn Yc D T ρ S A s H locs) (hl : lv_has ls 6 [(0, .ref (ρ 3)), (1, .int x1), (2, .int x2), (3, .int x3)]) (h : b_Rd_sortNamed_2 g k2 S x1 x2 x3 = some (S', r)) : W p l e (rmK 4 85 (kap S' - kap S0)) s m args below meth c H locs (kap S - kap S0) (2 * (kap S - kap S0)) (MQ below (QiM D T ρ0 A S' r) args s (kap S' - kap S0) (2 * (kap S' - kap S0)) A) (F0 m 2 ls []) := by
  have hT := kmb_Rd_sortNamed_2 km2 h
  unfold b_Rd_sortNamed_2 at h
  have nn : nq S S := nq_rf
  refine lv_iload_n C.1 C.2.1 dX5_sortNamed_2 rfl (lv_at hl 3 rfl) ?_
  refine lv_bipush (v := 56) C.1 C.2.1 dX5_sortNamed_3 (by decide) ?_
  refine lv_icmp_ge (tgt := 84) C.1 C.2.1 dX5_sortNamed_5 (by decide) (fun hc => ?_) (fun hc => ?_)
  · replace h := ift hc h
    refine lv_iconst (v := (-1)) C.1 C.2.1 dX5_sortNamed_84 (by decide) ?_
    obtain ⟨rfl, rfl⟩ := prI h
    exact x_iretM C w ha hr hk dX5_sortNamed_85 (by have := nq_kap nn; omega) (by have := nq_kap nn; omega)
  · replace h := iff0 hc h
    refine x_sorts C w hcn hcw.1 dX5_sortNamed_8 ?_
    refine lv_iload_n C.1 C.2.1 dX5_sortNamed_11 rfl (lv_at hl 3 rfl) ?_
    obtain ⟨e_1, he_1, h⟩ := bnd h
    refine x_eald C w hcn he_1 dX5_sortNamed_12 ?_
    refine x_eSp C w hcn (eS_some he_1).2.2 gkX5_70 dX5_sortNamed_13 ?_
    refine lv_astore (lv' := [(4, .ref (Z.2.2.2.1 (spT.getD e_1 0))), (0, .ref (ρ 3)), (1, .int x1), (2, .int x2), (3, .int x3)]) C.1 C.2.1 dX5_sortNamed_16 hl (by decide) rfl (fun ls hl => ?_)
    refine lv_iconst (v := 0) C.1 C.2.1 dX5_sortNamed_18 (by decide) ?_
    refine lv_istore (lv' := [(5, .int (0 : Int32)), (4, .ref (Z.2.2.2.1 (spT.getD e_1 0))), (0, .ref (ρ 3)), (1, .int x1), (2, .int x2), (3, .int x3)]) C.1 C.2.1 dX5_sortNamed_19 hl (by decide) rfl (fun ls hl => ?_)
    have hkn := nq_kap nn
    refine W.widen (k := kap S - kap S0) (n := 2 * (kap S - kap S0)) (by omega) (by omega) ?_
    exact w_Rd_sortNamed_21 C hr hk hcn hcw kk2 km2 g _ _ _ _ _ _ _ _ _ _ ha (by omega) w (lv_sub hl [2, 3, 4, 5, 1, 0] rfl) (sp_lt _ (eS_some he_1).2.2) h
theorem w_Rd_sortNamed_2 {g : Nat} (C : CallFix p m c cX5_sortNamed 6 s args tb RX5) (hr : meth.sig.returnType = (some .int)) (hk : meth.locks = false) (hcn : Kn Z A s s.heap) (hcw : Kw Z s) {S' : St} {r : Int32} (n : Nat) : ∀ (ρ : Nat → Nat) (S : St) (x1 : Int32) (x2 : Int32) (x3 : Int32) (H : Heap) (locs : List Loc) (ls : Array Slot), Ag ρ0 ρ → kap S0 ≤ kap S → Wn Yc D T ρ S A s H locs → lv_has ls 6 [(0, .ref (ρ 3)), (1, .int x1), (2, .int x2), (3, .int x3)] → m_Rd_sortNamed_2 g n S x1 x2 x3 = some (S', r) → W p l e (rmK 4 85 (kap S' - kap S0)) s m args below meth c H locs (kap S - kap S0) (2 * (kap S - kap S0)) (MQ below (QiM D T ρ0 A S' r) args s (kap S' - kap S0) (2 * (kap S' - kap S0)) A) (F0 m 2 ls []) := by
  induction n with
  | zero => intro ρ S x1 x2 x3 H locs ls ha hm w hl h; exact absurd h (fun q => by cases q)
  | succ n ih => intro ρ S x1 x2 x3 H locs ls ha hm w hl h; exact wb_Rd_sortNamed_2 C hr hk hcn hcw ih (km_Rd_sortNamed_2 n) ha hm w hl h
set_option maxRecDepth 100000 in
set_option maxHeartbeats 4000000 in
theorem w_Rd_sortNamed_0 {g : Nat} {S : St} {x1 : Int32} {x2 : Int32} (C : CallFix p m c cX5_sortNamed 6 s args tb RX5) (hr : meth.sig.returnType = (some .int)) (hk : meth.locks = false) (hcn : Kn Z A s s.heap) (hcw : Kw Z s) {S' : St} {r : Int32} (ha : Ag ρ0 ρ) (hm : kap S0 ≤ kap S) (w : Wn Yc D T ρ S A s H locs) (hl : lv_has ls 6 [(0, .ref (ρ 3)), (1, .int x1), (2, .int x2)]) (h : m_Rd_sortNamed g S x1 x2 = some (S', r)) : W p l e (rmK 4 85 (kap S' - kap S0)) s m args below meth c H locs (kap S - kap S0) (2 * (kap S - kap S0)) (MQ below (QiM D T ρ0 A S' r) args s (kap S' - kap S0) (2 * (kap S' - kap S0)) A) (F0 m 0 ls []) := by
  have hT := km_Rd_sortNamed h
  unfold m_Rd_sortNamed at h
  have nn : nq S S := nq_rf
  refine lv_iconst (v := 0) C.1 C.2.1 dX5_sortNamed_0 (by decide) ?_
  refine lv_istore_n (lv' := [(3, .int (0 : Int32)), (0, .ref (ρ 3)), (1, .int x1), (2, .int x2)]) C.1 C.2.1 dX5_sortNamed_1 rfl hl (by decide) rfl (fun ls hl => ?_)
  have hkn := nq_kap nn
  refine W.widen (k := kap S - kap S0) (n := 2 * (kap S - kap S0)) (by omega) (by omega) ?_
  exact w_Rd_sortNamed_2 C hr hk hcn hcw g _ _ _ _ _ _ _ _ ha (by omega) w (lv_sub hl [1, 2, 3, 0] rfl) h
end S_Rd_sortNamed
set_option maxRecDepth 100000 in
theorem k_Rd_sortNamed (l : Launch) (Z : Ad) (D : va_G) (T : Cy) (ρ : Nat → Nat) (g sz : Nat) (S : St) {x1 : Int32} {x2 : Int32} {S' : St} {r : Int32} (h : m_Rd_sortNamed g S x1 x2 = some (S', r)) : MiC l Z D T ρ yX5_sortNamed cX5_sortNamed 6 (some .int) 4 85 S S' r [.ref (ρ 3), .int x1, .int x2] sz :=
  x_inC (by decide) (Nat.le_of_ble_eq_true rfl) (fun p e s m below meth c ls C hr hk hcn hcw w hl => W.widen (Nat.zero_le _) (Nat.zero_le _) (w_Rd_sortNamed_0 C hr hk hcn hcw Ag.rf (Nat.le_refl _) w hl h))

theorem dX5_read_0 : decode cX5_read 0 = .ok (.aload_n 0, 1) := by decide +kernel
theorem dX5_read_1 : decode cX5_read 1 = .ok (.aload_n 1, 1) := by decide +kernel
theorem dX5_read_2 : decode cX5_read 2 = .ok (.putfield 30, 3) := by decide +kernel
theorem dX5_read_5 : decode cX5_read 5 = .ok (.aload_n 0, 1) := by decide +kernel
theorem dX5_read_6 : decode cX5_read 6 = .ok (.getfield 30, 3) := by decide +kernel
theorem dX5_read_9 : decode cX5_read 9 = .ok (.invokevirtual 34, 3) := by decide +kernel
theorem dX5_read_12 : decode cX5_read 12 = .ok (.iconst 0, 1) := by decide +kernel
theorem dX5_read_13 : decode cX5_read 13 = .ok (.istore_n 2, 1) := by decide +kernel
theorem dX5_read_14 : decode cX5_read 14 = .ok (.iload_n 2, 1) := by decide +kernel
theorem dX5_read_15 : decode cX5_read 15 = .ok (.aload_n 0, 1) := by decide +kernel
theorem dX5_read_16 : decode cX5_read 16 = .ok (.getfield 27, 3) := by decide +kernel
theorem dX5_read_19 : decode cX5_read 19 = .ok (.getfield 39, 3) := by decide +kernel
theorem dX5_read_22 : decode cX5_read 22 = .ok (.if_icmp .ge 138, 3) := by decide +kernel
theorem dX5_read_25 : decode cX5_read 25 = .ok (.aload_n 0, 1) := by decide +kernel
theorem dX5_read_26 : decode cX5_read 26 = .ok (.iload_n 2, 1) := by decide +kernel
theorem dX5_read_27 : decode cX5_read 27 = .ok (.putfield 20, 3) := by decide +kernel
theorem dX5_read_30 : decode cX5_read 30 = .ok (.aload_n 0, 1) := by decide +kernel
theorem dX5_read_31 : decode cX5_read 31 = .ok (.aload_n 0, 1) := by decide +kernel
theorem dX5_read_32 : decode cX5_read 32 = .ok (.bipush 10, 2) := by decide +kernel
theorem dX5_read_34 : decode cX5_read 34 = .ok (.iload_n 2, 1) := by decide +kernel
theorem dX5_read_35 : decode cX5_read 35 = .ok (.aload_n 0, 1) := by decide +kernel
theorem dX5_read_36 : decode cX5_read 36 = .ok (.getfield 27, 3) := by decide +kernel
theorem dX5_read_39 : decode cX5_read 39 = .ok (.getfield 39, 3) := by decide +kernel
theorem dX5_read_42 : decode cX5_read 42 = .ok (.invokevirtual 42, 3) := by decide +kernel
theorem dX5_read_45 : decode cX5_read 45 = .ok (.putfield 24, 3) := by decide +kernel
theorem dX5_read_48 : decode cX5_read 48 = .ok (.aload_n 0, 1) := by decide +kernel
theorem dX5_read_49 : decode cX5_read 49 = .ok (.invokevirtual 46, 3) := by decide +kernel
theorem dX5_read_52 : decode cX5_read 52 = .ok (.aload_n 0, 1) := by decide +kernel
theorem dX5_read_53 : decode cX5_read 53 = .ok (.getfield 20, 3) := by decide +kernel
theorem dX5_read_56 : decode cX5_read 56 = .ok (.aload_n 0, 1) := by decide +kernel
theorem dX5_read_57 : decode cX5_read 57 = .ok (.getfield 24, 3) := by decide +kernel
theorem dX5_read_60 : decode cX5_read 60 = .ok (.if_icmp .lt 6, 3) := by decide +kernel
theorem dX5_read_63 : decode cX5_read 63 = .ok (.goto 87, 3) := by decide +kernel
theorem dX5_read_66 : decode cX5_read 66 = .ok (.aload_n 0, 1) := by decide +kernel
theorem dX5_read_67 : decode cX5_read 67 = .ok (.bipush 32, 2) := by decide +kernel
theorem dX5_read_69 : decode cX5_read 69 = .ok (.aload_n 0, 1) := by decide +kernel
theorem dX5_read_70 : decode cX5_read 70 = .ok (.getfield 20, 3) := by decide +kernel
theorem dX5_read_73 : decode cX5_read 73 = .ok (.aload_n 0, 1) := by decide +kernel
theorem dX5_read_74 : decode cX5_read 74 = .ok (.getfield 24, 3) := by decide +kernel
theorem dX5_read_77 : decode cX5_read 77 = .ok (.invokevirtual 42, 3) := by decide +kernel
theorem dX5_read_80 : decode cX5_read 80 = .ok (.istore_n 3, 1) := by decide +kernel
theorem dX5_read_81 : decode cX5_read 81 = .ok (.aload_n 0, 1) := by decide +kernel
theorem dX5_read_82 : decode cX5_read 82 = .ok (.aload_n 0, 1) := by decide +kernel
theorem dX5_read_83 : decode cX5_read 83 = .ok (.getfield 20, 3) := by decide +kernel
theorem dX5_read_86 : decode cX5_read 86 = .ok (.iload_n 3, 1) := by decide +kernel
theorem dX5_read_87 : decode cX5_read 87 = .ok (.invokevirtual 49, 3) := by decide +kernel
theorem dX5_read_90 : decode cX5_read 90 = .ok (.istore 4, 2) := by decide +kernel
theorem dX5_read_92 : decode cX5_read 92 = .ok (.iload 4, 2) := by decide +kernel
theorem dX5_read_94 : decode cX5_read 94 = .ok (.iconst (-1), 1) := by decide +kernel
theorem dX5_read_95 : decode cX5_read 95 = .ok (.if_icmp .eq 15, 3) := by decide +kernel
theorem dX5_read_98 : decode cX5_read 98 = .ok (.aload_n 0, 1) := by decide +kernel
theorem dX5_read_99 : decode cX5_read 99 = .ok (.getfield 30, 3) := by decide +kernel
theorem dX5_read_102 : decode cX5_read 102 = .ok (.getfield 53, 3) := by decide +kernel
theorem dX5_read_105 : decode cX5_read 105 = .ok (.bipush 60, 2) := by decide +kernel
theorem dX5_read_107 : decode cX5_read 107 = .ok (.if_icmp .lt 8, 3) := by decide +kernel
theorem dX5_read_110 : decode cX5_read 110 = .ok (.aload_n 0, 1) := by decide +kernel
theorem dX5_read_111 : decode cX5_read 111 = .ok (.getfield 20, 3) := by decide +kernel
theorem dX5_read_114 : decode cX5_read 114 = .ok (.ireturn, 1) := by decide +kernel
theorem dX5_read_115 : decode cX5_read 115 = .ok (.aload_n 0, 1) := by decide +kernel
theorem dX5_read_116 : decode cX5_read 116 = .ok (.getfield 30, 3) := by decide +kernel
theorem dX5_read_119 : decode cX5_read 119 = .ok (.iload 4, 2) := by decide +kernel
theorem dX5_read_121 : decode cX5_read 121 = .ok (.invokevirtual 56, 3) := by decide +kernel
theorem dX5_read_124 : decode cX5_read 124 = .ok (.aload_n 0, 1) := by decide +kernel
theorem dX5_read_125 : decode cX5_read 125 = .ok (.iload_n 3, 1) := by decide +kernel
theorem dX5_read_126 : decode cX5_read 126 = .ok (.putfield 20, 3) := by decide +kernel
theorem dX5_read_129 : decode cX5_read 129 = .ok (.aload_n 0, 1) := by decide +kernel
theorem dX5_read_130 : decode cX5_read 130 = .ok (.getstatic 59, 3) := by decide +kernel
theorem dX5_read_133 : decode cX5_read 133 = .ok (.iload 4, 2) := by decide +kernel
theorem dX5_read_135 : decode cX5_read 135 = .ok (.aaload, 1) := by decide +kernel
theorem dX5_read_136 : decode cX5_read 136 = .ok (.invokevirtual 63, 3) := by decide +kernel
theorem dX5_read_139 : decode cX5_read 139 = .ok (.istore 5, 2) := by decide +kernel
theorem dX5_read_141 : decode cX5_read 141 = .ok (.iload 5, 2) := by decide +kernel
theorem dX5_read_143 : decode cX5_read 143 = .ok (.iconst (-1), 1) := by decide +kernel
theorem dX5_read_144 : decode cX5_read 144 = .ok (.if_icmp .eq 6, 3) := by decide +kernel
theorem dX5_read_147 : decode cX5_read 147 = .ok (.iload 5, 2) := by decide +kernel
theorem dX5_read_149 : decode cX5_read 149 = .ok (.ireturn, 1) := by decide +kernel
theorem dX5_read_150 : decode cX5_read 150 = .ok (.aload_n 0, 1) := by decide +kernel
theorem dX5_read_151 : decode cX5_read 151 = .ok (.getfield 24, 3) := by decide +kernel
theorem dX5_read_154 : decode cX5_read 154 = .ok (.iconst 1, 1) := by decide +kernel
theorem dX5_read_155 : decode cX5_read 155 = .ok (.iadd, 1) := by decide +kernel
theorem dX5_read_156 : decode cX5_read 156 = .ok (.istore_n 2, 1) := by decide +kernel
theorem dX5_read_157 : decode cX5_read 157 = .ok (.goto (-143), 3) := by decide +kernel
theorem dX5_read_160 : decode cX5_read 160 = .ok (.iconst (-1), 1) := by decide +kernel
theorem dX5_read_161 : decode cX5_read 161 = .ok (.ireturn, 1) := by decide +kernel
def m_Rd_read_139 (g : Nat) (k14 : St → Int32 → Option (St × Int32)) (S : St) (y0 : Int32) : Option (St × Int32) :=
if y0 = (-1 : Int32) then (
  lt ((gI S 3 4) + (1 : Int32)) fun x2_21 =>
  k14 S x2_21
) else (
  some (S, y0)
)
def m_Rd_read_90 (g : Nat) (k14 : St → Int32 → Option (St × Int32)) (S : St) (x3 : Int32) (y0 : Int32) : Option (St × Int32) :=
if y0 = (-1 : Int32) then (
  some (S, gI S 3 3)
) else (
  if gR S 3 2 = 1 ∨ gR S 3 2 = 2 then
  lt (gR S 3 2) fun p_13 =>
  if (gI S p_13 8) < (60 : Int32) then (
    if gR S 3 2 = 1 ∨ gR S 3 2 = 2 then
    lt (gR S 3 2) fun p_15 =>
    (m_Pg_addStep g S p_15 y0).bind fun S_16 =>
    lt (sI S_16 3 3 x3) fun S_17 =>
    (eS y0).bind fun e_18 =>
    (m_Rd_readWords g S_17 e_18).bind fun (S_19, v_20) =>
    m_Rd_read_139 g k14 S_19 v_20
    else none
  ) else (
    some (S, gI S 3 3)
  )
  else none
)
def b_Rd_read_14 (g : Nat) (k14 : St → Int32 → Option (St × Int32)) (S : St) (x2 : Int32) : Option (St × Int32) :=
if (gI S 10 2) ≤ x2 then (
  some (S, (-1 : Int32))
) else (
  lt (sI S 3 3 x2) fun S_5 =>
  (m_Rd_nextByte g S_5 (10 : Int32) x2 (gI S_5 10 2)).bind fun v_6 =>
  lt (sI S_5 3 4 v_6) fun S_7 =>
  (m_Rd_skipBlanks g S_7).bind fun S_8 =>
  if (gI S_8 3 3) < (gI S_8 3 4) then (
    (m_Rd_nextByte g S_8 (32 : Int32) (gI S_8 3 3) (gI S_8 3 4)).bind fun v_9 =>
    (m_Rd_sortNamed g S_8 (gI S_8 3 3) v_9).bind fun (S_10, v_11) =>
    m_Rd_read_90 g k14 S_10 v_9 v_11
  ) else (
    lt ((gI S_8 3 4) + (1 : Int32)) fun x2_12 =>
    k14 S_8 x2_12
  )
)
def m_Rd_read_14 (g : Nat) : Nat → St → Int32 → Option (St × Int32)
  | 0, _, _ => none
  | n + 1, S, x2 => b_Rd_read_14 g (m_Rd_read_14 g n) S x2
def m_Rd_read (g : Nat) (S : St) (x1 : Nat) : Option (St × Int32) :=
lt (sR S 3 2 x1) fun S_1 =>
if gR S_1 3 2 = 1 ∨ gR S_1 3 2 = 2 then
lt (gR S_1 3 2) fun p_3 =>
(m_Pg_clear g S_1 p_3).bind fun S_4 =>
m_Rd_read_14 g g S_4 (0 : Int32)
else none
theorem km_Rd_read_139 {g : Nat} {S : St} {y0 : Int32} {S' : St} {r : Int32} {k14 : St → Int32 → Option (St × Int32)} (km14 : ∀ (S : St) (x2 : Int32), k14 S x2 = some (S', r) → kap S ≤ kap S') (h : m_Rd_read_139 g k14 S y0 = some (S', r)) : kap S ≤ kap S' := by
  unfold m_Rd_read_139 at h
  have nn : nq S S := nq_rf
  by_cases hc1 : y0 = (-1 : Int32)
  · replace h := ift hc1 h
    obtain ⟨x2_21, ex2_21, h⟩ := lt_e h
    have hkn := nq_kap nn
    have h2 := km14 _ _ h
    omega
  · replace h := iff0 hc1 h
    obtain ⟨rfl, rfl⟩ := prI h
    have hkn := nq_kap nn
    omega
theorem km_Rd_read_90 {g : Nat} {S : St} {x3 : Int32} {y0 : Int32} {S' : St} {r : Int32} {k14 : St → Int32 → Option (St × Int32)} (km14 : ∀ (S : St) (x2 : Int32), k14 S x2 = some (S', r) → kap S ≤ kap S') (h : m_Rd_read_90 g k14 S x3 y0 = some (S', r)) : kap S ≤ kap S' := by
  unfold m_Rd_read_90 at h
  have nn : nq S S := nq_rf
  by_cases hc1 : y0 = (-1 : Int32)
  · replace h := ift hc1 h
    obtain ⟨rfl, rfl⟩ := prI h
    have hkn := nq_kap nn
    omega
  · replace h := iff0 hc1 h
    by_cases hc2 : gR S 3 2 = 1 ∨ gR S 3 2 = 2
    case neg => exact absurd (iff0 hc2 h) (fun q => by cases q)
    replace h := ift hc2 h
    obtain ⟨p_13, ep_13, h⟩ := lt_e h
    by_cases hc3 : (gI S p_13 8) < (60 : Int32)
    · replace h := ift hc3 h
      by_cases hc4 : gR S 3 2 = 1 ∨ gR S 3 2 = 2
      case neg => exact absurd (iff0 hc4 h) (fun q => by cases q)
      replace h := ift hc4 h
      obtain ⟨p_15, ep_15, h⟩ := lt_e h
      obtain ⟨S_16, hS_16, h⟩ := bnd h
      replace nn : nq S_16 S := nq_tr (kq_Pg_addStep hS_16) nn
      obtain ⟨S_17, eS_17, h⟩ := lt_e h
      replace nn : nq S_17 S := nq_tr (by rw [eS_17]; rfl) nn
      obtain ⟨e_18, he_18, h⟩ := bnd h
      obtain ⟨⟨S_19, v_20⟩, hv_20, h⟩ := bnd h
      have hk1 := km_Rd_readWords hv_20
      have hkn := nq_kap nn
      have h2 := km_Rd_read_139 km14 h
      omega
    · replace h := iff0 hc3 h
      obtain ⟨rfl, rfl⟩ := prI h
      have hkn := nq_kap nn
      omega
theorem kmb_Rd_read_14 {g : Nat} {S : St} {x2 : Int32} {S' : St} {r : Int32} {k14 : St → Int32 → Option (St × Int32)} (km14 : ∀ (S : St) (x2 : Int32), k14 S x2 = some (S', r) → kap S ≤ kap S') (h : b_Rd_read_14 g k14 S x2 = some (S', r)) : kap S ≤ kap S' := by
  unfold b_Rd_read_14 at h
  have nn : nq S S := nq_rf
  by_cases hc1 : (gI S 10 2) ≤ x2
  · replace h := ift hc1 h
    obtain ⟨rfl, rfl⟩ := prI h
    have hkn := nq_kap nn
    omega
  · replace h := iff0 hc1 h
    obtain ⟨S_5, eS_5, h⟩ := lt_e h
    replace nn : nq S_5 S := nq_tr (by rw [eS_5]; rfl) nn
    obtain ⟨v_6, hv_6, h⟩ := bnd h
    obtain ⟨S_7, eS_7, h⟩ := lt_e h
    replace nn : nq S_7 S := nq_tr (by rw [eS_7]; rfl) nn
    obtain ⟨S_8, hS_8, h⟩ := bnd h
    replace nn : nq S_8 S := nq_tr (kq_Rd_skipBlanks hS_8) nn
    by_cases hc2 : (gI S_8 3 3) < (gI S_8 3 4)
    · replace h := ift hc2 h
      obtain ⟨v_9, hv_9, h⟩ := bnd h
      obtain ⟨⟨S_10, v_11⟩, hv_11, h⟩ := bnd h
      have hk1 := km_Rd_sortNamed hv_11
      have hkn := nq_kap nn
      have h2 := km_Rd_read_90 km14 h
      omega
    · replace h := iff0 hc2 h
      obtain ⟨x2_12, ex2_12, h⟩ := lt_e h
      have hkn := nq_kap nn
      have h2 := km14 _ _ h
      omega
theorem km_Rd_read_14 {g : Nat} {S' : St} {r : Int32} (n : Nat) : ∀ (S : St) (x2 : Int32), m_Rd_read_14 g n S x2 = some (S', r) → kap S ≤ kap S' := by
  induction n with
  | zero => intro S x2 h; exact absurd h (fun q => by cases q)
  | succ n ih => intro S x2 h; exact kmb_Rd_read_14 ih h
theorem km_Rd_read {g : Nat} {S : St} {x1 : Nat} {S' : St} {r : Int32} (h : m_Rd_read g S x1 = some (S', r)) : kap S ≤ kap S' := by
  unfold m_Rd_read at h
  have nn : nq S S := nq_rf
  obtain ⟨S_1, eS_1, h⟩ := lt_e h
  replace nn : nq S_1 S := nq_tr (by rw [eS_1]; rfl) nn
  by_cases hc1 : gR S_1 3 2 = 1 ∨ gR S_1 3 2 = 2
  case neg => exact absurd (iff0 hc1 h) (fun q => by cases q)
  replace h := ift hc1 h
  obtain ⟨p_3, ep_3, h⟩ := lt_e h
  obtain ⟨S_4, hS_4, h⟩ := bnd h
  replace nn : nq S_4 S := nq_tr (kq_Pg_clear hS_4) nn
  have hkn := nq_kap nn
  have h2 := km_Rd_read_14 g _ _ h
  omega
section S_Rd_read
variable {p : Program} {l : Launch} {e : Env} {s : State} {m : MethodId} {args : Array Value} {below : List Frame} {meth : Method} {c : Code} {H : Heap} {locs : List Loc} {ls : Array Slot} {D : va_G} {T : Cy} {ρ ρ0 : Nat → Nat} {S0 : St} {A : Nat → Prop} {Z : Ad}
set_option maxRecDepth 100000 in
set_option maxHeartbeats 4000000 in
theorem w_Rd_read_139 {g : Nat} {S : St} {y0 : Int32} (C : CallFix p m c cX5_read 6 s args tb RX5) (hr : meth.sig.returnType = (some .int)) (hk : meth.locks = false) (hcn : Kn Z A s s.heap) (hcw : Kw Z s) {S' : St} {r : Int32} {k14 : St → Int32 → Option (St × Int32)} (kk14 : ∀ (ρ : Nat → Nat) (S : St) (x2 : Int32) (H : Heap) (locs : List Loc) (ls : Array Slot), Ag ρ0 ρ → kap S0 ≤ kap S → Wn Yc D T ρ S A s H locs → lv_has ls 6 [(0, .ref (ρ 3)), (2, .int x2)] → k14 S x2 = some (S', r) → W p l e (rmK 7 168 (kap S' - kap S0)) s m args below meth c H locs (kap S - kap S0) (2 * (kap S - kap S0)) (MQ below (QiM D T ρ0 A S' r) args s (kap S' - kap S0) (2 * (kap S' - kap S0)) A) (F0 m 14 ls [])) (km14 : ∀ (S : St) (x2 : Int32), k14 S x2 = some (S', r) → kap S ≤ kap S') (ha : Ag ρ0 ρ) (hm : kap S0 ≤ kap S) (w : Wn Yc D T ρ S A s H locs) (hl : lv_has ls 6 [(0, .ref (ρ 3))]) (h : m_Rd_read_139 g k14 S y0 = some (S', r)) : W p l e (rmK 7 168 (kap S' - kap S0)) s m args below meth c H locs (kap S - kap S0) (2 * (kap S - kap S0)) (MQ below (QiM D T ρ0 A S' r) args s (kap S' - kap S0) (2 * (kap S' - kap S0)) A) (F0 m 139 ls [.int y0]) := by
  have hT := km_Rd_read_139 km14 h
  unfold m_Rd_read_139 at h
  have nn : nq S S := nq_rf
  refine lv_istore (lv' := [(5, .int y0), (0, .ref (ρ 3))]) C.1 C.2.1 dX5_read_139 hl (by decide) rfl (fun ls hl => ?_)
  refine lv_iload C.1 C.2.1 dX5_read_141 (lv_at hl 0 rfl) ?_
  refine lv_iconst (v := (-1)) C.1 C.2.1 dX5_read_143 (by decide) ?_
  refine lv_icmp_eq (tgt := 150) C.1 C.2.1 dX5_read_144 (by decide) (fun hc => ?_) (fun hc => ?_)
  · replace h := ift hc h
    refine lv_aload_n C.1 C.2.1 dX5_read_150 rfl (lv_at hl 1 rfl) ?_
    refine x_getI C w fX5_24 obC3 dX5_read_151 ?_
    refine lv_iconst (v := 1) C.1 C.2.1 dX5_read_154 (by decide) ?_
    refine lv_iadd C.1 C.2.1 dX5_read_155 ?_
    obtain ⟨x2_21, ex2_21, h⟩ := lt_e h
    refine x_nm ex2_21 ?_
    refine lv_istore_n (lv' := [(2, .int x2_21), (5, .int y0), (0, .ref (ρ 3))]) C.1 C.2.1 dX5_read_156 rfl hl (by decide) rfl (fun ls hl => ?_)
    refine lv_goto (tgt := 14) C.1 C.2.1 dX5_read_157 (by decide) ?_
    have hkn := nq_kap nn
    refine W.widen (k := kap S - kap S0) (n := 2 * (kap S - kap S0)) (by omega) (by omega) ?_
    exact kk14 _ _ _ _ _ _ ha (by omega) w (lv_sub hl [2, 0] rfl) h
  · replace h := iff0 hc h
    refine lv_iload C.1 C.2.1 dX5_read_147 (lv_at hl 0 rfl) ?_
    obtain ⟨rfl, rfl⟩ := prI h
    exact x_iretM C w ha hr hk dX5_read_149 (by have := nq_kap nn; omega) (by have := nq_kap nn; omega)
set_option maxRecDepth 100000 in
set_option maxHeartbeats 4000000 in
theorem w_Rd_read_90 {g : Nat} {S : St} {x3 : Int32} {y0 : Int32} (C : CallFix p m c cX5_read 6 s args tb RX5) (hr : meth.sig.returnType = (some .int)) (hk : meth.locks = false) (hcn : Kn Z A s s.heap) (hcw : Kw Z s) {S' : St} {r : Int32} {k14 : St → Int32 → Option (St × Int32)} (kk14 : ∀ (ρ : Nat → Nat) (S : St) (x2 : Int32) (H : Heap) (locs : List Loc) (ls : Array Slot), Ag ρ0 ρ → kap S0 ≤ kap S → Wn Yc D T ρ S A s H locs → lv_has ls 6 [(0, .ref (ρ 3)), (2, .int x2)] → k14 S x2 = some (S', r) → W p l e (rmK 7 168 (kap S' - kap S0)) s m args below meth c H locs (kap S - kap S0) (2 * (kap S - kap S0)) (MQ below (QiM D T ρ0 A S' r) args s (kap S' - kap S0) (2 * (kap S' - kap S0)) A) (F0 m 14 ls [])) (km14 : ∀ (S : St) (x2 : Int32), k14 S x2 = some (S', r) → kap S ≤ kap S') (ha : Ag ρ0 ρ) (hm : kap S0 ≤ kap S) (w : Wn Yc D T ρ S A s H locs) (hl : lv_has ls 6 [(0, .ref (ρ 3)), (3, .int x3)]) (h : m_Rd_read_90 g k14 S x3 y0 = some (S', r)) : W p l e (rmK 7 168 (kap S' - kap S0)) s m args below meth c H locs (kap S - kap S0) (2 * (kap S - kap S0)) (MQ below (QiM D T ρ0 A S' r) args s (kap S' - kap S0) (2 * (kap S' - kap S0)) A) (F0 m 90 ls [.int y0]) := by
  have hT := km_Rd_read_90 km14 h
  unfold m_Rd_read_90 at h
  have nn : nq S S := nq_rf
  refine lv_istore (lv' := [(4, .int y0), (0, .ref (ρ 3)), (3, .int x3)]) C.1 C.2.1 dX5_read_90 hl (by decide) rfl (fun ls hl => ?_)
  refine lv_iload C.1 C.2.1 dX5_read_92 (lv_at hl 0 rfl) ?_
  refine lv_iconst (v := (-1)) C.1 C.2.1 dX5_read_94 (by decide) ?_
  refine lv_icmp_eq (tgt := 110) C.1 C.2.1 dX5_read_95 (by decide) (fun hc => ?_) (fun hc => ?_)
  · replace h := ift hc h
    refine lv_aload_n C.1 C.2.1 dX5_read_110 rfl (lv_at hl 1 rfl) ?_
    refine x_getI C w fX5_20 obC3 dX5_read_111 ?_
    obtain ⟨rfl, rfl⟩ := prI h
    exact x_iretM C w ha hr hk dX5_read_114 (by have := nq_kap nn; omega) (by have := nq_kap nn; omega)
  · replace h := iff0 hc h
    refine lv_aload_n C.1 C.2.1 dX5_read_98 rfl (lv_at hl 1 rfl) ?_
    by_cases hz_12 : gR S 3 2 = 1 ∨ gR S 3 2 = 2
    case neg => exact absurd (iff0 hz_12 h) (fun q => by cases q)
    replace h := ift hz_12 h
    obtain ⟨p_13, ep_13, h⟩ := lt_e h
    have ho_p_13 : Ob Yc p_13 2 := obPg (by rw [ep_13]; exact hz_12)
    refine x_getR C w fX5_30 obC3 dX5_read_99 ?_
    refine x_nmR ep_13 ?_
    refine x_getI C w fX5_53 ho_p_13 dX5_read_102 ?_
    refine lv_bipush (v := 60) C.1 C.2.1 dX5_read_105 (by decide) ?_
    refine lv_icmp_lt (tgt := 115) C.1 C.2.1 dX5_read_107 (by decide) (fun hc => ?_) (fun hc => ?_)
    · replace h := ift hc h
      refine lv_aload_n C.1 C.2.1 dX5_read_115 rfl (lv_at hl 1 rfl) ?_
      by_cases hz_14 : gR S 3 2 = 1 ∨ gR S 3 2 = 2
      case neg => exact absurd (iff0 hz_14 h) (fun q => by cases q)
      replace h := ift hz_14 h
      obtain ⟨p_15, ep_15, h⟩ := lt_e h
      have ho_p_15 : Ob Yc p_15 2 := obPg (by rw [ep_15]; exact hz_14)
      refine x_getR C w fX5_30 obC3 dX5_read_116 ?_
      refine x_nmR ep_15 ?_
      refine lv_iload C.1 C.2.1 dX5_read_119 (lv_at hl 0 rfl) ?_
      obtain ⟨S_16, hS_16, h⟩ := bnd h
      replace nn : nq S_16 S := nq_tr (kq_Pg_addStep hS_16) nn
      refine x_callVv (q := (RX4, TX4, 16)) (As := [.int y0]) (rest := []) C w (k_Pg_addStep l D T ρ g H.size S ho_p_15 hS_16) vX5_56 (hRK (by decide) (by decide)) ho_p_15 (by decide) rfl rfl rfl hl.1 (Nat.le_of_ble_eq_true rfl) (hcK hT) dX5_read_121 (fun H locs w => ?_)
      refine lv_aload_n C.1 C.2.1 dX5_read_124 rfl (lv_at hl 1 rfl) ?_
      refine lv_iload_n C.1 C.2.1 dX5_read_125 rfl (lv_at hl 2 rfl) ?_
      obtain ⟨S_17, eS_17, h⟩ := lt_e h
      replace nn : nq S_17 S := nq_tr (by rw [eS_17]; rfl) nn
      refine y_putI C w eS_17 fX5_20 pX5_3 obC3 dX5_read_126 (fun H locs w => ?_)
      refine lv_aload_n C.1 C.2.1 dX5_read_129 rfl (lv_at hl 1 rfl) ?_
      refine x_sorts C w hcn hcw.1 dX5_read_130 ?_
      refine lv_iload C.1 C.2.1 dX5_read_133 (lv_at hl 0 rfl) ?_
      obtain ⟨e_18, he_18, h⟩ := bnd h
      refine x_eald C w hcn he_18 dX5_read_135 ?_
      obtain ⟨⟨S_19, v_20⟩, hv_20, h⟩ := bnd h
      have hkn := nq_kap nn
      have hk1 := km_Rd_readWords hv_20
      have hT2 := km_Rd_read_139 km14 h
      refine x_callViC (q := (RX5, TX5, 5)) (As := [.ref (Z.1 e_18)]) (rest := []) C w hcn hcw (k_Rd_readWords l Z D T ρ g H.size S_17 (eS_some he_18).2.2 hv_20) vX5_63 (hRK (by decide) (by decide)) obC3 (by decide) rfl rfl rfl hl.1 (Nat.le_of_ble_eq_true rfl) (hcM hm hkn hk1 hT2) dX5_read_136 (fun ρ1 H locs hag w => ?_)
      replace ha := ha.trans hag
      rw [← hag 3 (by decide)] at hl
      refine W.widen (k := kap S_19 - kap S0) (n := 2 * (kap S_19 - kap S0)) (by omega) (by omega) ?_
      exact w_Rd_read_139 C hr hk hcn hcw kk14 km14 ha (by omega) w (lv_sub hl [1] rfl) h
    · replace h := iff0 hc h
      refine lv_aload_n C.1 C.2.1 dX5_read_110 rfl (lv_at hl 1 rfl) ?_
      refine x_getI C w fX5_20 obC3 dX5_read_111 ?_
      obtain ⟨rfl, rfl⟩ := prI h
      exact x_iretM C w ha hr hk dX5_read_114 (by have := nq_kap nn; omega) (by have := nq_kap nn; omega)
set_option maxRecDepth 100000 in
set_option maxHeartbeats 4000000 in
theorem wb_Rd_read_14 {g : Nat} {S : St} {x2 : Int32} (C : CallFix p m c cX5_read 6 s args tb RX5) (hr : meth.sig.returnType = (some .int)) (hk : meth.locks = false) (hcn : Kn Z A s s.heap) (hcw : Kw Z s) {S' : St} {r : Int32} {k14 : St → Int32 → Option (St × Int32)} (kk14 : ∀ (ρ : Nat → Nat) (S : St) (x2 : Int32) (H : Heap) (locs : List Loc) (ls : Array Slot), Ag ρ0 ρ → kap S0 ≤ kap S → Wn Yc D T ρ S A s H locs → lv_has ls 6 [(0, .ref (ρ 3)), (2, .int x2)] → k14 S x2 = some (S', r) → W p l e (rmK 7 168 (kap S' - kap S0)) s m args below meth c H locs (kap S - kap S0) (2 * (kap S - kap S0)) (MQ below (QiM D T ρ0 A S' r) args s (kap S' - kap S0) (2 * (kap S' - kap S0)) A) (F0 m 14 ls [])) (km14 : ∀ (S : St) (x2 : Int32), k14 S x2 = some (S', r) → kap S ≤ kap S') (ha : Ag ρ0 ρ) (hm : kap S0 ≤ kap S) (w : Wn Yc D T ρ S A s H locs) (hl : lv_has ls 6 [(0, .ref (ρ 3)), (2, .int x2)]) (h : b_Rd_read_14 g k14 S x2 = some (S', r)) : W p l e (rmK 7 168 (kap S' - kap S0)) s m args below meth c H locs (kap S - kap S0) (2 * (kap S - kap S0)) (MQ below (QiM D T ρ0 A S' r) args s (kap S' - kap S0) (2 * (kap S' - kap S0)) A) (F0 m 14 ls []) := by
  have hT := kmb_Rd_read_14 km14 h
  unfold b_Rd_read_14 at h
  have nn : nq S S := nq_rf
  refine lv_iload_n C.1 C.2.1 dX5_read_14 rfl (lv_at hl 1 rfl) ?_
  refine lv_aload_n C.1 C.2.1 dX5_read_15 rfl (lv_at hl 0 rfl) ?_
  refine x_getC C w 10 fX5_27 obC3 rfl dX5_read_16 ?_
  refine x_getI C w fX5_39 obC10 dX5_read_19 ?_
  refine lv_icmp_ge (tgt := 160) C.1 C.2.1 dX5_read_22 (by decide) (fun hc => ?_) (fun hc => ?_)
  · replace h := ift hc h
    refine lv_iconst (v := (-1)) C.1 C.2.1 dX5_read_160 (by decide) ?_
    obtain ⟨rfl, rfl⟩ := prI h
    exact x_iretM C w ha hr hk dX5_read_161 (by have := nq_kap nn; omega) (by have := nq_kap nn; omega)
  · replace h := iff0 hc h
    refine lv_aload_n C.1 C.2.1 dX5_read_25 rfl (lv_at hl 0 rfl) ?_
    refine lv_iload_n C.1 C.2.1 dX5_read_26 rfl (lv_at hl 1 rfl) ?_
    obtain ⟨S_5, eS_5, h⟩ := lt_e h
    replace nn : nq S_5 S := nq_tr (by rw [eS_5]; rfl) nn
    refine y_putI C w eS_5 fX5_20 pX5_3 obC3 dX5_read_27 (fun H locs w => ?_)
    refine lv_aload_n C.1 C.2.1 dX5_read_30 rfl (lv_at hl 0 rfl) ?_
    refine lv_aload_n C.1 C.2.1 dX5_read_31 rfl (lv_at hl 0 rfl) ?_
    refine lv_bipush (v := 10) C.1 C.2.1 dX5_read_32 (by decide) ?_
    refine lv_iload_n C.1 C.2.1 dX5_read_34 rfl (lv_at hl 1 rfl) ?_
    refine lv_aload_n C.1 C.2.1 dX5_read_35 rfl (lv_at hl 0 rfl) ?_
    refine x_getC C w 10 fX5_27 obC3 rfl dX5_read_36 ?_
    refine x_getI C w fX5_39 obC10 dX5_read_39 ?_
    obtain ⟨v_6, hv_6, h⟩ := bnd h
    refine x_callVi (q := (RX5, TX5, 5)) (As := [.int (10 : Int32), .int x2, .int (gI S_5 10 2)]) (rest := [.ref (ρ 3)]) C w (k_Rd_nextByte l D T ρ g H.size S_5 hv_6) vX5_42 (hRK (by decide) (by decide)) obC3 (by decide) rfl rfl rfl hl.1 (Nat.le_of_ble_eq_true rfl) (hcK hT) dX5_read_42 (fun H locs w => ?_)
    obtain ⟨S_7, eS_7, h⟩ := lt_e h
    replace nn : nq S_7 S := nq_tr (by rw [eS_7]; rfl) nn
    refine y_putI C w eS_7 fX5_24 pX5_4 obC3 dX5_read_45 (fun H locs w => ?_)
    refine lv_aload_n C.1 C.2.1 dX5_read_48 rfl (lv_at hl 0 rfl) ?_
    obtain ⟨S_8, hS_8, h⟩ := bnd h
    replace nn : nq S_8 S := nq_tr (kq_Rd_skipBlanks hS_8) nn
    refine x_callVv (q := (RX5, TX5, 5)) (As := []) (rest := []) C w (k_Rd_skipBlanks l D T ρ g H.size S_7 hS_8) vX5_46 (hRK (by decide) (by decide)) obC3 (by decide) rfl rfl rfl hl.1 (Nat.le_of_ble_eq_true rfl) (hcK hT) dX5_read_49 (fun H locs w => ?_)
    refine lv_aload_n C.1 C.2.1 dX5_read_52 rfl (lv_at hl 0 rfl) ?_
    refine x_getI C w fX5_20 obC3 dX5_read_53 ?_
    refine lv_aload_n C.1 C.2.1 dX5_read_56 rfl (lv_at hl 0 rfl) ?_
    refine x_getI C w fX5_24 obC3 dX5_read_57 ?_
    refine lv_icmp_lt (tgt := 66) C.1 C.2.1 dX5_read_60 (by decide) (fun hc => ?_) (fun hc => ?_)
    · replace h := ift hc h
      refine lv_aload_n C.1 C.2.1 dX5_read_66 rfl (lv_at hl 0 rfl) ?_
      refine lv_bipush (v := 32) C.1 C.2.1 dX5_read_67 (by decide) ?_
      refine lv_aload_n C.1 C.2.1 dX5_read_69 rfl (lv_at hl 0 rfl) ?_
      refine x_getI C w fX5_20 obC3 dX5_read_70 ?_
      refine lv_aload_n C.1 C.2.1 dX5_read_73 rfl (lv_at hl 0 rfl) ?_
      refine x_getI C w fX5_24 obC3 dX5_read_74 ?_
      obtain ⟨v_9, hv_9, h⟩ := bnd h
      refine x_callVi (q := (RX5, TX5, 5)) (As := [.int (32 : Int32), .int (gI S_8 3 3), .int (gI S_8 3 4)]) (rest := []) C w (k_Rd_nextByte l D T ρ g H.size S_8 hv_9) vX5_42 (hRK (by decide) (by decide)) obC3 (by decide) rfl rfl rfl hl.1 (Nat.le_of_ble_eq_true rfl) (hcK hT) dX5_read_77 (fun H locs w => ?_)
      refine lv_istore_n (lv' := [(3, .int v_9), (0, .ref (ρ 3)), (2, .int x2)]) C.1 C.2.1 dX5_read_80 rfl hl (by decide) rfl (fun ls hl => ?_)
      refine lv_aload_n C.1 C.2.1 dX5_read_81 rfl (lv_at hl 1 rfl) ?_
      refine lv_aload_n C.1 C.2.1 dX5_read_82 rfl (lv_at hl 1 rfl) ?_
      refine x_getI C w fX5_20 obC3 dX5_read_83 ?_
      refine lv_iload_n C.1 C.2.1 dX5_read_86 rfl (lv_at hl 0 rfl) ?_
      obtain ⟨⟨S_10, v_11⟩, hv_11, h⟩ := bnd h
      have hkn := nq_kap nn
      have hk1 := km_Rd_sortNamed hv_11
      have hT2 := km_Rd_read_90 km14 h
      refine x_callViC (q := (RX5, TX5, 5)) (As := [.int (gI S_8 3 3), .int v_9]) (rest := []) C w hcn hcw (k_Rd_sortNamed l Z D T ρ g H.size S_8 hv_11) vX5_49 (hRK (by decide) (by decide)) obC3 (by decide) rfl rfl rfl hl.1 (Nat.le_of_ble_eq_true rfl) (hcM hm hkn hk1 hT2) dX5_read_87 (fun ρ1 H locs hag w => ?_)
      replace ha := ha.trans hag
      rw [← hag 3 (by decide)] at hl
      refine W.widen (k := kap S_10 - kap S0) (n := 2 * (kap S_10 - kap S0)) (by omega) (by omega) ?_
      exact w_Rd_read_90 C hr hk hcn hcw kk14 km14 ha (by omega) w (lv_sub hl [1, 0] rfl) h
    · replace h := iff0 hc h
      refine lv_goto (tgt := 150) C.1 C.2.1 dX5_read_63 (by decide) ?_
      refine lv_aload_n C.1 C.2.1 dX5_read_150 rfl (lv_at hl 0 rfl) ?_
      refine x_getI C w fX5_24 obC3 dX5_read_151 ?_
      refine lv_iconst (v := 1) C.1 C.2.1 dX5_read_154 (by decide) ?_
      refine lv_iadd C.1 C.2.1 dX5_read_155 ?_
      obtain ⟨x2_12, ex2_12, h⟩ := lt_e h
      refine x_nm ex2_12 ?_
      refine lv_istore_n (lv' := [(2, .int x2_12), (0, .ref (ρ 3))]) C.1 C.2.1 dX5_read_156 rfl hl (by decide) rfl (fun ls hl => ?_)
      refine lv_goto (tgt := 14) C.1 C.2.1 dX5_read_157 (by decide) ?_
      have hkn := nq_kap nn
      refine W.widen (k := kap S_8 - kap S0) (n := 2 * (kap S_8 - kap S0)) (by omega) (by omega) ?_
      exact kk14 _ _ _ _ _ _ ha (by omega) w (lv_sub hl [1, 0] rfl) h
theorem w_Rd_read_14 {g : Nat} (C : CallFix p m c cX5_read 6 s args tb RX5) (hr : meth.sig.returnType = (some .int)) (hk : meth.locks = false) (hcn : Kn Z A s s.heap) (hcw : Kw Z s) {S' : St} {r : Int32} (n : Nat) : ∀ (ρ : Nat → Nat) (S : St) (x2 : Int32) (H : Heap) (locs : List Loc) (ls : Array Slot), Ag ρ0 ρ → kap S0 ≤ kap S → Wn Yc D T ρ S A s H locs → lv_has ls 6 [(0, .ref (ρ 3)), (2, .int x2)] → m_Rd_read_14 g n S x2 = some (S', r) → W p l e (rmK 7 168 (kap S' - kap S0)) s m args below meth c H locs (kap S - kap S0) (2 * (kap S - kap S0)) (MQ below (QiM D T ρ0 A S' r) args s (kap S' - kap S0) (2 * (kap S' - kap S0)) A) (F0 m 14 ls []) := by
  induction n with
  | zero => intro ρ S x2 H locs ls ha hm w hl h; exact absurd h (fun q => by cases q)
  | succ n ih => intro ρ S x2 H locs ls ha hm w hl h; exact wb_Rd_read_14 C hr hk hcn hcw ih (km_Rd_read_14 n) ha hm w hl h
set_option maxRecDepth 100000 in
set_option maxHeartbeats 4000000 in
theorem w_Rd_read_0 {g : Nat} {S : St} {x1 : Nat} (C : CallFix p m c cX5_read 6 s args tb RX5) (hr : meth.sig.returnType = (some .int)) (hk : meth.locks = false) (hcn : Kn Z A s s.heap) (hcw : Kw Z s) {S' : St} {r : Int32} (ha : Ag ρ0 ρ) (hm : kap S0 ≤ kap S) (w : Wn Yc D T ρ S A s H locs) (hl : lv_has ls 6 [(0, .ref (ρ 3)), (1, .ref (ρ x1))]) (ho_x1 : Ob Yc x1 2) (h : m_Rd_read g S x1 = some (S', r)) : W p l e (rmK 7 168 (kap S' - kap S0)) s m args below meth c H locs (kap S - kap S0) (2 * (kap S - kap S0)) (MQ below (QiM D T ρ0 A S' r) args s (kap S' - kap S0) (2 * (kap S' - kap S0)) A) (F0 m 0 ls []) := by
  have hT := km_Rd_read h
  unfold m_Rd_read at h
  have nn : nq S S := nq_rf
  refine lv_aload_n C.1 C.2.1 dX5_read_0 rfl (lv_at hl 0 rfl) ?_
  refine lv_aload_n C.1 C.2.1 dX5_read_1 rfl (lv_at hl 1 rfl) ?_
  obtain ⟨S_1, eS_1, h⟩ := lt_e h
  replace nn : nq S_1 S := nq_tr (by rw [eS_1]; rfl) nn
  refine y_putR C w eS_1 fX5_30 pX5_2 obC3 dX5_read_2 (fun H locs w => ?_)
  refine lv_aload_n C.1 C.2.1 dX5_read_5 rfl (lv_at hl 0 rfl) ?_
  by_cases hz_2 : gR S_1 3 2 = 1 ∨ gR S_1 3 2 = 2
  case neg => exact absurd (iff0 hz_2 h) (fun q => by cases q)
  replace h := ift hz_2 h
  obtain ⟨p_3, ep_3, h⟩ := lt_e h
  have ho_p_3 : Ob Yc p_3 2 := obPg (by rw [ep_3]; exact hz_2)
  refine x_getR C w fX5_30 obC3 dX5_read_6 ?_
  refine x_nmR ep_3 ?_
  obtain ⟨S_4, hS_4, h⟩ := bnd h
  replace nn : nq S_4 S := nq_tr (kq_Pg_clear hS_4) nn
  refine x_callVv (q := (RX4, TX4, 16)) (As := []) (rest := []) C w (k_Pg_clear l D T ρ g H.size S_1 ho_p_3 hS_4) vX5_34 (hRK (by decide) (by decide)) ho_p_3 (by decide) rfl rfl rfl hl.1 (Nat.le_of_ble_eq_true rfl) (hcK hT) dX5_read_9 (fun H locs w => ?_)
  refine lv_iconst (v := 0) C.1 C.2.1 dX5_read_12 (by decide) ?_
  refine lv_istore_n (lv' := [(2, .int (0 : Int32)), (0, .ref (ρ 3)), (1, .ref (ρ x1))]) C.1 C.2.1 dX5_read_13 rfl hl (by decide) rfl (fun ls hl => ?_)
  have hkn := nq_kap nn
  refine W.widen (k := kap S_4 - kap S0) (n := 2 * (kap S_4 - kap S0)) (by omega) (by omega) ?_
  exact w_Rd_read_14 C hr hk hcn hcw g _ _ _ _ _ _ ha (by omega) w (lv_sub hl [1, 0] rfl) h
end S_Rd_read
set_option maxRecDepth 100000 in
theorem k_Rd_read (l : Launch) (Z : Ad) (D : va_G) (T : Cy) (ρ : Nat → Nat) (g sz : Nat) (S : St) {x1 : Nat} (ho_x1 : Ob Yc x1 2) {S' : St} {r : Int32} (h : m_Rd_read g S x1 = some (S', r)) : MiC l Z D T ρ yX5_read cX5_read 6 (some .int) 7 168 S S' r [.ref (ρ 3), .ref (ρ x1)] sz :=
  x_inC (by decide) (Nat.le_of_ble_eq_true rfl) (fun p e s m below meth c ls C hr hk hcn hcw w hl => W.widen (Nat.zero_le _) (Nat.zero_le _) (w_Rd_read_0 C hr hk hcn hcw Ag.rf (Nat.le_refl _) w hl ho_x1 h))

theorem dX11_giveOfTwo_0 : decode cX11_giveOfTwo 0 = .ok (.getstatic 22, 3) := by decide +kernel
theorem dX11_giveOfTwo_3 : decode cX11_giveOfTwo 3 = .ok (.aload_n 1, 1) := by decide +kernel
theorem dX11_giveOfTwo_4 : decode cX11_giveOfTwo 4 = .ok (.invokevirtual 28, 3) := by decide +kernel
theorem dX11_giveOfTwo_7 : decode cX11_giveOfTwo 7 = .ok (.iaload, 1) := by decide +kernel
theorem dX11_giveOfTwo_8 : decode cX11_giveOfTwo 8 = .ok (.tableswitch 250 38 45 #[48, 63, 90, 117, 175, 182, 189, 219], 48) := by decide +kernel
theorem dX11_giveOfTwo_56 : decode cX11_giveOfTwo 56 = .ok (.aload_n 0, 1) := by decide +kernel
theorem dX11_giveOfTwo_57 : decode cX11_giveOfTwo 57 = .ok (.iload_n 2, 1) := by decide +kernel
theorem dX11_giveOfTwo_58 : decode cX11_giveOfTwo 58 = .ok (.iload_n 3, 1) := by decide +kernel
theorem dX11_giveOfTwo_59 : decode cX11_giveOfTwo 59 = .ok (.if_icmp .ne 7, 3) := by decide +kernel
theorem dX11_giveOfTwo_62 : decode cX11_giveOfTwo 62 = .ok (.iconst 1, 1) := by decide +kernel
theorem dX11_giveOfTwo_63 : decode cX11_giveOfTwo 63 = .ok (.goto 4, 3) := by decide +kernel
theorem dX11_giveOfTwo_66 : decode cX11_giveOfTwo 66 = .ok (.iconst 0, 1) := by decide +kernel
theorem dX11_giveOfTwo_67 : decode cX11_giveOfTwo 67 = .ok (.invokevirtual 105, 3) := by decide +kernel
theorem dX11_giveOfTwo_70 : decode cX11_giveOfTwo 70 = .ok (.ireturn, 1) := by decide +kernel
theorem dX11_giveOfTwo_71 : decode cX11_giveOfTwo 71 = .ok (.aload_n 0, 1) := by decide +kernel
theorem dX11_giveOfTwo_72 : decode cX11_giveOfTwo 72 = .ok (.iload_n 3, 1) := by decide +kernel
theorem dX11_giveOfTwo_73 : decode cX11_giveOfTwo 73 = .ok (.iconst (-1), 1) := by decide +kernel
theorem dX11_giveOfTwo_74 : decode cX11_giveOfTwo 74 = .ok (.if_icmp .eq 19, 3) := by decide +kernel
theorem dX11_giveOfTwo_77 : decode cX11_giveOfTwo 77 = .ok (.aload_n 0, 1) := by decide +kernel
theorem dX11_giveOfTwo_78 : decode cX11_giveOfTwo 78 = .ok (.getfield 21, 3) := by decide +kernel
theorem dX11_giveOfTwo_81 : decode cX11_giveOfTwo 81 = .ok (.iload_n 2, 1) := by decide +kernel
theorem dX11_giveOfTwo_82 : decode cX11_giveOfTwo 82 = .ok (.iload_n 3, 1) := by decide +kernel
theorem dX11_giveOfTwo_83 : decode cX11_giveOfTwo 83 = .ok (.invokevirtual 109, 3) := by decide +kernel
theorem dX11_giveOfTwo_86 : decode cX11_giveOfTwo 86 = .ok (.ifCond .eq 7, 3) := by decide +kernel
theorem dX11_giveOfTwo_89 : decode cX11_giveOfTwo 89 = .ok (.iconst 1, 1) := by decide +kernel
theorem dX11_giveOfTwo_90 : decode cX11_giveOfTwo 90 = .ok (.goto 4, 3) := by decide +kernel
theorem dX11_giveOfTwo_93 : decode cX11_giveOfTwo 93 = .ok (.iconst 0, 1) := by decide +kernel
theorem dX11_giveOfTwo_94 : decode cX11_giveOfTwo 94 = .ok (.invokevirtual 105, 3) := by decide +kernel
theorem dX11_giveOfTwo_97 : decode cX11_giveOfTwo 97 = .ok (.ireturn, 1) := by decide +kernel
theorem dX11_giveOfTwo_98 : decode cX11_giveOfTwo 98 = .ok (.aload_n 0, 1) := by decide +kernel
theorem dX11_giveOfTwo_99 : decode cX11_giveOfTwo 99 = .ok (.iload_n 3, 1) := by decide +kernel
theorem dX11_giveOfTwo_100 : decode cX11_giveOfTwo 100 = .ok (.iconst (-1), 1) := by decide +kernel
theorem dX11_giveOfTwo_101 : decode cX11_giveOfTwo 101 = .ok (.if_icmp .eq 19, 3) := by decide +kernel
theorem dX11_giveOfTwo_104 : decode cX11_giveOfTwo 104 = .ok (.aload_n 0, 1) := by decide +kernel
theorem dX11_giveOfTwo_105 : decode cX11_giveOfTwo 105 = .ok (.getfield 21, 3) := by decide +kernel
theorem dX11_giveOfTwo_108 : decode cX11_giveOfTwo 108 = .ok (.iload_n 2, 1) := by decide +kernel
theorem dX11_giveOfTwo_109 : decode cX11_giveOfTwo 109 = .ok (.iload_n 3, 1) := by decide +kernel
theorem dX11_giveOfTwo_110 : decode cX11_giveOfTwo 110 = .ok (.invokevirtual 113, 3) := by decide +kernel
theorem dX11_giveOfTwo_113 : decode cX11_giveOfTwo 113 = .ok (.ifCond .eq 7, 3) := by decide +kernel
theorem dX11_giveOfTwo_116 : decode cX11_giveOfTwo 116 = .ok (.iconst 1, 1) := by decide +kernel
theorem dX11_giveOfTwo_117 : decode cX11_giveOfTwo 117 = .ok (.goto 4, 3) := by decide +kernel
theorem dX11_giveOfTwo_120 : decode cX11_giveOfTwo 120 = .ok (.iconst 0, 1) := by decide +kernel
theorem dX11_giveOfTwo_121 : decode cX11_giveOfTwo 121 = .ok (.invokevirtual 105, 3) := by decide +kernel
theorem dX11_giveOfTwo_124 : decode cX11_giveOfTwo 124 = .ok (.ireturn, 1) := by decide +kernel
theorem dX11_giveOfTwo_125 : decode cX11_giveOfTwo 125 = .ok (.aload_n 0, 1) := by decide +kernel
theorem dX11_giveOfTwo_126 : decode cX11_giveOfTwo 126 = .ok (.getfield 9, 3) := by decide +kernel
theorem dX11_giveOfTwo_129 : decode cX11_giveOfTwo 129 = .ok (.aload_n 0, 1) := by decide +kernel
theorem dX11_giveOfTwo_130 : decode cX11_giveOfTwo 130 = .ok (.getfield 21, 3) := by decide +kernel
theorem dX11_giveOfTwo_133 : decode cX11_giveOfTwo 133 = .ok (.getfield 116, 3) := by decide +kernel
theorem dX11_giveOfTwo_136 : decode cX11_giveOfTwo 136 = .ok (.aload_n 0, 1) := by decide +kernel
theorem dX11_giveOfTwo_137 : decode cX11_giveOfTwo 137 = .ok (.getfield 21, 3) := by decide +kernel
theorem dX11_giveOfTwo_140 : decode cX11_giveOfTwo 140 = .ok (.iload_n 2, 1) := by decide +kernel
theorem dX11_giveOfTwo_141 : decode cX11_giveOfTwo 141 = .ok (.invokevirtual 119, 3) := by decide +kernel
theorem dX11_giveOfTwo_144 : decode cX11_giveOfTwo 144 = .ok (.aload_n 0, 1) := by decide +kernel
theorem dX11_giveOfTwo_145 : decode cX11_giveOfTwo 145 = .ok (.getfield 21, 3) := by decide +kernel
theorem dX11_giveOfTwo_148 : decode cX11_giveOfTwo 148 = .ok (.iload_n 2, 1) := by decide +kernel
theorem dX11_giveOfTwo_149 : decode cX11_giveOfTwo 149 = .ok (.invokevirtual 122, 3) := by decide +kernel
theorem dX11_giveOfTwo_152 : decode cX11_giveOfTwo 152 = .ok (.aload_n 0, 1) := by decide +kernel
theorem dX11_giveOfTwo_153 : decode cX11_giveOfTwo 153 = .ok (.getfield 21, 3) := by decide +kernel
theorem dX11_giveOfTwo_156 : decode cX11_giveOfTwo 156 = .ok (.getfield 116, 3) := by decide +kernel
theorem dX11_giveOfTwo_159 : decode cX11_giveOfTwo 159 = .ok (.aload_n 0, 1) := by decide +kernel
theorem dX11_giveOfTwo_160 : decode cX11_giveOfTwo 160 = .ok (.getfield 21, 3) := by decide +kernel
theorem dX11_giveOfTwo_163 : decode cX11_giveOfTwo 163 = .ok (.iload_n 3, 1) := by decide +kernel
theorem dX11_giveOfTwo_164 : decode cX11_giveOfTwo 164 = .ok (.invokevirtual 119, 3) := by decide +kernel
theorem dX11_giveOfTwo_167 : decode cX11_giveOfTwo 167 = .ok (.aload_n 0, 1) := by decide +kernel
theorem dX11_giveOfTwo_168 : decode cX11_giveOfTwo 168 = .ok (.getfield 21, 3) := by decide +kernel
theorem dX11_giveOfTwo_171 : decode cX11_giveOfTwo 171 = .ok (.iload_n 3, 1) := by decide +kernel
theorem dX11_giveOfTwo_172 : decode cX11_giveOfTwo 172 = .ok (.invokevirtual 122, 3) := by decide +kernel
theorem dX11_giveOfTwo_175 : decode cX11_giveOfTwo 175 = .ok (.invokevirtual 125, 3) := by decide +kernel
theorem dX11_giveOfTwo_178 : decode cX11_giveOfTwo 178 = .ok (.i2l, 1) := by decide +kernel
theorem dX11_giveOfTwo_179 : decode cX11_giveOfTwo 179 = .ok (.invokevirtual 44, 3) := by decide +kernel
theorem dX11_giveOfTwo_182 : decode cX11_giveOfTwo 182 = .ok (.ireturn, 1) := by decide +kernel
theorem dX11_giveOfTwo_183 : decode cX11_giveOfTwo 183 = .ok (.aload_n 0, 1) := by decide +kernel
theorem dX11_giveOfTwo_184 : decode cX11_giveOfTwo 184 = .ok (.iload_n 2, 1) := by decide +kernel
theorem dX11_giveOfTwo_185 : decode cX11_giveOfTwo 185 = .ok (.iload_n 3, 1) := by decide +kernel
theorem dX11_giveOfTwo_186 : decode cX11_giveOfTwo 186 = .ok (.invokevirtual 129, 3) := by decide +kernel
theorem dX11_giveOfTwo_189 : decode cX11_giveOfTwo 189 = .ok (.ireturn, 1) := by decide +kernel
theorem dX11_giveOfTwo_190 : decode cX11_giveOfTwo 190 = .ok (.aload_n 0, 1) := by decide +kernel
theorem dX11_giveOfTwo_191 : decode cX11_giveOfTwo 191 = .ok (.iload_n 2, 1) := by decide +kernel
theorem dX11_giveOfTwo_192 : decode cX11_giveOfTwo 192 = .ok (.iload_n 3, 1) := by decide +kernel
theorem dX11_giveOfTwo_193 : decode cX11_giveOfTwo 193 = .ok (.invokevirtual 133, 3) := by decide +kernel
theorem dX11_giveOfTwo_196 : decode cX11_giveOfTwo 196 = .ok (.ireturn, 1) := by decide +kernel
theorem dX11_giveOfTwo_197 : decode cX11_giveOfTwo 197 = .ok (.aload_n 0, 1) := by decide +kernel
theorem dX11_giveOfTwo_198 : decode cX11_giveOfTwo 198 = .ok (.aload_n 0, 1) := by decide +kernel
theorem dX11_giveOfTwo_199 : decode cX11_giveOfTwo 199 = .ok (.getfield 21, 3) := by decide +kernel
theorem dX11_giveOfTwo_202 : decode cX11_giveOfTwo 202 = .ok (.iload_n 3, 1) := by decide +kernel
theorem dX11_giveOfTwo_203 : decode cX11_giveOfTwo 203 = .ok (.aload_n 0, 1) := by decide +kernel
theorem dX11_giveOfTwo_204 : decode cX11_giveOfTwo 204 = .ok (.getfield 9, 3) := by decide +kernel
theorem dX11_giveOfTwo_207 : decode cX11_giveOfTwo 207 = .ok (.iconst 3, 1) := by decide +kernel
theorem dX11_giveOfTwo_208 : decode cX11_giveOfTwo 208 = .ok (.aload_n 0, 1) := by decide +kernel
theorem dX11_giveOfTwo_209 : decode cX11_giveOfTwo 209 = .ok (.getfield 21, 3) := by decide +kernel
theorem dX11_giveOfTwo_212 : decode cX11_giveOfTwo 212 = .ok (.iload_n 2, 1) := by decide +kernel
theorem dX11_giveOfTwo_213 : decode cX11_giveOfTwo 213 = .ok (.invokevirtual 80, 3) := by decide +kernel
theorem dX11_giveOfTwo_216 : decode cX11_giveOfTwo 216 = .ok (.invokevirtual 136, 3) := by decide +kernel
theorem dX11_giveOfTwo_219 : decode cX11_giveOfTwo 219 = .ok (.iload_n 2, 1) := by decide +kernel
theorem dX11_giveOfTwo_220 : decode cX11_giveOfTwo 220 = .ok (.invokevirtual 139, 3) := by decide +kernel
theorem dX11_giveOfTwo_223 : decode cX11_giveOfTwo 223 = .ok (.invokevirtual 105, 3) := by decide +kernel
theorem dX11_giveOfTwo_226 : decode cX11_giveOfTwo 226 = .ok (.ireturn, 1) := by decide +kernel
theorem dX11_giveOfTwo_227 : decode cX11_giveOfTwo 227 = .ok (.aload_n 0, 1) := by decide +kernel
theorem dX11_giveOfTwo_228 : decode cX11_giveOfTwo 228 = .ok (.aload_n 0, 1) := by decide +kernel
theorem dX11_giveOfTwo_229 : decode cX11_giveOfTwo 229 = .ok (.getfield 21, 3) := by decide +kernel
theorem dX11_giveOfTwo_232 : decode cX11_giveOfTwo 232 = .ok (.iload_n 3, 1) := by decide +kernel
theorem dX11_giveOfTwo_233 : decode cX11_giveOfTwo 233 = .ok (.aload_n 0, 1) := by decide +kernel
theorem dX11_giveOfTwo_234 : decode cX11_giveOfTwo 234 = .ok (.getfield 21, 3) := by decide +kernel
theorem dX11_giveOfTwo_237 : decode cX11_giveOfTwo 237 = .ok (.iload_n 2, 1) := by decide +kernel
theorem dX11_giveOfTwo_238 : decode cX11_giveOfTwo 238 = .ok (.invokevirtual 80, 3) := by decide +kernel
theorem dX11_giveOfTwo_241 : decode cX11_giveOfTwo 241 = .ok (.aload_n 0, 1) := by decide +kernel
theorem dX11_giveOfTwo_242 : decode cX11_giveOfTwo 242 = .ok (.getfield 21, 3) := by decide +kernel
theorem dX11_giveOfTwo_245 : decode cX11_giveOfTwo 245 = .ok (.iload_n 3, 1) := by decide +kernel
theorem dX11_giveOfTwo_246 : decode cX11_giveOfTwo 246 = .ok (.invokevirtual 80, 3) := by decide +kernel
theorem dX11_giveOfTwo_249 : decode cX11_giveOfTwo 249 = .ok (.isub, 1) := by decide +kernel
theorem dX11_giveOfTwo_250 : decode cX11_giveOfTwo 250 = .ok (.iload_n 2, 1) := by decide +kernel
theorem dX11_giveOfTwo_251 : decode cX11_giveOfTwo 251 = .ok (.invokevirtual 139, 3) := by decide +kernel
theorem dX11_giveOfTwo_254 : decode cX11_giveOfTwo 254 = .ok (.invokevirtual 105, 3) := by decide +kernel
theorem dX11_giveOfTwo_257 : decode cX11_giveOfTwo 257 = .ok (.ireturn, 1) := by decide +kernel
theorem dX11_giveOfTwo_258 : decode cX11_giveOfTwo 258 = .ok (.iconst 0, 1) := by decide +kernel
theorem dX11_giveOfTwo_259 : decode cX11_giveOfTwo 259 = .ok (.ireturn, 1) := by decide +kernel
def m_WS_giveOfTwo_67 (g : Nat) (S : St) (y1 : Int32) : Option (St × Int32) :=
(m_WS_giveTruth g S y1).bind fun (S_3, v_4) =>
some (S_3, v_4)
def m_WS_giveOfTwo_94 (g : Nat) (S : St) (y1 : Int32) : Option (St × Int32) :=
(m_WS_giveTruth g S y1).bind fun (S_3, v_4) =>
some (S_3, v_4)
def m_WS_giveOfTwo_93 (g : Nat) (S : St) : Option (St × Int32) :=
m_WS_giveOfTwo_94 g S (0 : Int32)
def m_WS_giveOfTwo_121 (g : Nat) (S : St) (y1 : Int32) : Option (St × Int32) :=
(m_WS_giveTruth g S y1).bind fun (S_4, v_5) =>
some (S_4, v_5)
def m_WS_giveOfTwo_120 (g : Nat) (S : St) : Option (St × Int32) :=
m_WS_giveOfTwo_121 g S (0 : Int32)
def m_WS_giveOfTwo (g : Nat) (S : St) (x1 : Nat) (x2 : Int32) (x3 : Int32) : Option (St × Int32) :=
(eS (nI x1)).bind fun e_2 =>
if (swT.getD e_2 0) = (38 : Int32) then (
  if x2 = x3 then (
    m_WS_giveOfTwo_67 g S (1 : Int32)
  ) else (
    m_WS_giveOfTwo_67 g S (0 : Int32)
  )
) else
if (swT.getD e_2 0) = (39 : Int32) then (
  if x3 = (-1 : Int32) then (
    m_WS_giveOfTwo_93 g S
  ) else (
    (m_Tx_areEqual g S x2 x3).bind fun v_3 =>
    if v_3 = 0 then (
      m_WS_giveOfTwo_93 g S
    ) else (
      m_WS_giveOfTwo_94 g S (1 : Int32)
    )
  )
) else
if (swT.getD e_2 0) = (40 : Int32) then (
  if x3 = (-1 : Int32) then (
    m_WS_giveOfTwo_120 g S
  ) else (
    (m_Tx_areAlike g S x2 x3).bind fun v_4 =>
    if v_4 = 0 then (
      m_WS_giveOfTwo_120 g S
    ) else (
      m_WS_giveOfTwo_121 g S (1 : Int32)
    )
  )
) else
if (swT.getD e_2 0) = (41 : Int32) then (
  (m_Tx_startOf g S x2).bind fun v_5 =>
  (m_Tx_endOf g S x2).bind fun v_6 =>
  (m_Tx_startOf g S x3).bind fun v_7 =>
  (m_Tx_endOf g S x3).bind fun v_8 =>
  (m_Row_orderTo g S 18 v_5 v_6 18 v_7 v_8).bind fun v_9 =>
  (m_Bn_giveWhole g S (v_9.toInt64)).bind fun (S_10, v_11) =>
  some (S_10, v_11)
) else
if (swT.getD e_2 0) = (42 : Int32) then (
  (m_WS_find g S x2 x3).bind fun (S_12, v_13) =>
  some (S_12, v_13)
) else
if (swT.getD e_2 0) = (43 : Int32) then (
  (m_WS_findLast g S x2 x3).bind fun (S_14, v_15) =>
  some (S_14, v_15)
) else
if (swT.getD e_2 0) = (44 : Int32) then (
  (m_Tx_sizeOf g S x2).bind fun v_16 =>
  (m_Bn_placeAt g S (3 : Int32) v_16).bind fun v_17 =>
  (m_Tx_stands g S x3 v_17 x2).bind fun v_18 =>
  (m_WS_giveTruth g S v_18).bind fun (S_19, v_20) =>
  some (S_19, v_20)
) else
if (swT.getD e_2 0) = (45 : Int32) then (
  (m_Tx_sizeOf g S x2).bind fun v_21 =>
  (m_Tx_sizeOf g S x3).bind fun v_22 =>
  (m_Tx_stands g S x3 (v_21 - v_22) x2).bind fun v_23 =>
  (m_WS_giveTruth g S v_23).bind fun (S_24, v_25) =>
  some (S_24, v_25)
) else
(
  some (S, (0 : Int32))
)
theorem km_WS_giveOfTwo_67 {g : Nat} {S : St} {y1 : Int32} {S' : St} {r : Int32} (h : m_WS_giveOfTwo_67 g S y1 = some (S', r)) : kap S ≤ kap S' := by
  unfold m_WS_giveOfTwo_67 at h
  have nn : nq S S := nq_rf
  obtain ⟨⟨S_3, v_4⟩, hv_4, h⟩ := bnd h
  replace nn : nq S_3 S := nq_tr (kq_WS_giveTruth hv_4) nn
  obtain ⟨rfl, rfl⟩ := prI h
  have hkn := nq_kap nn
  omega
theorem km_WS_giveOfTwo_94 {g : Nat} {S : St} {y1 : Int32} {S' : St} {r : Int32} (h : m_WS_giveOfTwo_94 g S y1 = some (S', r)) : kap S ≤ kap S' := by
  unfold m_WS_giveOfTwo_94 at h
  have nn : nq S S := nq_rf
  obtain ⟨⟨S_3, v_4⟩, hv_4, h⟩ := bnd h
  replace nn : nq S_3 S := nq_tr (kq_WS_giveTruth hv_4) nn
  obtain ⟨rfl, rfl⟩ := prI h
  have hkn := nq_kap nn
  omega
theorem km_WS_giveOfTwo_93 {g : Nat} {S : St} {S' : St} {r : Int32} (h : m_WS_giveOfTwo_93 g S = some (S', r)) : kap S ≤ kap S' := by
  unfold m_WS_giveOfTwo_93 at h
  have nn : nq S S := nq_rf
  have hkn := nq_kap nn
  have h2 := km_WS_giveOfTwo_94 h
  omega
theorem km_WS_giveOfTwo_121 {g : Nat} {S : St} {y1 : Int32} {S' : St} {r : Int32} (h : m_WS_giveOfTwo_121 g S y1 = some (S', r)) : kap S ≤ kap S' := by
  unfold m_WS_giveOfTwo_121 at h
  have nn : nq S S := nq_rf
  obtain ⟨⟨S_4, v_5⟩, hv_5, h⟩ := bnd h
  replace nn : nq S_4 S := nq_tr (kq_WS_giveTruth hv_5) nn
  obtain ⟨rfl, rfl⟩ := prI h
  have hkn := nq_kap nn
  omega
theorem km_WS_giveOfTwo_120 {g : Nat} {S : St} {S' : St} {r : Int32} (h : m_WS_giveOfTwo_120 g S = some (S', r)) : kap S ≤ kap S' := by
  unfold m_WS_giveOfTwo_120 at h
  have nn : nq S S := nq_rf
  have hkn := nq_kap nn
  have h2 := km_WS_giveOfTwo_121 h
  omega
theorem km_WS_giveOfTwo {g : Nat} {S : St} {x1 : Nat} {x2 : Int32} {x3 : Int32} {S' : St} {r : Int32} (h : m_WS_giveOfTwo g S x1 x2 x3 = some (S', r)) : kap S ≤ kap S' := by
  unfold m_WS_giveOfTwo at h
  have nn : nq S S := nq_rf
  obtain ⟨e_2, he_2, h⟩ := bnd h
  by_cases hc1 : (swT.getD e_2 0) = (38 : Int32)
  · replace h := ift hc1 h
    by_cases hc2 : x2 = x3
    · replace h := ift hc2 h
      have hkn := nq_kap nn
      have h2 := km_WS_giveOfTwo_67 h
      omega
    · replace h := iff0 hc2 h
      have hkn := nq_kap nn
      have h2 := km_WS_giveOfTwo_67 h
      omega
  replace h := iff0 hc1 h
  by_cases hc3 : (swT.getD e_2 0) = (39 : Int32)
  · replace h := ift hc3 h
    by_cases hc4 : x3 = (-1 : Int32)
    · replace h := ift hc4 h
      have hkn := nq_kap nn
      have h2 := km_WS_giveOfTwo_93 h
      omega
    · replace h := iff0 hc4 h
      obtain ⟨v_3, hv_3, h⟩ := bnd h
      by_cases hc5 : v_3 = 0
      · replace h := ift hc5 h
        have hkn := nq_kap nn
        have h2 := km_WS_giveOfTwo_93 h
        omega
      · replace h := iff0 hc5 h
        have hkn := nq_kap nn
        have h2 := km_WS_giveOfTwo_94 h
        omega
  replace h := iff0 hc3 h
  by_cases hc6 : (swT.getD e_2 0) = (40 : Int32)
  · replace h := ift hc6 h
    by_cases hc7 : x3 = (-1 : Int32)
    · replace h := ift hc7 h
      have hkn := nq_kap nn
      have h2 := km_WS_giveOfTwo_120 h
      omega
    · replace h := iff0 hc7 h
      obtain ⟨v_4, hv_4, h⟩ := bnd h
      by_cases hc8 : v_4 = 0
      · replace h := ift hc8 h
        have hkn := nq_kap nn
        have h2 := km_WS_giveOfTwo_120 h
        omega
      · replace h := iff0 hc8 h
        have hkn := nq_kap nn
        have h2 := km_WS_giveOfTwo_121 h
        omega
  replace h := iff0 hc6 h
  by_cases hc9 : (swT.getD e_2 0) = (41 : Int32)
  · replace h := ift hc9 h
    obtain ⟨v_5, hv_5, h⟩ := bnd h
    obtain ⟨v_6, hv_6, h⟩ := bnd h
    obtain ⟨v_7, hv_7, h⟩ := bnd h
    obtain ⟨v_8, hv_8, h⟩ := bnd h
    obtain ⟨v_9, hv_9, h⟩ := bnd h
    obtain ⟨⟨S_10, v_11⟩, hv_11, h⟩ := bnd h
    replace nn : nq S_10 S := nq_tr (kq_Bn_giveWhole hv_11) nn
    obtain ⟨rfl, rfl⟩ := prI h
    have hkn := nq_kap nn
    omega
  replace h := iff0 hc9 h
  by_cases hc10 : (swT.getD e_2 0) = (42 : Int32)
  · replace h := ift hc10 h
    obtain ⟨⟨S_12, v_13⟩, hv_13, h⟩ := bnd h
    replace nn : nq S_12 S := nq_tr (kq_WS_find hv_13) nn
    obtain ⟨rfl, rfl⟩ := prI h
    have hkn := nq_kap nn
    omega
  replace h := iff0 hc10 h
  by_cases hc11 : (swT.getD e_2 0) = (43 : Int32)
  · replace h := ift hc11 h
    obtain ⟨⟨S_14, v_15⟩, hv_15, h⟩ := bnd h
    replace nn : nq S_14 S := nq_tr (kq_WS_findLast hv_15) nn
    obtain ⟨rfl, rfl⟩ := prI h
    have hkn := nq_kap nn
    omega
  replace h := iff0 hc11 h
  by_cases hc12 : (swT.getD e_2 0) = (44 : Int32)
  · replace h := ift hc12 h
    obtain ⟨v_16, hv_16, h⟩ := bnd h
    obtain ⟨v_17, hv_17, h⟩ := bnd h
    obtain ⟨v_18, hv_18, h⟩ := bnd h
    obtain ⟨⟨S_19, v_20⟩, hv_20, h⟩ := bnd h
    replace nn : nq S_19 S := nq_tr (kq_WS_giveTruth hv_20) nn
    obtain ⟨rfl, rfl⟩ := prI h
    have hkn := nq_kap nn
    omega
  replace h := iff0 hc12 h
  by_cases hc13 : (swT.getD e_2 0) = (45 : Int32)
  · replace h := ift hc13 h
    obtain ⟨v_21, hv_21, h⟩ := bnd h
    obtain ⟨v_22, hv_22, h⟩ := bnd h
    obtain ⟨v_23, hv_23, h⟩ := bnd h
    obtain ⟨⟨S_24, v_25⟩, hv_25, h⟩ := bnd h
    replace nn : nq S_24 S := nq_tr (kq_WS_giveTruth hv_25) nn
    obtain ⟨rfl, rfl⟩ := prI h
    have hkn := nq_kap nn
    omega
  replace h := iff0 hc13 h
  obtain ⟨rfl, rfl⟩ := prI h
  have hkn := nq_kap nn
  omega
section S_WS_giveOfTwo
variable {p : Program} {l : Launch} {e : Env} {s : State} {m : MethodId} {args : Array Value} {below : List Frame} {meth : Method} {c : Code} {H : Heap} {locs : List Loc} {ls : Array Slot} {D : va_G} {T : Cy} {ρ ρ0 : Nat → Nat} {S0 : St} {A : Nat → Prop} {Z : Ad}
set_option maxRecDepth 100000 in
set_option maxHeartbeats 4000000 in
theorem w_WS_giveOfTwo_67 {g : Nat} {S : St} {y1 : Int32} (C : CallFix p m c cX11_giveOfTwo 4 s args tb RX11) (hr : meth.sig.returnType = (some .int)) (hk : meth.locks = false) (hcn : Kn Z A s s.heap) (hcw : Kw Z s) {S' : St} {r : Int32} (ha : Ag ρ0 ρ) (hm : kap S0 ≤ kap S) (w : Wn Yc D T ρ S A s H locs) (hl : lv_has ls 4 []) (h : m_WS_giveOfTwo_67 g S y1 = some (S', r)) : W p l e (rmK 4 91 (kap S' - kap S0)) s m args below meth c H locs (kap S - kap S0) (2 * (kap S - kap S0)) (MQ below (QiM D T ρ0 A S' r) args s (kap S' - kap S0) (2 * (kap S' - kap S0)) A) (F0 m 67 ls [.int y1, .ref (ρ 8)]) := by
  have hT := km_WS_giveOfTwo_67 h
  unfold m_WS_giveOfTwo_67 at h
  have nn : nq S S := nq_rf
  obtain ⟨⟨S_3, v_4⟩, hv_4, h⟩ := bnd h
  replace nn : nq S_3 S := nq_tr (kq_WS_giveTruth hv_4) nn
  refine x_callVi (q := (RX11, TX11, 2)) (As := [.int y1]) (rest := []) C w (k_WS_giveTruth l D T ρ g H.size S hv_4) vX11_105 (hRK (by decide) (by decide)) obC8 (by decide) rfl rfl rfl hl.1 (Nat.le_of_ble_eq_true rfl) (hcK hT) dX11_giveOfTwo_67 (fun H locs w => ?_)
  obtain ⟨rfl, rfl⟩ := prI h
  exact x_iretM C w ha hr hk dX11_giveOfTwo_70 (by have := nq_kap nn; omega) (by have := nq_kap nn; omega)
set_option maxRecDepth 100000 in
set_option maxHeartbeats 4000000 in
theorem w_WS_giveOfTwo_94 {g : Nat} {S : St} {y1 : Int32} (C : CallFix p m c cX11_giveOfTwo 4 s args tb RX11) (hr : meth.sig.returnType = (some .int)) (hk : meth.locks = false) (hcn : Kn Z A s s.heap) (hcw : Kw Z s) {S' : St} {r : Int32} (ha : Ag ρ0 ρ) (hm : kap S0 ≤ kap S) (w : Wn Yc D T ρ S A s H locs) (hl : lv_has ls 4 []) (h : m_WS_giveOfTwo_94 g S y1 = some (S', r)) : W p l e (rmK 4 91 (kap S' - kap S0)) s m args below meth c H locs (kap S - kap S0) (2 * (kap S - kap S0)) (MQ below (QiM D T ρ0 A S' r) args s (kap S' - kap S0) (2 * (kap S' - kap S0)) A) (F0 m 94 ls [.int y1, .ref (ρ 8)]) := by
  have hT := km_WS_giveOfTwo_94 h
  unfold m_WS_giveOfTwo_94 at h
  have nn : nq S S := nq_rf
  obtain ⟨⟨S_3, v_4⟩, hv_4, h⟩ := bnd h
  replace nn : nq S_3 S := nq_tr (kq_WS_giveTruth hv_4) nn
  refine x_callVi (q := (RX11, TX11, 2)) (As := [.int y1]) (rest := []) C w (k_WS_giveTruth l D T ρ g H.size S hv_4) vX11_105 (hRK (by decide) (by decide)) obC8 (by decide) rfl rfl rfl hl.1 (Nat.le_of_ble_eq_true rfl) (hcK hT) dX11_giveOfTwo_94 (fun H locs w => ?_)
  obtain ⟨rfl, rfl⟩ := prI h
  exact x_iretM C w ha hr hk dX11_giveOfTwo_97 (by have := nq_kap nn; omega) (by have := nq_kap nn; omega)
set_option maxRecDepth 100000 in
set_option maxHeartbeats 4000000 in
theorem w_WS_giveOfTwo_93 {g : Nat} {S : St} (C : CallFix p m c cX11_giveOfTwo 4 s args tb RX11) (hr : meth.sig.returnType = (some .int)) (hk : meth.locks = false) (hcn : Kn Z A s s.heap) (hcw : Kw Z s) {S' : St} {r : Int32} (ha : Ag ρ0 ρ) (hm : kap S0 ≤ kap S) (w : Wn Yc D T ρ S A s H locs) (hl : lv_has ls 4 []) (h : m_WS_giveOfTwo_93 g S = some (S', r)) : W p l e (rmK 4 91 (kap S' - kap S0)) s m args below meth c H locs (kap S - kap S0) (2 * (kap S - kap S0)) (MQ below (QiM D T ρ0 A S' r) args s (kap S' - kap S0) (2 * (kap S' - kap S0)) A) (F0 m 93 ls [.ref (ρ 8)]) := by
  have hT := km_WS_giveOfTwo_93 h
  unfold m_WS_giveOfTwo_93 at h
  have nn : nq S S := nq_rf
  refine lv_iconst (v := 0) C.1 C.2.1 dX11_giveOfTwo_93 (by decide) ?_
  have hkn := nq_kap nn
  refine W.widen (k := kap S - kap S0) (n := 2 * (kap S - kap S0)) (by omega) (by omega) ?_
  exact w_WS_giveOfTwo_94 C hr hk hcn hcw ha (by omega) w (lv_sub hl [] rfl) h
set_option maxRecDepth 100000 in
set_option maxHeartbeats 4000000 in
theorem w_WS_giveOfTwo_121 {g : Nat} {S : St} {y1 : Int32} (C : CallFix p m c cX11_giveOfTwo 4 s args tb RX11) (hr : meth.sig.returnType = (some .int)) (hk : meth.locks = false) (hcn : Kn Z A s s.heap) (hcw : Kw Z s) {S' : St} {r : Int32} (ha : Ag ρ0 ρ) (hm : kap S0 ≤ kap S) (w : Wn Yc D T ρ S A s H locs) (hl : lv_has ls 4 []) (h : m_WS_giveOfTwo_121 g S y1 = some (S', r)) : W p l e (rmK 4 91 (kap S' - kap S0)) s m args below meth c H locs (kap S - kap S0) (2 * (kap S - kap S0)) (MQ below (QiM D T ρ0 A S' r) args s (kap S' - kap S0) (2 * (kap S' - kap S0)) A) (F0 m 121 ls [.int y1, .ref (ρ 8)]) := by
  have hT := km_WS_giveOfTwo_121 h
  unfold m_WS_giveOfTwo_121 at h
  have nn : nq S S := nq_rf
  obtain ⟨⟨S_4, v_5⟩, hv_5, h⟩ := bnd h
  replace nn : nq S_4 S := nq_tr (kq_WS_giveTruth hv_5) nn
  refine x_callVi (q := (RX11, TX11, 2)) (As := [.int y1]) (rest := []) C w (k_WS_giveTruth l D T ρ g H.size S hv_5) vX11_105 (hRK (by decide) (by decide)) obC8 (by decide) rfl rfl rfl hl.1 (Nat.le_of_ble_eq_true rfl) (hcK hT) dX11_giveOfTwo_121 (fun H locs w => ?_)
  obtain ⟨rfl, rfl⟩ := prI h
  exact x_iretM C w ha hr hk dX11_giveOfTwo_124 (by have := nq_kap nn; omega) (by have := nq_kap nn; omega)
set_option maxRecDepth 100000 in
set_option maxHeartbeats 4000000 in
theorem w_WS_giveOfTwo_120 {g : Nat} {S : St} (C : CallFix p m c cX11_giveOfTwo 4 s args tb RX11) (hr : meth.sig.returnType = (some .int)) (hk : meth.locks = false) (hcn : Kn Z A s s.heap) (hcw : Kw Z s) {S' : St} {r : Int32} (ha : Ag ρ0 ρ) (hm : kap S0 ≤ kap S) (w : Wn Yc D T ρ S A s H locs) (hl : lv_has ls 4 []) (h : m_WS_giveOfTwo_120 g S = some (S', r)) : W p l e (rmK 4 91 (kap S' - kap S0)) s m args below meth c H locs (kap S - kap S0) (2 * (kap S - kap S0)) (MQ below (QiM D T ρ0 A S' r) args s (kap S' - kap S0) (2 * (kap S' - kap S0)) A) (F0 m 120 ls [.ref (ρ 8)]) := by
  have hT := km_WS_giveOfTwo_120 h
  unfold m_WS_giveOfTwo_120 at h
  have nn : nq S S := nq_rf
  refine lv_iconst (v := 0) C.1 C.2.1 dX11_giveOfTwo_120 (by decide) ?_
  have hkn := nq_kap nn
  refine W.widen (k := kap S - kap S0) (n := 2 * (kap S - kap S0)) (by omega) (by omega) ?_
  exact w_WS_giveOfTwo_121 C hr hk hcn hcw ha (by omega) w (lv_sub hl [] rfl) h
set_option maxRecDepth 100000 in
set_option maxHeartbeats 4000000 in
theorem w_WS_giveOfTwo_0 {g : Nat} {S : St} {x1 : Nat} {x2 : Int32} {x3 : Int32} (C : CallFix p m c cX11_giveOfTwo 4 s args tb RX11) (hr : meth.sig.returnType = (some .int)) (hk : meth.locks = false) (hcn : Kn Z A s s.heap) (hcw : Kw Z s) {S' : St} {r : Int32} (ha : Ag ρ0 ρ) (hm : kap S0 ≤ kap S) (w : Wn Yc D T ρ S A s H locs) (hl : lv_has ls 4 [(0, .ref (ρ 8)), (1, .ref (Z.1 x1)), (2, .int x2), (3, .int x3)]) (ho_x1 : x1 < 56) (h : m_WS_giveOfTwo g S x1 x2 x3 = some (S', r)) : W p l e (rmK 4 91 (kap S' - kap S0)) s m args below meth c H locs (kap S - kap S0) (2 * (kap S - kap S0)) (MQ below (QiM D T ρ0 A S' r) args s (kap S' - kap S0) (2 * (kap S' - kap S0)) A) (F0 m 0 ls []) := by
  have hT := km_WS_giveOfTwo h
  unfold m_WS_giveOfTwo at h
  have nn : nq S S := nq_rf
  refine x_swm C w hcn gkX11_22 dX11_giveOfTwo_0 ?_
  refine lv_aload_n C.1 C.2.1 dX11_giveOfTwo_3 rfl (lv_at hl 1 rfl) ?_
  refine x_ord (rest := [.ref Z.2.2.1]) ho_x1 C w hcn hcw or_11 (hRK (by decide) (by decide)) hl.1 (Nat.le_of_ble_eq_true rfl) (hcK hT) dX11_giveOfTwo_4 (fun ρ_1 H locs hag w => ?_)
  replace ha := ha.trans hag
  rw [← hag 8 (by decide)] at hl
  obtain ⟨e_2, he_2, h⟩ := bnd h
  refine x_swl C w hcn he_2 dX11_giveOfTwo_7 ?_
  by_cases hz8_0 : (swT.getD e_2 0) = (38 : Int32)
  · replace h := ift hz8_0 h
    refine lv_tableIn (off := 48) (tgt := 56) C.1 C.2.1 dX11_giveOfTwo_8 (by rw [hz8_0]; decide) (by rw [hz8_0]; decide) (by rw [hz8_0]; decide +kernel) (by decide) ?_
    refine lv_aload_n C.1 C.2.1 dX11_giveOfTwo_56 rfl (lv_at hl 0 rfl) ?_
    refine lv_iload_n C.1 C.2.1 dX11_giveOfTwo_57 rfl (lv_at hl 2 rfl) ?_
    refine lv_iload_n C.1 C.2.1 dX11_giveOfTwo_58 rfl (lv_at hl 3 rfl) ?_
    refine lv_icmp_ne (tgt := 66) C.1 C.2.1 dX11_giveOfTwo_59 (by decide) (fun hc => ?_) (fun hc => ?_)
    · replace h := iff0 hc h
      refine lv_iconst (v := 0) C.1 C.2.1 dX11_giveOfTwo_66 (by decide) ?_
      have hkn := nq_kap nn
      refine W.widen (k := kap S - kap S0) (n := 2 * (kap S - kap S0)) (by omega) (by omega) ?_
      exact w_WS_giveOfTwo_67 C hr hk hcn hcw ha (by omega) w (lv_sub hl [] rfl) h
    · replace h := ift hc h
      refine lv_iconst (v := 1) C.1 C.2.1 dX11_giveOfTwo_62 (by decide) ?_
      refine lv_goto (tgt := 67) C.1 C.2.1 dX11_giveOfTwo_63 (by decide) ?_
      have hkn := nq_kap nn
      refine W.widen (k := kap S - kap S0) (n := 2 * (kap S - kap S0)) (by omega) (by omega) ?_
      exact w_WS_giveOfTwo_67 C hr hk hcn hcw ha (by omega) w (lv_sub hl [] rfl) h
  replace h := iff0 hz8_0 h
  by_cases hz8_1 : (swT.getD e_2 0) = (39 : Int32)
  · replace h := ift hz8_1 h
    refine lv_tableIn (off := 63) (tgt := 71) C.1 C.2.1 dX11_giveOfTwo_8 (by rw [hz8_1]; decide) (by rw [hz8_1]; decide) (by rw [hz8_1]; decide +kernel) (by decide) ?_
    refine lv_aload_n C.1 C.2.1 dX11_giveOfTwo_71 rfl (lv_at hl 0 rfl) ?_
    refine lv_iload_n C.1 C.2.1 dX11_giveOfTwo_72 rfl (lv_at hl 3 rfl) ?_
    refine lv_iconst (v := (-1)) C.1 C.2.1 dX11_giveOfTwo_73 (by decide) ?_
    refine lv_icmp_eq (tgt := 93) C.1 C.2.1 dX11_giveOfTwo_74 (by decide) (fun hc => ?_) (fun hc => ?_)
    · replace h := ift hc h
      have hkn := nq_kap nn
      refine W.widen (k := kap S - kap S0) (n := 2 * (kap S - kap S0)) (by omega) (by omega) ?_
      exact w_WS_giveOfTwo_93 C hr hk hcn hcw ha (by omega) w (lv_sub hl [] rfl) h
    · replace h := iff0 hc h
      refine lv_aload_n C.1 C.2.1 dX11_giveOfTwo_77 rfl (lv_at hl 0 rfl) ?_
      refine x_getC C w 5 fX11_21 obC8 rfl dX11_giveOfTwo_78 ?_
      refine lv_iload_n C.1 C.2.1 dX11_giveOfTwo_81 rfl (lv_at hl 2 rfl) ?_
      refine lv_iload_n C.1 C.2.1 dX11_giveOfTwo_82 rfl (lv_at hl 3 rfl) ?_
      obtain ⟨v_3, hv_3, h⟩ := bnd h
      refine x_callVi (q := (RX10, TX10, 5)) (As := [.int x2, .int x3]) (rest := [.ref (ρ_1 8)]) C w (k_Tx_areEqual l D T ρ_1 g H.size S hv_3) vX11_109 (hRK (by decide) (by decide)) obC5 (by decide) rfl rfl rfl hl.1 (Nat.le_of_ble_eq_true rfl) (hcK hT) dX11_giveOfTwo_83 (fun H locs w => ?_)
      refine lv_if_eq (tgt := 93) C.1 C.2.1 dX11_giveOfTwo_86 (by decide) (fun hc => ?_) (fun hc => ?_)
      · replace h := ift hc h
        have hkn := nq_kap nn
        refine W.widen (k := kap S - kap S0) (n := 2 * (kap S - kap S0)) (by omega) (by omega) ?_
        exact w_WS_giveOfTwo_93 C hr hk hcn hcw ha (by omega) w (lv_sub hl [] rfl) h
      · replace h := iff0 hc h
        refine lv_iconst (v := 1) C.1 C.2.1 dX11_giveOfTwo_89 (by decide) ?_
        refine lv_goto (tgt := 94) C.1 C.2.1 dX11_giveOfTwo_90 (by decide) ?_
        have hkn := nq_kap nn
        refine W.widen (k := kap S - kap S0) (n := 2 * (kap S - kap S0)) (by omega) (by omega) ?_
        exact w_WS_giveOfTwo_94 C hr hk hcn hcw ha (by omega) w (lv_sub hl [] rfl) h
  replace h := iff0 hz8_1 h
  by_cases hz8_2 : (swT.getD e_2 0) = (40 : Int32)
  · replace h := ift hz8_2 h
    refine lv_tableIn (off := 90) (tgt := 98) C.1 C.2.1 dX11_giveOfTwo_8 (by rw [hz8_2]; decide) (by rw [hz8_2]; decide) (by rw [hz8_2]; decide +kernel) (by decide) ?_
    refine lv_aload_n C.1 C.2.1 dX11_giveOfTwo_98 rfl (lv_at hl 0 rfl) ?_
    refine lv_iload_n C.1 C.2.1 dX11_giveOfTwo_99 rfl (lv_at hl 3 rfl) ?_
    refine lv_iconst (v := (-1)) C.1 C.2.1 dX11_giveOfTwo_100 (by decide) ?_
    refine lv_icmp_eq (tgt := 120) C.1 C.2.1 dX11_giveOfTwo_101 (by decide) (fun hc => ?_) (fun hc => ?_)
    · replace h := ift hc h
      have hkn := nq_kap nn
      refine W.widen (k := kap S - kap S0) (n := 2 * (kap S - kap S0)) (by omega) (by omega) ?_
      exact w_WS_giveOfTwo_120 C hr hk hcn hcw ha (by omega) w (lv_sub hl [] rfl) h
    · replace h := iff0 hc h
      refine lv_aload_n C.1 C.2.1 dX11_giveOfTwo_104 rfl (lv_at hl 0 rfl) ?_
      refine x_getC C w 5 fX11_21 obC8 rfl dX11_giveOfTwo_105 ?_
      refine lv_iload_n C.1 C.2.1 dX11_giveOfTwo_108 rfl (lv_at hl 2 rfl) ?_
      refine lv_iload_n C.1 C.2.1 dX11_giveOfTwo_109 rfl (lv_at hl 3 rfl) ?_
      obtain ⟨v_4, hv_4, h⟩ := bnd h
      refine x_callVi (q := (RX10, TX10, 5)) (As := [.int x2, .int x3]) (rest := [.ref (ρ_1 8)]) C w (k_Tx_areAlike l D T ρ_1 g H.size S hv_4) vX11_113 (hRK (by decide) (by decide)) obC5 (by decide) rfl rfl rfl hl.1 (Nat.le_of_ble_eq_true rfl) (hcK hT) dX11_giveOfTwo_110 (fun H locs w => ?_)
      refine lv_if_eq (tgt := 120) C.1 C.2.1 dX11_giveOfTwo_113 (by decide) (fun hc => ?_) (fun hc => ?_)
      · replace h := ift hc h
        have hkn := nq_kap nn
        refine W.widen (k := kap S - kap S0) (n := 2 * (kap S - kap S0)) (by omega) (by omega) ?_
        exact w_WS_giveOfTwo_120 C hr hk hcn hcw ha (by omega) w (lv_sub hl [] rfl) h
      · replace h := iff0 hc h
        refine lv_iconst (v := 1) C.1 C.2.1 dX11_giveOfTwo_116 (by decide) ?_
        refine lv_goto (tgt := 121) C.1 C.2.1 dX11_giveOfTwo_117 (by decide) ?_
        have hkn := nq_kap nn
        refine W.widen (k := kap S - kap S0) (n := 2 * (kap S - kap S0)) (by omega) (by omega) ?_
        exact w_WS_giveOfTwo_121 C hr hk hcn hcw ha (by omega) w (lv_sub hl [] rfl) h
  replace h := iff0 hz8_2 h
  by_cases hz8_3 : (swT.getD e_2 0) = (41 : Int32)
  · replace h := ift hz8_3 h
    refine lv_tableIn (off := 117) (tgt := 125) C.1 C.2.1 dX11_giveOfTwo_8 (by rw [hz8_3]; decide) (by rw [hz8_3]; decide) (by rw [hz8_3]; decide +kernel) (by decide) ?_
    refine lv_aload_n C.1 C.2.1 dX11_giveOfTwo_125 rfl (lv_at hl 0 rfl) ?_
    refine x_getC C w 4 fX11_9 obC8 rfl dX11_giveOfTwo_126 ?_
    refine lv_aload_n C.1 C.2.1 dX11_giveOfTwo_129 rfl (lv_at hl 0 rfl) ?_
    refine x_getC C w 5 fX11_21 obC8 rfl dX11_giveOfTwo_130 ?_
    refine x_getC C w 18 fX11_116 obC5 rfl dX11_giveOfTwo_133 ?_
    refine lv_aload_n C.1 C.2.1 dX11_giveOfTwo_136 rfl (lv_at hl 0 rfl) ?_
    refine x_getC C w 5 fX11_21 obC8 rfl dX11_giveOfTwo_137 ?_
    refine lv_iload_n C.1 C.2.1 dX11_giveOfTwo_140 rfl (lv_at hl 2 rfl) ?_
    obtain ⟨v_5, hv_5, h⟩ := bnd h
    refine x_callVi (q := (RX10, TX10, 5)) (As := [.int x2]) (rest := [.ref (ρ_1 18), .ref (ρ_1 4)]) C w (k_Tx_startOf l D T ρ_1 g H.size S hv_5) vX11_119 (hRK (by decide) (by decide)) obC5 (by decide) rfl rfl rfl hl.1 (Nat.le_of_ble_eq_true rfl) (hcK hT) dX11_giveOfTwo_141 (fun H locs w => ?_)
    refine lv_aload_n C.1 C.2.1 dX11_giveOfTwo_144 rfl (lv_at hl 0 rfl) ?_
    refine x_getC C w 5 fX11_21 obC8 rfl dX11_giveOfTwo_145 ?_
    refine lv_iload_n C.1 C.2.1 dX11_giveOfTwo_148 rfl (lv_at hl 2 rfl) ?_
    obtain ⟨v_6, hv_6, h⟩ := bnd h
    refine x_callVi (q := (RX10, TX10, 5)) (As := [.int x2]) (rest := [.int v_5, .ref (ρ_1 18), .ref (ρ_1 4)]) C w (k_Tx_endOf l D T ρ_1 g H.size S hv_6) vX11_122 (hRK (by decide) (by decide)) obC5 (by decide) rfl rfl rfl hl.1 (Nat.le_of_ble_eq_true rfl) (hcK hT) dX11_giveOfTwo_149 (fun H locs w => ?_)
    refine lv_aload_n C.1 C.2.1 dX11_giveOfTwo_152 rfl (lv_at hl 0 rfl) ?_
    refine x_getC C w 5 fX11_21 obC8 rfl dX11_giveOfTwo_153 ?_
    refine x_getC C w 18 fX11_116 obC5 rfl dX11_giveOfTwo_156 ?_
    refine lv_aload_n C.1 C.2.1 dX11_giveOfTwo_159 rfl (lv_at hl 0 rfl) ?_
    refine x_getC C w 5 fX11_21 obC8 rfl dX11_giveOfTwo_160 ?_
    refine lv_iload_n C.1 C.2.1 dX11_giveOfTwo_163 rfl (lv_at hl 3 rfl) ?_
    obtain ⟨v_7, hv_7, h⟩ := bnd h
    refine x_callVi (q := (RX10, TX10, 5)) (As := [.int x3]) (rest := [.ref (ρ_1 18), .int v_6, .int v_5, .ref (ρ_1 18), .ref (ρ_1 4)]) C w (k_Tx_startOf l D T ρ_1 g H.size S hv_7) vX11_119 (hRK (by decide) (by decide)) obC5 (by decide) rfl rfl rfl hl.1 (Nat.le_of_ble_eq_true rfl) (hcK hT) dX11_giveOfTwo_164 (fun H locs w => ?_)
    refine lv_aload_n C.1 C.2.1 dX11_giveOfTwo_167 rfl (lv_at hl 0 rfl) ?_
    refine x_getC C w 5 fX11_21 obC8 rfl dX11_giveOfTwo_168 ?_
    refine lv_iload_n C.1 C.2.1 dX11_giveOfTwo_171 rfl (lv_at hl 3 rfl) ?_
    obtain ⟨v_8, hv_8, h⟩ := bnd h
    refine x_callVi (q := (RX10, TX10, 5)) (As := [.int x3]) (rest := [.int v_7, .ref (ρ_1 18), .int v_6, .int v_5, .ref (ρ_1 18), .ref (ρ_1 4)]) C w (k_Tx_endOf l D T ρ_1 g H.size S hv_8) vX11_122 (hRK (by decide) (by decide)) obC5 (by decide) rfl rfl rfl hl.1 (Nat.le_of_ble_eq_true rfl) (hcK hT) dX11_giveOfTwo_172 (fun H locs w => ?_)
    obtain ⟨v_9, hv_9, h⟩ := bnd h
    refine x_callVi (q := (RX6, TX6, 4)) (As := [.int v_5, .int v_6, .ref (ρ_1 18), .int v_7, .int v_8]) (rest := [.ref (ρ_1 4)]) C w (k_Row_orderTo l D T ρ_1 g H.size S obC18 obC18 hv_9) vX11_125 (hRK (by decide) (by decide)) obC18 (by decide) rfl rfl rfl hl.1 (Nat.le_of_ble_eq_true rfl) (hcK hT) dX11_giveOfTwo_175 (fun H locs w => ?_)
    refine lv_i2l C.1 C.2.1 dX11_giveOfTwo_178 rfl ?_
    obtain ⟨⟨S_10, v_11⟩, hv_11, h⟩ := bnd h
    replace nn : nq S_10 S := nq_tr (kq_Bn_giveWhole hv_11) nn
    refine x_callVi (q := (RX1, TX1, 12)) (As := [.long (v_9.toInt64)]) (rest := []) C w (k_Bn_giveWhole l D T ρ_1 g H.size S hv_11) vX11_44 (hRK (by decide) (by decide)) obC4 (by decide) rfl rfl rfl hl.1 (Nat.le_of_ble_eq_true rfl) (hcK hT) dX11_giveOfTwo_179 (fun H locs w => ?_)
    obtain ⟨rfl, rfl⟩ := prI h
    exact x_iretM C w ha hr hk dX11_giveOfTwo_182 (by have := nq_kap nn; omega) (by have := nq_kap nn; omega)
  replace h := iff0 hz8_3 h
  by_cases hz8_4 : (swT.getD e_2 0) = (42 : Int32)
  · replace h := ift hz8_4 h
    refine lv_tableIn (off := 175) (tgt := 183) C.1 C.2.1 dX11_giveOfTwo_8 (by rw [hz8_4]; decide) (by rw [hz8_4]; decide) (by rw [hz8_4]; decide +kernel) (by decide) ?_
    refine lv_aload_n C.1 C.2.1 dX11_giveOfTwo_183 rfl (lv_at hl 0 rfl) ?_
    refine lv_iload_n C.1 C.2.1 dX11_giveOfTwo_184 rfl (lv_at hl 2 rfl) ?_
    refine lv_iload_n C.1 C.2.1 dX11_giveOfTwo_185 rfl (lv_at hl 3 rfl) ?_
    obtain ⟨⟨S_12, v_13⟩, hv_13, h⟩ := bnd h
    replace nn : nq S_12 S := nq_tr (kq_WS_find hv_13) nn
    refine x_callVi (q := (RX11, TX11, 2)) (As := [.int x2, .int x3]) (rest := []) C w (k_WS_find l D T ρ_1 g H.size S hv_13) vX11_129 (hRK (by decide) (by decide)) obC8 (by decide) rfl rfl rfl hl.1 (Nat.le_of_ble_eq_true rfl) (hcK hT) dX11_giveOfTwo_186 (fun H locs w => ?_)
    obtain ⟨rfl, rfl⟩ := prI h
    exact x_iretM C w ha hr hk dX11_giveOfTwo_189 (by have := nq_kap nn; omega) (by have := nq_kap nn; omega)
  replace h := iff0 hz8_4 h
  by_cases hz8_5 : (swT.getD e_2 0) = (43 : Int32)
  · replace h := ift hz8_5 h
    refine lv_tableIn (off := 182) (tgt := 190) C.1 C.2.1 dX11_giveOfTwo_8 (by rw [hz8_5]; decide) (by rw [hz8_5]; decide) (by rw [hz8_5]; decide +kernel) (by decide) ?_
    refine lv_aload_n C.1 C.2.1 dX11_giveOfTwo_190 rfl (lv_at hl 0 rfl) ?_
    refine lv_iload_n C.1 C.2.1 dX11_giveOfTwo_191 rfl (lv_at hl 2 rfl) ?_
    refine lv_iload_n C.1 C.2.1 dX11_giveOfTwo_192 rfl (lv_at hl 3 rfl) ?_
    obtain ⟨⟨S_14, v_15⟩, hv_15, h⟩ := bnd h
    replace nn : nq S_14 S := nq_tr (kq_WS_findLast hv_15) nn
    refine x_callVi (q := (RX11, TX11, 2)) (As := [.int x2, .int x3]) (rest := []) C w (k_WS_findLast l D T ρ_1 g H.size S hv_15) vX11_133 (hRK (by decide) (by decide)) obC8 (by decide) rfl rfl rfl hl.1 (Nat.le_of_ble_eq_true rfl) (hcK hT) dX11_giveOfTwo_193 (fun H locs w => ?_)
    obtain ⟨rfl, rfl⟩ := prI h
    exact x_iretM C w ha hr hk dX11_giveOfTwo_196 (by have := nq_kap nn; omega) (by have := nq_kap nn; omega)
  replace h := iff0 hz8_5 h
  by_cases hz8_6 : (swT.getD e_2 0) = (44 : Int32)
  · replace h := ift hz8_6 h
    refine lv_tableIn (off := 189) (tgt := 197) C.1 C.2.1 dX11_giveOfTwo_8 (by rw [hz8_6]; decide) (by rw [hz8_6]; decide) (by rw [hz8_6]; decide +kernel) (by decide) ?_
    refine lv_aload_n C.1 C.2.1 dX11_giveOfTwo_197 rfl (lv_at hl 0 rfl) ?_
    refine lv_aload_n C.1 C.2.1 dX11_giveOfTwo_198 rfl (lv_at hl 0 rfl) ?_
    refine x_getC C w 5 fX11_21 obC8 rfl dX11_giveOfTwo_199 ?_
    refine lv_iload_n C.1 C.2.1 dX11_giveOfTwo_202 rfl (lv_at hl 3 rfl) ?_
    refine lv_aload_n C.1 C.2.1 dX11_giveOfTwo_203 rfl (lv_at hl 0 rfl) ?_
    refine x_getC C w 4 fX11_9 obC8 rfl dX11_giveOfTwo_204 ?_
    refine lv_iconst (v := 3) C.1 C.2.1 dX11_giveOfTwo_207 (by decide) ?_
    refine lv_aload_n C.1 C.2.1 dX11_giveOfTwo_208 rfl (lv_at hl 0 rfl) ?_
    refine x_getC C w 5 fX11_21 obC8 rfl dX11_giveOfTwo_209 ?_
    refine lv_iload_n C.1 C.2.1 dX11_giveOfTwo_212 rfl (lv_at hl 2 rfl) ?_
    obtain ⟨v_16, hv_16, h⟩ := bnd h
    refine x_callVi (q := (RX10, TX10, 5)) (As := [.int x2]) (rest := [.int (3 : Int32), .ref (ρ_1 4), .int x3, .ref (ρ_1 5), .ref (ρ_1 8)]) C w (k_Tx_sizeOf l D T ρ_1 g H.size S hv_16) vX11_80 (hRK (by decide) (by decide)) obC5 (by decide) rfl rfl rfl hl.1 (Nat.le_of_ble_eq_true rfl) (hcK hT) dX11_giveOfTwo_213 (fun H locs w => ?_)
    obtain ⟨v_17, hv_17, h⟩ := bnd h
    refine x_callVi (q := (RX1, TX1, 12)) (As := [.int (3 : Int32), .int v_16]) (rest := [.int x3, .ref (ρ_1 5), .ref (ρ_1 8)]) C w (k_Bn_placeAt l D T ρ_1 g H.size S hv_17) vX11_136 (hRK (by decide) (by decide)) obC4 (by decide) rfl rfl rfl hl.1 (Nat.le_of_ble_eq_true rfl) (hcK hT) dX11_giveOfTwo_216 (fun H locs w => ?_)
    refine lv_iload_n C.1 C.2.1 dX11_giveOfTwo_219 rfl (lv_at hl 2 rfl) ?_
    obtain ⟨v_18, hv_18, h⟩ := bnd h
    refine x_callVi (q := (RX10, TX10, 5)) (As := [.int x3, .int v_17, .int x2]) (rest := [.ref (ρ_1 8)]) C w (k_Tx_stands l D T ρ_1 g H.size S hv_18) vX11_139 (hRK (by decide) (by decide)) obC5 (by decide) rfl rfl rfl hl.1 (Nat.le_of_ble_eq_true rfl) (hcK hT) dX11_giveOfTwo_220 (fun H locs w => ?_)
    obtain ⟨⟨S_19, v_20⟩, hv_20, h⟩ := bnd h
    replace nn : nq S_19 S := nq_tr (kq_WS_giveTruth hv_20) nn
    refine x_callVi (q := (RX11, TX11, 2)) (As := [.int v_18]) (rest := []) C w (k_WS_giveTruth l D T ρ_1 g H.size S hv_20) vX11_105 (hRK (by decide) (by decide)) obC8 (by decide) rfl rfl rfl hl.1 (Nat.le_of_ble_eq_true rfl) (hcK hT) dX11_giveOfTwo_223 (fun H locs w => ?_)
    obtain ⟨rfl, rfl⟩ := prI h
    exact x_iretM C w ha hr hk dX11_giveOfTwo_226 (by have := nq_kap nn; omega) (by have := nq_kap nn; omega)
  replace h := iff0 hz8_6 h
  by_cases hz8_7 : (swT.getD e_2 0) = (45 : Int32)
  · replace h := ift hz8_7 h
    refine lv_tableIn (off := 219) (tgt := 227) C.1 C.2.1 dX11_giveOfTwo_8 (by rw [hz8_7]; decide) (by rw [hz8_7]; decide) (by rw [hz8_7]; decide +kernel) (by decide) ?_
    refine lv_aload_n C.1 C.2.1 dX11_giveOfTwo_227 rfl (lv_at hl 0 rfl) ?_
    refine lv_aload_n C.1 C.2.1 dX11_giveOfTwo_228 rfl (lv_at hl 0 rfl) ?_
    refine x_getC C w 5 fX11_21 obC8 rfl dX11_giveOfTwo_229 ?_
    refine lv_iload_n C.1 C.2.1 dX11_giveOfTwo_232 rfl (lv_at hl 3 rfl) ?_
    refine lv_aload_n C.1 C.2.1 dX11_giveOfTwo_233 rfl (lv_at hl 0 rfl) ?_
    refine x_getC C w 5 fX11_21 obC8 rfl dX11_giveOfTwo_234 ?_
    refine lv_iload_n C.1 C.2.1 dX11_giveOfTwo_237 rfl (lv_at hl 2 rfl) ?_
    obtain ⟨v_21, hv_21, h⟩ := bnd h
    refine x_callVi (q := (RX10, TX10, 5)) (As := [.int x2]) (rest := [.int x3, .ref (ρ_1 5), .ref (ρ_1 8)]) C w (k_Tx_sizeOf l D T ρ_1 g H.size S hv_21) vX11_80 (hRK (by decide) (by decide)) obC5 (by decide) rfl rfl rfl hl.1 (Nat.le_of_ble_eq_true rfl) (hcK hT) dX11_giveOfTwo_238 (fun H locs w => ?_)
    refine lv_aload_n C.1 C.2.1 dX11_giveOfTwo_241 rfl (lv_at hl 0 rfl) ?_
    refine x_getC C w 5 fX11_21 obC8 rfl dX11_giveOfTwo_242 ?_
    refine lv_iload_n C.1 C.2.1 dX11_giveOfTwo_245 rfl (lv_at hl 3 rfl) ?_
    obtain ⟨v_22, hv_22, h⟩ := bnd h
    refine x_callVi (q := (RX10, TX10, 5)) (As := [.int x3]) (rest := [.int v_21, .int x3, .ref (ρ_1 5), .ref (ρ_1 8)]) C w (k_Tx_sizeOf l D T ρ_1 g H.size S hv_22) vX11_80 (hRK (by decide) (by decide)) obC5 (by decide) rfl rfl rfl hl.1 (Nat.le_of_ble_eq_true rfl) (hcK hT) dX11_giveOfTwo_246 (fun H locs w => ?_)
    refine lv_isub C.1 C.2.1 dX11_giveOfTwo_249 ?_
    refine lv_iload_n C.1 C.2.1 dX11_giveOfTwo_250 rfl (lv_at hl 2 rfl) ?_
    obtain ⟨v_23, hv_23, h⟩ := bnd h
    refine x_callVi (q := (RX10, TX10, 5)) (As := [.int x3, .int (v_21 - v_22), .int x2]) (rest := [.ref (ρ_1 8)]) C w (k_Tx_stands l D T ρ_1 g H.size S hv_23) vX11_139 (hRK (by decide) (by decide)) obC5 (by decide) rfl rfl rfl hl.1 (Nat.le_of_ble_eq_true rfl) (hcK hT) dX11_giveOfTwo_251 (fun H locs w => ?_)
    obtain ⟨⟨S_24, v_25⟩, hv_25, h⟩ := bnd h
    replace nn : nq S_24 S := nq_tr (kq_WS_giveTruth hv_25) nn
    refine x_callVi (q := (RX11, TX11, 2)) (As := [.int v_23]) (rest := []) C w (k_WS_giveTruth l D T ρ_1 g H.size S hv_25) vX11_105 (hRK (by decide) (by decide)) obC8 (by decide) rfl rfl rfl hl.1 (Nat.le_of_ble_eq_true rfl) (hcK hT) dX11_giveOfTwo_254 (fun H locs w => ?_)
    obtain ⟨rfl, rfl⟩ := prI h
    exact x_iretM C w ha hr hk dX11_giveOfTwo_257 (by have := nq_kap nn; omega) (by have := nq_kap nn; omega)
  replace h := iff0 hz8_7 h
  refine lv_tableOut (tgt := 258) C.1 C.2.1 dX11_giveOfTwo_8 (by have g0 := i_ne (v := (38 : Int32)) (k := 38) (by decide) hz8_0; have g1 := i_ne (v := (39 : Int32)) (k := 39) (by decide) hz8_1; have g2 := i_ne (v := (40 : Int32)) (k := 40) (by decide) hz8_2; have g3 := i_ne (v := (41 : Int32)) (k := 41) (by decide) hz8_3; have g4 := i_ne (v := (42 : Int32)) (k := 42) (by decide) hz8_4; have g5 := i_ne (v := (43 : Int32)) (k := 43) (by decide) hz8_5; have g6 := i_ne (v := (44 : Int32)) (k := 44) (by decide) hz8_6; have g7 := i_ne (v := (45 : Int32)) (k := 45) (by decide) hz8_7; omega) (by decide) ?_
  refine lv_iconst (v := 0) C.1 C.2.1 dX11_giveOfTwo_258 (by decide) ?_
  obtain ⟨rfl, rfl⟩ := prI h
  exact x_iretM C w ha hr hk dX11_giveOfTwo_259 (by have := nq_kap nn; omega) (by have := nq_kap nn; omega)
end S_WS_giveOfTwo
set_option maxRecDepth 100000 in
theorem k_WS_giveOfTwo (l : Launch) (Z : Ad) (D : va_G) (T : Cy) (ρ : Nat → Nat) (g sz : Nat) (S : St) {x1 : Nat} {x2 : Int32} {x3 : Int32} (ho_x1 : x1 < 56) {S' : St} {r : Int32} (h : m_WS_giveOfTwo g S x1 x2 x3 = some (S', r)) : MiC l Z D T ρ yX11_giveOfTwo cX11_giveOfTwo 4 (some .int) 4 91 S S' r [.ref (ρ 8), .ref (Z.1 x1), .int x2, .int x3] sz :=
  x_inC (by decide) (Nat.le_of_ble_eq_true rfl) (fun p e s m below meth c ls C hr hk hcn hcw w hl => W.widen (Nat.zero_le _) (Nat.zero_le _) (w_WS_giveOfTwo_0 C hr hk hcn hcw Ag.rf (Nat.le_refl _) w hl ho_x1 h))

theorem dX11_truth_0 : decode cX11_truth 0 = .ok (.aload_n 0, 1) := by decide +kernel
theorem dX11_truth_1 : decode cX11_truth 1 = .ok (.getfield 9, 3) := by decide +kernel
theorem dX11_truth_4 : decode cX11_truth 4 = .ok (.iconst 1, 1) := by decide +kernel
theorem dX11_truth_5 : decode cX11_truth 5 = .ok (.invokevirtual 72, 3) := by decide +kernel
theorem dX11_truth_8 : decode cX11_truth 8 = .ok (.istore_n 1, 1) := by decide +kernel
theorem dX11_truth_9 : decode cX11_truth 9 = .ok (.ldc 160, 2) := by decide +kernel
theorem dX11_truth_11 : decode cX11_truth 11 = .ok (.astore_n 2, 1) := by decide +kernel
theorem dX11_truth_12 : decode cX11_truth 12 = .ok (.iload_n 1, 1) := by decide +kernel
theorem dX11_truth_13 : decode cX11_truth 13 = .ok (.iconst (-1), 1) := by decide +kernel
theorem dX11_truth_14 : decode cX11_truth 14 = .ok (.if_icmp .eq 22, 3) := by decide +kernel
theorem dX11_truth_17 : decode cX11_truth 17 = .ok (.aload_n 0, 1) := by decide +kernel
theorem dX11_truth_18 : decode cX11_truth 18 = .ok (.getfield 21, 3) := by decide +kernel
theorem dX11_truth_21 : decode cX11_truth 21 = .ok (.iload_n 1, 1) := by decide +kernel
theorem dX11_truth_22 : decode cX11_truth 22 = .ok (.invokevirtual 80, 3) := by decide +kernel
theorem dX11_truth_25 : decode cX11_truth 25 = .ok (.aload_n 2, 1) := by decide +kernel
theorem dX11_truth_26 : decode cX11_truth 26 = .ok (.invokevirtual 162, 3) := by decide +kernel
theorem dX11_truth_29 : decode cX11_truth 29 = .ok (.if_icmp .ne 7, 3) := by decide +kernel
theorem dX11_truth_32 : decode cX11_truth 32 = .ok (.iconst 1, 1) := by decide +kernel
theorem dX11_truth_33 : decode cX11_truth 33 = .ok (.goto 4, 3) := by decide +kernel
theorem dX11_truth_36 : decode cX11_truth 36 = .ok (.iconst 0, 1) := by decide +kernel
theorem dX11_truth_37 : decode cX11_truth 37 = .ok (.istore_n 3, 1) := by decide +kernel
theorem dX11_truth_38 : decode cX11_truth 38 = .ok (.iconst 0, 1) := by decide +kernel
theorem dX11_truth_39 : decode cX11_truth 39 = .ok (.istore 4, 2) := by decide +kernel
theorem dX11_truth_41 : decode cX11_truth 41 = .ok (.iload_n 3, 1) := by decide +kernel
theorem dX11_truth_42 : decode cX11_truth 42 = .ok (.ifCond .eq 38, 3) := by decide +kernel
theorem dX11_truth_45 : decode cX11_truth 45 = .ok (.iload 4, 2) := by decide +kernel
theorem dX11_truth_47 : decode cX11_truth 47 = .ok (.aload_n 2, 1) := by decide +kernel
theorem dX11_truth_48 : decode cX11_truth 48 = .ok (.invokevirtual 162, 3) := by decide +kernel
theorem dX11_truth_51 : decode cX11_truth 51 = .ok (.if_icmp .ge 29, 3) := by decide +kernel
theorem dX11_truth_54 : decode cX11_truth 54 = .ok (.aload_n 0, 1) := by decide +kernel
theorem dX11_truth_55 : decode cX11_truth 55 = .ok (.getfield 21, 3) := by decide +kernel
theorem dX11_truth_58 : decode cX11_truth 58 = .ok (.iload_n 1, 1) := by decide +kernel
theorem dX11_truth_59 : decode cX11_truth 59 = .ok (.iload 4, 2) := by decide +kernel
theorem dX11_truth_61 : decode cX11_truth 61 = .ok (.invokevirtual 151, 3) := by decide +kernel
theorem dX11_truth_64 : decode cX11_truth 64 = .ok (.aload_n 2, 1) := by decide +kernel
theorem dX11_truth_65 : decode cX11_truth 65 = .ok (.iload 4, 2) := by decide +kernel
theorem dX11_truth_67 : decode cX11_truth 67 = .ok (.invokevirtual 167, 3) := by decide +kernel
theorem dX11_truth_70 : decode cX11_truth 70 = .ok (.invokestatic 171, 3) := by decide +kernel
theorem dX11_truth_73 : decode cX11_truth 73 = .ok (.istore_n 3, 1) := by decide +kernel
theorem dX11_truth_74 : decode cX11_truth 74 = .ok (.iinc 4 1, 3) := by decide +kernel
theorem dX11_truth_77 : decode cX11_truth 77 = .ok (.goto (-36), 3) := by decide +kernel
theorem dX11_truth_80 : decode cX11_truth 80 = .ok (.aload_n 0, 1) := by decide +kernel
theorem dX11_truth_81 : decode cX11_truth 81 = .ok (.iload_n 3, 1) := by decide +kernel
theorem dX11_truth_82 : decode cX11_truth 82 = .ok (.invokevirtual 105, 3) := by decide +kernel
theorem dX11_truth_85 : decode cX11_truth 85 = .ok (.ireturn, 1) := by decide +kernel
def m_WS_truth_80 (g : Nat) (S : St) (x3 : Int32) : Option (St × Int32) :=
(m_WS_giveTruth g S x3).bind fun (S_2, v_3) =>
some (S_2, v_3)
def b_WS_truth_41 (g : Nat) (k41 : St → Int32 → Nat → Int32 → Int32 → Option (St × Int32)) (S : St) (x1 : Int32) (x2 : Nat) (x3 : Int32) (x4 : Int32) : Option (St × Int32) :=
if x3 = 0 then (
  m_WS_truth_80 g S x3
) else (
  if (sLen x2) ≤ x4 then (
    m_WS_truth_80 g S x3
  ) else (
    (m_Tx_unitOf g S x1 x4).bind fun v_3 =>
    (cC x2 x4).bind fun v_5 =>
    (m_Lt_areAlike g v_3 v_5).bind fun v_6 =>
    lt (x4 + (1 : Int32)) fun x4_7 =>
    k41 S x1 x2 v_6 x4_7
  )
)
def m_WS_truth_41 (g : Nat) : Nat → St → Int32 → Nat → Int32 → Int32 → Option (St × Int32)
  | 0, _, _, _, _, _ => none
  | n + 1, S, x1, x2, x3, x4 => b_WS_truth_41 g (m_WS_truth_41 g n) S x1 x2 x3 x4
def m_WS_truth (g : Nat) (S : St) : Option (St × Int32) :=
(m_Bn_textAt g S (1 : Int32)).bind fun v_1 =>
if v_1 = (-1 : Int32) then (
  m_WS_truth_41 g g S v_1 8 (0 : Int32) (0 : Int32)
) else (
  (m_Tx_sizeOf g S v_1).bind fun v_2 =>
  if v_2 = (sLen 8) then (
    m_WS_truth_41 g g S v_1 8 (1 : Int32) (0 : Int32)
  ) else (
    m_WS_truth_41 g g S v_1 8 (0 : Int32) (0 : Int32)
  )
)
theorem km_WS_truth_80 {g : Nat} {S : St} {x3 : Int32} {S' : St} {r : Int32} (h : m_WS_truth_80 g S x3 = some (S', r)) : kap S ≤ kap S' := by
  unfold m_WS_truth_80 at h
  have nn : nq S S := nq_rf
  obtain ⟨⟨S_2, v_3⟩, hv_3, h⟩ := bnd h
  replace nn : nq S_2 S := nq_tr (kq_WS_giveTruth hv_3) nn
  obtain ⟨rfl, rfl⟩ := prI h
  have hkn := nq_kap nn
  omega
theorem kmb_WS_truth_41 {g : Nat} {S : St} {x1 : Int32} {x2 : Nat} {x3 : Int32} {x4 : Int32} {S' : St} {r : Int32} {k41 : St → Int32 → Nat → Int32 → Int32 → Option (St × Int32)} (km41 : ∀ (S : St) (x1 : Int32) (x2 : Nat) (x3 : Int32) (x4 : Int32), k41 S x1 x2 x3 x4 = some (S', r) → kap S ≤ kap S') (h : b_WS_truth_41 g k41 S x1 x2 x3 x4 = some (S', r)) : kap S ≤ kap S' := by
  unfold b_WS_truth_41 at h
  have nn : nq S S := nq_rf
  by_cases hc1 : x3 = 0
  · replace h := ift hc1 h
    have hkn := nq_kap nn
    have h2 := km_WS_truth_80 h
    omega
  · replace h := iff0 hc1 h
    by_cases hc2 : (sLen x2) ≤ x4
    · replace h := ift hc2 h
      have hkn := nq_kap nn
      have h2 := km_WS_truth_80 h
      omega
    · replace h := iff0 hc2 h
      obtain ⟨v_3, hv_3, h⟩ := bnd h
      obtain ⟨v_5, hv_5, h⟩ := bnd h
      obtain ⟨v_6, hv_6, h⟩ := bnd h
      obtain ⟨x4_7, ex4_7, h⟩ := lt_e h
      have hkn := nq_kap nn
      have h2 := km41 _ _ _ _ _ h
      omega
theorem km_WS_truth_41 {g : Nat} {S' : St} {r : Int32} (n : Nat) : ∀ (S : St) (x1 : Int32) (x2 : Nat) (x3 : Int32) (x4 : Int32), m_WS_truth_41 g n S x1 x2 x3 x4 = some (S', r) → kap S ≤ kap S' := by
  induction n with
  | zero => intro S x1 x2 x3 x4 h; exact absurd h (fun q => by cases q)
  | succ n ih => intro S x1 x2 x3 x4 h; exact kmb_WS_truth_41 ih h
theorem km_WS_truth {g : Nat} {S : St} {S' : St} {r : Int32} (h : m_WS_truth g S = some (S', r)) : kap S ≤ kap S' := by
  unfold m_WS_truth at h
  have nn : nq S S := nq_rf
  obtain ⟨v_1, hv_1, h⟩ := bnd h
  by_cases hc1 : v_1 = (-1 : Int32)
  · replace h := ift hc1 h
    have hkn := nq_kap nn
    have h2 := km_WS_truth_41 g _ _ _ _ _ h
    omega
  · replace h := iff0 hc1 h
    obtain ⟨v_2, hv_2, h⟩ := bnd h
    by_cases hc2 : v_2 = (sLen 8)
    · replace h := ift hc2 h
      have hkn := nq_kap nn
      have h2 := km_WS_truth_41 g _ _ _ _ _ h
      omega
    · replace h := iff0 hc2 h
      have hkn := nq_kap nn
      have h2 := km_WS_truth_41 g _ _ _ _ _ h
      omega
section S_WS_truth
variable {p : Program} {l : Launch} {e : Env} {s : State} {m : MethodId} {args : Array Value} {below : List Frame} {meth : Method} {c : Code} {H : Heap} {locs : List Loc} {ls : Array Slot} {D : va_G} {T : Cy} {ρ ρ0 : Nat → Nat} {S0 : St} {A : Nat → Prop} {Z : Ad}
set_option maxRecDepth 100000 in
set_option maxHeartbeats 4000000 in
theorem w_WS_truth_80 {g : Nat} {S : St} {x3 : Int32} (C : CallFix p m c cX11_truth 5 s args tb RX11) (hr : meth.sig.returnType = (some .int)) (hk : meth.locks = false) (hcn : Kn Z A s s.heap) (hcw : Kw Z s) {S' : St} {r : Int32} (ha : Ag ρ0 ρ) (hm : kap S0 ≤ kap S) (w : Wn Yc D T ρ S A s H locs) (hl : lv_has ls 5 [(0, .ref (ρ 8)), (3, .int x3)]) (h : m_WS_truth_80 g S x3 = some (S', r)) : W p l e (rmK 4 85 (kap S' - kap S0)) s m args below meth c H locs (kap S - kap S0) (2 * (kap S - kap S0)) (MQ below (QiM D T ρ0 A S' r) args s (kap S' - kap S0) (2 * (kap S' - kap S0)) A) (F0 m 80 ls []) := by
  have hT := km_WS_truth_80 h
  unfold m_WS_truth_80 at h
  have nn : nq S S := nq_rf
  refine lv_aload_n C.1 C.2.1 dX11_truth_80 rfl (lv_at hl 0 rfl) ?_
  refine lv_iload_n C.1 C.2.1 dX11_truth_81 rfl (lv_at hl 1 rfl) ?_
  obtain ⟨⟨S_2, v_3⟩, hv_3, h⟩ := bnd h
  replace nn : nq S_2 S := nq_tr (kq_WS_giveTruth hv_3) nn
  refine x_callVi (q := (RX11, TX11, 2)) (As := [.int x3]) (rest := []) C w (k_WS_giveTruth l D T ρ g H.size S hv_3) vX11_105 (hRK (by decide) (by decide)) obC8 (by decide) rfl rfl rfl hl.1 (Nat.le_of_ble_eq_true rfl) (hcK hT) dX11_truth_82 (fun H locs w => ?_)
  obtain ⟨rfl, rfl⟩ := prI h
  exact x_iretM C w ha hr hk dX11_truth_85 (by have := nq_kap nn; omega) (by have := nq_kap nn; omega)
set_option maxRecDepth 100000 in
set_option maxHeartbeats 4000000 in
theorem wb_WS_truth_41 {g : Nat} {S : St} {x1 : Int32} {x2 : Nat} {x3 : Int32} {x4 : Int32} (C : CallFix p m c cX11_truth 5 s args tb RX11) (hr : meth.sig.returnType = (some .int)) (hk : meth.locks = false) (hcn : Kn Z A s s.heap) (hcw : Kw Z s) {S' : St} {r : Int32} {k41 : St → Int32 → Nat → Int32 → Int32 → Option (St × Int32)} (kk41 : ∀ (ρ : Nat → Nat) (S : St) (x1 : Int32) (x2 : Nat) (x3 : Int32) (x4 : Int32) (H : Heap) (locs : List Loc) (ls : Array Slot), Ag ρ0 ρ → kap S0 ≤ kap S → Wn Yc D T ρ S A s H locs → lv_has ls 5 [(0, .ref (ρ 8)), (1, .int x1), (2, .ref (Z.2.2.2.1 x2)), (3, .int x3), (4, .int x4)] → x2 < 101 → k41 S x1 x2 x3 x4 = some (S', r) → W p l e (rmK 4 85 (kap S' - kap S0)) s m args below meth c H locs (kap S - kap S0) (2 * (kap S - kap S0)) (MQ below (QiM D T ρ0 A S' r) args s (kap S' - kap S0) (2 * (kap S' - kap S0)) A) (F0 m 41 ls [])) (km41 : ∀ (S : St) (x1 : Int32) (x2 : Nat) (x3 : Int32) (x4 : Int32), k41 S x1 x2 x3 x4 = some (S', r) → kap S ≤ kap S') (ha : Ag ρ0 ρ) (hm : kap S0 ≤ kap S) (w : Wn Yc D T ρ S A s H locs) (hl : lv_has ls 5 [(0, .ref (ρ 8)), (1, .int x1), (2, .ref (Z.2.2.2.1 x2)), (3, .int x3), (4, .int x4)]) (ho_x2 : x2 < 101) (h : b_WS_truth_41 g k41 S x1 x2 x3 x4 = some (S', r)) : W p l e (rmK 4 85 (kap S' - kap S0)) s m args below meth c H locs (kap S - kap S0) (2 * (kap S - kap S0)) (MQ below (QiM D T ρ0 A S' r) args s (kap S' - kap S0) (2 * (kap S' - kap S0)) A) (F0 m 41 ls []) := by
  have hT := kmb_WS_truth_41 km41 h
  unfold b_WS_truth_41 at h
  have nn : nq S S := nq_rf
  refine lv_iload_n C.1 C.2.1 dX11_truth_41 rfl (lv_at hl 3 rfl) ?_
  refine lv_if_eq (tgt := 80) C.1 C.2.1 dX11_truth_42 (by decide) (fun hc => ?_) (fun hc => ?_)
  · replace h := ift hc h
    have hkn := nq_kap nn
    refine W.widen (k := kap S - kap S0) (n := 2 * (kap S - kap S0)) (by omega) (by omega) ?_
    exact w_WS_truth_80 C hr hk hcn hcw ha (by omega) w (lv_sub hl [0, 3] rfl) h
  · replace h := iff0 hc h
    refine lv_iload C.1 C.2.1 dX11_truth_45 (lv_at hl 4 rfl) ?_
    refine lv_aload_n C.1 C.2.1 dX11_truth_47 rfl (lv_at hl 2 rfl) ?_
    refine x_callKi (As := []) (rest := [.int x4]) C w hcn hcw (hcn.2.2.2.2.2.2.2.1 _ ho_x2).1 (k_sLength l Z D T ρ H.size S ho_x2) vX11_162 (hRK (by decide) (by decide)) rfl rfl hl.1 (Nat.le_of_ble_eq_true rfl) (hcK hT) dX11_truth_48 (fun ρ_2 H locs hag w => ?_)
    replace ha := ha.trans hag
    rw [← hag 8 (by decide)] at hl
    refine lv_icmp_ge (tgt := 80) C.1 C.2.1 dX11_truth_51 (by decide) (fun hc => ?_) (fun hc => ?_)
    · replace h := ift hc h
      have hkn := nq_kap nn
      refine W.widen (k := kap S - kap S0) (n := 2 * (kap S - kap S0)) (by omega) (by omega) ?_
      exact w_WS_truth_80 C hr hk hcn hcw ha (by omega) w (lv_sub hl [0, 3] rfl) h
    · replace h := iff0 hc h
      refine lv_aload_n C.1 C.2.1 dX11_truth_54 rfl (lv_at hl 0 rfl) ?_
      refine x_getC C w 5 fX11_21 obC8 rfl dX11_truth_55 ?_
      refine lv_iload_n C.1 C.2.1 dX11_truth_58 rfl (lv_at hl 1 rfl) ?_
      refine lv_iload C.1 C.2.1 dX11_truth_59 (lv_at hl 4 rfl) ?_
      obtain ⟨v_3, hv_3, h⟩ := bnd h
      refine x_callVi (q := (RX10, TX10, 5)) (As := [.int x1, .int x4]) (rest := []) C w (k_Tx_unitOf l D T ρ_2 g H.size S hv_3) vX11_151 (hRK (by decide) (by decide)) obC5 (by decide) rfl rfl rfl hl.1 (Nat.le_of_ble_eq_true rfl) (hcK hT) dX11_truth_61 (fun H locs w => ?_)
      refine lv_aload_n C.1 C.2.1 dX11_truth_64 rfl (lv_at hl 2 rfl) ?_
      refine lv_iload C.1 C.2.1 dX11_truth_65 (lv_at hl 4 rfl) ?_
      obtain ⟨v_5, hv_5, h⟩ := bnd h
      obtain ⟨hiv_5, hev_5⟩ := cC_some hv_5
      refine x_callKi (r := v_5) (As := [.int x4]) (rest := [.int v_3]) C w hcn hcw (hcn.2.2.2.2.2.2.2.1 _ ho_x2).1 (hev_5 ▸ k_sCharAt l Z D T ρ_2 H.size S ho_x2 hiv_5) vX11_167 (hRK (by decide) (by decide)) rfl rfl hl.1 (Nat.le_of_ble_eq_true rfl) (hcK hT) dX11_truth_67 (fun ρ_4 H locs hag w => ?_)
      replace ha := ha.trans hag
      rw [← hag 8 (by decide)] at hl
      obtain ⟨v_6, hv_6, h⟩ := bnd h
      refine x_callSi (As := [.int v_3, .int v_5]) (rest := []) C w (k_Lt_areAlike l D T ρ_4 g H.size S hv_6) vX11_171 (hRK (by decide) (by decide)) rfl rfl hl.1 (Nat.le_of_ble_eq_true rfl) (hcK hT) dX11_truth_70 (fun H locs w => ?_)
      refine lv_istore_n (lv' := [(3, .int v_6), (0, .ref (ρ_4 8)), (1, .int x1), (2, .ref (Z.2.2.2.1 x2)), (4, .int x4)]) C.1 C.2.1 dX11_truth_73 rfl hl (by decide) rfl (fun ls hl => ?_)
      obtain ⟨x4_7, ex4_7, h⟩ := lt_e h
      refine lv_iinc (v := x4_7) (lv' := [(4, .int x4_7), (3, .int v_6), (0, .ref (ρ_4 8)), (1, .int x1), (2, .ref (Z.2.2.2.1 x2))]) C.1 C.2.1 dX11_truth_74 hl (k := 4) rfl (by rw [ex4_7]; rfl) (by decide) rfl (fun ls hl => ?_)
      refine lv_goto (tgt := 41) C.1 C.2.1 dX11_truth_77 (by decide) ?_
      have hkn := nq_kap nn
      refine W.widen (k := kap S - kap S0) (n := 2 * (kap S - kap S0)) (by omega) (by omega) ?_
      exact kk41 _ _ _ _ _ _ _ _ _ ha (by omega) w (lv_sub hl [2, 3, 4, 1, 0] rfl) ho_x2 h
theorem w_WS_truth_41 {g : Nat} (C : CallFix p m c cX11_truth 5 s args tb RX11) (hr : meth.sig.returnType = (some .int)) (hk : meth.locks = false) (hcn : Kn Z A s s.heap) (hcw : Kw Z s) {S' : St} {r : Int32} (n : Nat) : ∀ (ρ : Nat → Nat) (S : St) (x1 : Int32) (x2 : Nat) (x3 : Int32) (x4 : Int32) (H : Heap) (locs : List Loc) (ls : Array Slot), Ag ρ0 ρ → kap S0 ≤ kap S → Wn Yc D T ρ S A s H locs → lv_has ls 5 [(0, .ref (ρ 8)), (1, .int x1), (2, .ref (Z.2.2.2.1 x2)), (3, .int x3), (4, .int x4)] → x2 < 101 → m_WS_truth_41 g n S x1 x2 x3 x4 = some (S', r) → W p l e (rmK 4 85 (kap S' - kap S0)) s m args below meth c H locs (kap S - kap S0) (2 * (kap S - kap S0)) (MQ below (QiM D T ρ0 A S' r) args s (kap S' - kap S0) (2 * (kap S' - kap S0)) A) (F0 m 41 ls []) := by
  induction n with
  | zero => intro ρ S x1 x2 x3 x4 H locs ls ha hm w hl ho_x2 h; exact absurd h (fun q => by cases q)
  | succ n ih => intro ρ S x1 x2 x3 x4 H locs ls ha hm w hl ho_x2 h; exact wb_WS_truth_41 C hr hk hcn hcw ih (km_WS_truth_41 n) ha hm w hl ho_x2 h
set_option maxRecDepth 100000 in
set_option maxHeartbeats 4000000 in
theorem w_WS_truth_0 {g : Nat} {S : St} (C : CallFix p m c cX11_truth 5 s args tb RX11) (hr : meth.sig.returnType = (some .int)) (hk : meth.locks = false) (hcn : Kn Z A s s.heap) (hcw : Kw Z s) {S' : St} {r : Int32} (ha : Ag ρ0 ρ) (hm : kap S0 ≤ kap S) (w : Wn Yc D T ρ S A s H locs) (hl : lv_has ls 5 [(0, .ref (ρ 8))]) (h : m_WS_truth g S = some (S', r)) : W p l e (rmK 4 85 (kap S' - kap S0)) s m args below meth c H locs (kap S - kap S0) (2 * (kap S - kap S0)) (MQ below (QiM D T ρ0 A S' r) args s (kap S' - kap S0) (2 * (kap S' - kap S0)) A) (F0 m 0 ls []) := by
  have hT := km_WS_truth h
  unfold m_WS_truth at h
  have nn : nq S S := nq_rf
  refine lv_aload_n C.1 C.2.1 dX11_truth_0 rfl (lv_at hl 0 rfl) ?_
  refine x_getC C w 4 fX11_9 obC8 rfl dX11_truth_1 ?_
  refine lv_iconst (v := 1) C.1 C.2.1 dX11_truth_4 (by decide) ?_
  obtain ⟨v_1, hv_1, h⟩ := bnd h
  refine x_callVi (q := (RX1, TX1, 12)) (As := [.int (1 : Int32)]) (rest := []) C w (k_Bn_textAt l D T ρ g H.size S hv_1) vX11_72 (hRK (by decide) (by decide)) obC4 (by decide) rfl rfl rfl hl.1 (Nat.le_of_ble_eq_true rfl) (hcK hT) dX11_truth_5 (fun H locs w => ?_)
  refine lv_istore_n (lv' := [(1, .int v_1), (0, .ref (ρ 8))]) C.1 C.2.1 dX11_truth_8 rfl hl (by decide) rfl (fun ls hl => ?_)
  refine x_ldS (j := 8) (tx := "true") C hcw (List.mem_of_getElem? (i := 8) rfl) dX11_truth_9 ?_
  refine lv_astore_n (lv' := [(2, .ref (Z.2.2.2.1 8)), (1, .int v_1), (0, .ref (ρ 8))]) C.1 C.2.1 dX11_truth_11 rfl hl (by decide) rfl (fun ls hl => ?_)
  refine lv_iload_n C.1 C.2.1 dX11_truth_12 rfl (lv_at hl 1 rfl) ?_
  refine lv_iconst (v := (-1)) C.1 C.2.1 dX11_truth_13 (by decide) ?_
  refine lv_icmp_eq (tgt := 36) C.1 C.2.1 dX11_truth_14 (by decide) (fun hc => ?_) (fun hc => ?_)
  · replace h := ift hc h
    refine lv_iconst (v := 0) C.1 C.2.1 dX11_truth_36 (by decide) ?_
    refine lv_istore_n (lv' := [(3, .int (0 : Int32)), (2, .ref (Z.2.2.2.1 8)), (1, .int v_1), (0, .ref (ρ 8))]) C.1 C.2.1 dX11_truth_37 rfl hl (by decide) rfl (fun ls hl => ?_)
    refine lv_iconst (v := 0) C.1 C.2.1 dX11_truth_38 (by decide) ?_
    refine lv_istore (lv' := [(4, .int (0 : Int32)), (3, .int (0 : Int32)), (2, .ref (Z.2.2.2.1 8)), (1, .int v_1), (0, .ref (ρ 8))]) C.1 C.2.1 dX11_truth_39 hl (by decide) rfl (fun ls hl => ?_)
    have hkn := nq_kap nn
    refine W.widen (k := kap S - kap S0) (n := 2 * (kap S - kap S0)) (by omega) (by omega) ?_
    exact w_WS_truth_41 C hr hk hcn hcw g _ _ _ _ _ _ _ _ _ ha (by omega) w (lv_sub hl [4, 3, 2, 1, 0] rfl) (by decide) h
  · replace h := iff0 hc h
    refine lv_aload_n C.1 C.2.1 dX11_truth_17 rfl (lv_at hl 2 rfl) ?_
    refine x_getC C w 5 fX11_21 obC8 rfl dX11_truth_18 ?_
    refine lv_iload_n C.1 C.2.1 dX11_truth_21 rfl (lv_at hl 1 rfl) ?_
    obtain ⟨v_2, hv_2, h⟩ := bnd h
    refine x_callVi (q := (RX10, TX10, 5)) (As := [.int v_1]) (rest := []) C w (k_Tx_sizeOf l D T ρ g H.size S hv_2) vX11_80 (hRK (by decide) (by decide)) obC5 (by decide) rfl rfl rfl hl.1 (Nat.le_of_ble_eq_true rfl) (hcK hT) dX11_truth_22 (fun H locs w => ?_)
    refine lv_aload_n C.1 C.2.1 dX11_truth_25 rfl (lv_at hl 0 rfl) ?_
    refine x_callKi (As := []) (rest := [.int v_2]) C w hcn hcw (hcn.2.2.2.2.2.2.2.1 _ (by decide)).1 (k_sLength l Z D T ρ H.size S (by decide)) vX11_162 (hRK (by decide) (by decide)) rfl rfl hl.1 (Nat.le_of_ble_eq_true rfl) (hcK hT) dX11_truth_26 (fun ρ_3 H locs hag w => ?_)
    replace ha := ha.trans hag
    rw [← hag 8 (by decide)] at hl
    refine lv_icmp_ne (tgt := 36) C.1 C.2.1 dX11_truth_29 (by decide) (fun hc => ?_) (fun hc => ?_)
    · replace h := iff0 hc h
      refine lv_iconst (v := 0) C.1 C.2.1 dX11_truth_36 (by decide) ?_
      refine lv_istore_n (lv' := [(3, .int (0 : Int32)), (2, .ref (Z.2.2.2.1 8)), (1, .int v_1), (0, .ref (ρ_3 8))]) C.1 C.2.1 dX11_truth_37 rfl hl (by decide) rfl (fun ls hl => ?_)
      refine lv_iconst (v := 0) C.1 C.2.1 dX11_truth_38 (by decide) ?_
      refine lv_istore (lv' := [(4, .int (0 : Int32)), (3, .int (0 : Int32)), (2, .ref (Z.2.2.2.1 8)), (1, .int v_1), (0, .ref (ρ_3 8))]) C.1 C.2.1 dX11_truth_39 hl (by decide) rfl (fun ls hl => ?_)
      have hkn := nq_kap nn
      refine W.widen (k := kap S - kap S0) (n := 2 * (kap S - kap S0)) (by omega) (by omega) ?_
      exact w_WS_truth_41 C hr hk hcn hcw g _ _ _ _ _ _ _ _ _ ha (by omega) w (lv_sub hl [4, 3, 2, 1, 0] rfl) (by decide) h
    · replace h := ift hc h
      refine lv_iconst (v := 1) C.1 C.2.1 dX11_truth_32 (by decide) ?_
      refine lv_goto (tgt := 37) C.1 C.2.1 dX11_truth_33 (by decide) ?_
      refine lv_istore_n (lv' := [(3, .int (1 : Int32)), (2, .ref (Z.2.2.2.1 8)), (1, .int v_1), (0, .ref (ρ_3 8))]) C.1 C.2.1 dX11_truth_37 rfl hl (by decide) rfl (fun ls hl => ?_)
      refine lv_iconst (v := 0) C.1 C.2.1 dX11_truth_38 (by decide) ?_
      refine lv_istore (lv' := [(4, .int (0 : Int32)), (3, .int (1 : Int32)), (2, .ref (Z.2.2.2.1 8)), (1, .int v_1), (0, .ref (ρ_3 8))]) C.1 C.2.1 dX11_truth_39 hl (by decide) rfl (fun ls hl => ?_)
      have hkn := nq_kap nn
      refine W.widen (k := kap S - kap S0) (n := 2 * (kap S - kap S0)) (by omega) (by omega) ?_
      exact w_WS_truth_41 C hr hk hcn hcw g _ _ _ _ _ _ _ _ _ ha (by omega) w (lv_sub hl [4, 3, 2, 1, 0] rfl) (by decide) h
end S_WS_truth
set_option maxRecDepth 100000 in
theorem k_WS_truth (l : Launch) (Z : Ad) (D : va_G) (T : Cy) (ρ : Nat → Nat) (g sz : Nat) (S : St) {S' : St} {r : Int32} (h : m_WS_truth g S = some (S', r)) : MiC l Z D T ρ yX11_truth cX11_truth 5 (some .int) 4 85 S S' r [.ref (ρ 8)] sz :=
  x_inC (by decide) (Nat.le_of_ble_eq_true rfl) (fun p e s m below meth c ls C hr hk hcn hcw w hl => W.widen (Nat.zero_le _) (Nat.zero_le _) (w_WS_truth_0 C hr hk hcn hcw Ag.rf (Nat.le_refl _) w hl h))
