theorem dX6_add_0 : decode cX6_add 0 = .ok (.aload_n 0, 1) := by decide +kernel
theorem dX6_add_1 : decode cX6_add 1 = .ok (.getfield 19, 3) := by decide +kernel
theorem dX6_add_4 : decode cX6_add 4 = .ok (.aload_n 0, 1) := by decide +kernel
theorem dX6_add_5 : decode cX6_add 5 = .ok (.getfield 9, 3) := by decide +kernel
theorem dX6_add_8 : decode cX6_add 8 = .ok (.if_icmp .lt 9, 3) := by decide +kernel
theorem dX6_add_11 : decode cX6_add 11 = .ok (.aload_n 0, 1) := by decide +kernel
theorem dX6_add_12 : decode cX6_add 12 = .ok (.iconst 1, 1) := by decide +kernel
theorem dX6_add_13 : decode cX6_add 13 = .ok (.putfield 22, 3) := by decide +kernel
theorem dX6_add_16 : decode cX6_add 16 = .ok (.return_, 1) := by decide +kernel
theorem dX6_add_17 : decode cX6_add 17 = .ok (.aload_n 0, 1) := by decide +kernel
theorem dX6_add_18 : decode cX6_add 18 = .ok (.getfield 19, 3) := by decide +kernel
theorem dX6_add_21 : decode cX6_add 21 = .ok (.aload_n 0, 1) := by decide +kernel
theorem dX6_add_22 : decode cX6_add 22 = .ok (.getfield 15, 3) := by decide +kernel
theorem dX6_add_25 : decode cX6_add 25 = .ok (.arraylength, 1) := by decide +kernel
theorem dX6_add_26 : decode cX6_add 26 = .ok (.if_icmp .lt 20, 3) := by decide +kernel
theorem dX6_add_29 : decode cX6_add 29 = .ok (.aload_n 0, 1) := by decide +kernel
theorem dX6_add_30 : decode cX6_add 30 = .ok (.aload_n 0, 1) := by decide +kernel
theorem dX6_add_31 : decode cX6_add 31 = .ok (.getfield 15, 3) := by decide +kernel
theorem dX6_add_34 : decode cX6_add 34 = .ok (.iconst 2, 1) := by decide +kernel
theorem dX6_add_35 : decode cX6_add 35 = .ok (.aload_n 0, 1) := by decide +kernel
theorem dX6_add_36 : decode cX6_add 36 = .ok (.getfield 19, 3) := by decide +kernel
theorem dX6_add_39 : decode cX6_add 39 = .ok (.imul, 1) := by decide +kernel
theorem dX6_add_40 : decode cX6_add 40 = .ok (.invokestatic 26, 3) := by decide +kernel
theorem dX6_add_43 : decode cX6_add 43 = .ok (.putfield 15, 3) := by decide +kernel
theorem dX6_add_46 : decode cX6_add 46 = .ok (.aload_n 0, 1) := by decide +kernel
theorem dX6_add_47 : decode cX6_add 47 = .ok (.getfield 15, 3) := by decide +kernel
theorem dX6_add_50 : decode cX6_add 50 = .ok (.aload_n 0, 1) := by decide +kernel
theorem dX6_add_51 : decode cX6_add 51 = .ok (.getfield 19, 3) := by decide +kernel
theorem dX6_add_54 : decode cX6_add 54 = .ok (.iload_n 1, 1) := by decide +kernel
theorem dX6_add_55 : decode cX6_add 55 = .ok (.iastore, 1) := by decide +kernel
theorem dX6_add_56 : decode cX6_add 56 = .ok (.aload_n 0, 1) := by decide +kernel
theorem dX6_add_57 : decode cX6_add 57 = .ok (.dup, 1) := by decide +kernel
theorem dX6_add_58 : decode cX6_add 58 = .ok (.getfield 19, 3) := by decide +kernel
theorem dX6_add_61 : decode cX6_add 61 = .ok (.iconst 1, 1) := by decide +kernel
theorem dX6_add_62 : decode cX6_add 62 = .ok (.iadd, 1) := by decide +kernel
theorem dX6_add_63 : decode cX6_add 63 = .ok (.putfield 19, 3) := by decide +kernel
theorem dX6_add_66 : decode cX6_add 66 = .ok (.return_, 1) := by decide +kernel
def m_Row_add_46 (g : Nat) (S : St) (x0 : Nat) (x1 : Int32) : Option St :=
(tI S (x0 + 24) (gI S x0 2) x1).bind fun S_1 =>
lt (sI S_1 x0 2 ((gI S_1 x0 2) + (1 : Int32))) fun S_2 =>
some S_2
def m_Row_add (g : Nat) (S : St) (x0 : Nat) (x1 : Int32) : Option St :=
if (gI S x0 2) < (gI S x0 0) then (
  if (gI S x0 2) < (Int32.ofNat (gN S (x0 + 24))) then (
    m_Row_add_46 g S x0 x1
  ) else (
    (gro S x0 ((2 : Int32) * (gI S x0 2))).bind fun S_1 =>
    m_Row_add_46 g S_1 x0 x1
  )
) else (
  lt (sI S x0 3 (1 : Int32)) fun S_2 =>
  some S_2
)
theorem km_Row_add_46 {g : Nat} {S : St} {x0 : Nat} {x1 : Int32} {S' : St} (h : m_Row_add_46 g S x0 x1 = some S') : kap S ≤ kap S' := by
  unfold m_Row_add_46 at h
  have nn : nq S S := nq_rf
  obtain ⟨S_1, hS_1, h⟩ := bnd h
  replace nn : nq S_1 S := nq_tr (nq_tI hS_1) nn
  obtain ⟨S_2, eS_2, h⟩ := lt_e h
  replace nn : nq S_2 S := nq_tr (by rw [eS_2]; rfl) nn
  obtain rfl := som h
  have hkn := nq_kap nn
  omega
theorem km_Row_add {g : Nat} {S : St} {x0 : Nat} {x1 : Int32} {S' : St} (h : m_Row_add g S x0 x1 = some S') : kap S ≤ kap S' := by
  unfold m_Row_add at h
  have nn : nq S S := nq_rf
  by_cases hc1 : (gI S x0 2) < (gI S x0 0)
  · replace h := ift hc1 h
    by_cases hc2 : (gI S x0 2) < (Int32.ofNat (gN S (x0 + 24)))
    · replace h := ift hc2 h
      have hkn := nq_kap nn
      have h2 := km_Row_add_46 h
      omega
    · replace h := iff0 hc2 h
      obtain ⟨S_1, hS_1, h⟩ := bnd h
      have hk1 := km_gro hS_1
      have hkn := nq_kap nn
      have h2 := km_Row_add_46 h
      omega
  · replace h := iff0 hc1 h
    obtain ⟨S_2, eS_2, h⟩ := lt_e h
    replace nn : nq S_2 S := nq_tr (by rw [eS_2]; rfl) nn
    obtain rfl := som h
    have hkn := nq_kap nn
    omega
section S_Row_add
variable {p : Program} {l : Launch} {e : Env} {s : State} {m : MethodId} {args : Array Value} {below : List Frame} {meth : Method} {c : Code} {H : Heap} {locs : List Loc} {ls : Array Slot} {D : va_G} {T : Cy} {ρ ρ0 : Nat → Nat} {S0 : St} {A : Nat → Prop}
set_option maxRecDepth 100000 in
set_option maxHeartbeats 4000000 in
theorem w_Row_add_46 {g : Nat} {S : St} {x0 : Nat} {x1 : Int32} (C : CallFix p m c cX6_add 2 s args tb RX6) (hr : meth.sig.returnType = none) (hk : meth.locks = false) {S' : St} (ha : Ag ρ0 ρ) (hm : kap S0 ≤ kap S) (w : Wn Yc D T ρ S A s H locs) (hl : lv_has ls 2 [(0, .ref (ρ x0)), (1, .int x1)]) (ho_x0 : Ob Yc x0 4) (h : m_Row_add_46 g S x0 x1 = some S') : W p l e (rmK 2 48 (kap S' - kap S0)) s m args below meth c H locs (kap S - kap S0) (2 * (kap S - kap S0)) (MQ below (QvM D T ρ0 A S') args s (kap S' - kap S0) (2 * (kap S' - kap S0)) A) (F0 m 46 ls []) := by
  have hT := km_Row_add_46 h
  unfold m_Row_add_46 at h
  have nn : nq S S := nq_rf
  refine lv_aload_n C.1 C.2.1 dX6_add_46 rfl (lv_at hl 0 rfl) ?_
  refine x_getC C w (x0 + 24) fX6_15 ho_x0 (crCells ho_x0) dX6_add_47 ?_
  refine lv_aload_n C.1 C.2.1 dX6_add_50 rfl (lv_at hl 0 rfl) ?_
  refine x_getI C w fX6_19 ho_x0 dX6_add_51 ?_
  refine lv_iload_n C.1 C.2.1 dX6_add_54 rfl (lv_at hl 1 rfl) ?_
  obtain ⟨S_1, hS_1, h⟩ := bnd h
  replace nn : nq S_1 S := nq_tr (nq_tI hS_1) nn
  refine x_iast C w (obCells ho_x0) hS_1 dX6_add_55 (fun H locs w => ?_)
  refine lv_aload_n C.1 C.2.1 dX6_add_56 rfl (lv_at hl 0 rfl) ?_
  refine lv_dup C.1 C.2.1 dX6_add_57 rfl ?_
  refine x_getI C w fX6_19 ho_x0 dX6_add_58 ?_
  refine lv_iconst (v := 1) C.1 C.2.1 dX6_add_61 (by decide) ?_
  refine lv_iadd C.1 C.2.1 dX6_add_62 ?_
  obtain ⟨S_2, eS_2, h⟩ := lt_e h
  replace nn : nq S_2 S := nq_tr (by rw [eS_2]; rfl) nn
  refine y_putI C w eS_2 fX6_19 pX6_2 ho_x0 dX6_add_63 (fun H locs w => ?_)
  obtain rfl := som h
  exact x_vretM C w ha hr hk dX6_add_66 (by have := nq_kap nn; omega) (by have := nq_kap nn; omega)
set_option maxRecDepth 100000 in
set_option maxHeartbeats 4000000 in
theorem w_Row_add_0 {g : Nat} {S : St} {x0 : Nat} {x1 : Int32} (C : CallFix p m c cX6_add 2 s args tb RX6) (hr : meth.sig.returnType = none) (hk : meth.locks = false) {S' : St} (ha : Ag ρ0 ρ) (hm : kap S0 ≤ kap S) (w : Wn Yc D T ρ S A s H locs) (hl : lv_has ls 2 [(0, .ref (ρ x0)), (1, .int x1)]) (ho_x0 : Ob Yc x0 4) (h : m_Row_add g S x0 x1 = some S') : W p l e (rmK 2 48 (kap S' - kap S0)) s m args below meth c H locs (kap S - kap S0) (2 * (kap S - kap S0)) (MQ below (QvM D T ρ0 A S') args s (kap S' - kap S0) (2 * (kap S' - kap S0)) A) (F0 m 0 ls []) := by
  have hT := km_Row_add h
  unfold m_Row_add at h
  have nn : nq S S := nq_rf
  refine lv_aload_n C.1 C.2.1 dX6_add_0 rfl (lv_at hl 0 rfl) ?_
  refine x_getI C w fX6_19 ho_x0 dX6_add_1 ?_
  refine lv_aload_n C.1 C.2.1 dX6_add_4 rfl (lv_at hl 0 rfl) ?_
  refine x_getI C w fX6_9 ho_x0 dX6_add_5 ?_
  refine lv_icmp_lt (tgt := 17) C.1 C.2.1 dX6_add_8 (by decide) (fun hc => ?_) (fun hc => ?_)
  · replace h := ift hc h
    refine lv_aload_n C.1 C.2.1 dX6_add_17 rfl (lv_at hl 0 rfl) ?_
    refine x_getI C w fX6_19 ho_x0 dX6_add_18 ?_
    refine lv_aload_n C.1 C.2.1 dX6_add_21 rfl (lv_at hl 0 rfl) ?_
    refine x_getC C w (x0 + 24) fX6_15 ho_x0 (crCells ho_x0) dX6_add_22 ?_
    refine x_alen C w (obCells ho_x0) dX6_add_25 ?_
    refine lv_icmp_lt (tgt := 46) C.1 C.2.1 dX6_add_26 (by decide) (fun hc => ?_) (fun hc => ?_)
    · replace h := ift hc h
      have hkn := nq_kap nn
      refine W.widen (k := kap S - kap S0) (n := 2 * (kap S - kap S0)) (by omega) (by omega) ?_
      exact w_Row_add_46 C hr hk ha (by omega) w (lv_sub hl [0, 1] rfl) ho_x0 h
    · replace h := iff0 hc h
      refine lv_aload_n C.1 C.2.1 dX6_add_29 rfl (lv_at hl 0 rfl) ?_
      refine lv_aload_n C.1 C.2.1 dX6_add_30 rfl (lv_at hl 0 rfl) ?_
      refine x_getC C w (x0 + 24) fX6_15 ho_x0 (crCells ho_x0) dX6_add_31 ?_
      refine lv_iconst (v := 2) C.1 C.2.1 dX6_add_34 (by decide) ?_
      refine lv_aload_n C.1 C.2.1 dX6_add_35 rfl (lv_at hl 0 rfl) ?_
      refine x_getI C w fX6_19 ho_x0 dX6_add_36 ?_
      refine lv_imul C.1 C.2.1 dX6_add_39 ?_
      obtain ⟨S_1, hS_1, h⟩ := bnd h
      have hkn := nq_kap nn
      have hk1 := km_gro hS_1
      have hT2 := km_Row_add_46 h
      refine x_grow C w ho_x0 hS_1 hl.1 (hRK (by decide) (by decide)) (Nat.le_of_ble_eq_true rfl) (hcM hm hkn hk1 hT2) dX6_add_40 dX6_add_43 (fun ρ1 H locs hag w => ?_)
      replace ha := ha.trans hag
      rw [← hag x0 (ncR ho_x0)] at hl
      refine W.widen (k := kap S_1 - kap S0) (n := 2 * (kap S_1 - kap S0)) (by omega) (by omega) ?_
      exact w_Row_add_46 C hr hk ha (by omega) w (lv_sub hl [0, 1] rfl) ho_x0 h
  · replace h := iff0 hc h
    refine lv_aload_n C.1 C.2.1 dX6_add_11 rfl (lv_at hl 0 rfl) ?_
    refine lv_iconst (v := 1) C.1 C.2.1 dX6_add_12 (by decide) ?_
    obtain ⟨S_2, eS_2, h⟩ := lt_e h
    replace nn : nq S_2 S := nq_tr (by rw [eS_2]; rfl) nn
    refine y_putZ C w eS_2 fX6_22 pX6_3 (by decide) ho_x0 dX6_add_13 (fun H locs w => ?_)
    obtain rfl := som h
    exact x_vretM C w ha hr hk dX6_add_16 (by have := nq_kap nn; omega) (by have := nq_kap nn; omega)
end S_Row_add
set_option maxRecDepth 100000 in
theorem k_Row_add (l : Launch) (D : va_G) (T : Cy) (ρ : Nat → Nat) (g sz : Nat) (S : St) {x0 : Nat} {x1 : Int32} (ho_x0 : Ob Yc x0 4) {S' : St} (h : m_Row_add g S x0 x1 = some S') : MvM l D T ρ yX6_add cX6_add 2 none 2 48 S S' [.ref (ρ x0), .int x1] sz :=
  x_inR (by decide) (Nat.le_of_ble_eq_true rfl) (fun p e s m below meth c ls C hr hk w hl => W.widen (Nat.zero_le _) (Nat.zero_le _) (w_Row_add_0 C hr hk Ag.rf (Nat.le_refl _) w hl ho_x0 h))

theorem dX10_begin_0 : decode cX10_begin 0 = .ok (.aload_n 0, 1) := by decide +kernel
theorem dX10_begin_1 : decode cX10_begin 1 = .ok (.getfield 20, 3) := by decide +kernel
theorem dX10_begin_4 : decode cX10_begin 4 = .ok (.aload_n 0, 1) := by decide +kernel
theorem dX10_begin_5 : decode cX10_begin 5 = .ok (.getfield 29, 3) := by decide +kernel
theorem dX10_begin_8 : decode cX10_begin 8 = .ok (.invokevirtual 61, 3) := by decide +kernel
theorem dX10_begin_11 : decode cX10_begin 11 = .ok (.aload_n 0, 1) := by decide +kernel
theorem dX10_begin_12 : decode cX10_begin 12 = .ok (.getfield 14, 3) := by decide +kernel
theorem dX10_begin_15 : decode cX10_begin 15 = .ok (.aload_n 0, 1) := by decide +kernel
theorem dX10_begin_16 : decode cX10_begin 16 = .ok (.getfield 20, 3) := by decide +kernel
theorem dX10_begin_19 : decode cX10_begin 19 = .ok (.aload_n 0, 1) := by decide +kernel
theorem dX10_begin_20 : decode cX10_begin 20 = .ok (.getfield 29, 3) := by decide +kernel
theorem dX10_begin_23 : decode cX10_begin 23 = .ok (.iconst 1, 1) := by decide +kernel
theorem dX10_begin_24 : decode cX10_begin 24 = .ok (.isub, 1) := by decide +kernel
theorem dX10_begin_25 : decode cX10_begin 25 = .ok (.invokevirtual 51, 3) := by decide +kernel
theorem dX10_begin_28 : decode cX10_begin 28 = .ok (.invokevirtual 61, 3) := by decide +kernel
theorem dX10_begin_31 : decode cX10_begin 31 = .ok (.aload_n 0, 1) := by decide +kernel
theorem dX10_begin_32 : decode cX10_begin 32 = .ok (.getfield 23, 3) := by decide +kernel
theorem dX10_begin_35 : decode cX10_begin 35 = .ok (.invokevirtual 36, 3) := by decide +kernel
theorem dX10_begin_38 : decode cX10_begin 38 = .ok (.aload_n 0, 1) := by decide +kernel
theorem dX10_begin_39 : decode cX10_begin 39 = .ok (.getfield 23, 3) := by decide +kernel
theorem dX10_begin_42 : decode cX10_begin 42 = .ok (.iconst 0, 1) := by decide +kernel
theorem dX10_begin_43 : decode cX10_begin 43 = .ok (.invokevirtual 33, 3) := by decide +kernel
theorem dX10_begin_46 : decode cX10_begin 46 = .ok (.iconst 0, 1) := by decide +kernel
theorem dX10_begin_47 : decode cX10_begin 47 = .ok (.istore_n 2, 1) := by decide +kernel
theorem dX10_begin_48 : decode cX10_begin 48 = .ok (.iload_n 2, 1) := by decide +kernel
theorem dX10_begin_49 : decode cX10_begin 49 = .ok (.aload_n 1, 1) := by decide +kernel
theorem dX10_begin_50 : decode cX10_begin 50 = .ok (.getfield 64, 3) := by decide +kernel
theorem dX10_begin_53 : decode cX10_begin 53 = .ok (.aload_n 1, 1) := by decide +kernel
theorem dX10_begin_54 : decode cX10_begin 54 = .ok (.getfield 68, 3) := by decide +kernel
theorem dX10_begin_57 : decode cX10_begin 57 = .ok (.iaload, 1) := by decide +kernel
theorem dX10_begin_58 : decode cX10_begin 58 = .ok (.if_icmp .ge 55, 3) := by decide +kernel
theorem dX10_begin_61 : decode cX10_begin 61 = .ok (.aload_n 1, 1) := by decide +kernel
theorem dX10_begin_62 : decode cX10_begin 62 = .ok (.getfield 71, 3) := by decide +kernel
theorem dX10_begin_65 : decode cX10_begin 65 = .ok (.iload_n 2, 1) := by decide +kernel
theorem dX10_begin_66 : decode cX10_begin 66 = .ok (.iaload, 1) := by decide +kernel
theorem dX10_begin_67 : decode cX10_begin 67 = .ok (.bipush 34, 2) := by decide +kernel
theorem dX10_begin_69 : decode cX10_begin 69 = .ok (.if_icmp .ne 38, 3) := by decide +kernel
theorem dX10_begin_72 : decode cX10_begin 72 = .ok (.aload_n 0, 1) := by decide +kernel
theorem dX10_begin_73 : decode cX10_begin 73 = .ok (.getfield 26, 3) := by decide +kernel
theorem dX10_begin_76 : decode cX10_begin 76 = .ok (.aload_n 1, 1) := by decide +kernel
theorem dX10_begin_77 : decode cX10_begin 77 = .ok (.getfield 74, 3) := by decide +kernel
theorem dX10_begin_80 : decode cX10_begin 80 = .ok (.iload_n 2, 1) := by decide +kernel
theorem dX10_begin_81 : decode cX10_begin 81 = .ok (.laload, 1) := by decide +kernel
theorem dX10_begin_82 : decode cX10_begin 82 = .ok (.l2i, 1) := by decide +kernel
theorem dX10_begin_83 : decode cX10_begin 83 = .ok (.invokevirtual 51, 3) := by decide +kernel
theorem dX10_begin_86 : decode cX10_begin 86 = .ok (.istore_n 3, 1) := by decide +kernel
theorem dX10_begin_87 : decode cX10_begin 87 = .ok (.aload_n 0, 1) := by decide +kernel
theorem dX10_begin_88 : decode cX10_begin 88 = .ok (.getfield 23, 3) := by decide +kernel
theorem dX10_begin_91 : decode cX10_begin 91 = .ok (.iload_n 3, 1) := by decide +kernel
theorem dX10_begin_92 : decode cX10_begin 92 = .ok (.invokevirtual 78, 3) := by decide +kernel
theorem dX10_begin_95 : decode cX10_begin 95 = .ok (.iconst (-1), 1) := by decide +kernel
theorem dX10_begin_96 : decode cX10_begin 96 = .ok (.if_icmp .ne 11, 3) := by decide +kernel
theorem dX10_begin_99 : decode cX10_begin 99 = .ok (.aload_n 0, 1) := by decide +kernel
theorem dX10_begin_100 : decode cX10_begin 100 = .ok (.getfield 23, 3) := by decide +kernel
theorem dX10_begin_103 : decode cX10_begin 103 = .ok (.iload_n 3, 1) := by decide +kernel
theorem dX10_begin_104 : decode cX10_begin 104 = .ok (.invokevirtual 33, 3) := by decide +kernel
theorem dX10_begin_107 : decode cX10_begin 107 = .ok (.iinc 2 1, 3) := by decide +kernel
theorem dX10_begin_110 : decode cX10_begin 110 = .ok (.goto (-62), 3) := by decide +kernel
theorem dX10_begin_113 : decode cX10_begin 113 = .ok (.return_, 1) := by decide +kernel
def m_Tx_begin_107 (g : Nat) (k48 : St → Nat → Int32 → Option St) (S : St) (x1 : Nat) (x2 : Int32) : Option St :=
lt (x2 + (1 : Int32)) fun x2_8 =>
k48 S x1 x2_8
def b_Tx_begin_48 (g : Nat) (k48 : St → Nat → Int32 → Option St) (S : St) (x1 : Nat) (x2 : Int32) : Option St :=
(aI S (50 + 8 * x1 + 1) (gI S x1 8)).bind fun v_6 =>
if v_6 ≤ x2 then (
  some S
) else (
  (aI S (50 + 8 * x1 + 2) x2).bind fun v_7 =>
  if v_7 = (34 : Int32) then (
    (aJ S (50 + 8 * x1 + 4) x2).bind fun v_8 =>
    (m_Row_at g S 21 (v_8.toInt32)).bind fun v_9 =>
    (m_Row_placeOf g S 20 v_9).bind fun v_10 =>
    if v_10 = (-1 : Int32) then (
      (m_Row_add g S 20 v_9).bind fun S_11 =>
      m_Tx_begin_107 g k48 S_11 x1 x2
    ) else (
      m_Tx_begin_107 g k48 S x1 x2
    )
  ) else (
    m_Tx_begin_107 g k48 S x1 x2
  )
)
def m_Tx_begin_48 (g : Nat) : Nat → St → Nat → Int32 → Option St
  | 0, _, _, _ => none
  | n + 1, S, x1, x2 => b_Tx_begin_48 g (m_Tx_begin_48 g n) S x1 x2
def m_Tx_begin_46 (g : Nat) (S : St) (x1 : Nat) : Option St :=
m_Tx_begin_48 g g S x1 (0 : Int32)
def m_Tx_begin (g : Nat) (S : St) (x1 : Nat) : Option St :=
(m_Row_shorten g S 19 (gI S 5 4)).bind fun S_1 =>
(m_Row_at g S_1 19 ((gI S_1 5 4) - (1 : Int32))).bind fun v_2 =>
(m_Row_shorten g S_1 18 v_2).bind fun S_3 =>
(m_Row_clear g S_3 20).bind fun S_4 =>
(m_Row_add g S_4 20 (0 : Int32)).bind fun S_5 =>
m_Tx_begin_46 g S_5 x1
theorem km_Tx_begin_107 {g : Nat} {S : St} {x1 : Nat} {x2 : Int32} {S' : St} {k48 : St → Nat → Int32 → Option St} (km48 : ∀ (S : St) (x1 : Nat) (x2 : Int32), k48 S x1 x2 = some S' → kap S ≤ kap S') (h : m_Tx_begin_107 g k48 S x1 x2 = some S') : kap S ≤ kap S' := by
  unfold m_Tx_begin_107 at h
  have nn : nq S S := nq_rf
  obtain ⟨x2_8, ex2_8, h⟩ := lt_e h
  have hkn := nq_kap nn
  have h2 := km48 _ _ _ h
  omega
theorem kmb_Tx_begin_48 {g : Nat} {S : St} {x1 : Nat} {x2 : Int32} {S' : St} {k48 : St → Nat → Int32 → Option St} (km48 : ∀ (S : St) (x1 : Nat) (x2 : Int32), k48 S x1 x2 = some S' → kap S ≤ kap S') (h : b_Tx_begin_48 g k48 S x1 x2 = some S') : kap S ≤ kap S' := by
  unfold b_Tx_begin_48 at h
  have nn : nq S S := nq_rf
  obtain ⟨v_6, hv_6, h⟩ := bnd h
  by_cases hc1 : v_6 ≤ x2
  · replace h := ift hc1 h
    obtain rfl := som h
    have hkn := nq_kap nn
    omega
  · replace h := iff0 hc1 h
    obtain ⟨v_7, hv_7, h⟩ := bnd h
    by_cases hc2 : v_7 = (34 : Int32)
    · replace h := ift hc2 h
      obtain ⟨v_8, hv_8, h⟩ := bnd h
      obtain ⟨v_9, hv_9, h⟩ := bnd h
      obtain ⟨v_10, hv_10, h⟩ := bnd h
      by_cases hc3 : v_10 = (-1 : Int32)
      · replace h := ift hc3 h
        obtain ⟨S_11, hS_11, h⟩ := bnd h
        have hk1 := km_Row_add hS_11
        have hkn := nq_kap nn
        have h2 := km_Tx_begin_107 km48 h
        omega
      · replace h := iff0 hc3 h
        have hkn := nq_kap nn
        have h2 := km_Tx_begin_107 km48 h
        omega
    · replace h := iff0 hc2 h
      have hkn := nq_kap nn
      have h2 := km_Tx_begin_107 km48 h
      omega
theorem km_Tx_begin_48 {g : Nat} {S' : St} (n : Nat) : ∀ (S : St) (x1 : Nat) (x2 : Int32), m_Tx_begin_48 g n S x1 x2 = some S' → kap S ≤ kap S' := by
  induction n with
  | zero => intro S x1 x2 h; exact absurd h (fun q => by cases q)
  | succ n ih => intro S x1 x2 h; exact kmb_Tx_begin_48 ih h
theorem km_Tx_begin_46 {g : Nat} {S : St} {x1 : Nat} {S' : St} (h : m_Tx_begin_46 g S x1 = some S') : kap S ≤ kap S' := by
  unfold m_Tx_begin_46 at h
  have nn : nq S S := nq_rf
  have hkn := nq_kap nn
  have h2 := km_Tx_begin_48 g _ _ _ h
  omega
theorem km_Tx_begin {g : Nat} {S : St} {x1 : Nat} {S' : St} (h : m_Tx_begin g S x1 = some S') : kap S ≤ kap S' := by
  unfold m_Tx_begin at h
  have nn : nq S S := nq_rf
  obtain ⟨S_1, hS_1, h⟩ := bnd h
  replace nn : nq S_1 S := nq_tr (kq_Row_shorten hS_1) nn
  obtain ⟨v_2, hv_2, h⟩ := bnd h
  obtain ⟨S_3, hS_3, h⟩ := bnd h
  replace nn : nq S_3 S := nq_tr (kq_Row_shorten hS_3) nn
  obtain ⟨S_4, hS_4, h⟩ := bnd h
  replace nn : nq S_4 S := nq_tr (kq_Row_clear hS_4) nn
  obtain ⟨S_5, hS_5, h⟩ := bnd h
  have hk1 := km_Row_add hS_5
  have hkn := nq_kap nn
  have h2 := km_Tx_begin_46 h
  omega
section S_Tx_begin
variable {p : Program} {l : Launch} {e : Env} {s : State} {m : MethodId} {args : Array Value} {below : List Frame} {meth : Method} {c : Code} {H : Heap} {locs : List Loc} {ls : Array Slot} {D : va_G} {T : Cy} {ρ ρ0 : Nat → Nat} {S0 : St} {A : Nat → Prop}
set_option maxRecDepth 100000 in
set_option maxHeartbeats 4000000 in
theorem w_Tx_begin_107 {g : Nat} {S : St} {x1 : Nat} {x2 : Int32} (C : CallFix p m c cX10_begin 4 s args tb RX10) (hr : meth.sig.returnType = none) (hk : meth.locks = false) {S' : St} {k48 : St → Nat → Int32 → Option St} (kk48 : ∀ (ρ : Nat → Nat) (S : St) (x1 : Nat) (x2 : Int32) (H : Heap) (locs : List Loc) (ls : Array Slot), Ag ρ0 ρ → kap S0 ≤ kap S → Wn Yc D T ρ S A s H locs → lv_has ls 4 [(0, .ref (ρ 5)), (1, .ref (ρ x1)), (2, .int x2)] → Ob Yc x1 2 → k48 S x1 x2 = some S' → W p l e (rmK 3 69 (kap S' - kap S0)) s m args below meth c H locs (kap S - kap S0) (2 * (kap S - kap S0)) (MQ below (QvM D T ρ0 A S') args s (kap S' - kap S0) (2 * (kap S' - kap S0)) A) (F0 m 48 ls [])) (km48 : ∀ (S : St) (x1 : Nat) (x2 : Int32), k48 S x1 x2 = some S' → kap S ≤ kap S') (ha : Ag ρ0 ρ) (hm : kap S0 ≤ kap S) (w : Wn Yc D T ρ S A s H locs) (hl : lv_has ls 4 [(0, .ref (ρ 5)), (1, .ref (ρ x1)), (2, .int x2)]) (ho_x1 : Ob Yc x1 2) (h : m_Tx_begin_107 g k48 S x1 x2 = some S') : W p l e (rmK 3 69 (kap S' - kap S0)) s m args below meth c H locs (kap S - kap S0) (2 * (kap S - kap S0)) (MQ below (QvM D T ρ0 A S') args s (kap S' - kap S0) (2 * (kap S' - kap S0)) A) (F0 m 107 ls []) := by
  have hT := km_Tx_begin_107 km48 h
  unfold m_Tx_begin_107 at h
  have nn : nq S S := nq_rf
  obtain ⟨x2_8, ex2_8, h⟩ := lt_e h
  refine lv_iinc (v := x2_8) (lv' := [(2, .int x2_8), (0, .ref (ρ 5)), (1, .ref (ρ x1))]) C.1 C.2.1 dX10_begin_107 hl (k := 2) rfl (by rw [ex2_8]; rfl) (by decide) rfl (fun ls hl => ?_)
  refine lv_goto (tgt := 48) C.1 C.2.1 dX10_begin_110 (by decide) ?_
  have hkn := nq_kap nn
  refine W.widen (k := kap S - kap S0) (n := 2 * (kap S - kap S0)) (by omega) (by omega) ?_
  exact kk48 _ _ _ _ _ _ _ ha (by omega) w (lv_sub hl [1, 2, 0] rfl) ho_x1 h
set_option maxRecDepth 100000 in
set_option maxHeartbeats 4000000 in
theorem wb_Tx_begin_48 {g : Nat} {S : St} {x1 : Nat} {x2 : Int32} (C : CallFix p m c cX10_begin 4 s args tb RX10) (hr : meth.sig.returnType = none) (hk : meth.locks = false) {S' : St} {k48 : St → Nat → Int32 → Option St} (kk48 : ∀ (ρ : Nat → Nat) (S : St) (x1 : Nat) (x2 : Int32) (H : Heap) (locs : List Loc) (ls : Array Slot), Ag ρ0 ρ → kap S0 ≤ kap S → Wn Yc D T ρ S A s H locs → lv_has ls 4 [(0, .ref (ρ 5)), (1, .ref (ρ x1)), (2, .int x2)] → Ob Yc x1 2 → k48 S x1 x2 = some S' → W p l e (rmK 3 69 (kap S' - kap S0)) s m args below meth c H locs (kap S - kap S0) (2 * (kap S - kap S0)) (MQ below (QvM D T ρ0 A S') args s (kap S' - kap S0) (2 * (kap S' - kap S0)) A) (F0 m 48 ls [])) (km48 : ∀ (S : St) (x1 : Nat) (x2 : Int32), k48 S x1 x2 = some S' → kap S ≤ kap S') (ha : Ag ρ0 ρ) (hm : kap S0 ≤ kap S) (w : Wn Yc D T ρ S A s H locs) (hl : lv_has ls 4 [(0, .ref (ρ 5)), (1, .ref (ρ x1)), (2, .int x2)]) (ho_x1 : Ob Yc x1 2) (h : b_Tx_begin_48 g k48 S x1 x2 = some S') : W p l e (rmK 3 69 (kap S' - kap S0)) s m args below meth c H locs (kap S - kap S0) (2 * (kap S - kap S0)) (MQ below (QvM D T ρ0 A S') args s (kap S' - kap S0) (2 * (kap S' - kap S0)) A) (F0 m 48 ls []) := by
  have hT := kmb_Tx_begin_48 km48 h
  unfold b_Tx_begin_48 at h
  have nn : nq S S := nq_rf
  refine lv_iload_n C.1 C.2.1 dX10_begin_48 rfl (lv_at hl 2 rfl) ?_
  refine lv_aload_n C.1 C.2.1 dX10_begin_49 rfl (lv_at hl 1 rfl) ?_
  refine x_getC C w (50 + 8 * x1 + 1) fX10_64 ho_x1 (crP1 ho_x1) dX10_begin_50 ?_
  refine lv_aload_n C.1 C.2.1 dX10_begin_53 rfl (lv_at hl 1 rfl) ?_
  refine x_getI C w fX10_68 ho_x1 dX10_begin_54 ?_
  obtain ⟨v_6, hv_6, h⟩ := bnd h
  refine x_iald C w (obP1 ho_x1) hv_6 dX10_begin_57 ?_
  refine lv_icmp_ge (tgt := 113) C.1 C.2.1 dX10_begin_58 (by decide) (fun hc => ?_) (fun hc => ?_)
  · replace h := ift hc h
    obtain rfl := som h
    exact x_vretM C w ha hr hk dX10_begin_113 (by have := nq_kap nn; omega) (by have := nq_kap nn; omega)
  · replace h := iff0 hc h
    refine lv_aload_n C.1 C.2.1 dX10_begin_61 rfl (lv_at hl 1 rfl) ?_
    refine x_getC C w (50 + 8 * x1 + 2) fX10_71 ho_x1 (crP2 ho_x1) dX10_begin_62 ?_
    refine lv_iload_n C.1 C.2.1 dX10_begin_65 rfl (lv_at hl 2 rfl) ?_
    obtain ⟨v_7, hv_7, h⟩ := bnd h
    refine x_iald C w (obP2 ho_x1) hv_7 dX10_begin_66 ?_
    refine lv_bipush (v := 34) C.1 C.2.1 dX10_begin_67 (by decide) ?_
    refine lv_icmp_ne (tgt := 107) C.1 C.2.1 dX10_begin_69 (by decide) (fun hc => ?_) (fun hc => ?_)
    · replace h := iff0 hc h
      have hkn := nq_kap nn
      refine W.widen (k := kap S - kap S0) (n := 2 * (kap S - kap S0)) (by omega) (by omega) ?_
      exact w_Tx_begin_107 C hr hk kk48 km48 ha (by omega) w (lv_sub hl [0, 1, 2] rfl) ho_x1 h
    · replace h := ift hc h
      refine lv_aload_n C.1 C.2.1 dX10_begin_72 rfl (lv_at hl 0 rfl) ?_
      refine x_getC C w 21 fX10_26 obC5 rfl dX10_begin_73 ?_
      refine lv_aload_n C.1 C.2.1 dX10_begin_76 rfl (lv_at hl 1 rfl) ?_
      refine x_getC C w (50 + 8 * x1 + 4) fX10_74 ho_x1 (crP4 ho_x1) dX10_begin_77 ?_
      refine lv_iload_n C.1 C.2.1 dX10_begin_80 rfl (lv_at hl 2 rfl) ?_
      obtain ⟨v_8, hv_8, h⟩ := bnd h
      refine x_lald C w (obP4 ho_x1) hv_8 dX10_begin_81 ?_
      refine lv_l2i C.1 C.2.1 dX10_begin_82 rfl ?_
      obtain ⟨v_9, hv_9, h⟩ := bnd h
      refine x_callVi (q := (RX6, TX6, 4)) (As := [.int (v_8.toInt32)]) (rest := []) C w (k_Row_at l D T ρ g H.size S obC21 hv_9) vX10_51 (hRK (by decide) (by decide)) obC21 (by decide) rfl rfl rfl hl.1 (Nat.le_of_ble_eq_true rfl) (hcK hT) dX10_begin_83 (fun H locs w => ?_)
      refine lv_istore_n (lv' := [(3, .int v_9), (0, .ref (ρ 5)), (1, .ref (ρ x1)), (2, .int x2)]) C.1 C.2.1 dX10_begin_86 rfl hl (by decide) rfl (fun ls hl => ?_)
      refine lv_aload_n C.1 C.2.1 dX10_begin_87 rfl (lv_at hl 1 rfl) ?_
      refine x_getC C w 20 fX10_23 obC5 rfl dX10_begin_88 ?_
      refine lv_iload_n C.1 C.2.1 dX10_begin_91 rfl (lv_at hl 0 rfl) ?_
      obtain ⟨v_10, hv_10, h⟩ := bnd h
      refine x_callVi (q := (RX6, TX6, 4)) (As := [.int v_9]) (rest := []) C w (k_Row_placeOf l D T ρ g H.size S obC20 hv_10) vX10_78 (hRK (by decide) (by decide)) obC20 (by decide) rfl rfl rfl hl.1 (Nat.le_of_ble_eq_true rfl) (hcK hT) dX10_begin_92 (fun H locs w => ?_)
      refine lv_iconst (v := (-1)) C.1 C.2.1 dX10_begin_95 (by decide) ?_
      refine lv_icmp_ne (tgt := 107) C.1 C.2.1 dX10_begin_96 (by decide) (fun hc => ?_) (fun hc => ?_)
      · replace h := iff0 hc h
        have hkn := nq_kap nn
        refine W.widen (k := kap S - kap S0) (n := 2 * (kap S - kap S0)) (by omega) (by omega) ?_
        exact w_Tx_begin_107 C hr hk kk48 km48 ha (by omega) w (lv_sub hl [1, 2, 3] rfl) ho_x1 h
      · replace h := ift hc h
        refine lv_aload_n C.1 C.2.1 dX10_begin_99 rfl (lv_at hl 1 rfl) ?_
        refine x_getC C w 20 fX10_23 obC5 rfl dX10_begin_100 ?_
        refine lv_iload_n C.1 C.2.1 dX10_begin_103 rfl (lv_at hl 0 rfl) ?_
        obtain ⟨S_11, hS_11, h⟩ := bnd h
        have hkn := nq_kap nn
        have hk1 := km_Row_add hS_11
        have hT2 := km_Tx_begin_107 km48 h
        refine x_callVvM (q := (RX6, TX6, 4)) (As := [.int v_9]) (rest := []) C w (k_Row_add l D T ρ g H.size S obC20 hS_11) vX10_33 (hRK (by decide) (by decide)) obC20 (by decide) rfl rfl rfl hl.1 (Nat.le_of_ble_eq_true rfl) (hcM hm hkn hk1 hT2) dX10_begin_104 (fun ρ1 H locs hag w => ?_)
        replace ha := ha.trans hag
        rw [← hag 5 (by decide)] at hl
        rw [← hag x1 (ncP ho_x1)] at hl
        refine W.widen (k := kap S_11 - kap S0) (n := 2 * (kap S_11 - kap S0)) (by omega) (by omega) ?_
        exact w_Tx_begin_107 C hr hk kk48 km48 ha (by omega) w (lv_sub hl [1, 2, 3] rfl) ho_x1 h
theorem w_Tx_begin_48 {g : Nat} (C : CallFix p m c cX10_begin 4 s args tb RX10) (hr : meth.sig.returnType = none) (hk : meth.locks = false) {S' : St} (n : Nat) : ∀ (ρ : Nat → Nat) (S : St) (x1 : Nat) (x2 : Int32) (H : Heap) (locs : List Loc) (ls : Array Slot), Ag ρ0 ρ → kap S0 ≤ kap S → Wn Yc D T ρ S A s H locs → lv_has ls 4 [(0, .ref (ρ 5)), (1, .ref (ρ x1)), (2, .int x2)] → Ob Yc x1 2 → m_Tx_begin_48 g n S x1 x2 = some S' → W p l e (rmK 3 69 (kap S' - kap S0)) s m args below meth c H locs (kap S - kap S0) (2 * (kap S - kap S0)) (MQ below (QvM D T ρ0 A S') args s (kap S' - kap S0) (2 * (kap S' - kap S0)) A) (F0 m 48 ls []) := by
  induction n with
  | zero => intro ρ S x1 x2 H locs ls ha hm w hl ho_x1 h; exact absurd h (fun q => by cases q)
  | succ n ih => intro ρ S x1 x2 H locs ls ha hm w hl ho_x1 h; exact wb_Tx_begin_48 C hr hk ih (km_Tx_begin_48 n) ha hm w hl ho_x1 h
set_option maxRecDepth 100000 in
set_option maxHeartbeats 4000000 in
theorem w_Tx_begin_46 {g : Nat} {S : St} {x1 : Nat} (C : CallFix p m c cX10_begin 4 s args tb RX10) (hr : meth.sig.returnType = none) (hk : meth.locks = false) {S' : St} (ha : Ag ρ0 ρ) (hm : kap S0 ≤ kap S) (w : Wn Yc D T ρ S A s H locs) (hl : lv_has ls 4 [(0, .ref (ρ 5)), (1, .ref (ρ x1))]) (ho_x1 : Ob Yc x1 2) (h : m_Tx_begin_46 g S x1 = some S') : W p l e (rmK 3 69 (kap S' - kap S0)) s m args below meth c H locs (kap S - kap S0) (2 * (kap S - kap S0)) (MQ below (QvM D T ρ0 A S') args s (kap S' - kap S0) (2 * (kap S' - kap S0)) A) (F0 m 46 ls []) := by
  have hT := km_Tx_begin_46 h
  unfold m_Tx_begin_46 at h
  have nn : nq S S := nq_rf
  refine lv_iconst (v := 0) C.1 C.2.1 dX10_begin_46 (by decide) ?_
  refine lv_istore_n (lv' := [(2, .int (0 : Int32)), (0, .ref (ρ 5)), (1, .ref (ρ x1))]) C.1 C.2.1 dX10_begin_47 rfl hl (by decide) rfl (fun ls hl => ?_)
  have hkn := nq_kap nn
  refine W.widen (k := kap S - kap S0) (n := 2 * (kap S - kap S0)) (by omega) (by omega) ?_
  exact w_Tx_begin_48 C hr hk g _ _ _ _ _ _ _ ha (by omega) w (lv_sub hl [1, 2, 0] rfl) ho_x1 h
set_option maxRecDepth 100000 in
set_option maxHeartbeats 4000000 in
theorem w_Tx_begin_0 {g : Nat} {S : St} {x1 : Nat} (C : CallFix p m c cX10_begin 4 s args tb RX10) (hr : meth.sig.returnType = none) (hk : meth.locks = false) {S' : St} (ha : Ag ρ0 ρ) (hm : kap S0 ≤ kap S) (w : Wn Yc D T ρ S A s H locs) (hl : lv_has ls 4 [(0, .ref (ρ 5)), (1, .ref (ρ x1))]) (ho_x1 : Ob Yc x1 2) (h : m_Tx_begin g S x1 = some S') : W p l e (rmK 3 69 (kap S' - kap S0)) s m args below meth c H locs (kap S - kap S0) (2 * (kap S - kap S0)) (MQ below (QvM D T ρ0 A S') args s (kap S' - kap S0) (2 * (kap S' - kap S0)) A) (F0 m 0 ls []) := by
  have hT := km_Tx_begin h
  unfold m_Tx_begin at h
  have nn : nq S S := nq_rf
  refine lv_aload_n C.1 C.2.1 dX10_begin_0 rfl (lv_at hl 0 rfl) ?_
  refine x_getC C w 19 fX10_20 obC5 rfl dX10_begin_1 ?_
  refine lv_aload_n C.1 C.2.1 dX10_begin_4 rfl (lv_at hl 0 rfl) ?_
  refine x_getI C w fX10_29 obC5 dX10_begin_5 ?_
  obtain ⟨S_1, hS_1, h⟩ := bnd h
  replace nn : nq S_1 S := nq_tr (kq_Row_shorten hS_1) nn
  refine x_callVv (q := (RX6, TX6, 4)) (As := [.int (gI S 5 4)]) (rest := []) C w (k_Row_shorten l D T ρ g H.size S obC19 hS_1) vX10_61 (hRK (by decide) (by decide)) obC19 (by decide) rfl rfl rfl hl.1 (Nat.le_of_ble_eq_true rfl) (hcK hT) dX10_begin_8 (fun H locs w => ?_)
  refine lv_aload_n C.1 C.2.1 dX10_begin_11 rfl (lv_at hl 0 rfl) ?_
  refine x_getC C w 18 fX10_14 obC5 rfl dX10_begin_12 ?_
  refine lv_aload_n C.1 C.2.1 dX10_begin_15 rfl (lv_at hl 0 rfl) ?_
  refine x_getC C w 19 fX10_20 obC5 rfl dX10_begin_16 ?_
  refine lv_aload_n C.1 C.2.1 dX10_begin_19 rfl (lv_at hl 0 rfl) ?_
  refine x_getI C w fX10_29 obC5 dX10_begin_20 ?_
  refine lv_iconst (v := 1) C.1 C.2.1 dX10_begin_23 (by decide) ?_
  refine lv_isub C.1 C.2.1 dX10_begin_24 ?_
  obtain ⟨v_2, hv_2, h⟩ := bnd h
  refine x_callVi (q := (RX6, TX6, 4)) (As := [.int ((gI S_1 5 4) - (1 : Int32))]) (rest := [.ref (ρ 18)]) C w (k_Row_at l D T ρ g H.size S_1 obC19 hv_2) vX10_51 (hRK (by decide) (by decide)) obC19 (by decide) rfl rfl rfl hl.1 (Nat.le_of_ble_eq_true rfl) (hcK hT) dX10_begin_25 (fun H locs w => ?_)
  obtain ⟨S_3, hS_3, h⟩ := bnd h
  replace nn : nq S_3 S := nq_tr (kq_Row_shorten hS_3) nn
  refine x_callVv (q := (RX6, TX6, 4)) (As := [.int v_2]) (rest := []) C w (k_Row_shorten l D T ρ g H.size S_1 obC18 hS_3) vX10_61 (hRK (by decide) (by decide)) obC18 (by decide) rfl rfl rfl hl.1 (Nat.le_of_ble_eq_true rfl) (hcK hT) dX10_begin_28 (fun H locs w => ?_)
  refine lv_aload_n C.1 C.2.1 dX10_begin_31 rfl (lv_at hl 0 rfl) ?_
  refine x_getC C w 20 fX10_23 obC5 rfl dX10_begin_32 ?_
  obtain ⟨S_4, hS_4, h⟩ := bnd h
  replace nn : nq S_4 S := nq_tr (kq_Row_clear hS_4) nn
  refine x_callVv (q := (RX6, TX6, 4)) (As := []) (rest := []) C w (k_Row_clear l D T ρ g H.size S_3 obC20 hS_4) vX10_36 (hRK (by decide) (by decide)) obC20 (by decide) rfl rfl rfl hl.1 (Nat.le_of_ble_eq_true rfl) (hcK hT) dX10_begin_35 (fun H locs w => ?_)
  refine lv_aload_n C.1 C.2.1 dX10_begin_38 rfl (lv_at hl 0 rfl) ?_
  refine x_getC C w 20 fX10_23 obC5 rfl dX10_begin_39 ?_
  refine lv_iconst (v := 0) C.1 C.2.1 dX10_begin_42 (by decide) ?_
  obtain ⟨S_5, hS_5, h⟩ := bnd h
  have hkn := nq_kap nn
  have hk1 := km_Row_add hS_5
  have hT2 := km_Tx_begin_46 h
  refine x_callVvM (q := (RX6, TX6, 4)) (As := [.int (0 : Int32)]) (rest := []) C w (k_Row_add l D T ρ g H.size S_4 obC20 hS_5) vX10_33 (hRK (by decide) (by decide)) obC20 (by decide) rfl rfl rfl hl.1 (Nat.le_of_ble_eq_true rfl) (hcM hm hkn hk1 hT2) dX10_begin_43 (fun ρ1 H locs hag w => ?_)
  replace ha := ha.trans hag
  rw [← hag 5 (by decide)] at hl
  rw [← hag x1 (ncP ho_x1)] at hl
  refine W.widen (k := kap S_5 - kap S0) (n := 2 * (kap S_5 - kap S0)) (by omega) (by omega) ?_
  exact w_Tx_begin_46 C hr hk ha (by omega) w (lv_sub hl [0, 1] rfl) ho_x1 h
end S_Tx_begin
set_option maxRecDepth 100000 in
theorem k_Tx_begin (l : Launch) (D : va_G) (T : Cy) (ρ : Nat → Nat) (g sz : Nat) (S : St) {x1 : Nat} (ho_x1 : Ob Yc x1 2) {S' : St} (h : m_Tx_begin g S x1 = some S') : MvM l D T ρ yX10_begin cX10_begin 4 none 3 69 S S' [.ref (ρ 5), .ref (ρ x1)] sz :=
  x_inR (by decide) (Nat.le_of_ble_eq_true rfl) (fun p e s m below meth c ls C hr hk w hl => W.widen (Nat.zero_le _) (Nat.zero_le _) (w_Tx_begin_0 C hr hk Ag.rf (Nat.le_refl _) w hl ho_x1 h))

theorem dX1_begin_0 : decode cX1_begin 0 = .ok (.aload_n 0, 1) := by decide +kernel
theorem dX1_begin_1 : decode cX1_begin 1 = .ok (.aload_n 1, 1) := by decide +kernel
theorem dX1_begin_2 : decode cX1_begin 2 = .ok (.putfield 58, 3) := by decide +kernel
theorem dX1_begin_5 : decode cX1_begin 5 = .ok (.aload_n 0, 1) := by decide +kernel
theorem dX1_begin_6 : decode cX1_begin 6 = .ok (.getfield 12, 3) := by decide +kernel
theorem dX1_begin_9 : decode cX1_begin 9 = .ok (.aload_n 1, 1) := by decide +kernel
theorem dX1_begin_10 : decode cX1_begin 10 = .ok (.invokevirtual 68, 3) := by decide +kernel
theorem dX1_begin_13 : decode cX1_begin 13 = .ok (.aload_n 0, 1) := by decide +kernel
theorem dX1_begin_14 : decode cX1_begin 14 = .ok (.getfield 18, 3) := by decide +kernel
theorem dX1_begin_17 : decode cX1_begin 17 = .ok (.iconst (-1), 1) := by decide +kernel
theorem dX1_begin_18 : decode cX1_begin 18 = .ok (.invokestatic 62, 3) := by decide +kernel
theorem dX1_begin_21 : decode cX1_begin 21 = .ok (.aload_n 0, 1) := by decide +kernel
theorem dX1_begin_22 : decode cX1_begin 22 = .ok (.getfield 22, 3) := by decide +kernel
theorem dX1_begin_25 : decode cX1_begin 25 = .ok (.lconst 0, 1) := by decide +kernel
theorem dX1_begin_26 : decode cX1_begin 26 = .ok (.invokestatic 72, 3) := by decide +kernel
theorem dX1_begin_29 : decode cX1_begin 29 = .ok (.aload_n 0, 1) := by decide +kernel
theorem dX1_begin_30 : decode cX1_begin 30 = .ok (.getfield 32, 3) := by decide +kernel
theorem dX1_begin_33 : decode cX1_begin 33 = .ok (.iconst (-1), 1) := by decide +kernel
theorem dX1_begin_34 : decode cX1_begin 34 = .ok (.invokestatic 62, 3) := by decide +kernel
theorem dX1_begin_37 : decode cX1_begin 37 = .ok (.aload_n 0, 1) := by decide +kernel
theorem dX1_begin_38 : decode cX1_begin 38 = .ok (.getfield 38, 3) := by decide +kernel
theorem dX1_begin_41 : decode cX1_begin 41 = .ok (.invokevirtual 75, 3) := by decide +kernel
theorem dX1_begin_44 : decode cX1_begin 44 = .ok (.aload_n 0, 1) := by decide +kernel
theorem dX1_begin_45 : decode cX1_begin 45 = .ok (.iconst 0, 1) := by decide +kernel
theorem dX1_begin_46 : decode cX1_begin 46 = .ok (.putfield 45, 3) := by decide +kernel
theorem dX1_begin_49 : decode cX1_begin 49 = .ok (.return_, 1) := by decide +kernel
def m_Bn_begin_13 (g : Nat) (S : St) : Option St :=
(m_Arr_fill_53178 g S 74 (-1 : Int32)).bind fun S_3 =>
(m_Arr_fill_d0a16 g S_3 75 (0 : Int64)).bind fun S_4 =>
(m_Arr_fill_53178 g S_4 77 (-1 : Int32)).bind fun S_5 =>
(m_Row_clear g S_5 22).bind fun S_6 =>
lt (sI S_6 4 7 (0 : Int32)) fun S_7 =>
some S_7
def m_Bn_begin (g : Nat) (S : St) (x1 : Nat) : Option St :=
lt (sR S 4 9 x1) fun S_1 =>
(m_Tx_begin g S_1 x1).bind fun S_2 =>
m_Bn_begin_13 g S_2
theorem km_Bn_begin_13 {g : Nat} {S : St} {S' : St} (h : m_Bn_begin_13 g S = some S') : kap S ≤ kap S' := by
  unfold m_Bn_begin_13 at h
  have nn : nq S S := nq_rf
  obtain ⟨S_3, hS_3, h⟩ := bnd h
  replace nn : nq S_3 S := nq_tr (kq_Arr_fill_53178 hS_3) nn
  obtain ⟨S_4, hS_4, h⟩ := bnd h
  replace nn : nq S_4 S := nq_tr (kq_Arr_fill_d0a16 hS_4) nn
  obtain ⟨S_5, hS_5, h⟩ := bnd h
  replace nn : nq S_5 S := nq_tr (kq_Arr_fill_53178 hS_5) nn
  obtain ⟨S_6, hS_6, h⟩ := bnd h
  replace nn : nq S_6 S := nq_tr (kq_Row_clear hS_6) nn
  obtain ⟨S_7, eS_7, h⟩ := lt_e h
  replace nn : nq S_7 S := nq_tr (by rw [eS_7]; rfl) nn
  obtain rfl := som h
  have hkn := nq_kap nn
  omega
theorem km_Bn_begin {g : Nat} {S : St} {x1 : Nat} {S' : St} (h : m_Bn_begin g S x1 = some S') : kap S ≤ kap S' := by
  unfold m_Bn_begin at h
  have nn : nq S S := nq_rf
  obtain ⟨S_1, eS_1, h⟩ := lt_e h
  replace nn : nq S_1 S := nq_tr (by rw [eS_1]; rfl) nn
  obtain ⟨S_2, hS_2, h⟩ := bnd h
  have hk1 := km_Tx_begin hS_2
  have hkn := nq_kap nn
  have h2 := km_Bn_begin_13 h
  omega
section S_Bn_begin
variable {p : Program} {l : Launch} {e : Env} {s : State} {m : MethodId} {args : Array Value} {below : List Frame} {meth : Method} {c : Code} {H : Heap} {locs : List Loc} {ls : Array Slot} {D : va_G} {T : Cy} {ρ ρ0 : Nat → Nat} {S0 : St} {A : Nat → Prop}
set_option maxRecDepth 100000 in
set_option maxHeartbeats 4000000 in
theorem w_Bn_begin_13 {g : Nat} {S : St} (C : CallFix p m c cX1_begin 2 s args tb RX1) (hr : meth.sig.returnType = none) (hk : meth.locks = false) {S' : St} (ha : Ag ρ0 ρ) (hm : kap S0 ≤ kap S) (w : Wn Yc D T ρ S A s H locs) (hl : lv_has ls 2 [(0, .ref (ρ 4))]) (h : m_Bn_begin_13 g S = some S') : W p l e (rmK 4 92 (kap S' - kap S0)) s m args below meth c H locs (kap S - kap S0) (2 * (kap S - kap S0)) (MQ below (QvM D T ρ0 A S') args s (kap S' - kap S0) (2 * (kap S' - kap S0)) A) (F0 m 13 ls []) := by
  have hT := km_Bn_begin_13 h
  unfold m_Bn_begin_13 at h
  have nn : nq S S := nq_rf
  refine lv_aload_n C.1 C.2.1 dX1_begin_13 rfl (lv_at hl 0 rfl) ?_
  refine x_getC C w 74 fX1_18 obC4 rfl dX1_begin_14 ?_
  refine lv_iconst (v := (-1)) C.1 C.2.1 dX1_begin_17 (by decide) ?_
  obtain ⟨S_3, hS_3, h⟩ := bnd h
  replace nn : nq S_3 S := nq_tr (kq_Arr_fill_53178 hS_3) nn
  refine x_callSv (As := [.ref (ρ 74), .int (-1 : Int32)]) (rest := []) C w (k_Arr_fill_53178 l D T ρ g H.size S obC74 hS_3) vX1_62 (hRK (by decide) (by decide)) rfl rfl hl.1 (Nat.le_of_ble_eq_true rfl) (hcK hT) dX1_begin_18 (fun H locs w => ?_)
  refine lv_aload_n C.1 C.2.1 dX1_begin_21 rfl (lv_at hl 0 rfl) ?_
  refine x_getC C w 75 fX1_22 obC4 rfl dX1_begin_22 ?_
  refine lv_lconst (v := 0) C.1 C.2.1 dX1_begin_25 (by decide) ?_
  obtain ⟨S_4, hS_4, h⟩ := bnd h
  replace nn : nq S_4 S := nq_tr (kq_Arr_fill_d0a16 hS_4) nn
  refine x_callSv (As := [.ref (ρ 75), .long (0 : Int64)]) (rest := []) C w (k_Arr_fill_d0a16 l D T ρ g H.size S_3 obC75 hS_4) vX1_72 (hRK (by decide) (by decide)) rfl rfl hl.1 (Nat.le_of_ble_eq_true rfl) (hcK hT) dX1_begin_26 (fun H locs w => ?_)
  refine lv_aload_n C.1 C.2.1 dX1_begin_29 rfl (lv_at hl 0 rfl) ?_
  refine x_getC C w 77 fX1_32 obC4 rfl dX1_begin_30 ?_
  refine lv_iconst (v := (-1)) C.1 C.2.1 dX1_begin_33 (by decide) ?_
  obtain ⟨S_5, hS_5, h⟩ := bnd h
  replace nn : nq S_5 S := nq_tr (kq_Arr_fill_53178 hS_5) nn
  refine x_callSv (As := [.ref (ρ 77), .int (-1 : Int32)]) (rest := []) C w (k_Arr_fill_53178 l D T ρ g H.size S_4 obC77 hS_5) vX1_62 (hRK (by decide) (by decide)) rfl rfl hl.1 (Nat.le_of_ble_eq_true rfl) (hcK hT) dX1_begin_34 (fun H locs w => ?_)
  refine lv_aload_n C.1 C.2.1 dX1_begin_37 rfl (lv_at hl 0 rfl) ?_
  refine x_getC C w 22 fX1_38 obC4 rfl dX1_begin_38 ?_
  obtain ⟨S_6, hS_6, h⟩ := bnd h
  replace nn : nq S_6 S := nq_tr (kq_Row_clear hS_6) nn
  refine x_callVv (q := (RX6, TX6, 4)) (As := []) (rest := []) C w (k_Row_clear l D T ρ g H.size S_5 obC22 hS_6) vX1_75 (hRK (by decide) (by decide)) obC22 (by decide) rfl rfl rfl hl.1 (Nat.le_of_ble_eq_true rfl) (hcK hT) dX1_begin_41 (fun H locs w => ?_)
  refine lv_aload_n C.1 C.2.1 dX1_begin_44 rfl (lv_at hl 0 rfl) ?_
  refine lv_iconst (v := 0) C.1 C.2.1 dX1_begin_45 (by decide) ?_
  obtain ⟨S_7, eS_7, h⟩ := lt_e h
  replace nn : nq S_7 S := nq_tr (by rw [eS_7]; rfl) nn
  refine y_putI C w eS_7 fX1_45 pX1_7 obC4 dX1_begin_46 (fun H locs w => ?_)
  obtain rfl := som h
  exact x_vretM C w ha hr hk dX1_begin_49 (by have := nq_kap nn; omega) (by have := nq_kap nn; omega)
set_option maxRecDepth 100000 in
set_option maxHeartbeats 4000000 in
theorem w_Bn_begin_0 {g : Nat} {S : St} {x1 : Nat} (C : CallFix p m c cX1_begin 2 s args tb RX1) (hr : meth.sig.returnType = none) (hk : meth.locks = false) {S' : St} (ha : Ag ρ0 ρ) (hm : kap S0 ≤ kap S) (w : Wn Yc D T ρ S A s H locs) (hl : lv_has ls 2 [(0, .ref (ρ 4)), (1, .ref (ρ x1))]) (ho_x1 : Ob Yc x1 2) (h : m_Bn_begin g S x1 = some S') : W p l e (rmK 4 92 (kap S' - kap S0)) s m args below meth c H locs (kap S - kap S0) (2 * (kap S - kap S0)) (MQ below (QvM D T ρ0 A S') args s (kap S' - kap S0) (2 * (kap S' - kap S0)) A) (F0 m 0 ls []) := by
  have hT := km_Bn_begin h
  unfold m_Bn_begin at h
  have nn : nq S S := nq_rf
  refine lv_aload_n C.1 C.2.1 dX1_begin_0 rfl (lv_at hl 0 rfl) ?_
  refine lv_aload_n C.1 C.2.1 dX1_begin_1 rfl (lv_at hl 1 rfl) ?_
  obtain ⟨S_1, eS_1, h⟩ := lt_e h
  replace nn : nq S_1 S := nq_tr (by rw [eS_1]; rfl) nn
  refine y_putR C w eS_1 fX1_58 pX1_9 obC4 dX1_begin_2 (fun H locs w => ?_)
  refine lv_aload_n C.1 C.2.1 dX1_begin_5 rfl (lv_at hl 0 rfl) ?_
  refine x_getC C w 5 fX1_12 obC4 rfl dX1_begin_6 ?_
  refine lv_aload_n C.1 C.2.1 dX1_begin_9 rfl (lv_at hl 1 rfl) ?_
  obtain ⟨S_2, hS_2, h⟩ := bnd h
  have hkn := nq_kap nn
  have hk1 := km_Tx_begin hS_2
  have hT2 := km_Bn_begin_13 h
  refine x_callVvM (q := (RX10, TX10, 5)) (As := [.ref (ρ x1)]) (rest := []) C w (k_Tx_begin l D T ρ g H.size S_1 ho_x1 hS_2) vX1_68 (hRK (by decide) (by decide)) obC5 (by decide) rfl rfl rfl hl.1 (Nat.le_of_ble_eq_true rfl) (hcM hm hkn hk1 hT2) dX1_begin_10 (fun ρ1 H locs hag w => ?_)
  replace ha := ha.trans hag
  rw [← hag 4 (by decide)] at hl
  rw [← hag x1 (ncP ho_x1)] at hl
  refine W.widen (k := kap S_2 - kap S0) (n := 2 * (kap S_2 - kap S0)) (by omega) (by omega) ?_
  exact w_Bn_begin_13 C hr hk ha (by omega) w (lv_sub hl [0] rfl) h
end S_Bn_begin
set_option maxRecDepth 100000 in
theorem k_Bn_begin (l : Launch) (D : va_G) (T : Cy) (ρ : Nat → Nat) (g sz : Nat) (S : St) {x1 : Nat} (ho_x1 : Ob Yc x1 2) {S' : St} (h : m_Bn_begin g S x1 = some S') : MvM l D T ρ yX1_begin cX1_begin 2 none 4 92 S S' [.ref (ρ 4), .ref (ρ x1)] sz :=
  x_inR (by decide) (Nat.le_of_ble_eq_true rfl) (fun p e s m below meth c ls C hr hk w hl => W.widen (Nat.zero_le _) (Nat.zero_le _) (w_Bn_begin_0 C hr hk Ag.rf (Nat.le_refl _) w hl ho_x1 h))

theorem dX6_insert_0 : decode cX6_insert 0 = .ok (.iload 4, 2) := by decide +kernel
theorem dX6_insert_2 : decode cX6_insert 2 = .ok (.iload_n 3, 1) := by decide +kernel
theorem dX6_insert_3 : decode cX6_insert 3 = .ok (.isub, 1) := by decide +kernel
theorem dX6_insert_4 : decode cX6_insert 4 = .ok (.istore 5, 2) := by decide +kernel
theorem dX6_insert_6 : decode cX6_insert 6 = .ok (.iload_n 1, 1) := by decide +kernel
theorem dX6_insert_7 : decode cX6_insert 7 = .ok (.ifCond .lt 29, 3) := by decide +kernel
theorem dX6_insert_10 : decode cX6_insert 10 = .ok (.iload_n 1, 1) := by decide +kernel
theorem dX6_insert_11 : decode cX6_insert 11 = .ok (.aload_n 0, 1) := by decide +kernel
theorem dX6_insert_12 : decode cX6_insert 12 = .ok (.getfield 19, 3) := by decide +kernel
theorem dX6_insert_15 : decode cX6_insert 15 = .ok (.if_icmp .gt 21, 3) := by decide +kernel
theorem dX6_insert_18 : decode cX6_insert 18 = .ok (.iload_n 3, 1) := by decide +kernel
theorem dX6_insert_19 : decode cX6_insert 19 = .ok (.ifCond .lt 17, 3) := by decide +kernel
theorem dX6_insert_22 : decode cX6_insert 22 = .ok (.iload 5, 2) := by decide +kernel
theorem dX6_insert_24 : decode cX6_insert 24 = .ok (.ifCond .lt 12, 3) := by decide +kernel
theorem dX6_insert_27 : decode cX6_insert 27 = .ok (.iload 4, 2) := by decide +kernel
theorem dX6_insert_29 : decode cX6_insert 29 = .ok (.aload_n 2, 1) := by decide +kernel
theorem dX6_insert_30 : decode cX6_insert 30 = .ok (.getfield 19, 3) := by decide +kernel
theorem dX6_insert_33 : decode cX6_insert 33 = .ok (.if_icmp .le 4, 3) := by decide +kernel
theorem dX6_insert_36 : decode cX6_insert 36 = .ok (.return_, 1) := by decide +kernel
theorem dX6_insert_37 : decode cX6_insert 37 = .ok (.iload 5, 2) := by decide +kernel
theorem dX6_insert_39 : decode cX6_insert 39 = .ok (.aload_n 0, 1) := by decide +kernel
theorem dX6_insert_40 : decode cX6_insert 40 = .ok (.getfield 9, 3) := by decide +kernel
theorem dX6_insert_43 : decode cX6_insert 43 = .ok (.aload_n 0, 1) := by decide +kernel
theorem dX6_insert_44 : decode cX6_insert 44 = .ok (.getfield 19, 3) := by decide +kernel
theorem dX6_insert_47 : decode cX6_insert 47 = .ok (.isub, 1) := by decide +kernel
theorem dX6_insert_48 : decode cX6_insert 48 = .ok (.if_icmp .le 9, 3) := by decide +kernel
theorem dX6_insert_51 : decode cX6_insert 51 = .ok (.aload_n 0, 1) := by decide +kernel
theorem dX6_insert_52 : decode cX6_insert 52 = .ok (.iconst 1, 1) := by decide +kernel
theorem dX6_insert_53 : decode cX6_insert 53 = .ok (.putfield 22, 3) := by decide +kernel
theorem dX6_insert_56 : decode cX6_insert 56 = .ok (.return_, 1) := by decide +kernel
theorem dX6_insert_57 : decode cX6_insert 57 = .ok (.aload_n 0, 1) := by decide +kernel
theorem dX6_insert_58 : decode cX6_insert 58 = .ok (.getfield 19, 3) := by decide +kernel
theorem dX6_insert_61 : decode cX6_insert 61 = .ok (.iload 5, 2) := by decide +kernel
theorem dX6_insert_63 : decode cX6_insert 63 = .ok (.iadd, 1) := by decide +kernel
theorem dX6_insert_64 : decode cX6_insert 64 = .ok (.aload_n 0, 1) := by decide +kernel
theorem dX6_insert_65 : decode cX6_insert 65 = .ok (.getfield 15, 3) := by decide +kernel
theorem dX6_insert_68 : decode cX6_insert 68 = .ok (.arraylength, 1) := by decide +kernel
theorem dX6_insert_69 : decode cX6_insert 69 = .ok (.if_icmp .le 31, 3) := by decide +kernel
theorem dX6_insert_72 : decode cX6_insert 72 = .ok (.aload_n 0, 1) := by decide +kernel
theorem dX6_insert_73 : decode cX6_insert 73 = .ok (.aload_n 0, 1) := by decide +kernel
theorem dX6_insert_74 : decode cX6_insert 74 = .ok (.getfield 15, 3) := by decide +kernel
theorem dX6_insert_77 : decode cX6_insert 77 = .ok (.aload_n 0, 1) := by decide +kernel
theorem dX6_insert_78 : decode cX6_insert 78 = .ok (.getfield 19, 3) := by decide +kernel
theorem dX6_insert_81 : decode cX6_insert 81 = .ok (.iload 5, 2) := by decide +kernel
theorem dX6_insert_83 : decode cX6_insert 83 = .ok (.iadd, 1) := by decide +kernel
theorem dX6_insert_84 : decode cX6_insert 84 = .ok (.iconst 2, 1) := by decide +kernel
theorem dX6_insert_85 : decode cX6_insert 85 = .ok (.aload_n 0, 1) := by decide +kernel
theorem dX6_insert_86 : decode cX6_insert 86 = .ok (.getfield 15, 3) := by decide +kernel
theorem dX6_insert_89 : decode cX6_insert 89 = .ok (.arraylength, 1) := by decide +kernel
theorem dX6_insert_90 : decode cX6_insert 90 = .ok (.imul, 1) := by decide +kernel
theorem dX6_insert_91 : decode cX6_insert 91 = .ok (.invokestatic 65, 3) := by decide +kernel
theorem dX6_insert_94 : decode cX6_insert 94 = .ok (.invokestatic 26, 3) := by decide +kernel
theorem dX6_insert_97 : decode cX6_insert 97 = .ok (.putfield 15, 3) := by decide +kernel
theorem dX6_insert_100 : decode cX6_insert 100 = .ok (.aload_n 0, 1) := by decide +kernel
theorem dX6_insert_101 : decode cX6_insert 101 = .ok (.getfield 15, 3) := by decide +kernel
theorem dX6_insert_104 : decode cX6_insert 104 = .ok (.iload_n 1, 1) := by decide +kernel
theorem dX6_insert_105 : decode cX6_insert 105 = .ok (.aload_n 0, 1) := by decide +kernel
theorem dX6_insert_106 : decode cX6_insert 106 = .ok (.getfield 15, 3) := by decide +kernel
theorem dX6_insert_109 : decode cX6_insert 109 = .ok (.iload_n 1, 1) := by decide +kernel
theorem dX6_insert_110 : decode cX6_insert 110 = .ok (.iload 5, 2) := by decide +kernel
theorem dX6_insert_112 : decode cX6_insert 112 = .ok (.iadd, 1) := by decide +kernel
theorem dX6_insert_113 : decode cX6_insert 113 = .ok (.aload_n 0, 1) := by decide +kernel
theorem dX6_insert_114 : decode cX6_insert 114 = .ok (.getfield 19, 3) := by decide +kernel
theorem dX6_insert_117 : decode cX6_insert 117 = .ok (.iload_n 1, 1) := by decide +kernel
theorem dX6_insert_118 : decode cX6_insert 118 = .ok (.isub, 1) := by decide +kernel
theorem dX6_insert_119 : decode cX6_insert 119 = .ok (.invokestatic 71, 3) := by decide +kernel
theorem dX6_insert_122 : decode cX6_insert 122 = .ok (.aload_n 2, 1) := by decide +kernel
theorem dX6_insert_123 : decode cX6_insert 123 = .ok (.getfield 15, 3) := by decide +kernel
theorem dX6_insert_126 : decode cX6_insert 126 = .ok (.iload_n 3, 1) := by decide +kernel
theorem dX6_insert_127 : decode cX6_insert 127 = .ok (.aload_n 0, 1) := by decide +kernel
theorem dX6_insert_128 : decode cX6_insert 128 = .ok (.getfield 15, 3) := by decide +kernel
theorem dX6_insert_131 : decode cX6_insert 131 = .ok (.iload_n 1, 1) := by decide +kernel
theorem dX6_insert_132 : decode cX6_insert 132 = .ok (.iload 5, 2) := by decide +kernel
theorem dX6_insert_134 : decode cX6_insert 134 = .ok (.invokestatic 71, 3) := by decide +kernel
theorem dX6_insert_137 : decode cX6_insert 137 = .ok (.aload_n 0, 1) := by decide +kernel
theorem dX6_insert_138 : decode cX6_insert 138 = .ok (.dup, 1) := by decide +kernel
theorem dX6_insert_139 : decode cX6_insert 139 = .ok (.getfield 19, 3) := by decide +kernel
theorem dX6_insert_142 : decode cX6_insert 142 = .ok (.iload 5, 2) := by decide +kernel
theorem dX6_insert_144 : decode cX6_insert 144 = .ok (.iadd, 1) := by decide +kernel
theorem dX6_insert_145 : decode cX6_insert 145 = .ok (.putfield 19, 3) := by decide +kernel
theorem dX6_insert_148 : decode cX6_insert 148 = .ok (.return_, 1) := by decide +kernel
def m_Row_insert_100 (g : Nat) (S : St) (x0 : Nat) (x1 : Int32) (x2 : Nat) (x3 : Int32) (x5 : Int32) : Option St :=
(cpI S (x0 + 24) x1 (x0 + 24) (x1 + x5) ((gI S x0 2) - x1)).bind fun S_2 =>
(cpI S_2 (x2 + 24) x3 (x0 + 24) x1 x5).bind fun S_3 =>
lt (sI S_3 x0 2 ((gI S_3 x0 2) + x5)) fun S_4 =>
some S_4
def m_Row_insert (g : Nat) (S : St) (x0 : Nat) (x1 : Int32) (x2 : Nat) (x3 : Int32) (x4 : Int32) : Option St :=
lt (x4 - x3) fun x5_1 =>
if x1 < 0 then (
  some S
) else (
  if (gI S x0 2) < x1 then (
    some S
  ) else (
    if x3 < 0 then (
      some S
    ) else (
      if x5_1 < 0 then (
        some S
      ) else (
        if x4 ≤ (gI S x2 2) then (
          if x5_1 ≤ ((gI S x0 0) - (gI S x0 2)) then (
            if ((gI S x0 2) + x5_1) ≤ (Int32.ofNat (gN S (x0 + 24))) then (
              m_Row_insert_100 g S x0 x1 x2 x3 x5_1
            ) else (
              (gro S x0 (maxI ((gI S x0 2) + x5_1) ((2 : Int32) * (Int32.ofNat (gN S (x0 + 24)))))).bind fun S_2 =>
              m_Row_insert_100 g S_2 x0 x1 x2 x3 x5_1
            )
          ) else (
            lt (sI S x0 3 (1 : Int32)) fun S_3 =>
            some S_3
          )
        ) else (
          some S
        )
      )
    )
  )
)
theorem km_Row_insert_100 {g : Nat} {S : St} {x0 : Nat} {x1 : Int32} {x2 : Nat} {x3 : Int32} {x5 : Int32} {S' : St} (h : m_Row_insert_100 g S x0 x1 x2 x3 x5 = some S') : kap S ≤ kap S' := by
  unfold m_Row_insert_100 at h
  have nn : nq S S := nq_rf
  obtain ⟨S_2, hS_2, h⟩ := bnd h
  replace nn : nq S_2 S := nq_tr (nq_cpI hS_2) nn
  obtain ⟨S_3, hS_3, h⟩ := bnd h
  replace nn : nq S_3 S := nq_tr (nq_cpI hS_3) nn
  obtain ⟨S_4, eS_4, h⟩ := lt_e h
  replace nn : nq S_4 S := nq_tr (by rw [eS_4]; rfl) nn
  obtain rfl := som h
  have hkn := nq_kap nn
  omega
theorem km_Row_insert {g : Nat} {S : St} {x0 : Nat} {x1 : Int32} {x2 : Nat} {x3 : Int32} {x4 : Int32} {S' : St} (h : m_Row_insert g S x0 x1 x2 x3 x4 = some S') : kap S ≤ kap S' := by
  unfold m_Row_insert at h
  have nn : nq S S := nq_rf
  obtain ⟨x5_1, ex5_1, h⟩ := lt_e h
  by_cases hc1 : x1 < 0
  · replace h := ift hc1 h
    obtain rfl := som h
    have hkn := nq_kap nn
    omega
  · replace h := iff0 hc1 h
    by_cases hc2 : (gI S x0 2) < x1
    · replace h := ift hc2 h
      obtain rfl := som h
      have hkn := nq_kap nn
      omega
    · replace h := iff0 hc2 h
      by_cases hc3 : x3 < 0
      · replace h := ift hc3 h
        obtain rfl := som h
        have hkn := nq_kap nn
        omega
      · replace h := iff0 hc3 h
        by_cases hc4 : x5_1 < 0
        · replace h := ift hc4 h
          obtain rfl := som h
          have hkn := nq_kap nn
          omega
        · replace h := iff0 hc4 h
          by_cases hc5 : x4 ≤ (gI S x2 2)
          · replace h := ift hc5 h
            by_cases hc6 : x5_1 ≤ ((gI S x0 0) - (gI S x0 2))
            · replace h := ift hc6 h
              by_cases hc7 : ((gI S x0 2) + x5_1) ≤ (Int32.ofNat (gN S (x0 + 24)))
              · replace h := ift hc7 h
                have hkn := nq_kap nn
                have h2 := km_Row_insert_100 h
                omega
              · replace h := iff0 hc7 h
                obtain ⟨S_2, hS_2, h⟩ := bnd h
                have hk1 := km_gro hS_2
                have hkn := nq_kap nn
                have h2 := km_Row_insert_100 h
                omega
            · replace h := iff0 hc6 h
              obtain ⟨S_3, eS_3, h⟩ := lt_e h
              replace nn : nq S_3 S := nq_tr (by rw [eS_3]; rfl) nn
              obtain rfl := som h
              have hkn := nq_kap nn
              omega
          · replace h := iff0 hc5 h
            obtain rfl := som h
            have hkn := nq_kap nn
            omega
section S_Row_insert
variable {p : Program} {l : Launch} {e : Env} {s : State} {m : MethodId} {args : Array Value} {below : List Frame} {meth : Method} {c : Code} {H : Heap} {locs : List Loc} {ls : Array Slot} {D : va_G} {T : Cy} {ρ ρ0 : Nat → Nat} {S0 : St} {A : Nat → Prop}
set_option maxRecDepth 100000 in
set_option maxHeartbeats 4000000 in
theorem w_Row_insert_100 {g : Nat} {S : St} {x0 : Nat} {x1 : Int32} {x2 : Nat} {x3 : Int32} {x5 : Int32} (C : CallFix p m c cX6_insert 6 s args tb RX6) (hr : meth.sig.returnType = none) (hk : meth.locks = false) {S' : St} (ha : Ag ρ0 ρ) (hm : kap S0 ≤ kap S) (w : Wn Yc D T ρ S A s H locs) (hl : lv_has ls 6 [(0, .ref (ρ x0)), (1, .int x1), (2, .ref (ρ x2)), (3, .int x3), (5, .int x5)]) (ho_x0 : Ob Yc x0 4) (ho_x2 : Ob Yc x2 4) (h : m_Row_insert_100 g S x0 x1 x2 x3 x5 = some S') : W p l e (rmK 2 48 (kap S' - kap S0)) s m args below meth c H locs (kap S - kap S0) (2 * (kap S - kap S0)) (MQ below (QvM D T ρ0 A S') args s (kap S' - kap S0) (2 * (kap S' - kap S0)) A) (F0 m 100 ls []) := by
  have hT := km_Row_insert_100 h
  unfold m_Row_insert_100 at h
  have nn : nq S S := nq_rf
  refine lv_aload_n C.1 C.2.1 dX6_insert_100 rfl (lv_at hl 0 rfl) ?_
  refine x_getC C w (x0 + 24) fX6_15 ho_x0 (crCells ho_x0) dX6_insert_101 ?_
  refine lv_iload_n C.1 C.2.1 dX6_insert_104 rfl (lv_at hl 1 rfl) ?_
  refine lv_aload_n C.1 C.2.1 dX6_insert_105 rfl (lv_at hl 0 rfl) ?_
  refine x_getC C w (x0 + 24) fX6_15 ho_x0 (crCells ho_x0) dX6_insert_106 ?_
  refine lv_iload_n C.1 C.2.1 dX6_insert_109 rfl (lv_at hl 1 rfl) ?_
  refine lv_iload C.1 C.2.1 dX6_insert_110 (lv_at hl 4 rfl) ?_
  refine lv_iadd C.1 C.2.1 dX6_insert_112 ?_
  refine lv_aload_n C.1 C.2.1 dX6_insert_113 rfl (lv_at hl 0 rfl) ?_
  refine x_getI C w fX6_19 ho_x0 dX6_insert_114 ?_
  refine lv_iload_n C.1 C.2.1 dX6_insert_117 rfl (lv_at hl 1 rfl) ?_
  refine lv_isub C.1 C.2.1 dX6_insert_118 ?_
  obtain ⟨S_2, hS_2, h⟩ := bnd h
  replace nn : nq S_2 S := nq_tr (nq_cpI hS_2) nn
  refine x_cpI C w hl.1 ac_X6 (obCells ho_x0) (obCells ho_x0) hS_2 (hRK (by decide) (by decide)) (Nat.le_of_ble_eq_true rfl) dX6_insert_119 (fun H locs w => ?_)
  refine lv_aload_n C.1 C.2.1 dX6_insert_122 rfl (lv_at hl 2 rfl) ?_
  refine x_getC C w (x2 + 24) fX6_15 ho_x2 (crCells ho_x2) dX6_insert_123 ?_
  refine lv_iload_n C.1 C.2.1 dX6_insert_126 rfl (lv_at hl 3 rfl) ?_
  refine lv_aload_n C.1 C.2.1 dX6_insert_127 rfl (lv_at hl 0 rfl) ?_
  refine x_getC C w (x0 + 24) fX6_15 ho_x0 (crCells ho_x0) dX6_insert_128 ?_
  refine lv_iload_n C.1 C.2.1 dX6_insert_131 rfl (lv_at hl 1 rfl) ?_
  refine lv_iload C.1 C.2.1 dX6_insert_132 (lv_at hl 4 rfl) ?_
  obtain ⟨S_3, hS_3, h⟩ := bnd h
  replace nn : nq S_3 S := nq_tr (nq_cpI hS_3) nn
  refine x_cpI C w hl.1 ac_X6 (obCells ho_x2) (obCells ho_x0) hS_3 (hRK (by decide) (by decide)) (Nat.le_of_ble_eq_true rfl) dX6_insert_134 (fun H locs w => ?_)
  refine lv_aload_n C.1 C.2.1 dX6_insert_137 rfl (lv_at hl 0 rfl) ?_
  refine lv_dup C.1 C.2.1 dX6_insert_138 rfl ?_
  refine x_getI C w fX6_19 ho_x0 dX6_insert_139 ?_
  refine lv_iload C.1 C.2.1 dX6_insert_142 (lv_at hl 4 rfl) ?_
  refine lv_iadd C.1 C.2.1 dX6_insert_144 ?_
  obtain ⟨S_4, eS_4, h⟩ := lt_e h
  replace nn : nq S_4 S := nq_tr (by rw [eS_4]; rfl) nn
  refine y_putI C w eS_4 fX6_19 pX6_2 ho_x0 dX6_insert_145 (fun H locs w => ?_)
  obtain rfl := som h
  exact x_vretM C w ha hr hk dX6_insert_148 (by have := nq_kap nn; omega) (by have := nq_kap nn; omega)
set_option maxRecDepth 100000 in
set_option maxHeartbeats 4000000 in
theorem w_Row_insert_0 {g : Nat} {S : St} {x0 : Nat} {x1 : Int32} {x2 : Nat} {x3 : Int32} {x4 : Int32} (C : CallFix p m c cX6_insert 6 s args tb RX6) (hr : meth.sig.returnType = none) (hk : meth.locks = false) {S' : St} (ha : Ag ρ0 ρ) (hm : kap S0 ≤ kap S) (w : Wn Yc D T ρ S A s H locs) (hl : lv_has ls 6 [(0, .ref (ρ x0)), (1, .int x1), (2, .ref (ρ x2)), (3, .int x3), (4, .int x4)]) (ho_x0 : Ob Yc x0 4) (ho_x2 : Ob Yc x2 4) (h : m_Row_insert g S x0 x1 x2 x3 x4 = some S') : W p l e (rmK 2 48 (kap S' - kap S0)) s m args below meth c H locs (kap S - kap S0) (2 * (kap S - kap S0)) (MQ below (QvM D T ρ0 A S') args s (kap S' - kap S0) (2 * (kap S' - kap S0)) A) (F0 m 0 ls []) := by
  have hT := km_Row_insert h
  unfold m_Row_insert at h
  have nn : nq S S := nq_rf
  refine lv_iload C.1 C.2.1 dX6_insert_0 (lv_at hl 4 rfl) ?_
  refine lv_iload_n C.1 C.2.1 dX6_insert_2 rfl (lv_at hl 3 rfl) ?_
  refine lv_isub C.1 C.2.1 dX6_insert_3 ?_
  obtain ⟨x5_1, ex5_1, h⟩ := lt_e h
  refine x_nm ex5_1 ?_
  refine lv_istore (lv' := [(5, .int x5_1), (0, .ref (ρ x0)), (1, .int x1), (2, .ref (ρ x2)), (3, .int x3), (4, .int x4)]) C.1 C.2.1 dX6_insert_4 hl (by decide) rfl (fun ls hl => ?_)
  refine lv_iload_n C.1 C.2.1 dX6_insert_6 rfl (lv_at hl 2 rfl) ?_
  refine lv_if_lt (tgt := 36) C.1 C.2.1 dX6_insert_7 (by decide) (fun hc => ?_) (fun hc => ?_)
  · replace h := ift hc h
    obtain rfl := som h
    exact x_vretM C w ha hr hk dX6_insert_36 (by have := nq_kap nn; omega) (by have := nq_kap nn; omega)
  · replace h := iff0 hc h
    refine lv_iload_n C.1 C.2.1 dX6_insert_10 rfl (lv_at hl 2 rfl) ?_
    refine lv_aload_n C.1 C.2.1 dX6_insert_11 rfl (lv_at hl 1 rfl) ?_
    refine x_getI C w fX6_19 ho_x0 dX6_insert_12 ?_
    refine lv_icmp_gt (tgt := 36) C.1 C.2.1 dX6_insert_15 (by decide) (fun hc => ?_) (fun hc => ?_)
    · replace h := ift hc h
      obtain rfl := som h
      exact x_vretM C w ha hr hk dX6_insert_36 (by have := nq_kap nn; omega) (by have := nq_kap nn; omega)
    · replace h := iff0 hc h
      refine lv_iload_n C.1 C.2.1 dX6_insert_18 rfl (lv_at hl 4 rfl) ?_
      refine lv_if_lt (tgt := 36) C.1 C.2.1 dX6_insert_19 (by decide) (fun hc => ?_) (fun hc => ?_)
      · replace h := ift hc h
        obtain rfl := som h
        exact x_vretM C w ha hr hk dX6_insert_36 (by have := nq_kap nn; omega) (by have := nq_kap nn; omega)
      · replace h := iff0 hc h
        refine lv_iload C.1 C.2.1 dX6_insert_22 (lv_at hl 0 rfl) ?_
        refine lv_if_lt (tgt := 36) C.1 C.2.1 dX6_insert_24 (by decide) (fun hc => ?_) (fun hc => ?_)
        · replace h := ift hc h
          obtain rfl := som h
          exact x_vretM C w ha hr hk dX6_insert_36 (by have := nq_kap nn; omega) (by have := nq_kap nn; omega)
        · replace h := iff0 hc h
          refine lv_iload C.1 C.2.1 dX6_insert_27 (lv_at hl 5 rfl) ?_
          refine lv_aload_n C.1 C.2.1 dX6_insert_29 rfl (lv_at hl 3 rfl) ?_
          refine x_getI C w fX6_19 ho_x2 dX6_insert_30 ?_
          refine lv_icmp_le (tgt := 37) C.1 C.2.1 dX6_insert_33 (by decide) (fun hc => ?_) (fun hc => ?_)
          · replace h := ift hc h
            refine lv_iload C.1 C.2.1 dX6_insert_37 (lv_at hl 0 rfl) ?_
            refine lv_aload_n C.1 C.2.1 dX6_insert_39 rfl (lv_at hl 1 rfl) ?_
            refine x_getI C w fX6_9 ho_x0 dX6_insert_40 ?_
            refine lv_aload_n C.1 C.2.1 dX6_insert_43 rfl (lv_at hl 1 rfl) ?_
            refine x_getI C w fX6_19 ho_x0 dX6_insert_44 ?_
            refine lv_isub C.1 C.2.1 dX6_insert_47 ?_
            refine lv_icmp_le (tgt := 57) C.1 C.2.1 dX6_insert_48 (by decide) (fun hc => ?_) (fun hc => ?_)
            · replace h := ift hc h
              refine lv_aload_n C.1 C.2.1 dX6_insert_57 rfl (lv_at hl 1 rfl) ?_
              refine x_getI C w fX6_19 ho_x0 dX6_insert_58 ?_
              refine lv_iload C.1 C.2.1 dX6_insert_61 (lv_at hl 0 rfl) ?_
              refine lv_iadd C.1 C.2.1 dX6_insert_63 ?_
              refine lv_aload_n C.1 C.2.1 dX6_insert_64 rfl (lv_at hl 1 rfl) ?_
              refine x_getC C w (x0 + 24) fX6_15 ho_x0 (crCells ho_x0) dX6_insert_65 ?_
              refine x_alen C w (obCells ho_x0) dX6_insert_68 ?_
              refine lv_icmp_le (tgt := 100) C.1 C.2.1 dX6_insert_69 (by decide) (fun hc => ?_) (fun hc => ?_)
              · replace h := ift hc h
                have hkn := nq_kap nn
                refine W.widen (k := kap S - kap S0) (n := 2 * (kap S - kap S0)) (by omega) (by omega) ?_
                exact w_Row_insert_100 C hr hk ha (by omega) w (lv_sub hl [1, 2, 3, 4, 0] rfl) ho_x0 ho_x2 h
              · replace h := iff0 hc h
                refine lv_aload_n C.1 C.2.1 dX6_insert_72 rfl (lv_at hl 1 rfl) ?_
                refine lv_aload_n C.1 C.2.1 dX6_insert_73 rfl (lv_at hl 1 rfl) ?_
                refine x_getC C w (x0 + 24) fX6_15 ho_x0 (crCells ho_x0) dX6_insert_74 ?_
                refine lv_aload_n C.1 C.2.1 dX6_insert_77 rfl (lv_at hl 1 rfl) ?_
                refine x_getI C w fX6_19 ho_x0 dX6_insert_78 ?_
                refine lv_iload C.1 C.2.1 dX6_insert_81 (lv_at hl 0 rfl) ?_
                refine lv_iadd C.1 C.2.1 dX6_insert_83 ?_
                refine lv_iconst (v := 2) C.1 C.2.1 dX6_insert_84 (by decide) ?_
                refine lv_aload_n C.1 C.2.1 dX6_insert_85 rfl (lv_at hl 1 rfl) ?_
                refine x_getC C w (x0 + 24) fX6_15 ho_x0 (crCells ho_x0) dX6_insert_86 ?_
                refine x_alen C w (obCells ho_x0) dX6_insert_89 ?_
                refine lv_imul C.1 C.2.1 dX6_insert_90 ?_
                refine x_maxI C hl.1 vX6_65.1 (hRK (by decide) (by decide)) (Nat.le_of_ble_eq_true rfl) (hcK hT) dX6_insert_91 ?_
                obtain ⟨S_2, hS_2, h⟩ := bnd h
                have hkn := nq_kap nn
                have hk1 := km_gro hS_2
                have hT2 := km_Row_insert_100 h
                refine x_grow C w ho_x0 hS_2 hl.1 (hRK (by decide) (by decide)) (Nat.le_of_ble_eq_true rfl) (hcM hm hkn hk1 hT2) dX6_insert_94 dX6_insert_97 (fun ρ1 H locs hag w => ?_)
                replace ha := ha.trans hag
                rw [← hag x0 (ncR ho_x0)] at hl
                rw [← hag x2 (ncR ho_x2)] at hl
                refine W.widen (k := kap S_2 - kap S0) (n := 2 * (kap S_2 - kap S0)) (by omega) (by omega) ?_
                exact w_Row_insert_100 C hr hk ha (by omega) w (lv_sub hl [1, 2, 3, 4, 0] rfl) ho_x0 ho_x2 h
            · replace h := iff0 hc h
              refine lv_aload_n C.1 C.2.1 dX6_insert_51 rfl (lv_at hl 1 rfl) ?_
              refine lv_iconst (v := 1) C.1 C.2.1 dX6_insert_52 (by decide) ?_
              obtain ⟨S_3, eS_3, h⟩ := lt_e h
              replace nn : nq S_3 S := nq_tr (by rw [eS_3]; rfl) nn
              refine y_putZ C w eS_3 fX6_22 pX6_3 (by decide) ho_x0 dX6_insert_53 (fun H locs w => ?_)
              obtain rfl := som h
              exact x_vretM C w ha hr hk dX6_insert_56 (by have := nq_kap nn; omega) (by have := nq_kap nn; omega)
          · replace h := iff0 hc h
            obtain rfl := som h
            exact x_vretM C w ha hr hk dX6_insert_36 (by have := nq_kap nn; omega) (by have := nq_kap nn; omega)
end S_Row_insert
set_option maxRecDepth 100000 in
theorem k_Row_insert (l : Launch) (D : va_G) (T : Cy) (ρ : Nat → Nat) (g sz : Nat) (S : St) {x0 : Nat} {x1 : Int32} {x2 : Nat} {x3 : Int32} {x4 : Int32} (ho_x0 : Ob Yc x0 4) (ho_x2 : Ob Yc x2 4) {S' : St} (h : m_Row_insert g S x0 x1 x2 x3 x4 = some S') : MvM l D T ρ yX6_insert cX6_insert 6 none 2 48 S S' [.ref (ρ x0), .int x1, .ref (ρ x2), .int x3, .int x4] sz :=
  x_inR (by decide) (Nat.le_of_ble_eq_true rfl) (fun p e s m below meth c ls C hr hk w hl => W.widen (Nat.zero_le _) (Nat.zero_le _) (w_Row_insert_0 C hr hk Ag.rf (Nat.le_refl _) w hl ho_x0 ho_x2 h))

theorem dX1_addText_0 : decode cX1_addText 0 = .ok (.aload_n 0, 1) := by decide +kernel
theorem dX1_addText_1 : decode cX1_addText 1 = .ok (.getfield 49, 3) := by decide +kernel
theorem dX1_addText_4 : decode cX1_addText 4 = .ok (.aload_n 0, 1) := by decide +kernel
theorem dX1_addText_5 : decode cX1_addText 5 = .ok (.getfield 49, 3) := by decide +kernel
theorem dX1_addText_8 : decode cX1_addText 8 = .ok (.getfield 138, 3) := by decide +kernel
theorem dX1_addText_11 : decode cX1_addText 11 = .ok (.aload_n 0, 1) := by decide +kernel
theorem dX1_addText_12 : decode cX1_addText 12 = .ok (.getfield 12, 3) := by decide +kernel
theorem dX1_addText_15 : decode cX1_addText 15 = .ok (.getfield 141, 3) := by decide +kernel
theorem dX1_addText_18 : decode cX1_addText 18 = .ok (.aload_n 0, 1) := by decide +kernel
theorem dX1_addText_19 : decode cX1_addText 19 = .ok (.getfield 12, 3) := by decide +kernel
theorem dX1_addText_22 : decode cX1_addText 22 = .ok (.iload_n 1, 1) := by decide +kernel
theorem dX1_addText_23 : decode cX1_addText 23 = .ok (.invokevirtual 144, 3) := by decide +kernel
theorem dX1_addText_26 : decode cX1_addText 26 = .ok (.aload_n 0, 1) := by decide +kernel
theorem dX1_addText_27 : decode cX1_addText 27 = .ok (.getfield 12, 3) := by decide +kernel
theorem dX1_addText_30 : decode cX1_addText 30 = .ok (.iload_n 1, 1) := by decide +kernel
theorem dX1_addText_31 : decode cX1_addText 31 = .ok (.invokevirtual 147, 3) := by decide +kernel
theorem dX1_addText_34 : decode cX1_addText 34 = .ok (.invokevirtual 150, 3) := by decide +kernel
theorem dX1_addText_37 : decode cX1_addText 37 = .ok (.return_, 1) := by decide +kernel
def m_Bn_addText_37 (g : Nat) (S : St) : Option St :=
some S
def m_Bn_addText (g : Nat) (S : St) (x1 : Int32) : Option St :=
(m_Tx_startOf g S x1).bind fun v_1 =>
(m_Tx_endOf g S x1).bind fun v_2 =>
(m_Row_insert g S 23 (gI S 23 2) 18 v_1 v_2).bind fun S_3 =>
m_Bn_addText_37 g S_3
theorem km_Bn_addText_37 {g : Nat} {S : St} {S' : St} (h : m_Bn_addText_37 g S = some S') : kap S ≤ kap S' := by
  unfold m_Bn_addText_37 at h
  have nn : nq S S := nq_rf
  obtain rfl := som h
  have hkn := nq_kap nn
  omega
theorem km_Bn_addText {g : Nat} {S : St} {x1 : Int32} {S' : St} (h : m_Bn_addText g S x1 = some S') : kap S ≤ kap S' := by
  unfold m_Bn_addText at h
  have nn : nq S S := nq_rf
  obtain ⟨v_1, hv_1, h⟩ := bnd h
  obtain ⟨v_2, hv_2, h⟩ := bnd h
  obtain ⟨S_3, hS_3, h⟩ := bnd h
  have hk1 := km_Row_insert hS_3
  have hkn := nq_kap nn
  have h2 := km_Bn_addText_37 h
  omega
section S_Bn_addText
variable {p : Program} {l : Launch} {e : Env} {s : State} {m : MethodId} {args : Array Value} {below : List Frame} {meth : Method} {c : Code} {H : Heap} {locs : List Loc} {ls : Array Slot} {D : va_G} {T : Cy} {ρ ρ0 : Nat → Nat} {S0 : St} {A : Nat → Prop}
set_option maxRecDepth 100000 in
set_option maxHeartbeats 4000000 in
theorem w_Bn_addText_37 {g : Nat} {S : St} (C : CallFix p m c cX1_addText 2 s args tb RX1) (hr : meth.sig.returnType = none) (hk : meth.locks = false) {S' : St} (ha : Ag ρ0 ρ) (hm : kap S0 ≤ kap S) (w : Wn Yc D T ρ S A s H locs) (hl : lv_has ls 2 []) (h : m_Bn_addText_37 g S = some S') : W p l e (rmK 3 73 (kap S' - kap S0)) s m args below meth c H locs (kap S - kap S0) (2 * (kap S - kap S0)) (MQ below (QvM D T ρ0 A S') args s (kap S' - kap S0) (2 * (kap S' - kap S0)) A) (F0 m 37 ls []) := by
  have hT := km_Bn_addText_37 h
  unfold m_Bn_addText_37 at h
  have nn : nq S S := nq_rf
  obtain rfl := som h
  exact x_vretM C w ha hr hk dX1_addText_37 (by have := nq_kap nn; omega) (by have := nq_kap nn; omega)
set_option maxRecDepth 100000 in
set_option maxHeartbeats 4000000 in
theorem w_Bn_addText_0 {g : Nat} {S : St} {x1 : Int32} (C : CallFix p m c cX1_addText 2 s args tb RX1) (hr : meth.sig.returnType = none) (hk : meth.locks = false) {S' : St} (ha : Ag ρ0 ρ) (hm : kap S0 ≤ kap S) (w : Wn Yc D T ρ S A s H locs) (hl : lv_has ls 2 [(0, .ref (ρ 4)), (1, .int x1)]) (h : m_Bn_addText g S x1 = some S') : W p l e (rmK 3 73 (kap S' - kap S0)) s m args below meth c H locs (kap S - kap S0) (2 * (kap S - kap S0)) (MQ below (QvM D T ρ0 A S') args s (kap S' - kap S0) (2 * (kap S' - kap S0)) A) (F0 m 0 ls []) := by
  have hT := km_Bn_addText h
  unfold m_Bn_addText at h
  have nn : nq S S := nq_rf
  refine lv_aload_n C.1 C.2.1 dX1_addText_0 rfl (lv_at hl 0 rfl) ?_
  refine x_getC C w 23 fX1_49 obC4 rfl dX1_addText_1 ?_
  refine lv_aload_n C.1 C.2.1 dX1_addText_4 rfl (lv_at hl 0 rfl) ?_
  refine x_getC C w 23 fX1_49 obC4 rfl dX1_addText_5 ?_
  refine x_getI C w fX1_138 obC23 dX1_addText_8 ?_
  refine lv_aload_n C.1 C.2.1 dX1_addText_11 rfl (lv_at hl 0 rfl) ?_
  refine x_getC C w 5 fX1_12 obC4 rfl dX1_addText_12 ?_
  refine x_getC C w 18 fX1_141 obC5 rfl dX1_addText_15 ?_
  refine lv_aload_n C.1 C.2.1 dX1_addText_18 rfl (lv_at hl 0 rfl) ?_
  refine x_getC C w 5 fX1_12 obC4 rfl dX1_addText_19 ?_
  refine lv_iload_n C.1 C.2.1 dX1_addText_22 rfl (lv_at hl 1 rfl) ?_
  obtain ⟨v_1, hv_1, h⟩ := bnd h
  refine x_callVi (q := (RX10, TX10, 5)) (As := [.int x1]) (rest := [.ref (ρ 18), .int (gI S 23 2), .ref (ρ 23)]) C w (k_Tx_startOf l D T ρ g H.size S hv_1) vX1_144 (hRK (by decide) (by decide)) obC5 (by decide) rfl rfl rfl hl.1 (Nat.le_of_ble_eq_true rfl) (hcK hT) dX1_addText_23 (fun H locs w => ?_)
  refine lv_aload_n C.1 C.2.1 dX1_addText_26 rfl (lv_at hl 0 rfl) ?_
  refine x_getC C w 5 fX1_12 obC4 rfl dX1_addText_27 ?_
  refine lv_iload_n C.1 C.2.1 dX1_addText_30 rfl (lv_at hl 1 rfl) ?_
  obtain ⟨v_2, hv_2, h⟩ := bnd h
  refine x_callVi (q := (RX10, TX10, 5)) (As := [.int x1]) (rest := [.int v_1, .ref (ρ 18), .int (gI S 23 2), .ref (ρ 23)]) C w (k_Tx_endOf l D T ρ g H.size S hv_2) vX1_147 (hRK (by decide) (by decide)) obC5 (by decide) rfl rfl rfl hl.1 (Nat.le_of_ble_eq_true rfl) (hcK hT) dX1_addText_31 (fun H locs w => ?_)
  obtain ⟨S_3, hS_3, h⟩ := bnd h
  have hkn := nq_kap nn
  have hk1 := km_Row_insert hS_3
  have hT2 := km_Bn_addText_37 h
  refine x_callVvM (q := (RX6, TX6, 4)) (As := [.int (gI S 23 2), .ref (ρ 18), .int v_1, .int v_2]) (rest := []) C w (k_Row_insert l D T ρ g H.size S obC23 obC18 hS_3) vX1_150 (hRK (by decide) (by decide)) obC23 (by decide) rfl rfl rfl hl.1 (Nat.le_of_ble_eq_true rfl) (hcM hm hkn hk1 hT2) dX1_addText_34 (fun ρ1 H locs hag w => ?_)
  replace ha := ha.trans hag
  rw [← hag 4 (by decide)] at hl
  refine W.widen (k := kap S_3 - kap S0) (n := 2 * (kap S_3 - kap S0)) (by omega) (by omega) ?_
  exact w_Bn_addText_37 C hr hk ha (by omega) w (lv_sub hl [] rfl) h
end S_Bn_addText
set_option maxRecDepth 100000 in
theorem k_Bn_addText (l : Launch) (D : va_G) (T : Cy) (ρ : Nat → Nat) (g sz : Nat) (S : St) {x1 : Int32} {S' : St} (h : m_Bn_addText g S x1 = some S') : MvM l D T ρ yX1_addText cX1_addText 2 none 3 73 S S' [.ref (ρ 4), .int x1] sz :=
  x_inR (by decide) (Nat.le_of_ble_eq_true rfl) (fun p e s m below meth c ls C hr hk w hl => W.widen (Nat.zero_le _) (Nat.zero_le _) (w_Bn_addText_0 C hr hk Ag.rf (Nat.le_refl _) w hl h))

theorem dX6_addPoint_0 : decode cX6_addPoint 0 = .ok (.iload_n 1, 1) := by decide +kernel
theorem dX6_addPoint_1 : decode cX6_addPoint 1 = .ok (.ldc 55, 2) := by decide +kernel
theorem dX6_addPoint_3 : decode cX6_addPoint 3 = .ok (.if_icmp .gt 11, 3) := by decide +kernel
theorem dX6_addPoint_6 : decode cX6_addPoint 6 = .ok (.aload_n 0, 1) := by decide +kernel
theorem dX6_addPoint_7 : decode cX6_addPoint 7 = .ok (.iload_n 1, 1) := by decide +kernel
theorem dX6_addPoint_8 : decode cX6_addPoint 8 = .ok (.invokevirtual 42, 3) := by decide +kernel
theorem dX6_addPoint_11 : decode cX6_addPoint 11 = .ok (.goto 19, 3) := by decide +kernel
theorem dX6_addPoint_14 : decode cX6_addPoint 14 = .ok (.aload_n 0, 1) := by decide +kernel
theorem dX6_addPoint_15 : decode cX6_addPoint 15 = .ok (.iload_n 1, 1) := by decide +kernel
theorem dX6_addPoint_16 : decode cX6_addPoint 16 = .ok (.invokestatic 56, 3) := by decide +kernel
theorem dX6_addPoint_19 : decode cX6_addPoint 19 = .ok (.invokevirtual 42, 3) := by decide +kernel
theorem dX6_addPoint_22 : decode cX6_addPoint 22 = .ok (.aload_n 0, 1) := by decide +kernel
theorem dX6_addPoint_23 : decode cX6_addPoint 23 = .ok (.iload_n 1, 1) := by decide +kernel
theorem dX6_addPoint_24 : decode cX6_addPoint 24 = .ok (.invokestatic 62, 3) := by decide +kernel
theorem dX6_addPoint_27 : decode cX6_addPoint 27 = .ok (.invokevirtual 42, 3) := by decide +kernel
theorem dX6_addPoint_30 : decode cX6_addPoint 30 = .ok (.return_, 1) := by decide +kernel
def m_Row_addPoint_30 (g : Nat) (S : St) : Option St :=
some S
def m_Row_addPoint_22 (g : Nat) (S : St) (x0 : Nat) (x1 : Int32) : Option St :=
(m_Lt_lowOf g x1).bind fun v_3 =>
(m_Row_add g S x0 v_3).bind fun S_4 =>
m_Row_addPoint_30 g S_4
def m_Row_addPoint_11 (g : Nat) (S : St) : Option St :=
m_Row_addPoint_30 g S
def m_Row_addPoint (g : Nat) (S : St) (x0 : Nat) (x1 : Int32) : Option St :=
if (65535 : Int32) < x1 then (
  (m_Lt_highOf g x1).bind fun v_1 =>
  (m_Row_add g S x0 v_1).bind fun S_2 =>
  m_Row_addPoint_22 g S_2 x0 x1
) else (
  (m_Row_add g S x0 x1).bind fun S_3 =>
  m_Row_addPoint_11 g S_3
)
theorem km_Row_addPoint_30 {g : Nat} {S : St} {S' : St} (h : m_Row_addPoint_30 g S = some S') : kap S ≤ kap S' := by
  unfold m_Row_addPoint_30 at h
  have nn : nq S S := nq_rf
  obtain rfl := som h
  have hkn := nq_kap nn
  omega
theorem km_Row_addPoint_22 {g : Nat} {S : St} {x0 : Nat} {x1 : Int32} {S' : St} (h : m_Row_addPoint_22 g S x0 x1 = some S') : kap S ≤ kap S' := by
  unfold m_Row_addPoint_22 at h
  have nn : nq S S := nq_rf
  obtain ⟨v_3, hv_3, h⟩ := bnd h
  obtain ⟨S_4, hS_4, h⟩ := bnd h
  have hk1 := km_Row_add hS_4
  have hkn := nq_kap nn
  have h2 := km_Row_addPoint_30 h
  omega
theorem km_Row_addPoint_11 {g : Nat} {S : St} {S' : St} (h : m_Row_addPoint_11 g S = some S') : kap S ≤ kap S' := by
  unfold m_Row_addPoint_11 at h
  have nn : nq S S := nq_rf
  have hkn := nq_kap nn
  have h2 := km_Row_addPoint_30 h
  omega
theorem km_Row_addPoint {g : Nat} {S : St} {x0 : Nat} {x1 : Int32} {S' : St} (h : m_Row_addPoint g S x0 x1 = some S') : kap S ≤ kap S' := by
  unfold m_Row_addPoint at h
  have nn : nq S S := nq_rf
  by_cases hc1 : (65535 : Int32) < x1
  · replace h := ift hc1 h
    obtain ⟨v_1, hv_1, h⟩ := bnd h
    obtain ⟨S_2, hS_2, h⟩ := bnd h
    have hk1 := km_Row_add hS_2
    have hkn := nq_kap nn
    have h2 := km_Row_addPoint_22 h
    omega
  · replace h := iff0 hc1 h
    obtain ⟨S_3, hS_3, h⟩ := bnd h
    have hk1 := km_Row_add hS_3
    have hkn := nq_kap nn
    have h2 := km_Row_addPoint_11 h
    omega
section S_Row_addPoint
variable {p : Program} {l : Launch} {e : Env} {s : State} {m : MethodId} {args : Array Value} {below : List Frame} {meth : Method} {c : Code} {H : Heap} {locs : List Loc} {ls : Array Slot} {D : va_G} {T : Cy} {ρ ρ0 : Nat → Nat} {S0 : St} {A : Nat → Prop}
set_option maxRecDepth 100000 in
set_option maxHeartbeats 4000000 in
theorem w_Row_addPoint_30 {g : Nat} {S : St} (C : CallFix p m c cX6_addPoint 2 s args tb RX6) (hr : meth.sig.returnType = none) (hk : meth.locks = false) {S' : St} (ha : Ag ρ0 ρ) (hm : kap S0 ≤ kap S) (w : Wn Yc D T ρ S A s H locs) (hl : lv_has ls 2 []) (h : m_Row_addPoint_30 g S = some S') : W p l e (rmK 3 69 (kap S' - kap S0)) s m args below meth c H locs (kap S - kap S0) (2 * (kap S - kap S0)) (MQ below (QvM D T ρ0 A S') args s (kap S' - kap S0) (2 * (kap S' - kap S0)) A) (F0 m 30 ls []) := by
  have hT := km_Row_addPoint_30 h
  unfold m_Row_addPoint_30 at h
  have nn : nq S S := nq_rf
  obtain rfl := som h
  exact x_vretM C w ha hr hk dX6_addPoint_30 (by have := nq_kap nn; omega) (by have := nq_kap nn; omega)
set_option maxRecDepth 100000 in
set_option maxHeartbeats 4000000 in
theorem w_Row_addPoint_22 {g : Nat} {S : St} {x0 : Nat} {x1 : Int32} (C : CallFix p m c cX6_addPoint 2 s args tb RX6) (hr : meth.sig.returnType = none) (hk : meth.locks = false) {S' : St} (ha : Ag ρ0 ρ) (hm : kap S0 ≤ kap S) (w : Wn Yc D T ρ S A s H locs) (hl : lv_has ls 2 [(0, .ref (ρ x0)), (1, .int x1)]) (ho_x0 : Ob Yc x0 4) (h : m_Row_addPoint_22 g S x0 x1 = some S') : W p l e (rmK 3 69 (kap S' - kap S0)) s m args below meth c H locs (kap S - kap S0) (2 * (kap S - kap S0)) (MQ below (QvM D T ρ0 A S') args s (kap S' - kap S0) (2 * (kap S' - kap S0)) A) (F0 m 22 ls []) := by
  have hT := km_Row_addPoint_22 h
  unfold m_Row_addPoint_22 at h
  have nn : nq S S := nq_rf
  refine lv_aload_n C.1 C.2.1 dX6_addPoint_22 rfl (lv_at hl 0 rfl) ?_
  refine lv_iload_n C.1 C.2.1 dX6_addPoint_23 rfl (lv_at hl 1 rfl) ?_
  obtain ⟨v_3, hv_3, h⟩ := bnd h
  refine x_callSi (As := [.int x1]) (rest := [.ref (ρ x0)]) C w (k_Lt_lowOf l D T ρ g H.size S hv_3) vX6_62 (hRK (by decide) (by decide)) rfl rfl hl.1 (Nat.le_of_ble_eq_true rfl) (hcK hT) dX6_addPoint_24 (fun H locs w => ?_)
  obtain ⟨S_4, hS_4, h⟩ := bnd h
  have hkn := nq_kap nn
  have hk1 := km_Row_add hS_4
  have hT2 := km_Row_addPoint_30 h
  refine x_callVvM (q := (RX6, TX6, 4)) (As := [.int v_3]) (rest := []) C w (k_Row_add l D T ρ g H.size S ho_x0 hS_4) vX6_42 (hRK (by decide) (by decide)) ho_x0 (by decide) rfl rfl rfl hl.1 (Nat.le_of_ble_eq_true rfl) (hcM hm hkn hk1 hT2) dX6_addPoint_27 (fun ρ1 H locs hag w => ?_)
  replace ha := ha.trans hag
  rw [← hag x0 (ncR ho_x0)] at hl
  refine W.widen (k := kap S_4 - kap S0) (n := 2 * (kap S_4 - kap S0)) (by omega) (by omega) ?_
  exact w_Row_addPoint_30 C hr hk ha (by omega) w (lv_sub hl [] rfl) h
set_option maxRecDepth 100000 in
set_option maxHeartbeats 4000000 in
theorem w_Row_addPoint_11 {g : Nat} {S : St} (C : CallFix p m c cX6_addPoint 2 s args tb RX6) (hr : meth.sig.returnType = none) (hk : meth.locks = false) {S' : St} (ha : Ag ρ0 ρ) (hm : kap S0 ≤ kap S) (w : Wn Yc D T ρ S A s H locs) (hl : lv_has ls 2 []) (h : m_Row_addPoint_11 g S = some S') : W p l e (rmK 3 69 (kap S' - kap S0)) s m args below meth c H locs (kap S - kap S0) (2 * (kap S - kap S0)) (MQ below (QvM D T ρ0 A S') args s (kap S' - kap S0) (2 * (kap S' - kap S0)) A) (F0 m 11 ls []) := by
  have hT := km_Row_addPoint_11 h
  unfold m_Row_addPoint_11 at h
  have nn : nq S S := nq_rf
  refine lv_goto (tgt := 30) C.1 C.2.1 dX6_addPoint_11 (by decide) ?_
  have hkn := nq_kap nn
  refine W.widen (k := kap S - kap S0) (n := 2 * (kap S - kap S0)) (by omega) (by omega) ?_
  exact w_Row_addPoint_30 C hr hk ha (by omega) w (lv_sub hl [] rfl) h
set_option maxRecDepth 100000 in
set_option maxHeartbeats 4000000 in
theorem w_Row_addPoint_0 {g : Nat} {S : St} {x0 : Nat} {x1 : Int32} (C : CallFix p m c cX6_addPoint 2 s args tb RX6) (hr : meth.sig.returnType = none) (hk : meth.locks = false) {S' : St} (ha : Ag ρ0 ρ) (hm : kap S0 ≤ kap S) (w : Wn Yc D T ρ S A s H locs) (hl : lv_has ls 2 [(0, .ref (ρ x0)), (1, .int x1)]) (ho_x0 : Ob Yc x0 4) (h : m_Row_addPoint g S x0 x1 = some S') : W p l e (rmK 3 69 (kap S' - kap S0)) s m args below meth c H locs (kap S - kap S0) (2 * (kap S - kap S0)) (MQ below (QvM D T ρ0 A S') args s (kap S' - kap S0) (2 * (kap S' - kap S0)) A) (F0 m 0 ls []) := by
  have hT := km_Row_addPoint h
  unfold m_Row_addPoint at h
  have nn : nq S S := nq_rf
  refine lv_iload_n C.1 C.2.1 dX6_addPoint_0 rfl (lv_at hl 1 rfl) ?_
  refine lv_ldc C.1 C.2.1 C.2.2.2.1 (C.2.2.2.2 _ nX6_55) dX6_addPoint_1 ?_
  refine lv_icmp_gt (tgt := 14) C.1 C.2.1 dX6_addPoint_3 (by decide) (fun hc => ?_) (fun hc => ?_)
  · replace h := ift hc h
    refine lv_aload_n C.1 C.2.1 dX6_addPoint_14 rfl (lv_at hl 0 rfl) ?_
    refine lv_iload_n C.1 C.2.1 dX6_addPoint_15 rfl (lv_at hl 1 rfl) ?_
    obtain ⟨v_1, hv_1, h⟩ := bnd h
    refine x_callSi (As := [.int x1]) (rest := [.ref (ρ x0)]) C w (k_Lt_highOf l D T ρ g H.size S hv_1) vX6_56 (hRK (by decide) (by decide)) rfl rfl hl.1 (Nat.le_of_ble_eq_true rfl) (hcK hT) dX6_addPoint_16 (fun H locs w => ?_)
    obtain ⟨S_2, hS_2, h⟩ := bnd h
    have hkn := nq_kap nn
    have hk1 := km_Row_add hS_2
    have hT2 := km_Row_addPoint_22 h
    refine x_callVvM (q := (RX6, TX6, 4)) (As := [.int v_1]) (rest := []) C w (k_Row_add l D T ρ g H.size S ho_x0 hS_2) vX6_42 (hRK (by decide) (by decide)) ho_x0 (by decide) rfl rfl rfl hl.1 (Nat.le_of_ble_eq_true rfl) (hcM hm hkn hk1 hT2) dX6_addPoint_19 (fun ρ1 H locs hag w => ?_)
    replace ha := ha.trans hag
    rw [← hag x0 (ncR ho_x0)] at hl
    refine W.widen (k := kap S_2 - kap S0) (n := 2 * (kap S_2 - kap S0)) (by omega) (by omega) ?_
    exact w_Row_addPoint_22 C hr hk ha (by omega) w (lv_sub hl [0, 1] rfl) ho_x0 h
  · replace h := iff0 hc h
    refine lv_aload_n C.1 C.2.1 dX6_addPoint_6 rfl (lv_at hl 0 rfl) ?_
    refine lv_iload_n C.1 C.2.1 dX6_addPoint_7 rfl (lv_at hl 1 rfl) ?_
    obtain ⟨S_3, hS_3, h⟩ := bnd h
    have hkn := nq_kap nn
    have hk1 := km_Row_add hS_3
    have hT2 := km_Row_addPoint_11 h
    refine x_callVvM (q := (RX6, TX6, 4)) (As := [.int x1]) (rest := []) C w (k_Row_add l D T ρ g H.size S ho_x0 hS_3) vX6_42 (hRK (by decide) (by decide)) ho_x0 (by decide) rfl rfl rfl hl.1 (Nat.le_of_ble_eq_true rfl) (hcM hm hkn hk1 hT2) dX6_addPoint_8 (fun ρ1 H locs hag w => ?_)
    replace ha := ha.trans hag
    rw [← hag x0 (ncR ho_x0)] at hl
    refine W.widen (k := kap S_3 - kap S0) (n := 2 * (kap S_3 - kap S0)) (by omega) (by omega) ?_
    exact w_Row_addPoint_11 C hr hk ha (by omega) w (lv_sub hl [] rfl) h
end S_Row_addPoint
set_option maxRecDepth 100000 in
theorem k_Row_addPoint (l : Launch) (D : va_G) (T : Cy) (ρ : Nat → Nat) (g sz : Nat) (S : St) {x0 : Nat} {x1 : Int32} (ho_x0 : Ob Yc x0 4) {S' : St} (h : m_Row_addPoint g S x0 x1 = some S') : MvM l D T ρ yX6_addPoint cX6_addPoint 2 none 3 69 S S' [.ref (ρ x0), .int x1] sz :=
  x_inR (by decide) (Nat.le_of_ble_eq_true rfl) (fun p e s m below meth c ls C hr hk w hl => W.widen (Nat.zero_le _) (Nat.zero_le _) (w_Row_addPoint_0 C hr hk Ag.rf (Nat.le_refl _) w hl ho_x0 h))

theorem dX6_addWhole_0 : decode cX6_addWhole 0 = .ok (.lload_n 3, 1) := by decide +kernel
theorem dX6_addWhole_1 : decode cX6_addWhole 1 = .ok (.ldc2_w 46, 3) := by decide +kernel
theorem dX6_addWhole_4 : decode cX6_addWhole 4 = .ok (.lcmp, 1) := by decide +kernel
theorem dX6_addWhole_5 : decode cX6_addWhole 5 = .ok (.ifCond .lt 11, 3) := by decide +kernel
theorem dX6_addWhole_8 : decode cX6_addWhole 8 = .ok (.lload_n 3, 1) := by decide +kernel
theorem dX6_addWhole_9 : decode cX6_addWhole 9 = .ok (.ldc2_w 48, 3) := by decide +kernel
theorem dX6_addWhole_12 : decode cX6_addWhole 12 = .ok (.lcmp, 1) := by decide +kernel
theorem dX6_addWhole_13 : decode cX6_addWhole 13 = .ok (.ifCond .le 9, 3) := by decide +kernel
theorem dX6_addWhole_16 : decode cX6_addWhole 16 = .ok (.ldc2_w 50, 3) := by decide +kernel
theorem dX6_addWhole_19 : decode cX6_addWhole 19 = .ok (.goto 4, 3) := by decide +kernel
theorem dX6_addWhole_22 : decode cX6_addWhole 22 = .ok (.lload_n 3, 1) := by decide +kernel
theorem dX6_addWhole_23 : decode cX6_addWhole 23 = .ok (.lstore 5, 2) := by decide +kernel
theorem dX6_addWhole_25 : decode cX6_addWhole 25 = .ok (.aload_n 0, 1) := by decide +kernel
theorem dX6_addWhole_26 : decode cX6_addWhole 26 = .ok (.getfield 19, 3) := by decide +kernel
theorem dX6_addWhole_29 : decode cX6_addWhole 29 = .ok (.istore 7, 2) := by decide +kernel
theorem dX6_addWhole_31 : decode cX6_addWhole 31 = .ok (.lload_n 1, 1) := by decide +kernel
theorem dX6_addWhole_32 : decode cX6_addWhole 32 = .ok (.lconst 0, 1) := by decide +kernel
theorem dX6_addWhole_33 : decode cX6_addWhole 33 = .ok (.lcmp, 1) := by decide +kernel
theorem dX6_addWhole_34 : decode cX6_addWhole 34 = .ok (.ifCond .le 8, 3) := by decide +kernel
theorem dX6_addWhole_37 : decode cX6_addWhole 37 = .ok (.lload_n 1, 1) := by decide +kernel
theorem dX6_addWhole_38 : decode cX6_addWhole 38 = .ok (.lneg, 1) := by decide +kernel
theorem dX6_addWhole_39 : decode cX6_addWhole 39 = .ok (.goto 4, 3) := by decide +kernel
theorem dX6_addWhole_42 : decode cX6_addWhole 42 = .ok (.lload_n 1, 1) := by decide +kernel
theorem dX6_addWhole_43 : decode cX6_addWhole 43 = .ok (.lstore 8, 2) := by decide +kernel
theorem dX6_addWhole_45 : decode cX6_addWhole 45 = .ok (.iconst 0, 1) := by decide +kernel
theorem dX6_addWhole_46 : decode cX6_addWhole 46 = .ok (.istore 10, 2) := by decide +kernel
theorem dX6_addWhole_48 : decode cX6_addWhole 48 = .ok (.iload 10, 2) := by decide +kernel
theorem dX6_addWhole_50 : decode cX6_addWhole 50 = .ok (.bipush 64, 2) := by decide +kernel
theorem dX6_addWhole_52 : decode cX6_addWhole 52 = .ok (.if_icmp .ge 62, 3) := by decide +kernel
theorem dX6_addWhole_55 : decode cX6_addWhole 55 = .ok (.lload 8, 2) := by decide +kernel
theorem dX6_addWhole_57 : decode cX6_addWhole 57 = .ok (.lload 5, 2) := by decide +kernel
theorem dX6_addWhole_59 : decode cX6_addWhole 59 = .ok (.lrem, 1) := by decide +kernel
theorem dX6_addWhole_60 : decode cX6_addWhole 60 = .ok (.lneg, 1) := by decide +kernel
theorem dX6_addWhole_61 : decode cX6_addWhole 61 = .ok (.l2i, 1) := by decide +kernel
theorem dX6_addWhole_62 : decode cX6_addWhole 62 = .ok (.istore 11, 2) := by decide +kernel
theorem dX6_addWhole_64 : decode cX6_addWhole 64 = .ok (.aload_n 0, 1) := by decide +kernel
theorem dX6_addWhole_65 : decode cX6_addWhole 65 = .ok (.iload 11, 2) := by decide +kernel
theorem dX6_addWhole_67 : decode cX6_addWhole 67 = .ok (.bipush 10, 2) := by decide +kernel
theorem dX6_addWhole_69 : decode cX6_addWhole 69 = .ok (.if_icmp .ge 11, 3) := by decide +kernel
theorem dX6_addWhole_72 : decode cX6_addWhole 72 = .ok (.bipush 48, 2) := by decide +kernel
theorem dX6_addWhole_74 : decode cX6_addWhole 74 = .ok (.iload 11, 2) := by decide +kernel
theorem dX6_addWhole_76 : decode cX6_addWhole 76 = .ok (.iadd, 1) := by decide +kernel
theorem dX6_addWhole_77 : decode cX6_addWhole 77 = .ok (.goto 11, 3) := by decide +kernel
theorem dX6_addWhole_80 : decode cX6_addWhole 80 = .ok (.bipush 97, 2) := by decide +kernel
theorem dX6_addWhole_82 : decode cX6_addWhole 82 = .ok (.iload 11, 2) := by decide +kernel
theorem dX6_addWhole_84 : decode cX6_addWhole 84 = .ok (.iadd, 1) := by decide +kernel
theorem dX6_addWhole_85 : decode cX6_addWhole 85 = .ok (.bipush 10, 2) := by decide +kernel
theorem dX6_addWhole_87 : decode cX6_addWhole 87 = .ok (.isub, 1) := by decide +kernel
theorem dX6_addWhole_88 : decode cX6_addWhole 88 = .ok (.invokevirtual 42, 3) := by decide +kernel
theorem dX6_addWhole_91 : decode cX6_addWhole 91 = .ok (.lload 8, 2) := by decide +kernel
theorem dX6_addWhole_93 : decode cX6_addWhole 93 = .ok (.lload 5, 2) := by decide +kernel
theorem dX6_addWhole_95 : decode cX6_addWhole 95 = .ok (.ldiv, 1) := by decide +kernel
theorem dX6_addWhole_96 : decode cX6_addWhole 96 = .ok (.lstore 8, 2) := by decide +kernel
theorem dX6_addWhole_98 : decode cX6_addWhole 98 = .ok (.lload 8, 2) := by decide +kernel
theorem dX6_addWhole_100 : decode cX6_addWhole 100 = .ok (.lconst 0, 1) := by decide +kernel
theorem dX6_addWhole_101 : decode cX6_addWhole 101 = .ok (.lcmp, 1) := by decide +kernel
theorem dX6_addWhole_102 : decode cX6_addWhole 102 = .ok (.ifCond .ne 6, 3) := by decide +kernel
theorem dX6_addWhole_105 : decode cX6_addWhole 105 = .ok (.goto 9, 3) := by decide +kernel
theorem dX6_addWhole_108 : decode cX6_addWhole 108 = .ok (.iinc 10 1, 3) := by decide +kernel
theorem dX6_addWhole_111 : decode cX6_addWhole 111 = .ok (.goto (-63), 3) := by decide +kernel
theorem dX6_addWhole_114 : decode cX6_addWhole 114 = .ok (.lload_n 1, 1) := by decide +kernel
theorem dX6_addWhole_115 : decode cX6_addWhole 115 = .ok (.lconst 0, 1) := by decide +kernel
theorem dX6_addWhole_116 : decode cX6_addWhole 116 = .ok (.lcmp, 1) := by decide +kernel
theorem dX6_addWhole_117 : decode cX6_addWhole 117 = .ok (.ifCond .ge 9, 3) := by decide +kernel
theorem dX6_addWhole_120 : decode cX6_addWhole 120 = .ok (.aload_n 0, 1) := by decide +kernel
theorem dX6_addWhole_121 : decode cX6_addWhole 121 = .ok (.bipush 45, 2) := by decide +kernel
theorem dX6_addWhole_123 : decode cX6_addWhole 123 = .ok (.invokevirtual 42, 3) := by decide +kernel
theorem dX6_addWhole_126 : decode cX6_addWhole 126 = .ok (.aload_n 0, 1) := by decide +kernel
theorem dX6_addWhole_127 : decode cX6_addWhole 127 = .ok (.iload 7, 2) := by decide +kernel
theorem dX6_addWhole_129 : decode cX6_addWhole 129 = .ok (.invokevirtual 52, 3) := by decide +kernel
theorem dX6_addWhole_132 : decode cX6_addWhole 132 = .ok (.return_, 1) := by decide +kernel
def m_Row_addWhole_126 (g : Nat) (S : St) (x0 : Nat) (x7 : Int32) : Option St :=
(m_Row_turnFrom g S x0 x7).bind fun S_2 =>
some S_2
def m_Row_addWhole_114 (g : Nat) (S : St) (x0 : Nat) (x1 : Int64) (x7 : Int32) : Option St :=
if x1 < (0 : Int64) then (
  (m_Row_add g S x0 (45 : Int32)).bind fun S_2 =>
  m_Row_addWhole_126 g S_2 x0 x7
) else (
  m_Row_addWhole_126 g S x0 x7
)
def m_Row_addWhole_91 (g : Nat) (k48 : St → Nat → Int64 → Int64 → Int32 → Int64 → Int32 → Option St) (S : St) (x0 : Nat) (x1 : Int64) (x5 : Int64) (x7 : Int32) (x8 : Int64) (x10 : Int32) : Option St :=
if x5 = 0 then none else
lt (x8 / x5) fun x8_6 =>
if x8_6 = (0 : Int64) then (
  m_Row_addWhole_114 g S x0 x1 x7
) else (
  lt (x10 + (1 : Int32)) fun x10_7 =>
  k48 S x0 x1 x5 x7 x8_6 x10_7
)
def m_Row_addWhole_88 (g : Nat) (k48 : St → Nat → Int64 → Int64 → Int32 → Int64 → Int32 → Option St) (S : St) (x0 : Nat) (x1 : Int64) (x5 : Int64) (x7 : Int32) (x8 : Int64) (x10 : Int32) (y0 : Nat) (y1 : Int32) : Option St :=
(m_Row_add g S y0 y1).bind fun S_4 =>
m_Row_addWhole_91 g k48 S_4 x0 x1 x5 x7 x8 x10
def b_Row_addWhole_48 (g : Nat) (k48 : St → Nat → Int64 → Int64 → Int32 → Int64 → Int32 → Option St) (S : St) (x0 : Nat) (x1 : Int64) (x5 : Int64) (x7 : Int32) (x8 : Int64) (x10 : Int32) : Option St :=
if (64 : Int32) ≤ x10 then (
  m_Row_addWhole_114 g S x0 x1 x7
) else (
  if x5 = 0 then none else
  lt ((-(x8 - x8 / x5 * x5)).toInt32) fun x11_3 =>
  if (10 : Int32) ≤ x11_3 then (
    m_Row_addWhole_88 g k48 S x0 x1 x5 x7 x8 x10 x0 (((97 : Int32) + x11_3) - (10 : Int32))
  ) else (
    m_Row_addWhole_88 g k48 S x0 x1 x5 x7 x8 x10 x0 ((48 : Int32) + x11_3)
  )
)
def m_Row_addWhole_48 (g : Nat) : Nat → St → Nat → Int64 → Int64 → Int32 → Int64 → Int32 → Option St
  | 0, _, _, _, _, _, _, _ => none
  | n + 1, S, x0, x1, x5, x7, x8, x10 => b_Row_addWhole_48 g (m_Row_addWhole_48 g n) S x0 x1 x5 x7 x8 x10
def m_Row_addWhole_23 (g : Nat) (S : St) (x0 : Nat) (x1 : Int64) (y0 : Int64) : Option St :=
lt (gI S x0 2) fun x7_1 =>
if (0 : Int64) < x1 then (
  lt (-x1) fun x8_2 =>
  m_Row_addWhole_48 g g S x0 x1 y0 x7_1 x8_2 (0 : Int32)
) else (
  m_Row_addWhole_48 g g S x0 x1 y0 x7_1 x1 (0 : Int32)
)
def m_Row_addWhole_16 (g : Nat) (S : St) (x0 : Nat) (x1 : Int64) : Option St :=
m_Row_addWhole_23 g S x0 x1 (10 : Int64)
def m_Row_addWhole (g : Nat) (S : St) (x0 : Nat) (x1 : Int64) (x3 : Int64) : Option St :=
if x3 < (2 : Int64) then (
  m_Row_addWhole_16 g S x0 x1
) else (
  if (36 : Int64) < x3 then (
    m_Row_addWhole_16 g S x0 x1
  ) else (
    m_Row_addWhole_23 g S x0 x1 x3
  )
)
theorem km_Row_addWhole_126 {g : Nat} {S : St} {x0 : Nat} {x7 : Int32} {S' : St} (h : m_Row_addWhole_126 g S x0 x7 = some S') : kap S ≤ kap S' := by
  unfold m_Row_addWhole_126 at h
  have nn : nq S S := nq_rf
  obtain ⟨S_2, hS_2, h⟩ := bnd h
  replace nn : nq S_2 S := nq_tr (kq_Row_turnFrom hS_2) nn
  obtain rfl := som h
  have hkn := nq_kap nn
  omega
theorem km_Row_addWhole_114 {g : Nat} {S : St} {x0 : Nat} {x1 : Int64} {x7 : Int32} {S' : St} (h : m_Row_addWhole_114 g S x0 x1 x7 = some S') : kap S ≤ kap S' := by
  unfold m_Row_addWhole_114 at h
  have nn : nq S S := nq_rf
  by_cases hc1 : x1 < (0 : Int64)
  · replace h := ift hc1 h
    obtain ⟨S_2, hS_2, h⟩ := bnd h
    have hk1 := km_Row_add hS_2
    have hkn := nq_kap nn
    have h2 := km_Row_addWhole_126 h
    omega
  · replace h := iff0 hc1 h
    have hkn := nq_kap nn
    have h2 := km_Row_addWhole_126 h
    omega
theorem km_Row_addWhole_91 {g : Nat} {S : St} {x0 : Nat} {x1 : Int64} {x5 : Int64} {x7 : Int32} {x8 : Int64} {x10 : Int32} {S' : St} {k48 : St → Nat → Int64 → Int64 → Int32 → Int64 → Int32 → Option St} (km48 : ∀ (S : St) (x0 : Nat) (x1 : Int64) (x5 : Int64) (x7 : Int32) (x8 : Int64) (x10 : Int32), k48 S x0 x1 x5 x7 x8 x10 = some S' → kap S ≤ kap S') (h : m_Row_addWhole_91 g k48 S x0 x1 x5 x7 x8 x10 = some S') : kap S ≤ kap S' := by
  unfold m_Row_addWhole_91 at h
  have nn : nq S S := nq_rf
  by_cases hc1 : x5 = 0
  · exact absurd (ift hc1 h) (fun q => by cases q)
  replace h := iff0 hc1 h
  obtain ⟨x8_6, ex8_6, h⟩ := lt_e h
  by_cases hc2 : x8_6 = (0 : Int64)
  · replace h := ift hc2 h
    have hkn := nq_kap nn
    have h2 := km_Row_addWhole_114 h
    omega
  · replace h := iff0 hc2 h
    obtain ⟨x10_7, ex10_7, h⟩ := lt_e h
    have hkn := nq_kap nn
    have h2 := km48 _ _ _ _ _ _ _ h
    omega
theorem km_Row_addWhole_88 {g : Nat} {S : St} {x0 : Nat} {x1 : Int64} {x5 : Int64} {x7 : Int32} {x8 : Int64} {x10 : Int32} {y0 : Nat} {y1 : Int32} {S' : St} {k48 : St → Nat → Int64 → Int64 → Int32 → Int64 → Int32 → Option St} (km48 : ∀ (S : St) (x0 : Nat) (x1 : Int64) (x5 : Int64) (x7 : Int32) (x8 : Int64) (x10 : Int32), k48 S x0 x1 x5 x7 x8 x10 = some S' → kap S ≤ kap S') (h : m_Row_addWhole_88 g k48 S x0 x1 x5 x7 x8 x10 y0 y1 = some S') : kap S ≤ kap S' := by
  unfold m_Row_addWhole_88 at h
  have nn : nq S S := nq_rf
  obtain ⟨S_4, hS_4, h⟩ := bnd h
  have hk1 := km_Row_add hS_4
  have hkn := nq_kap nn
  have h2 := km_Row_addWhole_91 km48 h
  omega
theorem kmb_Row_addWhole_48 {g : Nat} {S : St} {x0 : Nat} {x1 : Int64} {x5 : Int64} {x7 : Int32} {x8 : Int64} {x10 : Int32} {S' : St} {k48 : St → Nat → Int64 → Int64 → Int32 → Int64 → Int32 → Option St} (km48 : ∀ (S : St) (x0 : Nat) (x1 : Int64) (x5 : Int64) (x7 : Int32) (x8 : Int64) (x10 : Int32), k48 S x0 x1 x5 x7 x8 x10 = some S' → kap S ≤ kap S') (h : b_Row_addWhole_48 g k48 S x0 x1 x5 x7 x8 x10 = some S') : kap S ≤ kap S' := by
  unfold b_Row_addWhole_48 at h
  have nn : nq S S := nq_rf
  by_cases hc1 : (64 : Int32) ≤ x10
  · replace h := ift hc1 h
    have hkn := nq_kap nn
    have h2 := km_Row_addWhole_114 h
    omega
  · replace h := iff0 hc1 h
    by_cases hc2 : x5 = 0
    · exact absurd (ift hc2 h) (fun q => by cases q)
    replace h := iff0 hc2 h
    obtain ⟨x11_3, ex11_3, h⟩ := lt_e h
    by_cases hc3 : (10 : Int32) ≤ x11_3
    · replace h := ift hc3 h
      have hkn := nq_kap nn
      have h2 := km_Row_addWhole_88 km48 h
      omega
    · replace h := iff0 hc3 h
      have hkn := nq_kap nn
      have h2 := km_Row_addWhole_88 km48 h
      omega
theorem km_Row_addWhole_48 {g : Nat} {S' : St} (n : Nat) : ∀ (S : St) (x0 : Nat) (x1 : Int64) (x5 : Int64) (x7 : Int32) (x8 : Int64) (x10 : Int32), m_Row_addWhole_48 g n S x0 x1 x5 x7 x8 x10 = some S' → kap S ≤ kap S' := by
  induction n with
  | zero => intro S x0 x1 x5 x7 x8 x10 h; exact absurd h (fun q => by cases q)
  | succ n ih => intro S x0 x1 x5 x7 x8 x10 h; exact kmb_Row_addWhole_48 ih h
theorem km_Row_addWhole_23 {g : Nat} {S : St} {x0 : Nat} {x1 : Int64} {y0 : Int64} {S' : St} (h : m_Row_addWhole_23 g S x0 x1 y0 = some S') : kap S ≤ kap S' := by
  unfold m_Row_addWhole_23 at h
  have nn : nq S S := nq_rf
  obtain ⟨x7_1, ex7_1, h⟩ := lt_e h
  by_cases hc1 : (0 : Int64) < x1
  · replace h := ift hc1 h
    obtain ⟨x8_2, ex8_2, h⟩ := lt_e h
    have hkn := nq_kap nn
    have h2 := km_Row_addWhole_48 g _ _ _ _ _ _ _ h
    omega
  · replace h := iff0 hc1 h
    have hkn := nq_kap nn
    have h2 := km_Row_addWhole_48 g _ _ _ _ _ _ _ h
    omega
theorem km_Row_addWhole_16 {g : Nat} {S : St} {x0 : Nat} {x1 : Int64} {S' : St} (h : m_Row_addWhole_16 g S x0 x1 = some S') : kap S ≤ kap S' := by
  unfold m_Row_addWhole_16 at h
  have nn : nq S S := nq_rf
  have hkn := nq_kap nn
  have h2 := km_Row_addWhole_23 h
  omega
theorem km_Row_addWhole {g : Nat} {S : St} {x0 : Nat} {x1 : Int64} {x3 : Int64} {S' : St} (h : m_Row_addWhole g S x0 x1 x3 = some S') : kap S ≤ kap S' := by
  unfold m_Row_addWhole at h
  have nn : nq S S := nq_rf
  by_cases hc1 : x3 < (2 : Int64)
  · replace h := ift hc1 h
    have hkn := nq_kap nn
    have h2 := km_Row_addWhole_16 h
    omega
  · replace h := iff0 hc1 h
    by_cases hc2 : (36 : Int64) < x3
    · replace h := ift hc2 h
      have hkn := nq_kap nn
      have h2 := km_Row_addWhole_16 h
      omega
    · replace h := iff0 hc2 h
      have hkn := nq_kap nn
      have h2 := km_Row_addWhole_23 h
      omega
section S_Row_addWhole
variable {p : Program} {l : Launch} {e : Env} {s : State} {m : MethodId} {args : Array Value} {below : List Frame} {meth : Method} {c : Code} {H : Heap} {locs : List Loc} {ls : Array Slot} {D : va_G} {T : Cy} {ρ ρ0 : Nat → Nat} {S0 : St} {A : Nat → Prop}
set_option maxRecDepth 100000 in
set_option maxHeartbeats 4000000 in
theorem w_Row_addWhole_126 {g : Nat} {S : St} {x0 : Nat} {x7 : Int32} (C : CallFix p m c cX6_addWhole 12 s args tb RX6) (hr : meth.sig.returnType = none) (hk : meth.locks = false) {S' : St} (ha : Ag ρ0 ρ) (hm : kap S0 ≤ kap S) (w : Wn Yc D T ρ S A s H locs) (hl : lv_has ls 12 [(0, .ref (ρ x0)), (7, .int x7)]) (ho_x0 : Ob Yc x0 4) (h : m_Row_addWhole_126 g S x0 x7 = some S') : W p l e (rmK 3 69 (kap S' - kap S0)) s m args below meth c H locs (kap S - kap S0) (2 * (kap S - kap S0)) (MQ below (QvM D T ρ0 A S') args s (kap S' - kap S0) (2 * (kap S' - kap S0)) A) (F0 m 126 ls []) := by
  have hT := km_Row_addWhole_126 h
  unfold m_Row_addWhole_126 at h
  have nn : nq S S := nq_rf
  refine lv_aload_n C.1 C.2.1 dX6_addWhole_126 rfl (lv_at hl 0 rfl) ?_
  refine lv_iload C.1 C.2.1 dX6_addWhole_127 (lv_at hl 1 rfl) ?_
  obtain ⟨S_2, hS_2, h⟩ := bnd h
  replace nn : nq S_2 S := nq_tr (kq_Row_turnFrom hS_2) nn
  refine x_callVv (q := (RX6, TX6, 4)) (As := [.int x7]) (rest := []) C w (k_Row_turnFrom l D T ρ g H.size S ho_x0 hS_2) vX6_52 (hRK (by decide) (by decide)) ho_x0 (by decide) rfl rfl rfl hl.1 (Nat.le_of_ble_eq_true rfl) (hcK hT) dX6_addWhole_129 (fun H locs w => ?_)
  obtain rfl := som h
  exact x_vretM C w ha hr hk dX6_addWhole_132 (by have := nq_kap nn; omega) (by have := nq_kap nn; omega)
set_option maxRecDepth 100000 in
set_option maxHeartbeats 4000000 in
theorem w_Row_addWhole_114 {g : Nat} {S : St} {x0 : Nat} {x1 : Int64} {x7 : Int32} (C : CallFix p m c cX6_addWhole 12 s args tb RX6) (hr : meth.sig.returnType = none) (hk : meth.locks = false) {S' : St} (ha : Ag ρ0 ρ) (hm : kap S0 ≤ kap S) (w : Wn Yc D T ρ S A s H locs) (hl : lv_has ls 12 [(0, .ref (ρ x0)), (1, .long x1), (7, .int x7)]) (ho_x0 : Ob Yc x0 4) (h : m_Row_addWhole_114 g S x0 x1 x7 = some S') : W p l e (rmK 3 69 (kap S' - kap S0)) s m args below meth c H locs (kap S - kap S0) (2 * (kap S - kap S0)) (MQ below (QvM D T ρ0 A S') args s (kap S' - kap S0) (2 * (kap S' - kap S0)) A) (F0 m 114 ls []) := by
  have hT := km_Row_addWhole_114 h
  unfold m_Row_addWhole_114 at h
  have nn : nq S S := nq_rf
  refine lv_lload_n C.1 C.2.1 dX6_addWhole_114 rfl (lv_at hl 1 rfl) ?_
  refine lv_lconst (v := 0) C.1 C.2.1 dX6_addWhole_115 (by decide) ?_
  refine x_l_ge (tgt := 126) C dX6_addWhole_116 dX6_addWhole_117 (by decide) (fun hc => ?_) (fun hc => ?_)
  · replace h := iff0 hc h
    have hkn := nq_kap nn
    refine W.widen (k := kap S - kap S0) (n := 2 * (kap S - kap S0)) (by omega) (by omega) ?_
    exact w_Row_addWhole_126 C hr hk ha (by omega) w (lv_sub hl [0, 2] rfl) ho_x0 h
  · replace h := ift hc h
    refine lv_aload_n C.1 C.2.1 dX6_addWhole_120 rfl (lv_at hl 0 rfl) ?_
    refine lv_bipush (v := 45) C.1 C.2.1 dX6_addWhole_121 (by decide) ?_
    obtain ⟨S_2, hS_2, h⟩ := bnd h
    have hkn := nq_kap nn
    have hk1 := km_Row_add hS_2
    have hT2 := km_Row_addWhole_126 h
    refine x_callVvM (q := (RX6, TX6, 4)) (As := [.int (45 : Int32)]) (rest := []) C w (k_Row_add l D T ρ g H.size S ho_x0 hS_2) vX6_42 (hRK (by decide) (by decide)) ho_x0 (by decide) rfl rfl rfl hl.1 (Nat.le_of_ble_eq_true rfl) (hcM hm hkn hk1 hT2) dX6_addWhole_123 (fun ρ1 H locs hag w => ?_)
    replace ha := ha.trans hag
    rw [← hag x0 (ncR ho_x0)] at hl
    refine W.widen (k := kap S_2 - kap S0) (n := 2 * (kap S_2 - kap S0)) (by omega) (by omega) ?_
    exact w_Row_addWhole_126 C hr hk ha (by omega) w (lv_sub hl [0, 2] rfl) ho_x0 h
set_option maxRecDepth 100000 in
set_option maxHeartbeats 4000000 in
theorem w_Row_addWhole_91 {g : Nat} {S : St} {x0 : Nat} {x1 : Int64} {x5 : Int64} {x7 : Int32} {x8 : Int64} {x10 : Int32} (C : CallFix p m c cX6_addWhole 12 s args tb RX6) (hr : meth.sig.returnType = none) (hk : meth.locks = false) {S' : St} {k48 : St → Nat → Int64 → Int64 → Int32 → Int64 → Int32 → Option St} (kk48 : ∀ (ρ : Nat → Nat) (S : St) (x0 : Nat) (x1 : Int64) (x5 : Int64) (x7 : Int32) (x8 : Int64) (x10 : Int32) (H : Heap) (locs : List Loc) (ls : Array Slot), Ag ρ0 ρ → kap S0 ≤ kap S → Wn Yc D T ρ S A s H locs → lv_has ls 12 [(0, .ref (ρ x0)), (1, .long x1), (5, .long x5), (7, .int x7), (8, .long x8), (10, .int x10)] → Ob Yc x0 4 → k48 S x0 x1 x5 x7 x8 x10 = some S' → W p l e (rmK 3 69 (kap S' - kap S0)) s m args below meth c H locs (kap S - kap S0) (2 * (kap S - kap S0)) (MQ below (QvM D T ρ0 A S') args s (kap S' - kap S0) (2 * (kap S' - kap S0)) A) (F0 m 48 ls [])) (km48 : ∀ (S : St) (x0 : Nat) (x1 : Int64) (x5 : Int64) (x7 : Int32) (x8 : Int64) (x10 : Int32), k48 S x0 x1 x5 x7 x8 x10 = some S' → kap S ≤ kap S') (ha : Ag ρ0 ρ) (hm : kap S0 ≤ kap S) (w : Wn Yc D T ρ S A s H locs) (hl : lv_has ls 12 [(0, .ref (ρ x0)), (1, .long x1), (5, .long x5), (7, .int x7), (8, .long x8), (10, .int x10)]) (ho_x0 : Ob Yc x0 4) (h : m_Row_addWhole_91 g k48 S x0 x1 x5 x7 x8 x10 = some S') : W p l e (rmK 3 69 (kap S' - kap S0)) s m args below meth c H locs (kap S - kap S0) (2 * (kap S - kap S0)) (MQ below (QvM D T ρ0 A S') args s (kap S' - kap S0) (2 * (kap S' - kap S0)) A) (F0 m 91 ls []) := by
  have hT := km_Row_addWhole_91 km48 h
  unfold m_Row_addWhole_91 at h
  have nn : nq S S := nq_rf
  refine lv_lload C.1 C.2.1 dX6_addWhole_91 (lv_at hl 4 rfl) ?_
  refine lv_lload C.1 C.2.1 dX6_addWhole_93 (lv_at hl 2 rfl) ?_
  by_cases hz_5 : x5 = 0
  · exact absurd (ift hz_5 h) (fun q => by cases q)
  replace h := iff0 hz_5 h
  refine lv_ldiv C.1 C.2.1 dX6_addWhole_95 hz_5 ?_
  obtain ⟨x8_6, ex8_6, h⟩ := lt_e h
  refine x_nmL ex8_6 ?_
  refine lv_lstore (lv' := [(8, .long x8_6), (0, .ref (ρ x0)), (1, .long x1), (5, .long x5), (7, .int x7), (10, .int x10)]) C.1 C.2.1 dX6_addWhole_96 hl (by decide) rfl (fun ls hl => ?_)
  refine lv_lload C.1 C.2.1 dX6_addWhole_98 (lv_at hl 0 rfl) ?_
  refine lv_lconst (v := 0) C.1 C.2.1 dX6_addWhole_100 (by decide) ?_
  refine x_l_ne (tgt := 108) C dX6_addWhole_101 dX6_addWhole_102 (by decide) (fun hc => ?_) (fun hc => ?_)
  · replace h := iff0 hc h
    obtain ⟨x10_7, ex10_7, h⟩ := lt_e h
    refine lv_iinc (v := x10_7) (lv' := [(10, .int x10_7), (8, .long x8_6), (0, .ref (ρ x0)), (1, .long x1), (5, .long x5), (7, .int x7)]) C.1 C.2.1 dX6_addWhole_108 hl (k := 5) rfl (by rw [ex10_7]; rfl) (by decide) rfl (fun ls hl => ?_)
    refine lv_goto (tgt := 48) C.1 C.2.1 dX6_addWhole_111 (by decide) ?_
    have hkn := nq_kap nn
    refine W.widen (k := kap S - kap S0) (n := 2 * (kap S - kap S0)) (by omega) (by omega) ?_
    exact kk48 _ _ _ _ _ _ _ _ _ _ _ ha (by omega) w (lv_sub hl [2, 3, 4, 5, 1, 0] rfl) ho_x0 h
  · replace h := ift hc h
    refine lv_goto (tgt := 114) C.1 C.2.1 dX6_addWhole_105 (by decide) ?_
    have hkn := nq_kap nn
    refine W.widen (k := kap S - kap S0) (n := 2 * (kap S - kap S0)) (by omega) (by omega) ?_
    exact w_Row_addWhole_114 C hr hk ha (by omega) w (lv_sub hl [1, 2, 4] rfl) ho_x0 h
set_option maxRecDepth 100000 in
set_option maxHeartbeats 4000000 in
theorem w_Row_addWhole_88 {g : Nat} {S : St} {x0 : Nat} {x1 : Int64} {x5 : Int64} {x7 : Int32} {x8 : Int64} {x10 : Int32} {y0 : Nat} {y1 : Int32} (C : CallFix p m c cX6_addWhole 12 s args tb RX6) (hr : meth.sig.returnType = none) (hk : meth.locks = false) {S' : St} {k48 : St → Nat → Int64 → Int64 → Int32 → Int64 → Int32 → Option St} (kk48 : ∀ (ρ : Nat → Nat) (S : St) (x0 : Nat) (x1 : Int64) (x5 : Int64) (x7 : Int32) (x8 : Int64) (x10 : Int32) (H : Heap) (locs : List Loc) (ls : Array Slot), Ag ρ0 ρ → kap S0 ≤ kap S → Wn Yc D T ρ S A s H locs → lv_has ls 12 [(0, .ref (ρ x0)), (1, .long x1), (5, .long x5), (7, .int x7), (8, .long x8), (10, .int x10)] → Ob Yc x0 4 → k48 S x0 x1 x5 x7 x8 x10 = some S' → W p l e (rmK 3 69 (kap S' - kap S0)) s m args below meth c H locs (kap S - kap S0) (2 * (kap S - kap S0)) (MQ below (QvM D T ρ0 A S') args s (kap S' - kap S0) (2 * (kap S' - kap S0)) A) (F0 m 48 ls [])) (km48 : ∀ (S : St) (x0 : Nat) (x1 : Int64) (x5 : Int64) (x7 : Int32) (x8 : Int64) (x10 : Int32), k48 S x0 x1 x5 x7 x8 x10 = some S' → kap S ≤ kap S') (ha : Ag ρ0 ρ) (hm : kap S0 ≤ kap S) (w : Wn Yc D T ρ S A s H locs) (hl : lv_has ls 12 [(0, .ref (ρ x0)), (1, .long x1), (5, .long x5), (7, .int x7), (8, .long x8), (10, .int x10)]) (ho_x0 : Ob Yc x0 4) (ho_y0 : Ob Yc y0 4) (h : m_Row_addWhole_88 g k48 S x0 x1 x5 x7 x8 x10 y0 y1 = some S') : W p l e (rmK 3 69 (kap S' - kap S0)) s m args below meth c H locs (kap S - kap S0) (2 * (kap S - kap S0)) (MQ below (QvM D T ρ0 A S') args s (kap S' - kap S0) (2 * (kap S' - kap S0)) A) (F0 m 88 ls [.int y1, .ref (ρ y0)]) := by
  have hT := km_Row_addWhole_88 km48 h
  unfold m_Row_addWhole_88 at h
  have nn : nq S S := nq_rf
  obtain ⟨S_4, hS_4, h⟩ := bnd h
  have hkn := nq_kap nn
  have hk1 := km_Row_add hS_4
  have hT2 := km_Row_addWhole_91 km48 h
  refine x_callVvM (q := (RX6, TX6, 4)) (As := [.int y1]) (rest := []) C w (k_Row_add l D T ρ g H.size S ho_y0 hS_4) vX6_42 (hRK (by decide) (by decide)) ho_y0 (by decide) rfl rfl rfl hl.1 (Nat.le_of_ble_eq_true rfl) (hcM hm hkn hk1 hT2) dX6_addWhole_88 (fun ρ1 H locs hag w => ?_)
  replace ha := ha.trans hag
  rw [← hag x0 (ncR ho_x0)] at hl
  refine W.widen (k := kap S_4 - kap S0) (n := 2 * (kap S_4 - kap S0)) (by omega) (by omega) ?_
  exact w_Row_addWhole_91 C hr hk kk48 km48 ha (by omega) w (lv_sub hl [0, 1, 2, 3, 4, 5] rfl) ho_x0 h
set_option maxRecDepth 100000 in
set_option maxHeartbeats 4000000 in
theorem wb_Row_addWhole_48 {g : Nat} {S : St} {x0 : Nat} {x1 : Int64} {x5 : Int64} {x7 : Int32} {x8 : Int64} {x10 : Int32} (C : CallFix p m c cX6_addWhole 12 s args tb RX6) (hr : meth.sig.returnType = none) (hk : meth.locks = false) {S' : St} {k48 : St → Nat → Int64 → Int64 → Int32 → Int64 → Int32 → Option St} (kk48 : ∀ (ρ : Nat → Nat) (S : St) (x0 : Nat) (x1 : Int64) (x5 : Int64) (x7 : Int32) (x8 : Int64) (x10 : Int32) (H : Heap) (locs : List Loc) (ls : Array Slot), Ag ρ0 ρ → kap S0 ≤ kap S → Wn Yc D T ρ S A s H locs → lv_has ls 12 [(0, .ref (ρ x0)), (1, .long x1), (5, .long x5), (7, .int x7), (8, .long x8), (10, .int x10)] → Ob Yc x0 4 → k48 S x0 x1 x5 x7 x8 x10 = some S' → W p l e (rmK 3 69 (kap S' - kap S0)) s m args below meth c H locs (kap S - kap S0) (2 * (kap S - kap S0)) (MQ below (QvM D T ρ0 A S') args s (kap S' - kap S0) (2 * (kap S' - kap S0)) A) (F0 m 48 ls [])) (km48 : ∀ (S : St) (x0 : Nat) (x1 : Int64) (x5 : Int64) (x7 : Int32) (x8 : Int64) (x10 : Int32), k48 S x0 x1 x5 x7 x8 x10 = some S' → kap S ≤ kap S') (ha : Ag ρ0 ρ) (hm : kap S0 ≤ kap S) (w : Wn Yc D T ρ S A s H locs) (hl : lv_has ls 12 [(0, .ref (ρ x0)), (1, .long x1), (5, .long x5), (7, .int x7), (8, .long x8), (10, .int x10)]) (ho_x0 : Ob Yc x0 4) (h : b_Row_addWhole_48 g k48 S x0 x1 x5 x7 x8 x10 = some S') : W p l e (rmK 3 69 (kap S' - kap S0)) s m args below meth c H locs (kap S - kap S0) (2 * (kap S - kap S0)) (MQ below (QvM D T ρ0 A S') args s (kap S' - kap S0) (2 * (kap S' - kap S0)) A) (F0 m 48 ls []) := by
  have hT := kmb_Row_addWhole_48 km48 h
  unfold b_Row_addWhole_48 at h
  have nn : nq S S := nq_rf
  refine lv_iload C.1 C.2.1 dX6_addWhole_48 (lv_at hl 5 rfl) ?_
  refine lv_bipush (v := 64) C.1 C.2.1 dX6_addWhole_50 (by decide) ?_
  refine lv_icmp_ge (tgt := 114) C.1 C.2.1 dX6_addWhole_52 (by decide) (fun hc => ?_) (fun hc => ?_)
  · replace h := ift hc h
    have hkn := nq_kap nn
    refine W.widen (k := kap S - kap S0) (n := 2 * (kap S - kap S0)) (by omega) (by omega) ?_
    exact w_Row_addWhole_114 C hr hk ha (by omega) w (lv_sub hl [0, 1, 3] rfl) ho_x0 h
  · replace h := iff0 hc h
    refine lv_lload C.1 C.2.1 dX6_addWhole_55 (lv_at hl 4 rfl) ?_
    refine lv_lload C.1 C.2.1 dX6_addWhole_57 (lv_at hl 2 rfl) ?_
    by_cases hz_2 : x5 = 0
    · exact absurd (ift hz_2 h) (fun q => by cases q)
    replace h := iff0 hz_2 h
    refine lv_lrem C.1 C.2.1 dX6_addWhole_59 hz_2 ?_
    refine lv_lneg C.1 C.2.1 dX6_addWhole_60 ?_
    refine lv_l2i C.1 C.2.1 dX6_addWhole_61 rfl ?_
    obtain ⟨x11_3, ex11_3, h⟩ := lt_e h
    refine x_nm ex11_3 ?_
    refine lv_istore (lv' := [(11, .int x11_3), (0, .ref (ρ x0)), (1, .long x1), (5, .long x5), (7, .int x7), (8, .long x8), (10, .int x10)]) C.1 C.2.1 dX6_addWhole_62 hl (by decide) rfl (fun ls hl => ?_)
    refine lv_aload_n C.1 C.2.1 dX6_addWhole_64 rfl (lv_at hl 1 rfl) ?_
    refine lv_iload C.1 C.2.1 dX6_addWhole_65 (lv_at hl 0 rfl) ?_
    refine lv_bipush (v := 10) C.1 C.2.1 dX6_addWhole_67 (by decide) ?_
    refine lv_icmp_ge (tgt := 80) C.1 C.2.1 dX6_addWhole_69 (by decide) (fun hc => ?_) (fun hc => ?_)
    · replace h := ift hc h
      refine lv_bipush (v := 97) C.1 C.2.1 dX6_addWhole_80 (by decide) ?_
      refine lv_iload C.1 C.2.1 dX6_addWhole_82 (lv_at hl 0 rfl) ?_
      refine lv_iadd C.1 C.2.1 dX6_addWhole_84 ?_
      refine lv_bipush (v := 10) C.1 C.2.1 dX6_addWhole_85 (by decide) ?_
      refine lv_isub C.1 C.2.1 dX6_addWhole_87 ?_
      have hkn := nq_kap nn
      refine W.widen (k := kap S - kap S0) (n := 2 * (kap S - kap S0)) (by omega) (by omega) ?_
      exact w_Row_addWhole_88 C hr hk kk48 km48 ha (by omega) w (lv_sub hl [1, 2, 3, 4, 5, 6] rfl) ho_x0 ho_x0 h
    · replace h := iff0 hc h
      refine lv_bipush (v := 48) C.1 C.2.1 dX6_addWhole_72 (by decide) ?_
      refine lv_iload C.1 C.2.1 dX6_addWhole_74 (lv_at hl 0 rfl) ?_
      refine lv_iadd C.1 C.2.1 dX6_addWhole_76 ?_
      refine lv_goto (tgt := 88) C.1 C.2.1 dX6_addWhole_77 (by decide) ?_
      have hkn := nq_kap nn
      refine W.widen (k := kap S - kap S0) (n := 2 * (kap S - kap S0)) (by omega) (by omega) ?_
      exact w_Row_addWhole_88 C hr hk kk48 km48 ha (by omega) w (lv_sub hl [1, 2, 3, 4, 5, 6] rfl) ho_x0 ho_x0 h
theorem w_Row_addWhole_48 {g : Nat} (C : CallFix p m c cX6_addWhole 12 s args tb RX6) (hr : meth.sig.returnType = none) (hk : meth.locks = false) {S' : St} (n : Nat) : ∀ (ρ : Nat → Nat) (S : St) (x0 : Nat) (x1 : Int64) (x5 : Int64) (x7 : Int32) (x8 : Int64) (x10 : Int32) (H : Heap) (locs : List Loc) (ls : Array Slot), Ag ρ0 ρ → kap S0 ≤ kap S → Wn Yc D T ρ S A s H locs → lv_has ls 12 [(0, .ref (ρ x0)), (1, .long x1), (5, .long x5), (7, .int x7), (8, .long x8), (10, .int x10)] → Ob Yc x0 4 → m_Row_addWhole_48 g n S x0 x1 x5 x7 x8 x10 = some S' → W p l e (rmK 3 69 (kap S' - kap S0)) s m args below meth c H locs (kap S - kap S0) (2 * (kap S - kap S0)) (MQ below (QvM D T ρ0 A S') args s (kap S' - kap S0) (2 * (kap S' - kap S0)) A) (F0 m 48 ls []) := by
  induction n with
  | zero => intro ρ S x0 x1 x5 x7 x8 x10 H locs ls ha hm w hl ho_x0 h; exact absurd h (fun q => by cases q)
  | succ n ih => intro ρ S x0 x1 x5 x7 x8 x10 H locs ls ha hm w hl ho_x0 h; exact wb_Row_addWhole_48 C hr hk ih (km_Row_addWhole_48 n) ha hm w hl ho_x0 h
set_option maxRecDepth 100000 in
set_option maxHeartbeats 4000000 in
theorem w_Row_addWhole_23 {g : Nat} {S : St} {x0 : Nat} {x1 : Int64} {y0 : Int64} (C : CallFix p m c cX6_addWhole 12 s args tb RX6) (hr : meth.sig.returnType = none) (hk : meth.locks = false) {S' : St} (ha : Ag ρ0 ρ) (hm : kap S0 ≤ kap S) (w : Wn Yc D T ρ S A s H locs) (hl : lv_has ls 12 [(0, .ref (ρ x0)), (1, .long x1)]) (ho_x0 : Ob Yc x0 4) (h : m_Row_addWhole_23 g S x0 x1 y0 = some S') : W p l e (rmK 3 69 (kap S' - kap S0)) s m args below meth c H locs (kap S - kap S0) (2 * (kap S - kap S0)) (MQ below (QvM D T ρ0 A S') args s (kap S' - kap S0) (2 * (kap S' - kap S0)) A) (F0 m 23 ls [.long y0]) := by
  have hT := km_Row_addWhole_23 h
  unfold m_Row_addWhole_23 at h
  have nn : nq S S := nq_rf
  refine lv_lstore (lv' := [(5, .long y0), (0, .ref (ρ x0)), (1, .long x1)]) C.1 C.2.1 dX6_addWhole_23 hl (by decide) rfl (fun ls hl => ?_)
  refine lv_aload_n C.1 C.2.1 dX6_addWhole_25 rfl (lv_at hl 1 rfl) ?_
  refine x_getI C w fX6_19 ho_x0 dX6_addWhole_26 ?_
  obtain ⟨x7_1, ex7_1, h⟩ := lt_e h
  refine x_nm ex7_1 ?_
  refine lv_istore (lv' := [(7, .int x7_1), (5, .long y0), (0, .ref (ρ x0)), (1, .long x1)]) C.1 C.2.1 dX6_addWhole_29 hl (by decide) rfl (fun ls hl => ?_)
  refine lv_lload_n C.1 C.2.1 dX6_addWhole_31 rfl (lv_at hl 3 rfl) ?_
  refine lv_lconst (v := 0) C.1 C.2.1 dX6_addWhole_32 (by decide) ?_
  refine x_l_le (tgt := 42) C dX6_addWhole_33 dX6_addWhole_34 (by decide) (fun hc => ?_) (fun hc => ?_)
  · replace h := iff0 hc h
    refine lv_lload_n C.1 C.2.1 dX6_addWhole_42 rfl (lv_at hl 3 rfl) ?_
    refine lv_lstore (lv' := [(8, .long x1), (7, .int x7_1), (5, .long y0), (0, .ref (ρ x0)), (1, .long x1)]) C.1 C.2.1 dX6_addWhole_43 hl (by decide) rfl (fun ls hl => ?_)
    refine lv_iconst (v := 0) C.1 C.2.1 dX6_addWhole_45 (by decide) ?_
    refine lv_istore (lv' := [(10, .int (0 : Int32)), (8, .long x1), (7, .int x7_1), (5, .long y0), (0, .ref (ρ x0)), (1, .long x1)]) C.1 C.2.1 dX6_addWhole_46 hl (by decide) rfl (fun ls hl => ?_)
    have hkn := nq_kap nn
    refine W.widen (k := kap S - kap S0) (n := 2 * (kap S - kap S0)) (by omega) (by omega) ?_
    exact w_Row_addWhole_48 C hr hk g _ _ _ _ _ _ _ _ _ _ _ ha (by omega) w (lv_sub hl [4, 5, 3, 2, 1, 0] rfl) ho_x0 h
  · replace h := ift hc h
    refine lv_lload_n C.1 C.2.1 dX6_addWhole_37 rfl (lv_at hl 3 rfl) ?_
    refine lv_lneg C.1 C.2.1 dX6_addWhole_38 ?_
    refine lv_goto (tgt := 43) C.1 C.2.1 dX6_addWhole_39 (by decide) ?_
    obtain ⟨x8_2, ex8_2, h⟩ := lt_e h
    refine x_nmL ex8_2 ?_
    refine lv_lstore (lv' := [(8, .long x8_2), (7, .int x7_1), (5, .long y0), (0, .ref (ρ x0)), (1, .long x1)]) C.1 C.2.1 dX6_addWhole_43 hl (by decide) rfl (fun ls hl => ?_)
    refine lv_iconst (v := 0) C.1 C.2.1 dX6_addWhole_45 (by decide) ?_
    refine lv_istore (lv' := [(10, .int (0 : Int32)), (8, .long x8_2), (7, .int x7_1), (5, .long y0), (0, .ref (ρ x0)), (1, .long x1)]) C.1 C.2.1 dX6_addWhole_46 hl (by decide) rfl (fun ls hl => ?_)
    have hkn := nq_kap nn
    refine W.widen (k := kap S - kap S0) (n := 2 * (kap S - kap S0)) (by omega) (by omega) ?_
    exact w_Row_addWhole_48 C hr hk g _ _ _ _ _ _ _ _ _ _ _ ha (by omega) w (lv_sub hl [4, 5, 3, 2, 1, 0] rfl) ho_x0 h
set_option maxRecDepth 100000 in
set_option maxHeartbeats 4000000 in
theorem w_Row_addWhole_16 {g : Nat} {S : St} {x0 : Nat} {x1 : Int64} (C : CallFix p m c cX6_addWhole 12 s args tb RX6) (hr : meth.sig.returnType = none) (hk : meth.locks = false) {S' : St} (ha : Ag ρ0 ρ) (hm : kap S0 ≤ kap S) (w : Wn Yc D T ρ S A s H locs) (hl : lv_has ls 12 [(0, .ref (ρ x0)), (1, .long x1)]) (ho_x0 : Ob Yc x0 4) (h : m_Row_addWhole_16 g S x0 x1 = some S') : W p l e (rmK 3 69 (kap S' - kap S0)) s m args below meth c H locs (kap S - kap S0) (2 * (kap S - kap S0)) (MQ below (QvM D T ρ0 A S') args s (kap S' - kap S0) (2 * (kap S' - kap S0)) A) (F0 m 16 ls []) := by
  have hT := km_Row_addWhole_16 h
  unfold m_Row_addWhole_16 at h
  have nn : nq S S := nq_rf
  refine lv_ldc2 C.1 C.2.1 C.2.2.2.1 (C.2.2.2.2 _ nX6_50) dX6_addWhole_16 ?_
  refine lv_goto (tgt := 23) C.1 C.2.1 dX6_addWhole_19 (by decide) ?_
  have hkn := nq_kap nn
  refine W.widen (k := kap S - kap S0) (n := 2 * (kap S - kap S0)) (by omega) (by omega) ?_
  exact w_Row_addWhole_23 C hr hk ha (by omega) w (lv_sub hl [0, 1] rfl) ho_x0 h
set_option maxRecDepth 100000 in
set_option maxHeartbeats 4000000 in
theorem w_Row_addWhole_0 {g : Nat} {S : St} {x0 : Nat} {x1 : Int64} {x3 : Int64} (C : CallFix p m c cX6_addWhole 12 s args tb RX6) (hr : meth.sig.returnType = none) (hk : meth.locks = false) {S' : St} (ha : Ag ρ0 ρ) (hm : kap S0 ≤ kap S) (w : Wn Yc D T ρ S A s H locs) (hl : lv_has ls 12 [(0, .ref (ρ x0)), (1, .long x1), (3, .long x3)]) (ho_x0 : Ob Yc x0 4) (h : m_Row_addWhole g S x0 x1 x3 = some S') : W p l e (rmK 3 69 (kap S' - kap S0)) s m args below meth c H locs (kap S - kap S0) (2 * (kap S - kap S0)) (MQ below (QvM D T ρ0 A S') args s (kap S' - kap S0) (2 * (kap S' - kap S0)) A) (F0 m 0 ls []) := by
  have hT := km_Row_addWhole h
  unfold m_Row_addWhole at h
  have nn : nq S S := nq_rf
  refine lv_lload_n C.1 C.2.1 dX6_addWhole_0 rfl (lv_at hl 2 rfl) ?_
  refine lv_ldc2 C.1 C.2.1 C.2.2.2.1 (C.2.2.2.2 _ nX6_46) dX6_addWhole_1 ?_
  refine x_l_lt (tgt := 16) C dX6_addWhole_4 dX6_addWhole_5 (by decide) (fun hc => ?_) (fun hc => ?_)
  · replace h := ift hc h
    have hkn := nq_kap nn
    refine W.widen (k := kap S - kap S0) (n := 2 * (kap S - kap S0)) (by omega) (by omega) ?_
    exact w_Row_addWhole_16 C hr hk ha (by omega) w (lv_sub hl [0, 1] rfl) ho_x0 h
  · replace h := iff0 hc h
    refine lv_lload_n C.1 C.2.1 dX6_addWhole_8 rfl (lv_at hl 2 rfl) ?_
    refine lv_ldc2 C.1 C.2.1 C.2.2.2.1 (C.2.2.2.2 _ nX6_48) dX6_addWhole_9 ?_
    refine x_l_le (tgt := 22) C dX6_addWhole_12 dX6_addWhole_13 (by decide) (fun hc => ?_) (fun hc => ?_)
    · replace h := iff0 hc h
      refine lv_lload_n C.1 C.2.1 dX6_addWhole_22 rfl (lv_at hl 2 rfl) ?_
      have hkn := nq_kap nn
      refine W.widen (k := kap S - kap S0) (n := 2 * (kap S - kap S0)) (by omega) (by omega) ?_
      exact w_Row_addWhole_23 C hr hk ha (by omega) w (lv_sub hl [0, 1] rfl) ho_x0 h
    · replace h := ift hc h
      have hkn := nq_kap nn
      refine W.widen (k := kap S - kap S0) (n := 2 * (kap S - kap S0)) (by omega) (by omega) ?_
      exact w_Row_addWhole_16 C hr hk ha (by omega) w (lv_sub hl [0, 1] rfl) ho_x0 h
end S_Row_addWhole
set_option maxRecDepth 100000 in
theorem k_Row_addWhole (l : Launch) (D : va_G) (T : Cy) (ρ : Nat → Nat) (g sz : Nat) (S : St) {x0 : Nat} {x1 : Int64} {x3 : Int64} (ho_x0 : Ob Yc x0 4) {S' : St} (h : m_Row_addWhole g S x0 x1 x3 = some S') : MvM l D T ρ yX6_addWhole cX6_addWhole 12 none 3 69 S S' [.ref (ρ x0), .long x1, .long x3] sz :=
  x_inR (by decide) (Nat.le_of_ble_eq_true rfl) (fun p e s m below meth c ls C hr hk w hl => W.widen (Nat.zero_le _) (Nat.zero_le _) (w_Row_addWhole_0 C hr hk Ag.rf (Nat.le_refl _) w hl ho_x0 h))

theorem dX2_open_0 : decode cX2_open 0 = .ok (.aload_n 0, 1) := by decide +kernel
theorem dX2_open_1 : decode cX2_open 1 = .ok (.getfield 9, 3) := by decide +kernel
theorem dX2_open_4 : decode cX2_open 4 = .ok (.aload_n 0, 1) := by decide +kernel
theorem dX2_open_5 : decode cX2_open 5 = .ok (.getfield 9, 3) := by decide +kernel
theorem dX2_open_8 : decode cX2_open 8 = .ok (.iconst 1, 1) := by decide +kernel
theorem dX2_open_9 : decode cX2_open 9 = .ok (.invokevirtual 87, 3) := by decide +kernel
theorem dX2_open_12 : decode cX2_open 12 = .ok (.invokevirtual 90, 3) := by decide +kernel
theorem dX2_open_15 : decode cX2_open 15 = .ok (.aload_n 0, 1) := by decide +kernel
theorem dX2_open_16 : decode cX2_open 16 = .ok (.getfield 9, 3) := by decide +kernel
theorem dX2_open_19 : decode cX2_open 19 = .ok (.getfield 26, 3) := by decide +kernel
theorem dX2_open_22 : decode cX2_open 22 = .ok (.iload_n 1, 1) := by decide +kernel
theorem dX2_open_23 : decode cX2_open 23 = .ok (.aaload, 1) := by decide +kernel
theorem dX2_open_24 : decode cX2_open 24 = .ok (.astore_n 2, 1) := by decide +kernel
theorem dX2_open_25 : decode cX2_open 25 = .ok (.aload_n 2, 1) := by decide +kernel
theorem dX2_open_26 : decode cX2_open 26 = .ok (.invokevirtual 30, 3) := by decide +kernel
theorem dX2_open_29 : decode cX2_open 29 = .ok (.aload_n 2, 1) := by decide +kernel
theorem dX2_open_30 : decode cX2_open 30 = .ok (.iconst 0, 1) := by decide +kernel
theorem dX2_open_31 : decode cX2_open 31 = .ok (.aload_n 0, 1) := by decide +kernel
theorem dX2_open_32 : decode cX2_open 32 = .ok (.getfield 21, 3) := by decide +kernel
theorem dX2_open_35 : decode cX2_open 35 = .ok (.iconst 0, 1) := by decide +kernel
theorem dX2_open_36 : decode cX2_open 36 = .ok (.aload_n 0, 1) := by decide +kernel
theorem dX2_open_37 : decode cX2_open 37 = .ok (.getfield 21, 3) := by decide +kernel
theorem dX2_open_40 : decode cX2_open 40 = .ok (.getfield 53, 3) := by decide +kernel
theorem dX2_open_43 : decode cX2_open 43 = .ok (.invokevirtual 94, 3) := by decide +kernel
theorem dX2_open_46 : decode cX2_open 46 = .ok (.aload_n 0, 1) := by decide +kernel
theorem dX2_open_47 : decode cX2_open 47 = .ok (.getfield 9, 3) := by decide +kernel
theorem dX2_open_50 : decode cX2_open 50 = .ok (.getfield 84, 3) := by decide +kernel
theorem dX2_open_53 : decode cX2_open 53 = .ok (.iload_n 1, 1) := by decide +kernel
theorem dX2_open_54 : decode cX2_open 54 = .ok (.aload_n 2, 1) := by decide +kernel
theorem dX2_open_55 : decode cX2_open 55 = .ok (.getfield 53, 3) := by decide +kernel
theorem dX2_open_58 : decode cX2_open 58 = .ok (.bipush 16, 2) := by decide +kernel
theorem dX2_open_60 : decode cX2_open 60 = .ok (.iadd, 1) := by decide +kernel
theorem dX2_open_61 : decode cX2_open 61 = .ok (.iastore, 1) := by decide +kernel
theorem dX2_open_62 : decode cX2_open 62 = .ok (.iconst 0, 1) := by decide +kernel
theorem dX2_open_63 : decode cX2_open 63 = .ok (.ireturn, 1) := by decide +kernel
def m_BS_open_46 (g : Nat) (S : St) (x1 : Int32) (x2 : Nat) : Option (St × Int32) :=
(tI S 77 x1 ((gI S x2 2) + (16 : Int32))).bind fun S_6 =>
some (S_6, (0 : Int32))
def m_BS_open_15 (g : Nat) (S : St) (x1 : Int32) : Option (St × Int32) :=
(bR S x1).bind fun r_3 =>
(m_Row_clear g S r_3).bind fun S_4 =>
(m_Row_insert g S_4 r_3 (0 : Int32) 23 (0 : Int32) (gI S_4 23 2)).bind fun S_5 =>
m_BS_open_46 g S_5 x1 r_3
def m_BS_open (g : Nat) (S : St) (x1 : Int32) : Option (St × Int32) :=
(m_Bn_textAt g S (1 : Int32)).bind fun v_1 =>
(m_Bn_addText g S v_1).bind fun S_2 =>
m_BS_open_15 g S_2 x1
theorem km_BS_open_46 {g : Nat} {S : St} {x1 : Int32} {x2 : Nat} {S' : St} {r : Int32} (h : m_BS_open_46 g S x1 x2 = some (S', r)) : kap S ≤ kap S' := by
  unfold m_BS_open_46 at h
  have nn : nq S S := nq_rf
  obtain ⟨S_6, hS_6, h⟩ := bnd h
  replace nn : nq S_6 S := nq_tr (nq_tI hS_6) nn
  obtain ⟨rfl, rfl⟩ := prI h
  have hkn := nq_kap nn
  omega
theorem km_BS_open_15 {g : Nat} {S : St} {x1 : Int32} {S' : St} {r : Int32} (h : m_BS_open_15 g S x1 = some (S', r)) : kap S ≤ kap S' := by
  unfold m_BS_open_15 at h
  have nn : nq S S := nq_rf
  obtain ⟨r_3, hr_3, h⟩ := bnd h
  obtain ⟨S_4, hS_4, h⟩ := bnd h
  replace nn : nq S_4 S := nq_tr (kq_Row_clear hS_4) nn
  obtain ⟨S_5, hS_5, h⟩ := bnd h
  have hk1 := km_Row_insert hS_5
  have hkn := nq_kap nn
  have h2 := km_BS_open_46 h
  omega
theorem km_BS_open {g : Nat} {S : St} {x1 : Int32} {S' : St} {r : Int32} (h : m_BS_open g S x1 = some (S', r)) : kap S ≤ kap S' := by
  unfold m_BS_open at h
  have nn : nq S S := nq_rf
  obtain ⟨v_1, hv_1, h⟩ := bnd h
  obtain ⟨S_2, hS_2, h⟩ := bnd h
  have hk1 := km_Bn_addText hS_2
  have hkn := nq_kap nn
  have h2 := km_BS_open_15 h
  omega
section S_BS_open
variable {p : Program} {l : Launch} {e : Env} {s : State} {m : MethodId} {args : Array Value} {below : List Frame} {meth : Method} {c : Code} {H : Heap} {locs : List Loc} {ls : Array Slot} {D : va_G} {T : Cy} {ρ ρ0 : Nat → Nat} {S0 : St} {A : Nat → Prop}
set_option maxRecDepth 100000 in
set_option maxHeartbeats 4000000 in
theorem w_BS_open_46 {g : Nat} {S : St} {x1 : Int32} {x2 : Nat} (C : CallFix p m c cX2_open 3 s args tb RX2) (hr : meth.sig.returnType = (some .int)) (hk : meth.locks = false) {S' : St} {r : Int32} (ha : Ag ρ0 ρ) (hm : kap S0 ≤ kap S) (w : Wn Yc D T ρ S A s H locs) (hl : lv_has ls 3 [(0, .ref (ρ 9)), (1, .int x1), (2, .ref (ρ x2))]) (ho_x2 : Ob Yc x2 4) (h : m_BS_open_46 g S x1 x2 = some (S', r)) : W p l e (rmK 4 94 (kap S' - kap S0)) s m args below meth c H locs (kap S - kap S0) (2 * (kap S - kap S0)) (MQ below (QiM D T ρ0 A S' r) args s (kap S' - kap S0) (2 * (kap S' - kap S0)) A) (F0 m 46 ls []) := by
  have hT := km_BS_open_46 h
  unfold m_BS_open_46 at h
  have nn : nq S S := nq_rf
  refine lv_aload_n C.1 C.2.1 dX2_open_46 rfl (lv_at hl 0 rfl) ?_
  refine x_getC C w 4 fX2_9 obC9 rfl dX2_open_47 ?_
  refine x_getC C w 77 fX2_84 obC4 rfl dX2_open_50 ?_
  refine lv_iload_n C.1 C.2.1 dX2_open_53 rfl (lv_at hl 1 rfl) ?_
  refine lv_aload_n C.1 C.2.1 dX2_open_54 rfl (lv_at hl 2 rfl) ?_
  refine x_getI C w fX2_53 ho_x2 dX2_open_55 ?_
  refine lv_bipush (v := 16) C.1 C.2.1 dX2_open_58 (by decide) ?_
  refine lv_iadd C.1 C.2.1 dX2_open_60 ?_
  obtain ⟨S_6, hS_6, h⟩ := bnd h
  replace nn : nq S_6 S := nq_tr (nq_tI hS_6) nn
  refine x_iast C w obC77 hS_6 dX2_open_61 (fun H locs w => ?_)
  refine lv_iconst (v := 0) C.1 C.2.1 dX2_open_62 (by decide) ?_
  obtain ⟨rfl, rfl⟩ := prI h
  exact x_iretM C w ha hr hk dX2_open_63 (by have := nq_kap nn; omega) (by have := nq_kap nn; omega)
set_option maxRecDepth 100000 in
set_option maxHeartbeats 4000000 in
theorem w_BS_open_15 {g : Nat} {S : St} {x1 : Int32} (C : CallFix p m c cX2_open 3 s args tb RX2) (hr : meth.sig.returnType = (some .int)) (hk : meth.locks = false) {S' : St} {r : Int32} (ha : Ag ρ0 ρ) (hm : kap S0 ≤ kap S) (w : Wn Yc D T ρ S A s H locs) (hl : lv_has ls 3 [(0, .ref (ρ 9)), (1, .int x1)]) (h : m_BS_open_15 g S x1 = some (S', r)) : W p l e (rmK 4 94 (kap S' - kap S0)) s m args below meth c H locs (kap S - kap S0) (2 * (kap S - kap S0)) (MQ below (QiM D T ρ0 A S' r) args s (kap S' - kap S0) (2 * (kap S' - kap S0)) A) (F0 m 15 ls []) := by
  have hT := km_BS_open_15 h
  unfold m_BS_open_15 at h
  have nn : nq S S := nq_rf
  refine lv_aload_n C.1 C.2.1 dX2_open_15 rfl (lv_at hl 0 rfl) ?_
  refine x_getC C w 4 fX2_9 obC9 rfl dX2_open_16 ?_
  refine x_getC C w 76 fX2_26 obC4 rfl dX2_open_19 ?_
  refine lv_iload_n C.1 C.2.1 dX2_open_22 rfl (lv_at hl 1 rfl) ?_
  obtain ⟨r_3, hr_3, h⟩ := bnd h
  refine x_bald C w hr_3 dX2_open_23 ?_
  refine lv_astore_n (lv' := [(2, .ref (ρ r_3)), (0, .ref (ρ 9)), (1, .int x1)]) C.1 C.2.1 dX2_open_24 rfl hl (by decide) rfl (fun ls hl => ?_)
  refine lv_aload_n C.1 C.2.1 dX2_open_25 rfl (lv_at hl 0 rfl) ?_
  obtain ⟨S_4, hS_4, h⟩ := bnd h
  replace nn : nq S_4 S := nq_tr (kq_Row_clear hS_4) nn
  refine x_callVv (q := (RX6, TX6, 4)) (As := []) (rest := []) C w (k_Row_clear l D T ρ g H.size S (bR_ob hr_3) hS_4) vX2_30 (hRK (by decide) (by decide)) (bR_ob hr_3) (by decide) rfl rfl rfl hl.1 (Nat.le_of_ble_eq_true rfl) (hcK hT) dX2_open_26 (fun H locs w => ?_)
  refine lv_aload_n C.1 C.2.1 dX2_open_29 rfl (lv_at hl 0 rfl) ?_
  refine lv_iconst (v := 0) C.1 C.2.1 dX2_open_30 (by decide) ?_
  refine lv_aload_n C.1 C.2.1 dX2_open_31 rfl (lv_at hl 1 rfl) ?_
  refine x_getC C w 23 fX2_21 obC9 rfl dX2_open_32 ?_
  refine lv_iconst (v := 0) C.1 C.2.1 dX2_open_35 (by decide) ?_
  refine lv_aload_n C.1 C.2.1 dX2_open_36 rfl (lv_at hl 1 rfl) ?_
  refine x_getC C w 23 fX2_21 obC9 rfl dX2_open_37 ?_
  refine x_getI C w fX2_53 obC23 dX2_open_40 ?_
  obtain ⟨S_5, hS_5, h⟩ := bnd h
  have hkn := nq_kap nn
  have hk1 := km_Row_insert hS_5
  have hT2 := km_BS_open_46 h
  refine x_callVvM (q := (RX6, TX6, 4)) (As := [.int (0 : Int32), .ref (ρ 23), .int (0 : Int32), .int (gI S_4 23 2)]) (rest := []) C w (k_Row_insert l D T ρ g H.size S_4 (bR_ob hr_3) obC23 hS_5) vX2_94 (hRK (by decide) (by decide)) (bR_ob hr_3) (by decide) rfl rfl rfl hl.1 (Nat.le_of_ble_eq_true rfl) (hcM hm hkn hk1 hT2) dX2_open_43 (fun ρ1 H locs hag w => ?_)
  replace ha := ha.trans hag
  rw [← hag r_3 (ncR (bR_ob hr_3))] at hl
  rw [← hag 9 (by decide)] at hl
  refine W.widen (k := kap S_5 - kap S0) (n := 2 * (kap S_5 - kap S0)) (by omega) (by omega) ?_
  exact w_BS_open_46 C hr hk ha (by omega) w (lv_sub hl [1, 2, 0] rfl) (bR_ob hr_3) h
set_option maxRecDepth 100000 in
set_option maxHeartbeats 4000000 in
theorem w_BS_open_0 {g : Nat} {S : St} {x1 : Int32} (C : CallFix p m c cX2_open 3 s args tb RX2) (hr : meth.sig.returnType = (some .int)) (hk : meth.locks = false) {S' : St} {r : Int32} (ha : Ag ρ0 ρ) (hm : kap S0 ≤ kap S) (w : Wn Yc D T ρ S A s H locs) (hl : lv_has ls 3 [(0, .ref (ρ 9)), (1, .int x1)]) (h : m_BS_open g S x1 = some (S', r)) : W p l e (rmK 4 94 (kap S' - kap S0)) s m args below meth c H locs (kap S - kap S0) (2 * (kap S - kap S0)) (MQ below (QiM D T ρ0 A S' r) args s (kap S' - kap S0) (2 * (kap S' - kap S0)) A) (F0 m 0 ls []) := by
  have hT := km_BS_open h
  unfold m_BS_open at h
  have nn : nq S S := nq_rf
  refine lv_aload_n C.1 C.2.1 dX2_open_0 rfl (lv_at hl 0 rfl) ?_
  refine x_getC C w 4 fX2_9 obC9 rfl dX2_open_1 ?_
  refine lv_aload_n C.1 C.2.1 dX2_open_4 rfl (lv_at hl 0 rfl) ?_
  refine x_getC C w 4 fX2_9 obC9 rfl dX2_open_5 ?_
  refine lv_iconst (v := 1) C.1 C.2.1 dX2_open_8 (by decide) ?_
  obtain ⟨v_1, hv_1, h⟩ := bnd h
  refine x_callVi (q := (RX1, TX1, 12)) (As := [.int (1 : Int32)]) (rest := [.ref (ρ 4)]) C w (k_Bn_textAt l D T ρ g H.size S hv_1) vX2_87 (hRK (by decide) (by decide)) obC4 (by decide) rfl rfl rfl hl.1 (Nat.le_of_ble_eq_true rfl) (hcK hT) dX2_open_9 (fun H locs w => ?_)
  obtain ⟨S_2, hS_2, h⟩ := bnd h
  have hkn := nq_kap nn
  have hk1 := km_Bn_addText hS_2
  have hT2 := km_BS_open_15 h
  refine x_callVvM (q := (RX1, TX1, 12)) (As := [.int v_1]) (rest := []) C w (k_Bn_addText l D T ρ g H.size S hS_2) vX2_90 (hRK (by decide) (by decide)) obC4 (by decide) rfl rfl rfl hl.1 (Nat.le_of_ble_eq_true rfl) (hcM hm hkn hk1 hT2) dX2_open_12 (fun ρ1 H locs hag w => ?_)
  replace ha := ha.trans hag
  rw [← hag 9 (by decide)] at hl
  refine W.widen (k := kap S_2 - kap S0) (n := 2 * (kap S_2 - kap S0)) (by omega) (by omega) ?_
  exact w_BS_open_15 C hr hk ha (by omega) w (lv_sub hl [0, 1] rfl) h
end S_BS_open
set_option maxRecDepth 100000 in
theorem k_BS_open (l : Launch) (D : va_G) (T : Cy) (ρ : Nat → Nat) (g sz : Nat) (S : St) {x1 : Int32} {S' : St} {r : Int32} (h : m_BS_open g S x1 = some (S', r)) : MiM l D T ρ yX2_open cX2_open 3 (some .int) 4 94 S S' r [.ref (ρ 9), .int x1] sz :=
  x_inR (by decide) (Nat.le_of_ble_eq_true rfl) (fun p e s m below meth c ls C hr hk w hl => W.widen (Nat.zero_le _) (Nat.zero_le _) (w_BS_open_0 C hr hk Ag.rf (Nat.le_refl _) w hl h))

theorem dX2_turn_0 : decode cX2_turn 0 = .ok (.aload_n 1, 1) := by decide +kernel
theorem dX2_turn_1 : decode cX2_turn 1 = .ok (.getfield 53, 3) := by decide +kernel
theorem dX2_turn_4 : decode cX2_turn 4 = .ok (.istore_n 2, 1) := by decide +kernel
theorem dX2_turn_5 : decode cX2_turn 5 = .ok (.iload_n 2, 1) := by decide +kernel
theorem dX2_turn_6 : decode cX2_turn 6 = .ok (.ifCond .le 68, 3) := by decide +kernel
theorem dX2_turn_9 : decode cX2_turn 9 = .ok (.aload_n 1, 1) := by decide +kernel
theorem dX2_turn_10 : decode cX2_turn 10 = .ok (.iload_n 2, 1) := by decide +kernel
theorem dX2_turn_11 : decode cX2_turn 11 = .ok (.iconst 2, 1) := by decide +kernel
theorem dX2_turn_12 : decode cX2_turn 12 = .ok (.isub, 1) := by decide +kernel
theorem dX2_turn_13 : decode cX2_turn 13 = .ok (.iload_n 2, 1) := by decide +kernel
theorem dX2_turn_14 : decode cX2_turn 14 = .ok (.invokevirtual 129, 3) := by decide +kernel
theorem dX2_turn_17 : decode cX2_turn 17 = .ok (.ifCond .eq 37, 3) := by decide +kernel
theorem dX2_turn_20 : decode cX2_turn 20 = .ok (.aload_n 0, 1) := by decide +kernel
theorem dX2_turn_21 : decode cX2_turn 21 = .ok (.getfield 21, 3) := by decide +kernel
theorem dX2_turn_24 : decode cX2_turn 24 = .ok (.aload_n 1, 1) := by decide +kernel
theorem dX2_turn_25 : decode cX2_turn 25 = .ok (.iload_n 2, 1) := by decide +kernel
theorem dX2_turn_26 : decode cX2_turn 26 = .ok (.iconst 2, 1) := by decide +kernel
theorem dX2_turn_27 : decode cX2_turn 27 = .ok (.isub, 1) := by decide +kernel
theorem dX2_turn_28 : decode cX2_turn 28 = .ok (.invokevirtual 133, 3) := by decide +kernel
theorem dX2_turn_31 : decode cX2_turn 31 = .ok (.invokevirtual 136, 3) := by decide +kernel
theorem dX2_turn_34 : decode cX2_turn 34 = .ok (.aload_n 0, 1) := by decide +kernel
theorem dX2_turn_35 : decode cX2_turn 35 = .ok (.getfield 21, 3) := by decide +kernel
theorem dX2_turn_38 : decode cX2_turn 38 = .ok (.aload_n 1, 1) := by decide +kernel
theorem dX2_turn_39 : decode cX2_turn 39 = .ok (.iload_n 2, 1) := by decide +kernel
theorem dX2_turn_40 : decode cX2_turn 40 = .ok (.iconst 1, 1) := by decide +kernel
theorem dX2_turn_41 : decode cX2_turn 41 = .ok (.isub, 1) := by decide +kernel
theorem dX2_turn_42 : decode cX2_turn 42 = .ok (.invokevirtual 133, 3) := by decide +kernel
theorem dX2_turn_45 : decode cX2_turn 45 = .ok (.invokevirtual 136, 3) := by decide +kernel
theorem dX2_turn_48 : decode cX2_turn 48 = .ok (.iinc 2 (-1), 3) := by decide +kernel
theorem dX2_turn_51 : decode cX2_turn 51 = .ok (.goto 17, 3) := by decide +kernel
theorem dX2_turn_54 : decode cX2_turn 54 = .ok (.aload_n 0, 1) := by decide +kernel
theorem dX2_turn_55 : decode cX2_turn 55 = .ok (.getfield 21, 3) := by decide +kernel
theorem dX2_turn_58 : decode cX2_turn 58 = .ok (.aload_n 1, 1) := by decide +kernel
theorem dX2_turn_59 : decode cX2_turn 59 = .ok (.iload_n 2, 1) := by decide +kernel
theorem dX2_turn_60 : decode cX2_turn 60 = .ok (.iconst 1, 1) := by decide +kernel
theorem dX2_turn_61 : decode cX2_turn 61 = .ok (.isub, 1) := by decide +kernel
theorem dX2_turn_62 : decode cX2_turn 62 = .ok (.invokevirtual 133, 3) := by decide +kernel
theorem dX2_turn_65 : decode cX2_turn 65 = .ok (.invokevirtual 136, 3) := by decide +kernel
theorem dX2_turn_68 : decode cX2_turn 68 = .ok (.iinc 2 (-1), 3) := by decide +kernel
theorem dX2_turn_71 : decode cX2_turn 71 = .ok (.goto (-66), 3) := by decide +kernel
theorem dX2_turn_74 : decode cX2_turn 74 = .ok (.aload_n 1, 1) := by decide +kernel
theorem dX2_turn_75 : decode cX2_turn 75 = .ok (.invokevirtual 30, 3) := by decide +kernel
theorem dX2_turn_78 : decode cX2_turn 78 = .ok (.aload_n 1, 1) := by decide +kernel
theorem dX2_turn_79 : decode cX2_turn 79 = .ok (.iconst 0, 1) := by decide +kernel
theorem dX2_turn_80 : decode cX2_turn 80 = .ok (.aload_n 0, 1) := by decide +kernel
theorem dX2_turn_81 : decode cX2_turn 81 = .ok (.getfield 21, 3) := by decide +kernel
theorem dX2_turn_84 : decode cX2_turn 84 = .ok (.iconst 0, 1) := by decide +kernel
theorem dX2_turn_85 : decode cX2_turn 85 = .ok (.aload_n 0, 1) := by decide +kernel
theorem dX2_turn_86 : decode cX2_turn 86 = .ok (.getfield 21, 3) := by decide +kernel
theorem dX2_turn_89 : decode cX2_turn 89 = .ok (.getfield 53, 3) := by decide +kernel
theorem dX2_turn_92 : decode cX2_turn 92 = .ok (.invokevirtual 94, 3) := by decide +kernel
theorem dX2_turn_95 : decode cX2_turn 95 = .ok (.iconst 0, 1) := by decide +kernel
theorem dX2_turn_96 : decode cX2_turn 96 = .ok (.ireturn, 1) := by decide +kernel
def m_BS_turn_95 (g : Nat) (S : St) : Option (St × Int32) :=
some (S, (0 : Int32))
def m_BS_turn_68 (g : Nat) (k5 : St → Nat → Int32 → Option (St × Int32)) (S : St) (x1 : Nat) (x2 : Int32) : Option (St × Int32) :=
lt (x2 + (-1 : Int32)) fun x2_7 =>
k5 S x1 x2_7
def m_BS_turn_48 (g : Nat) (k5 : St → Nat → Int32 → Option (St × Int32)) (S : St) (x1 : Nat) (x2 : Int32) : Option (St × Int32) :=
lt (x2 + (-1 : Int32)) fun x2_11 =>
m_BS_turn_68 g k5 S x1 x2_11
def m_BS_turn_34 (g : Nat) (k5 : St → Nat → Int32 → Option (St × Int32)) (S : St) (x1 : Nat) (x2 : Int32) : Option (St × Int32) :=
(m_Row_at g S x1 (x2 - (1 : Int32))).bind fun v_9 =>
(m_Row_add g S 23 v_9).bind fun S_10 =>
m_BS_turn_48 g k5 S_10 x1 x2
def b_BS_turn_5 (g : Nat) (k5 : St → Nat → Int32 → Option (St × Int32)) (S : St) (x1 : Nat) (x2 : Int32) : Option (St × Int32) :=
if x2 ≤ 0 then (
  (m_Row_clear g S x1).bind fun S_2 =>
  (m_Row_insert g S_2 x1 (0 : Int32) 23 (0 : Int32) (gI S_2 23 2)).bind fun S_3 =>
  m_BS_turn_95 g S_3
) else (
  (m_Row_hasPair g S x1 (x2 - (2 : Int32)) x2).bind fun v_4 =>
  if v_4 = 0 then (
    (m_Row_at g S x1 (x2 - (1 : Int32))).bind fun v_5 =>
    (m_Row_add g S 23 v_5).bind fun S_6 =>
    m_BS_turn_68 g k5 S_6 x1 x2
  ) else (
    (m_Row_at g S x1 (x2 - (2 : Int32))).bind fun v_7 =>
    (m_Row_add g S 23 v_7).bind fun S_8 =>
    m_BS_turn_34 g k5 S_8 x1 x2
  )
)
def m_BS_turn_5 (g : Nat) : Nat → St → Nat → Int32 → Option (St × Int32)
  | 0, _, _, _ => none
  | n + 1, S, x1, x2 => b_BS_turn_5 g (m_BS_turn_5 g n) S x1 x2
def m_BS_turn (g : Nat) (S : St) (x1 : Nat) : Option (St × Int32) :=
lt (gI S x1 2) fun x2_1 =>
m_BS_turn_5 g g S x1 x2_1
theorem km_BS_turn_95 {g : Nat} {S : St} {S' : St} {r : Int32} (h : m_BS_turn_95 g S = some (S', r)) : kap S ≤ kap S' := by
  unfold m_BS_turn_95 at h
  have nn : nq S S := nq_rf
  obtain ⟨rfl, rfl⟩ := prI h
  have hkn := nq_kap nn
  omega
theorem km_BS_turn_68 {g : Nat} {S : St} {x1 : Nat} {x2 : Int32} {S' : St} {r : Int32} {k5 : St → Nat → Int32 → Option (St × Int32)} (km5 : ∀ (S : St) (x1 : Nat) (x2 : Int32), k5 S x1 x2 = some (S', r) → kap S ≤ kap S') (h : m_BS_turn_68 g k5 S x1 x2 = some (S', r)) : kap S ≤ kap S' := by
  unfold m_BS_turn_68 at h
  have nn : nq S S := nq_rf
  obtain ⟨x2_7, ex2_7, h⟩ := lt_e h
  have hkn := nq_kap nn
  have h2 := km5 _ _ _ h
  omega
theorem km_BS_turn_48 {g : Nat} {S : St} {x1 : Nat} {x2 : Int32} {S' : St} {r : Int32} {k5 : St → Nat → Int32 → Option (St × Int32)} (km5 : ∀ (S : St) (x1 : Nat) (x2 : Int32), k5 S x1 x2 = some (S', r) → kap S ≤ kap S') (h : m_BS_turn_48 g k5 S x1 x2 = some (S', r)) : kap S ≤ kap S' := by
  unfold m_BS_turn_48 at h
  have nn : nq S S := nq_rf
  obtain ⟨x2_11, ex2_11, h⟩ := lt_e h
  have hkn := nq_kap nn
  have h2 := km_BS_turn_68 km5 h
  omega
theorem km_BS_turn_34 {g : Nat} {S : St} {x1 : Nat} {x2 : Int32} {S' : St} {r : Int32} {k5 : St → Nat → Int32 → Option (St × Int32)} (km5 : ∀ (S : St) (x1 : Nat) (x2 : Int32), k5 S x1 x2 = some (S', r) → kap S ≤ kap S') (h : m_BS_turn_34 g k5 S x1 x2 = some (S', r)) : kap S ≤ kap S' := by
  unfold m_BS_turn_34 at h
  have nn : nq S S := nq_rf
  obtain ⟨v_9, hv_9, h⟩ := bnd h
  obtain ⟨S_10, hS_10, h⟩ := bnd h
  have hk1 := km_Row_add hS_10
  have hkn := nq_kap nn
  have h2 := km_BS_turn_48 km5 h
  omega
theorem kmb_BS_turn_5 {g : Nat} {S : St} {x1 : Nat} {x2 : Int32} {S' : St} {r : Int32} {k5 : St → Nat → Int32 → Option (St × Int32)} (km5 : ∀ (S : St) (x1 : Nat) (x2 : Int32), k5 S x1 x2 = some (S', r) → kap S ≤ kap S') (h : b_BS_turn_5 g k5 S x1 x2 = some (S', r)) : kap S ≤ kap S' := by
  unfold b_BS_turn_5 at h
  have nn : nq S S := nq_rf
  by_cases hc1 : x2 ≤ 0
  · replace h := ift hc1 h
    obtain ⟨S_2, hS_2, h⟩ := bnd h
    replace nn : nq S_2 S := nq_tr (kq_Row_clear hS_2) nn
    obtain ⟨S_3, hS_3, h⟩ := bnd h
    have hk1 := km_Row_insert hS_3
    have hkn := nq_kap nn
    have h2 := km_BS_turn_95 h
    omega
  · replace h := iff0 hc1 h
    obtain ⟨v_4, hv_4, h⟩ := bnd h
    by_cases hc2 : v_4 = 0
    · replace h := ift hc2 h
      obtain ⟨v_5, hv_5, h⟩ := bnd h
      obtain ⟨S_6, hS_6, h⟩ := bnd h
      have hk1 := km_Row_add hS_6
      have hkn := nq_kap nn
      have h2 := km_BS_turn_68 km5 h
      omega
    · replace h := iff0 hc2 h
      obtain ⟨v_7, hv_7, h⟩ := bnd h
      obtain ⟨S_8, hS_8, h⟩ := bnd h
      have hk1 := km_Row_add hS_8
      have hkn := nq_kap nn
      have h2 := km_BS_turn_34 km5 h
      omega
theorem km_BS_turn_5 {g : Nat} {S' : St} {r : Int32} (n : Nat) : ∀ (S : St) (x1 : Nat) (x2 : Int32), m_BS_turn_5 g n S x1 x2 = some (S', r) → kap S ≤ kap S' := by
  induction n with
  | zero => intro S x1 x2 h; exact absurd h (fun q => by cases q)
  | succ n ih => intro S x1 x2 h; exact kmb_BS_turn_5 ih h
theorem km_BS_turn {g : Nat} {S : St} {x1 : Nat} {S' : St} {r : Int32} (h : m_BS_turn g S x1 = some (S', r)) : kap S ≤ kap S' := by
  unfold m_BS_turn at h
  have nn : nq S S := nq_rf
  obtain ⟨x2_1, ex2_1, h⟩ := lt_e h
  have hkn := nq_kap nn
  have h2 := km_BS_turn_5 g _ _ _ h
  omega
section S_BS_turn
variable {p : Program} {l : Launch} {e : Env} {s : State} {m : MethodId} {args : Array Value} {below : List Frame} {meth : Method} {c : Code} {H : Heap} {locs : List Loc} {ls : Array Slot} {D : va_G} {T : Cy} {ρ ρ0 : Nat → Nat} {S0 : St} {A : Nat → Prop}
set_option maxRecDepth 100000 in
set_option maxHeartbeats 4000000 in
theorem w_BS_turn_95 {g : Nat} {S : St} (C : CallFix p m c cX2_turn 3 s args tb RX2) (hr : meth.sig.returnType = (some .int)) (hk : meth.locks = false) {S' : St} {r : Int32} (ha : Ag ρ0 ρ) (hm : kap S0 ≤ kap S) (w : Wn Yc D T ρ S A s H locs) (hl : lv_has ls 3 []) (h : m_BS_turn_95 g S = some (S', r)) : W p l e (rmK 3 73 (kap S' - kap S0)) s m args below meth c H locs (kap S - kap S0) (2 * (kap S - kap S0)) (MQ below (QiM D T ρ0 A S' r) args s (kap S' - kap S0) (2 * (kap S' - kap S0)) A) (F0 m 95 ls []) := by
  have hT := km_BS_turn_95 h
  unfold m_BS_turn_95 at h
  have nn : nq S S := nq_rf
  refine lv_iconst (v := 0) C.1 C.2.1 dX2_turn_95 (by decide) ?_
  obtain ⟨rfl, rfl⟩ := prI h
  exact x_iretM C w ha hr hk dX2_turn_96 (by have := nq_kap nn; omega) (by have := nq_kap nn; omega)
set_option maxRecDepth 100000 in
set_option maxHeartbeats 4000000 in
theorem w_BS_turn_68 {g : Nat} {S : St} {x1 : Nat} {x2 : Int32} (C : CallFix p m c cX2_turn 3 s args tb RX2) (hr : meth.sig.returnType = (some .int)) (hk : meth.locks = false) {S' : St} {r : Int32} {k5 : St → Nat → Int32 → Option (St × Int32)} (kk5 : ∀ (ρ : Nat → Nat) (S : St) (x1 : Nat) (x2 : Int32) (H : Heap) (locs : List Loc) (ls : Array Slot), Ag ρ0 ρ → kap S0 ≤ kap S → Wn Yc D T ρ S A s H locs → lv_has ls 3 [(0, .ref (ρ 9)), (1, .ref (ρ x1)), (2, .int x2)] → Ob Yc x1 4 → k5 S x1 x2 = some (S', r) → W p l e (rmK 3 73 (kap S' - kap S0)) s m args below meth c H locs (kap S - kap S0) (2 * (kap S - kap S0)) (MQ below (QiM D T ρ0 A S' r) args s (kap S' - kap S0) (2 * (kap S' - kap S0)) A) (F0 m 5 ls [])) (km5 : ∀ (S : St) (x1 : Nat) (x2 : Int32), k5 S x1 x2 = some (S', r) → kap S ≤ kap S') (ha : Ag ρ0 ρ) (hm : kap S0 ≤ kap S) (w : Wn Yc D T ρ S A s H locs) (hl : lv_has ls 3 [(0, .ref (ρ 9)), (1, .ref (ρ x1)), (2, .int x2)]) (ho_x1 : Ob Yc x1 4) (h : m_BS_turn_68 g k5 S x1 x2 = some (S', r)) : W p l e (rmK 3 73 (kap S' - kap S0)) s m args below meth c H locs (kap S - kap S0) (2 * (kap S - kap S0)) (MQ below (QiM D T ρ0 A S' r) args s (kap S' - kap S0) (2 * (kap S' - kap S0)) A) (F0 m 68 ls []) := by
  have hT := km_BS_turn_68 km5 h
  unfold m_BS_turn_68 at h
  have nn : nq S S := nq_rf
  obtain ⟨x2_7, ex2_7, h⟩ := lt_e h
  refine lv_iinc (v := x2_7) (lv' := [(2, .int x2_7), (0, .ref (ρ 9)), (1, .ref (ρ x1))]) C.1 C.2.1 dX2_turn_68 hl (k := 2) rfl (by rw [ex2_7]; rfl) (by decide) rfl (fun ls hl => ?_)
  refine lv_goto (tgt := 5) C.1 C.2.1 dX2_turn_71 (by decide) ?_
  have hkn := nq_kap nn
  refine W.widen (k := kap S - kap S0) (n := 2 * (kap S - kap S0)) (by omega) (by omega) ?_
  exact kk5 _ _ _ _ _ _ _ ha (by omega) w (lv_sub hl [1, 2, 0] rfl) ho_x1 h
set_option maxRecDepth 100000 in
set_option maxHeartbeats 4000000 in
theorem w_BS_turn_48 {g : Nat} {S : St} {x1 : Nat} {x2 : Int32} (C : CallFix p m c cX2_turn 3 s args tb RX2) (hr : meth.sig.returnType = (some .int)) (hk : meth.locks = false) {S' : St} {r : Int32} {k5 : St → Nat → Int32 → Option (St × Int32)} (kk5 : ∀ (ρ : Nat → Nat) (S : St) (x1 : Nat) (x2 : Int32) (H : Heap) (locs : List Loc) (ls : Array Slot), Ag ρ0 ρ → kap S0 ≤ kap S → Wn Yc D T ρ S A s H locs → lv_has ls 3 [(0, .ref (ρ 9)), (1, .ref (ρ x1)), (2, .int x2)] → Ob Yc x1 4 → k5 S x1 x2 = some (S', r) → W p l e (rmK 3 73 (kap S' - kap S0)) s m args below meth c H locs (kap S - kap S0) (2 * (kap S - kap S0)) (MQ below (QiM D T ρ0 A S' r) args s (kap S' - kap S0) (2 * (kap S' - kap S0)) A) (F0 m 5 ls [])) (km5 : ∀ (S : St) (x1 : Nat) (x2 : Int32), k5 S x1 x2 = some (S', r) → kap S ≤ kap S') (ha : Ag ρ0 ρ) (hm : kap S0 ≤ kap S) (w : Wn Yc D T ρ S A s H locs) (hl : lv_has ls 3 [(0, .ref (ρ 9)), (1, .ref (ρ x1)), (2, .int x2)]) (ho_x1 : Ob Yc x1 4) (h : m_BS_turn_48 g k5 S x1 x2 = some (S', r)) : W p l e (rmK 3 73 (kap S' - kap S0)) s m args below meth c H locs (kap S - kap S0) (2 * (kap S - kap S0)) (MQ below (QiM D T ρ0 A S' r) args s (kap S' - kap S0) (2 * (kap S' - kap S0)) A) (F0 m 48 ls []) := by
  have hT := km_BS_turn_48 km5 h
  unfold m_BS_turn_48 at h
  have nn : nq S S := nq_rf
  obtain ⟨x2_11, ex2_11, h⟩ := lt_e h
  refine lv_iinc (v := x2_11) (lv' := [(2, .int x2_11), (0, .ref (ρ 9)), (1, .ref (ρ x1))]) C.1 C.2.1 dX2_turn_48 hl (k := 2) rfl (by rw [ex2_11]; rfl) (by decide) rfl (fun ls hl => ?_)
  refine lv_goto (tgt := 68) C.1 C.2.1 dX2_turn_51 (by decide) ?_
  have hkn := nq_kap nn
  refine W.widen (k := kap S - kap S0) (n := 2 * (kap S - kap S0)) (by omega) (by omega) ?_
  exact w_BS_turn_68 C hr hk kk5 km5 ha (by omega) w (lv_sub hl [1, 2, 0] rfl) ho_x1 h
set_option maxRecDepth 100000 in
set_option maxHeartbeats 4000000 in
theorem w_BS_turn_34 {g : Nat} {S : St} {x1 : Nat} {x2 : Int32} (C : CallFix p m c cX2_turn 3 s args tb RX2) (hr : meth.sig.returnType = (some .int)) (hk : meth.locks = false) {S' : St} {r : Int32} {k5 : St → Nat → Int32 → Option (St × Int32)} (kk5 : ∀ (ρ : Nat → Nat) (S : St) (x1 : Nat) (x2 : Int32) (H : Heap) (locs : List Loc) (ls : Array Slot), Ag ρ0 ρ → kap S0 ≤ kap S → Wn Yc D T ρ S A s H locs → lv_has ls 3 [(0, .ref (ρ 9)), (1, .ref (ρ x1)), (2, .int x2)] → Ob Yc x1 4 → k5 S x1 x2 = some (S', r) → W p l e (rmK 3 73 (kap S' - kap S0)) s m args below meth c H locs (kap S - kap S0) (2 * (kap S - kap S0)) (MQ below (QiM D T ρ0 A S' r) args s (kap S' - kap S0) (2 * (kap S' - kap S0)) A) (F0 m 5 ls [])) (km5 : ∀ (S : St) (x1 : Nat) (x2 : Int32), k5 S x1 x2 = some (S', r) → kap S ≤ kap S') (ha : Ag ρ0 ρ) (hm : kap S0 ≤ kap S) (w : Wn Yc D T ρ S A s H locs) (hl : lv_has ls 3 [(0, .ref (ρ 9)), (1, .ref (ρ x1)), (2, .int x2)]) (ho_x1 : Ob Yc x1 4) (h : m_BS_turn_34 g k5 S x1 x2 = some (S', r)) : W p l e (rmK 3 73 (kap S' - kap S0)) s m args below meth c H locs (kap S - kap S0) (2 * (kap S - kap S0)) (MQ below (QiM D T ρ0 A S' r) args s (kap S' - kap S0) (2 * (kap S' - kap S0)) A) (F0 m 34 ls []) := by
  have hT := km_BS_turn_34 km5 h
  unfold m_BS_turn_34 at h
  have nn : nq S S := nq_rf
  refine lv_aload_n C.1 C.2.1 dX2_turn_34 rfl (lv_at hl 0 rfl) ?_
  refine x_getC C w 23 fX2_21 obC9 rfl dX2_turn_35 ?_
  refine lv_aload_n C.1 C.2.1 dX2_turn_38 rfl (lv_at hl 1 rfl) ?_
  refine lv_iload_n C.1 C.2.1 dX2_turn_39 rfl (lv_at hl 2 rfl) ?_
  refine lv_iconst (v := 1) C.1 C.2.1 dX2_turn_40 (by decide) ?_
  refine lv_isub C.1 C.2.1 dX2_turn_41 ?_
  obtain ⟨v_9, hv_9, h⟩ := bnd h
  refine x_callVi (q := (RX6, TX6, 4)) (As := [.int (x2 - (1 : Int32))]) (rest := [.ref (ρ 23)]) C w (k_Row_at l D T ρ g H.size S ho_x1 hv_9) vX2_133 (hRK (by decide) (by decide)) ho_x1 (by decide) rfl rfl rfl hl.1 (Nat.le_of_ble_eq_true rfl) (hcK hT) dX2_turn_42 (fun H locs w => ?_)
  obtain ⟨S_10, hS_10, h⟩ := bnd h
  have hkn := nq_kap nn
  have hk1 := km_Row_add hS_10
  have hT2 := km_BS_turn_48 km5 h
  refine x_callVvM (q := (RX6, TX6, 4)) (As := [.int v_9]) (rest := []) C w (k_Row_add l D T ρ g H.size S obC23 hS_10) vX2_136 (hRK (by decide) (by decide)) obC23 (by decide) rfl rfl rfl hl.1 (Nat.le_of_ble_eq_true rfl) (hcM hm hkn hk1 hT2) dX2_turn_45 (fun ρ1 H locs hag w => ?_)
  replace ha := ha.trans hag
  rw [← hag 9 (by decide)] at hl
  rw [← hag x1 (ncR ho_x1)] at hl
  refine W.widen (k := kap S_10 - kap S0) (n := 2 * (kap S_10 - kap S0)) (by omega) (by omega) ?_
  exact w_BS_turn_48 C hr hk kk5 km5 ha (by omega) w (lv_sub hl [0, 1, 2] rfl) ho_x1 h
set_option maxRecDepth 100000 in
set_option maxHeartbeats 4000000 in
theorem wb_BS_turn_5 {g : Nat} {S : St} {x1 : Nat} {x2 : Int32} (C : CallFix p m c cX2_turn 3 s args tb RX2) (hr : meth.sig.returnType = (some .int)) (hk : meth.locks = false) {S' : St} {r : Int32} {k5 : St → Nat → Int32 → Option (St × Int32)} (kk5 : ∀ (ρ : Nat → Nat) (S : St) (x1 : Nat) (x2 : Int32) (H : Heap) (locs : List Loc) (ls : Array Slot), Ag ρ0 ρ → kap S0 ≤ kap S → Wn Yc D T ρ S A s H locs → lv_has ls 3 [(0, .ref (ρ 9)), (1, .ref (ρ x1)), (2, .int x2)] → Ob Yc x1 4 → k5 S x1 x2 = some (S', r) → W p l e (rmK 3 73 (kap S' - kap S0)) s m args below meth c H locs (kap S - kap S0) (2 * (kap S - kap S0)) (MQ below (QiM D T ρ0 A S' r) args s (kap S' - kap S0) (2 * (kap S' - kap S0)) A) (F0 m 5 ls [])) (km5 : ∀ (S : St) (x1 : Nat) (x2 : Int32), k5 S x1 x2 = some (S', r) → kap S ≤ kap S') (ha : Ag ρ0 ρ) (hm : kap S0 ≤ kap S) (w : Wn Yc D T ρ S A s H locs) (hl : lv_has ls 3 [(0, .ref (ρ 9)), (1, .ref (ρ x1)), (2, .int x2)]) (ho_x1 : Ob Yc x1 4) (h : b_BS_turn_5 g k5 S x1 x2 = some (S', r)) : W p l e (rmK 3 73 (kap S' - kap S0)) s m args below meth c H locs (kap S - kap S0) (2 * (kap S - kap S0)) (MQ below (QiM D T ρ0 A S' r) args s (kap S' - kap S0) (2 * (kap S' - kap S0)) A) (F0 m 5 ls []) := by
  have hT := kmb_BS_turn_5 km5 h
  unfold b_BS_turn_5 at h
  have nn : nq S S := nq_rf
  refine lv_iload_n C.1 C.2.1 dX2_turn_5 rfl (lv_at hl 2 rfl) ?_
  refine lv_if_le (tgt := 74) C.1 C.2.1 dX2_turn_6 (by decide) (fun hc => ?_) (fun hc => ?_)
  · replace h := ift hc h
    refine lv_aload_n C.1 C.2.1 dX2_turn_74 rfl (lv_at hl 1 rfl) ?_
    obtain ⟨S_2, hS_2, h⟩ := bnd h
    replace nn : nq S_2 S := nq_tr (kq_Row_clear hS_2) nn
    refine x_callVv (q := (RX6, TX6, 4)) (As := []) (rest := []) C w (k_Row_clear l D T ρ g H.size S ho_x1 hS_2) vX2_30 (hRK (by decide) (by decide)) ho_x1 (by decide) rfl rfl rfl hl.1 (Nat.le_of_ble_eq_true rfl) (hcK hT) dX2_turn_75 (fun H locs w => ?_)
    refine lv_aload_n C.1 C.2.1 dX2_turn_78 rfl (lv_at hl 1 rfl) ?_
    refine lv_iconst (v := 0) C.1 C.2.1 dX2_turn_79 (by decide) ?_
    refine lv_aload_n C.1 C.2.1 dX2_turn_80 rfl (lv_at hl 0 rfl) ?_
    refine x_getC C w 23 fX2_21 obC9 rfl dX2_turn_81 ?_
    refine lv_iconst (v := 0) C.1 C.2.1 dX2_turn_84 (by decide) ?_
    refine lv_aload_n C.1 C.2.1 dX2_turn_85 rfl (lv_at hl 0 rfl) ?_
    refine x_getC C w 23 fX2_21 obC9 rfl dX2_turn_86 ?_
    refine x_getI C w fX2_53 obC23 dX2_turn_89 ?_
    obtain ⟨S_3, hS_3, h⟩ := bnd h
    have hkn := nq_kap nn
    have hk1 := km_Row_insert hS_3
    have hT2 := km_BS_turn_95 h
    refine x_callVvM (q := (RX6, TX6, 4)) (As := [.int (0 : Int32), .ref (ρ 23), .int (0 : Int32), .int (gI S_2 23 2)]) (rest := []) C w (k_Row_insert l D T ρ g H.size S_2 ho_x1 obC23 hS_3) vX2_94 (hRK (by decide) (by decide)) ho_x1 (by decide) rfl rfl rfl hl.1 (Nat.le_of_ble_eq_true rfl) (hcM hm hkn hk1 hT2) dX2_turn_92 (fun ρ1 H locs hag w => ?_)
    replace ha := ha.trans hag
    rw [← hag 9 (by decide)] at hl
    rw [← hag x1 (ncR ho_x1)] at hl
    refine W.widen (k := kap S_3 - kap S0) (n := 2 * (kap S_3 - kap S0)) (by omega) (by omega) ?_
    exact w_BS_turn_95 C hr hk ha (by omega) w (lv_sub hl [] rfl) h
  · replace h := iff0 hc h
    refine lv_aload_n C.1 C.2.1 dX2_turn_9 rfl (lv_at hl 1 rfl) ?_
    refine lv_iload_n C.1 C.2.1 dX2_turn_10 rfl (lv_at hl 2 rfl) ?_
    refine lv_iconst (v := 2) C.1 C.2.1 dX2_turn_11 (by decide) ?_
    refine lv_isub C.1 C.2.1 dX2_turn_12 ?_
    refine lv_iload_n C.1 C.2.1 dX2_turn_13 rfl (lv_at hl 2 rfl) ?_
    obtain ⟨v_4, hv_4, h⟩ := bnd h
    refine x_callVi (q := (RX6, TX6, 4)) (As := [.int (x2 - (2 : Int32)), .int x2]) (rest := []) C w (k_Row_hasPair l D T ρ g H.size S ho_x1 hv_4) vX2_129 (hRK (by decide) (by decide)) ho_x1 (by decide) rfl rfl rfl hl.1 (Nat.le_of_ble_eq_true rfl) (hcK hT) dX2_turn_14 (fun H locs w => ?_)
    refine lv_if_eq (tgt := 54) C.1 C.2.1 dX2_turn_17 (by decide) (fun hc => ?_) (fun hc => ?_)
    · replace h := ift hc h
      refine lv_aload_n C.1 C.2.1 dX2_turn_54 rfl (lv_at hl 0 rfl) ?_
      refine x_getC C w 23 fX2_21 obC9 rfl dX2_turn_55 ?_
      refine lv_aload_n C.1 C.2.1 dX2_turn_58 rfl (lv_at hl 1 rfl) ?_
      refine lv_iload_n C.1 C.2.1 dX2_turn_59 rfl (lv_at hl 2 rfl) ?_
      refine lv_iconst (v := 1) C.1 C.2.1 dX2_turn_60 (by decide) ?_
      refine lv_isub C.1 C.2.1 dX2_turn_61 ?_
      obtain ⟨v_5, hv_5, h⟩ := bnd h
      refine x_callVi (q := (RX6, TX6, 4)) (As := [.int (x2 - (1 : Int32))]) (rest := [.ref (ρ 23)]) C w (k_Row_at l D T ρ g H.size S ho_x1 hv_5) vX2_133 (hRK (by decide) (by decide)) ho_x1 (by decide) rfl rfl rfl hl.1 (Nat.le_of_ble_eq_true rfl) (hcK hT) dX2_turn_62 (fun H locs w => ?_)
      obtain ⟨S_6, hS_6, h⟩ := bnd h
      have hkn := nq_kap nn
      have hk1 := km_Row_add hS_6
      have hT2 := km_BS_turn_68 km5 h
      refine x_callVvM (q := (RX6, TX6, 4)) (As := [.int v_5]) (rest := []) C w (k_Row_add l D T ρ g H.size S obC23 hS_6) vX2_136 (hRK (by decide) (by decide)) obC23 (by decide) rfl rfl rfl hl.1 (Nat.le_of_ble_eq_true rfl) (hcM hm hkn hk1 hT2) dX2_turn_65 (fun ρ1 H locs hag w => ?_)
      replace ha := ha.trans hag
      rw [← hag 9 (by decide)] at hl
      rw [← hag x1 (ncR ho_x1)] at hl
      refine W.widen (k := kap S_6 - kap S0) (n := 2 * (kap S_6 - kap S0)) (by omega) (by omega) ?_
      exact w_BS_turn_68 C hr hk kk5 km5 ha (by omega) w (lv_sub hl [0, 1, 2] rfl) ho_x1 h
    · replace h := iff0 hc h
      refine lv_aload_n C.1 C.2.1 dX2_turn_20 rfl (lv_at hl 0 rfl) ?_
      refine x_getC C w 23 fX2_21 obC9 rfl dX2_turn_21 ?_
      refine lv_aload_n C.1 C.2.1 dX2_turn_24 rfl (lv_at hl 1 rfl) ?_
      refine lv_iload_n C.1 C.2.1 dX2_turn_25 rfl (lv_at hl 2 rfl) ?_
      refine lv_iconst (v := 2) C.1 C.2.1 dX2_turn_26 (by decide) ?_
      refine lv_isub C.1 C.2.1 dX2_turn_27 ?_
      obtain ⟨v_7, hv_7, h⟩ := bnd h
      refine x_callVi (q := (RX6, TX6, 4)) (As := [.int (x2 - (2 : Int32))]) (rest := [.ref (ρ 23)]) C w (k_Row_at l D T ρ g H.size S ho_x1 hv_7) vX2_133 (hRK (by decide) (by decide)) ho_x1 (by decide) rfl rfl rfl hl.1 (Nat.le_of_ble_eq_true rfl) (hcK hT) dX2_turn_28 (fun H locs w => ?_)
      obtain ⟨S_8, hS_8, h⟩ := bnd h
      have hkn := nq_kap nn
      have hk1 := km_Row_add hS_8
      have hT2 := km_BS_turn_34 km5 h
      refine x_callVvM (q := (RX6, TX6, 4)) (As := [.int v_7]) (rest := []) C w (k_Row_add l D T ρ g H.size S obC23 hS_8) vX2_136 (hRK (by decide) (by decide)) obC23 (by decide) rfl rfl rfl hl.1 (Nat.le_of_ble_eq_true rfl) (hcM hm hkn hk1 hT2) dX2_turn_31 (fun ρ1 H locs hag w => ?_)
      replace ha := ha.trans hag
      rw [← hag 9 (by decide)] at hl
      rw [← hag x1 (ncR ho_x1)] at hl
      refine W.widen (k := kap S_8 - kap S0) (n := 2 * (kap S_8 - kap S0)) (by omega) (by omega) ?_
      exact w_BS_turn_34 C hr hk kk5 km5 ha (by omega) w (lv_sub hl [0, 1, 2] rfl) ho_x1 h
theorem w_BS_turn_5 {g : Nat} (C : CallFix p m c cX2_turn 3 s args tb RX2) (hr : meth.sig.returnType = (some .int)) (hk : meth.locks = false) {S' : St} {r : Int32} (n : Nat) : ∀ (ρ : Nat → Nat) (S : St) (x1 : Nat) (x2 : Int32) (H : Heap) (locs : List Loc) (ls : Array Slot), Ag ρ0 ρ → kap S0 ≤ kap S → Wn Yc D T ρ S A s H locs → lv_has ls 3 [(0, .ref (ρ 9)), (1, .ref (ρ x1)), (2, .int x2)] → Ob Yc x1 4 → m_BS_turn_5 g n S x1 x2 = some (S', r) → W p l e (rmK 3 73 (kap S' - kap S0)) s m args below meth c H locs (kap S - kap S0) (2 * (kap S - kap S0)) (MQ below (QiM D T ρ0 A S' r) args s (kap S' - kap S0) (2 * (kap S' - kap S0)) A) (F0 m 5 ls []) := by
  induction n with
  | zero => intro ρ S x1 x2 H locs ls ha hm w hl ho_x1 h; exact absurd h (fun q => by cases q)
  | succ n ih => intro ρ S x1 x2 H locs ls ha hm w hl ho_x1 h; exact wb_BS_turn_5 C hr hk ih (km_BS_turn_5 n) ha hm w hl ho_x1 h
set_option maxRecDepth 100000 in
set_option maxHeartbeats 4000000 in
theorem w_BS_turn_0 {g : Nat} {S : St} {x1 : Nat} (C : CallFix p m c cX2_turn 3 s args tb RX2) (hr : meth.sig.returnType = (some .int)) (hk : meth.locks = false) {S' : St} {r : Int32} (ha : Ag ρ0 ρ) (hm : kap S0 ≤ kap S) (w : Wn Yc D T ρ S A s H locs) (hl : lv_has ls 3 [(0, .ref (ρ 9)), (1, .ref (ρ x1))]) (ho_x1 : Ob Yc x1 4) (h : m_BS_turn g S x1 = some (S', r)) : W p l e (rmK 3 73 (kap S' - kap S0)) s m args below meth c H locs (kap S - kap S0) (2 * (kap S - kap S0)) (MQ below (QiM D T ρ0 A S' r) args s (kap S' - kap S0) (2 * (kap S' - kap S0)) A) (F0 m 0 ls []) := by
  have hT := km_BS_turn h
  unfold m_BS_turn at h
  have nn : nq S S := nq_rf
  refine lv_aload_n C.1 C.2.1 dX2_turn_0 rfl (lv_at hl 1 rfl) ?_
  refine x_getI C w fX2_53 ho_x1 dX2_turn_1 ?_
  obtain ⟨x2_1, ex2_1, h⟩ := lt_e h
  refine x_nm ex2_1 ?_
  refine lv_istore_n (lv' := [(2, .int x2_1), (0, .ref (ρ 9)), (1, .ref (ρ x1))]) C.1 C.2.1 dX2_turn_4 rfl hl (by decide) rfl (fun ls hl => ?_)
  have hkn := nq_kap nn
  refine W.widen (k := kap S - kap S0) (n := 2 * (kap S - kap S0)) (by omega) (by omega) ?_
  exact w_BS_turn_5 C hr hk g _ _ _ _ _ _ _ ha (by omega) w (lv_sub hl [1, 2, 0] rfl) ho_x1 h
end S_BS_turn
set_option maxRecDepth 100000 in
theorem k_BS_turn (l : Launch) (D : va_G) (T : Cy) (ρ : Nat → Nat) (g sz : Nat) (S : St) {x1 : Nat} (ho_x1 : Ob Yc x1 4) {S' : St} {r : Int32} (h : m_BS_turn g S x1 = some (S', r)) : MiM l D T ρ yX2_turn cX2_turn 3 (some .int) 3 73 S S' r [.ref (ρ 9), .ref (ρ x1)] sz :=
  x_inR (by decide) (Nat.le_of_ble_eq_true rfl) (fun p e s m below meth c ls C hr hk w hl => W.widen (Nat.zero_le _) (Nat.zero_le _) (w_BS_turn_0 C hr hk Ag.rf (Nat.le_refl _) w hl ho_x1 h))

theorem dX2_resize_0 : decode cX2_resize 0 = .ok (.aload_n 0, 1) := by decide +kernel
theorem dX2_resize_1 : decode cX2_resize 1 = .ok (.getfield 9, 3) := by decide +kernel
theorem dX2_resize_4 : decode cX2_resize 4 = .ok (.getfield 26, 3) := by decide +kernel
theorem dX2_resize_7 : decode cX2_resize 7 = .ok (.iload_n 1, 1) := by decide +kernel
theorem dX2_resize_8 : decode cX2_resize 8 = .ok (.aaload, 1) := by decide +kernel
theorem dX2_resize_9 : decode cX2_resize 9 = .ok (.astore_n 2, 1) := by decide +kernel
theorem dX2_resize_10 : decode cX2_resize 10 = .ok (.aload_n 0, 1) := by decide +kernel
theorem dX2_resize_11 : decode cX2_resize 11 = .ok (.getfield 9, 3) := by decide +kernel
theorem dX2_resize_14 : decode cX2_resize 14 = .ok (.iconst 1, 1) := by decide +kernel
theorem dX2_resize_15 : decode cX2_resize 15 = .ok (.invokevirtual 78, 3) := by decide +kernel
theorem dX2_resize_18 : decode cX2_resize 18 = .ok (.lstore_n 3, 1) := by decide +kernel
theorem dX2_resize_19 : decode cX2_resize 19 = .ok (.lload_n 3, 1) := by decide +kernel
theorem dX2_resize_20 : decode cX2_resize 20 = .ok (.lconst 0, 1) := by decide +kernel
theorem dX2_resize_21 : decode cX2_resize 21 = .ok (.lcmp, 1) := by decide +kernel
theorem dX2_resize_22 : decode cX2_resize 22 = .ok (.ifCond .ge 5, 3) := by decide +kernel
theorem dX2_resize_25 : decode cX2_resize 25 = .ok (.iconst 1, 1) := by decide +kernel
theorem dX2_resize_26 : decode cX2_resize 26 = .ok (.ireturn, 1) := by decide +kernel
theorem dX2_resize_27 : decode cX2_resize 27 = .ok (.lload_n 3, 1) := by decide +kernel
theorem dX2_resize_28 : decode cX2_resize 28 = .ok (.ldc2_w 82, 3) := by decide +kernel
theorem dX2_resize_31 : decode cX2_resize 31 = .ok (.lcmp, 1) := by decide +kernel
theorem dX2_resize_32 : decode cX2_resize 32 = .ok (.ifCond .le 5, 3) := by decide +kernel
theorem dX2_resize_35 : decode cX2_resize 35 = .ok (.iconst 5, 1) := by decide +kernel
theorem dX2_resize_36 : decode cX2_resize 36 = .ok (.ireturn, 1) := by decide +kernel
theorem dX2_resize_37 : decode cX2_resize 37 = .ok (.aload_n 2, 1) := by decide +kernel
theorem dX2_resize_38 : decode cX2_resize 38 = .ok (.lload_n 3, 1) := by decide +kernel
theorem dX2_resize_39 : decode cX2_resize 39 = .ok (.l2i, 1) := by decide +kernel
theorem dX2_resize_40 : decode cX2_resize 40 = .ok (.invokevirtual 139, 3) := by decide +kernel
theorem dX2_resize_43 : decode cX2_resize 43 = .ok (.aload_n 2, 1) := by decide +kernel
theorem dX2_resize_44 : decode cX2_resize 44 = .ok (.getfield 53, 3) := by decide +kernel
theorem dX2_resize_47 : decode cX2_resize 47 = .ok (.istore 5, 2) := by decide +kernel
theorem dX2_resize_49 : decode cX2_resize 49 = .ok (.iload 5, 2) := by decide +kernel
theorem dX2_resize_51 : decode cX2_resize 51 = .ok (.i2l, 1) := by decide +kernel
theorem dX2_resize_52 : decode cX2_resize 52 = .ok (.lload_n 3, 1) := by decide +kernel
theorem dX2_resize_53 : decode cX2_resize 53 = .ok (.lcmp, 1) := by decide +kernel
theorem dX2_resize_54 : decode cX2_resize 54 = .ok (.ifCond .ge 14, 3) := by decide +kernel
theorem dX2_resize_57 : decode cX2_resize 57 = .ok (.aload_n 2, 1) := by decide +kernel
theorem dX2_resize_58 : decode cX2_resize 58 = .ok (.iconst 0, 1) := by decide +kernel
theorem dX2_resize_59 : decode cX2_resize 59 = .ok (.invokevirtual 136, 3) := by decide +kernel
theorem dX2_resize_62 : decode cX2_resize 62 = .ok (.iinc 5 1, 3) := by decide +kernel
theorem dX2_resize_65 : decode cX2_resize 65 = .ok (.goto (-16), 3) := by decide +kernel
theorem dX2_resize_68 : decode cX2_resize 68 = .ok (.aload_n 0, 1) := by decide +kernel
theorem dX2_resize_69 : decode cX2_resize 69 = .ok (.iload_n 1, 1) := by decide +kernel
theorem dX2_resize_70 : decode cX2_resize 70 = .ok (.invokevirtual 105, 3) := by decide +kernel
theorem dX2_resize_73 : decode cX2_resize 73 = .ok (.iconst 0, 1) := by decide +kernel
theorem dX2_resize_74 : decode cX2_resize 74 = .ok (.ireturn, 1) := by decide +kernel
def m_BS_resize_62 (g : Nat) (k49 : St → Int32 → Nat → Int64 → Int32 → Option (St × Int32)) (S : St) (x1 : Int32) (x2 : Nat) (x3 : Int64) (x5 : Int32) : Option (St × Int32) :=
lt (x5 + (1 : Int32)) fun x5_7 =>
k49 S x1 x2 x3 x5_7
def b_BS_resize_49 (g : Nat) (k49 : St → Int32 → Nat → Int64 → Int32 → Option (St × Int32)) (S : St) (x1 : Int32) (x2 : Nat) (x3 : Int64) (x5 : Int32) : Option (St × Int32) :=
if (x5.toInt64) < x3 then (
  (m_Row_add g S x2 (0 : Int32)).bind fun S_6 =>
  m_BS_resize_62 g k49 S_6 x1 x2 x3 x5
) else (
  (m_BS_makeRoom g S x1).bind fun S_5 =>
  some (S_5, (0 : Int32))
)
def m_BS_resize_49 (g : Nat) : Nat → St → Int32 → Nat → Int64 → Int32 → Option (St × Int32)
  | 0, _, _, _, _, _ => none
  | n + 1, S, x1, x2, x3, x5 => b_BS_resize_49 g (m_BS_resize_49 g n) S x1 x2 x3 x5
def m_BS_resize (g : Nat) (S : St) (x1 : Int32) : Option (St × Int32) :=
(bR S x1).bind fun r_1 =>
(m_Bn_wholeAt g S (1 : Int32)).bind fun v_2 =>
if v_2 < (0 : Int64) then (
  some (S, (1 : Int32))
) else (
  if (400 : Int64) < v_2 then (
    some (S, (5 : Int32))
  ) else (
    (m_Row_shorten g S r_1 (v_2.toInt32)).bind fun S_3 =>
    lt (gI S_3 r_1 2) fun x5_4 =>
    m_BS_resize_49 g g S_3 x1 r_1 v_2 x5_4
  )
)
theorem km_BS_resize_62 {g : Nat} {S : St} {x1 : Int32} {x2 : Nat} {x3 : Int64} {x5 : Int32} {S' : St} {r : Int32} {k49 : St → Int32 → Nat → Int64 → Int32 → Option (St × Int32)} (km49 : ∀ (S : St) (x1 : Int32) (x2 : Nat) (x3 : Int64) (x5 : Int32), k49 S x1 x2 x3 x5 = some (S', r) → kap S ≤ kap S') (h : m_BS_resize_62 g k49 S x1 x2 x3 x5 = some (S', r)) : kap S ≤ kap S' := by
  unfold m_BS_resize_62 at h
  have nn : nq S S := nq_rf
  obtain ⟨x5_7, ex5_7, h⟩ := lt_e h
  have hkn := nq_kap nn
  have h2 := km49 _ _ _ _ _ h
  omega
theorem kmb_BS_resize_49 {g : Nat} {S : St} {x1 : Int32} {x2 : Nat} {x3 : Int64} {x5 : Int32} {S' : St} {r : Int32} {k49 : St → Int32 → Nat → Int64 → Int32 → Option (St × Int32)} (km49 : ∀ (S : St) (x1 : Int32) (x2 : Nat) (x3 : Int64) (x5 : Int32), k49 S x1 x2 x3 x5 = some (S', r) → kap S ≤ kap S') (h : b_BS_resize_49 g k49 S x1 x2 x3 x5 = some (S', r)) : kap S ≤ kap S' := by
  unfold b_BS_resize_49 at h
  have nn : nq S S := nq_rf
  by_cases hc1 : (x5.toInt64) < x3
  · replace h := ift hc1 h
    obtain ⟨S_6, hS_6, h⟩ := bnd h
    have hk1 := km_Row_add hS_6
    have hkn := nq_kap nn
    have h2 := km_BS_resize_62 km49 h
    omega
  · replace h := iff0 hc1 h
    obtain ⟨S_5, hS_5, h⟩ := bnd h
    replace nn : nq S_5 S := nq_tr (kq_BS_makeRoom hS_5) nn
    obtain ⟨rfl, rfl⟩ := prI h
    have hkn := nq_kap nn
    omega
theorem km_BS_resize_49 {g : Nat} {S' : St} {r : Int32} (n : Nat) : ∀ (S : St) (x1 : Int32) (x2 : Nat) (x3 : Int64) (x5 : Int32), m_BS_resize_49 g n S x1 x2 x3 x5 = some (S', r) → kap S ≤ kap S' := by
  induction n with
  | zero => intro S x1 x2 x3 x5 h; exact absurd h (fun q => by cases q)
  | succ n ih => intro S x1 x2 x3 x5 h; exact kmb_BS_resize_49 ih h
theorem km_BS_resize {g : Nat} {S : St} {x1 : Int32} {S' : St} {r : Int32} (h : m_BS_resize g S x1 = some (S', r)) : kap S ≤ kap S' := by
  unfold m_BS_resize at h
  have nn : nq S S := nq_rf
  obtain ⟨r_1, hr_1, h⟩ := bnd h
  obtain ⟨v_2, hv_2, h⟩ := bnd h
  by_cases hc1 : v_2 < (0 : Int64)
  · replace h := ift hc1 h
    obtain ⟨rfl, rfl⟩ := prI h
    have hkn := nq_kap nn
    omega
  · replace h := iff0 hc1 h
    by_cases hc2 : (400 : Int64) < v_2
    · replace h := ift hc2 h
      obtain ⟨rfl, rfl⟩ := prI h
      have hkn := nq_kap nn
      omega
    · replace h := iff0 hc2 h
      obtain ⟨S_3, hS_3, h⟩ := bnd h
      replace nn : nq S_3 S := nq_tr (kq_Row_shorten hS_3) nn
      obtain ⟨x5_4, ex5_4, h⟩ := lt_e h
      have hkn := nq_kap nn
      have h2 := km_BS_resize_49 g _ _ _ _ _ h
      omega
section S_BS_resize
variable {p : Program} {l : Launch} {e : Env} {s : State} {m : MethodId} {args : Array Value} {below : List Frame} {meth : Method} {c : Code} {H : Heap} {locs : List Loc} {ls : Array Slot} {D : va_G} {T : Cy} {ρ ρ0 : Nat → Nat} {S0 : St} {A : Nat → Prop}
set_option maxRecDepth 100000 in
set_option maxHeartbeats 4000000 in
theorem w_BS_resize_62 {g : Nat} {S : St} {x1 : Int32} {x2 : Nat} {x3 : Int64} {x5 : Int32} (C : CallFix p m c cX2_resize 6 s args tb RX2) (hr : meth.sig.returnType = (some .int)) (hk : meth.locks = false) {S' : St} {r : Int32} {k49 : St → Int32 → Nat → Int64 → Int32 → Option (St × Int32)} (kk49 : ∀ (ρ : Nat → Nat) (S : St) (x1 : Int32) (x2 : Nat) (x3 : Int64) (x5 : Int32) (H : Heap) (locs : List Loc) (ls : Array Slot), Ag ρ0 ρ → kap S0 ≤ kap S → Wn Yc D T ρ S A s H locs → lv_has ls 6 [(0, .ref (ρ 9)), (1, .int x1), (2, .ref (ρ x2)), (3, .long x3), (5, .int x5)] → Ob Yc x2 4 → k49 S x1 x2 x3 x5 = some (S', r) → W p l e (rmK 3 69 (kap S' - kap S0)) s m args below meth c H locs (kap S - kap S0) (2 * (kap S - kap S0)) (MQ below (QiM D T ρ0 A S' r) args s (kap S' - kap S0) (2 * (kap S' - kap S0)) A) (F0 m 49 ls [])) (km49 : ∀ (S : St) (x1 : Int32) (x2 : Nat) (x3 : Int64) (x5 : Int32), k49 S x1 x2 x3 x5 = some (S', r) → kap S ≤ kap S') (ha : Ag ρ0 ρ) (hm : kap S0 ≤ kap S) (w : Wn Yc D T ρ S A s H locs) (hl : lv_has ls 6 [(0, .ref (ρ 9)), (1, .int x1), (2, .ref (ρ x2)), (3, .long x3), (5, .int x5)]) (ho_x2 : Ob Yc x2 4) (h : m_BS_resize_62 g k49 S x1 x2 x3 x5 = some (S', r)) : W p l e (rmK 3 69 (kap S' - kap S0)) s m args below meth c H locs (kap S - kap S0) (2 * (kap S - kap S0)) (MQ below (QiM D T ρ0 A S' r) args s (kap S' - kap S0) (2 * (kap S' - kap S0)) A) (F0 m 62 ls []) := by
  have hT := km_BS_resize_62 km49 h
  unfold m_BS_resize_62 at h
  have nn : nq S S := nq_rf
  obtain ⟨x5_7, ex5_7, h⟩ := lt_e h
  refine lv_iinc (v := x5_7) (lv' := [(5, .int x5_7), (0, .ref (ρ 9)), (1, .int x1), (2, .ref (ρ x2)), (3, .long x3)]) C.1 C.2.1 dX2_resize_62 hl (k := 4) rfl (by rw [ex5_7]; rfl) (by decide) rfl (fun ls hl => ?_)
  refine lv_goto (tgt := 49) C.1 C.2.1 dX2_resize_65 (by decide) ?_
  have hkn := nq_kap nn
  refine W.widen (k := kap S - kap S0) (n := 2 * (kap S - kap S0)) (by omega) (by omega) ?_
  exact kk49 _ _ _ _ _ _ _ _ _ ha (by omega) w (lv_sub hl [1, 2, 3, 4, 0] rfl) ho_x2 h
set_option maxRecDepth 100000 in
set_option maxHeartbeats 4000000 in
theorem wb_BS_resize_49 {g : Nat} {S : St} {x1 : Int32} {x2 : Nat} {x3 : Int64} {x5 : Int32} (C : CallFix p m c cX2_resize 6 s args tb RX2) (hr : meth.sig.returnType = (some .int)) (hk : meth.locks = false) {S' : St} {r : Int32} {k49 : St → Int32 → Nat → Int64 → Int32 → Option (St × Int32)} (kk49 : ∀ (ρ : Nat → Nat) (S : St) (x1 : Int32) (x2 : Nat) (x3 : Int64) (x5 : Int32) (H : Heap) (locs : List Loc) (ls : Array Slot), Ag ρ0 ρ → kap S0 ≤ kap S → Wn Yc D T ρ S A s H locs → lv_has ls 6 [(0, .ref (ρ 9)), (1, .int x1), (2, .ref (ρ x2)), (3, .long x3), (5, .int x5)] → Ob Yc x2 4 → k49 S x1 x2 x3 x5 = some (S', r) → W p l e (rmK 3 69 (kap S' - kap S0)) s m args below meth c H locs (kap S - kap S0) (2 * (kap S - kap S0)) (MQ below (QiM D T ρ0 A S' r) args s (kap S' - kap S0) (2 * (kap S' - kap S0)) A) (F0 m 49 ls [])) (km49 : ∀ (S : St) (x1 : Int32) (x2 : Nat) (x3 : Int64) (x5 : Int32), k49 S x1 x2 x3 x5 = some (S', r) → kap S ≤ kap S') (ha : Ag ρ0 ρ) (hm : kap S0 ≤ kap S) (w : Wn Yc D T ρ S A s H locs) (hl : lv_has ls 6 [(0, .ref (ρ 9)), (1, .int x1), (2, .ref (ρ x2)), (3, .long x3), (5, .int x5)]) (ho_x2 : Ob Yc x2 4) (h : b_BS_resize_49 g k49 S x1 x2 x3 x5 = some (S', r)) : W p l e (rmK 3 69 (kap S' - kap S0)) s m args below meth c H locs (kap S - kap S0) (2 * (kap S - kap S0)) (MQ below (QiM D T ρ0 A S' r) args s (kap S' - kap S0) (2 * (kap S' - kap S0)) A) (F0 m 49 ls []) := by
  have hT := kmb_BS_resize_49 km49 h
  unfold b_BS_resize_49 at h
  have nn : nq S S := nq_rf
  refine lv_iload C.1 C.2.1 dX2_resize_49 (lv_at hl 4 rfl) ?_
  refine lv_i2l C.1 C.2.1 dX2_resize_51 rfl ?_
  refine lv_lload_n C.1 C.2.1 dX2_resize_52 rfl (lv_at hl 3 rfl) ?_
  refine x_l_ge (tgt := 68) C dX2_resize_53 dX2_resize_54 (by decide) (fun hc => ?_) (fun hc => ?_)
  · replace h := iff0 hc h
    refine lv_aload_n C.1 C.2.1 dX2_resize_68 rfl (lv_at hl 0 rfl) ?_
    refine lv_iload_n C.1 C.2.1 dX2_resize_69 rfl (lv_at hl 1 rfl) ?_
    obtain ⟨S_5, hS_5, h⟩ := bnd h
    replace nn : nq S_5 S := nq_tr (kq_BS_makeRoom hS_5) nn
    refine x_callVv (q := (RX2, TX2, 2)) (As := [.int x1]) (rest := []) C w (k_BS_makeRoom l D T ρ g H.size S hS_5) vX2_105 (hRK (by decide) (by decide)) obC9 (by decide) rfl rfl rfl hl.1 (Nat.le_of_ble_eq_true rfl) (hcK hT) dX2_resize_70 (fun H locs w => ?_)
    refine lv_iconst (v := 0) C.1 C.2.1 dX2_resize_73 (by decide) ?_
    obtain ⟨rfl, rfl⟩ := prI h
    exact x_iretM C w ha hr hk dX2_resize_74 (by have := nq_kap nn; omega) (by have := nq_kap nn; omega)
  · replace h := ift hc h
    refine lv_aload_n C.1 C.2.1 dX2_resize_57 rfl (lv_at hl 2 rfl) ?_
    refine lv_iconst (v := 0) C.1 C.2.1 dX2_resize_58 (by decide) ?_
    obtain ⟨S_6, hS_6, h⟩ := bnd h
    have hkn := nq_kap nn
    have hk1 := km_Row_add hS_6
    have hT2 := km_BS_resize_62 km49 h
    refine x_callVvM (q := (RX6, TX6, 4)) (As := [.int (0 : Int32)]) (rest := []) C w (k_Row_add l D T ρ g H.size S ho_x2 hS_6) vX2_136 (hRK (by decide) (by decide)) ho_x2 (by decide) rfl rfl rfl hl.1 (Nat.le_of_ble_eq_true rfl) (hcM hm hkn hk1 hT2) dX2_resize_59 (fun ρ1 H locs hag w => ?_)
    replace ha := ha.trans hag
    rw [← hag 9 (by decide)] at hl
    rw [← hag x2 (ncR ho_x2)] at hl
    refine W.widen (k := kap S_6 - kap S0) (n := 2 * (kap S_6 - kap S0)) (by omega) (by omega) ?_
    exact w_BS_resize_62 C hr hk kk49 km49 ha (by omega) w (lv_sub hl [0, 1, 2, 3, 4] rfl) ho_x2 h
theorem w_BS_resize_49 {g : Nat} (C : CallFix p m c cX2_resize 6 s args tb RX2) (hr : meth.sig.returnType = (some .int)) (hk : meth.locks = false) {S' : St} {r : Int32} (n : Nat) : ∀ (ρ : Nat → Nat) (S : St) (x1 : Int32) (x2 : Nat) (x3 : Int64) (x5 : Int32) (H : Heap) (locs : List Loc) (ls : Array Slot), Ag ρ0 ρ → kap S0 ≤ kap S → Wn Yc D T ρ S A s H locs → lv_has ls 6 [(0, .ref (ρ 9)), (1, .int x1), (2, .ref (ρ x2)), (3, .long x3), (5, .int x5)] → Ob Yc x2 4 → m_BS_resize_49 g n S x1 x2 x3 x5 = some (S', r) → W p l e (rmK 3 69 (kap S' - kap S0)) s m args below meth c H locs (kap S - kap S0) (2 * (kap S - kap S0)) (MQ below (QiM D T ρ0 A S' r) args s (kap S' - kap S0) (2 * (kap S' - kap S0)) A) (F0 m 49 ls []) := by
  induction n with
  | zero => intro ρ S x1 x2 x3 x5 H locs ls ha hm w hl ho_x2 h; exact absurd h (fun q => by cases q)
  | succ n ih => intro ρ S x1 x2 x3 x5 H locs ls ha hm w hl ho_x2 h; exact wb_BS_resize_49 C hr hk ih (km_BS_resize_49 n) ha hm w hl ho_x2 h
set_option maxRecDepth 100000 in
set_option maxHeartbeats 4000000 in
theorem w_BS_resize_0 {g : Nat} {S : St} {x1 : Int32} (C : CallFix p m c cX2_resize 6 s args tb RX2) (hr : meth.sig.returnType = (some .int)) (hk : meth.locks = false) {S' : St} {r : Int32} (ha : Ag ρ0 ρ) (hm : kap S0 ≤ kap S) (w : Wn Yc D T ρ S A s H locs) (hl : lv_has ls 6 [(0, .ref (ρ 9)), (1, .int x1)]) (h : m_BS_resize g S x1 = some (S', r)) : W p l e (rmK 3 69 (kap S' - kap S0)) s m args below meth c H locs (kap S - kap S0) (2 * (kap S - kap S0)) (MQ below (QiM D T ρ0 A S' r) args s (kap S' - kap S0) (2 * (kap S' - kap S0)) A) (F0 m 0 ls []) := by
  have hT := km_BS_resize h
  unfold m_BS_resize at h
  have nn : nq S S := nq_rf
  refine lv_aload_n C.1 C.2.1 dX2_resize_0 rfl (lv_at hl 0 rfl) ?_
  refine x_getC C w 4 fX2_9 obC9 rfl dX2_resize_1 ?_
  refine x_getC C w 76 fX2_26 obC4 rfl dX2_resize_4 ?_
  refine lv_iload_n C.1 C.2.1 dX2_resize_7 rfl (lv_at hl 1 rfl) ?_
  obtain ⟨r_1, hr_1, h⟩ := bnd h
  refine x_bald C w hr_1 dX2_resize_8 ?_
  refine lv_astore_n (lv' := [(2, .ref (ρ r_1)), (0, .ref (ρ 9)), (1, .int x1)]) C.1 C.2.1 dX2_resize_9 rfl hl (by decide) rfl (fun ls hl => ?_)
  refine lv_aload_n C.1 C.2.1 dX2_resize_10 rfl (lv_at hl 1 rfl) ?_
  refine x_getC C w 4 fX2_9 obC9 rfl dX2_resize_11 ?_
  refine lv_iconst (v := 1) C.1 C.2.1 dX2_resize_14 (by decide) ?_
  obtain ⟨v_2, hv_2, h⟩ := bnd h
  refine x_callVj (q := (RX1, TX1, 12)) (As := [.int (1 : Int32)]) (rest := []) C w (k_Bn_wholeAt l D T ρ g H.size S hv_2) vX2_78 (hRK (by decide) (by decide)) obC4 (by decide) rfl rfl rfl hl.1 (Nat.le_of_ble_eq_true rfl) (hcK hT) dX2_resize_15 (fun H locs w => ?_)
  refine lv_lstore_n (lv' := [(3, .long v_2), (2, .ref (ρ r_1)), (0, .ref (ρ 9)), (1, .int x1)]) C.1 C.2.1 dX2_resize_18 rfl hl (by decide) rfl (fun ls hl => ?_)
  refine lv_lload_n C.1 C.2.1 dX2_resize_19 rfl (lv_at hl 0 rfl) ?_
  refine lv_lconst (v := 0) C.1 C.2.1 dX2_resize_20 (by decide) ?_
  refine x_l_ge (tgt := 27) C dX2_resize_21 dX2_resize_22 (by decide) (fun hc => ?_) (fun hc => ?_)
  · replace h := iff0 hc h
    refine lv_lload_n C.1 C.2.1 dX2_resize_27 rfl (lv_at hl 0 rfl) ?_
    refine lv_ldc2 C.1 C.2.1 C.2.2.2.1 (C.2.2.2.2 _ nX2_82) dX2_resize_28 ?_
    refine x_l_le (tgt := 37) C dX2_resize_31 dX2_resize_32 (by decide) (fun hc => ?_) (fun hc => ?_)
    · replace h := iff0 hc h
      refine lv_aload_n C.1 C.2.1 dX2_resize_37 rfl (lv_at hl 1 rfl) ?_
      refine lv_lload_n C.1 C.2.1 dX2_resize_38 rfl (lv_at hl 0 rfl) ?_
      refine lv_l2i C.1 C.2.1 dX2_resize_39 rfl ?_
      obtain ⟨S_3, hS_3, h⟩ := bnd h
      replace nn : nq S_3 S := nq_tr (kq_Row_shorten hS_3) nn
      refine x_callVv (q := (RX6, TX6, 4)) (As := [.int (v_2.toInt32)]) (rest := []) C w (k_Row_shorten l D T ρ g H.size S (bR_ob hr_1) hS_3) vX2_139 (hRK (by decide) (by decide)) (bR_ob hr_1) (by decide) rfl rfl rfl hl.1 (Nat.le_of_ble_eq_true rfl) (hcK hT) dX2_resize_40 (fun H locs w => ?_)
      refine lv_aload_n C.1 C.2.1 dX2_resize_43 rfl (lv_at hl 1 rfl) ?_
      refine x_getI C w fX2_53 (bR_ob hr_1) dX2_resize_44 ?_
      obtain ⟨x5_4, ex5_4, h⟩ := lt_e h
      refine x_nm ex5_4 ?_
      refine lv_istore (lv' := [(5, .int x5_4), (3, .long v_2), (2, .ref (ρ r_1)), (0, .ref (ρ 9)), (1, .int x1)]) C.1 C.2.1 dX2_resize_47 hl (by decide) rfl (fun ls hl => ?_)
      have hkn := nq_kap nn
      refine W.widen (k := kap S_3 - kap S0) (n := 2 * (kap S_3 - kap S0)) (by omega) (by omega) ?_
      exact w_BS_resize_49 C hr hk g _ _ _ _ _ _ _ _ _ ha (by omega) w (lv_sub hl [3, 4, 2, 1, 0] rfl) (bR_ob hr_1) h
    · replace h := ift hc h
      refine lv_iconst (v := 5) C.1 C.2.1 dX2_resize_35 (by decide) ?_
      obtain ⟨rfl, rfl⟩ := prI h
      exact x_iretM C w ha hr hk dX2_resize_36 (by have := nq_kap nn; omega) (by have := nq_kap nn; omega)
  · replace h := ift hc h
    refine lv_iconst (v := 1) C.1 C.2.1 dX2_resize_25 (by decide) ?_
    obtain ⟨rfl, rfl⟩ := prI h
    exact x_iretM C w ha hr hk dX2_resize_26 (by have := nq_kap nn; omega) (by have := nq_kap nn; omega)
end S_BS_resize
set_option maxRecDepth 100000 in
theorem k_BS_resize (l : Launch) (D : va_G) (T : Cy) (ρ : Nat → Nat) (g sz : Nat) (S : St) {x1 : Int32} {S' : St} {r : Int32} (h : m_BS_resize g S x1 = some (S', r)) : MiM l D T ρ yX2_resize cX2_resize 6 (some .int) 3 69 S S' r [.ref (ρ 9), .int x1] sz :=
  x_inR (by decide) (Nat.le_of_ble_eq_true rfl) (fun p e s m below meth c ls C hr hk w hl => W.widen (Nat.zero_le _) (Nat.zero_le _) (w_BS_resize_0 C hr hk Ag.rf (Nat.le_refl _) w hl h))

theorem dX4_literalWith_0 : decode cX4_literalWith 0 = .ok (.iconst 0, 1) := by decide +kernel
theorem dX4_literalWith_1 : decode cX4_literalWith 1 = .ok (.istore_n 2, 1) := by decide +kernel
theorem dX4_literalWith_2 : decode cX4_literalWith 2 = .ok (.iload_n 2, 1) := by decide +kernel
theorem dX4_literalWith_3 : decode cX4_literalWith 3 = .ok (.aload_n 0, 1) := by decide +kernel
theorem dX4_literalWith_4 : decode cX4_literalWith 4 = .ok (.getfield 40, 3) := by decide +kernel
theorem dX4_literalWith_7 : decode cX4_literalWith 7 = .ok (.getfield 80, 3) := by decide +kernel
theorem dX4_literalWith_10 : decode cX4_literalWith 10 = .ok (.if_icmp .ge 53, 3) := by decide +kernel
theorem dX4_literalWith_13 : decode cX4_literalWith 13 = .ok (.aload_n 0, 1) := by decide +kernel
theorem dX4_literalWith_14 : decode cX4_literalWith 14 = .ok (.iload_n 2, 1) := by decide +kernel
theorem dX4_literalWith_15 : decode cX4_literalWith 15 = .ok (.invokevirtual 83, 3) := by decide +kernel
theorem dX4_literalWith_18 : decode cX4_literalWith 18 = .ok (.istore_n 3, 1) := by decide +kernel
theorem dX4_literalWith_19 : decode cX4_literalWith 19 = .ok (.aload_n 0, 1) := by decide +kernel
theorem dX4_literalWith_20 : decode cX4_literalWith 20 = .ok (.getfield 40, 3) := by decide +kernel
theorem dX4_literalWith_23 : decode cX4_literalWith 23 = .ok (.iload_n 2, 1) := by decide +kernel
theorem dX4_literalWith_24 : decode cX4_literalWith 24 = .ok (.invokevirtual 76, 3) := by decide +kernel
theorem dX4_literalWith_27 : decode cX4_literalWith 27 = .ok (.istore 4, 2) := by decide +kernel
theorem dX4_literalWith_29 : decode cX4_literalWith 29 = .ok (.iload 4, 2) := by decide +kernel
theorem dX4_literalWith_31 : decode cX4_literalWith 31 = .ok (.iload_n 3, 1) := by decide +kernel
theorem dX4_literalWith_32 : decode cX4_literalWith 32 = .ok (.isub, 1) := by decide +kernel
theorem dX4_literalWith_33 : decode cX4_literalWith 33 = .ok (.aload_n 1, 1) := by decide +kernel
theorem dX4_literalWith_34 : decode cX4_literalWith 34 = .ok (.getfield 80, 3) := by decide +kernel
theorem dX4_literalWith_37 : decode cX4_literalWith 37 = .ok (.if_icmp .ne 20, 3) := by decide +kernel
theorem dX4_literalWith_40 : decode cX4_literalWith 40 = .ok (.aload_n 1, 1) := by decide +kernel
theorem dX4_literalWith_41 : decode cX4_literalWith 41 = .ok (.iconst 0, 1) := by decide +kernel
theorem dX4_literalWith_42 : decode cX4_literalWith 42 = .ok (.aload_n 0, 1) := by decide +kernel
theorem dX4_literalWith_43 : decode cX4_literalWith 43 = .ok (.getfield 36, 3) := by decide +kernel
theorem dX4_literalWith_46 : decode cX4_literalWith 46 = .ok (.iload_n 3, 1) := by decide +kernel
theorem dX4_literalWith_47 : decode cX4_literalWith 47 = .ok (.iload 4, 2) := by decide +kernel
theorem dX4_literalWith_49 : decode cX4_literalWith 49 = .ok (.invokevirtual 86, 3) := by decide +kernel
theorem dX4_literalWith_52 : decode cX4_literalWith 52 = .ok (.ifCond .eq 5, 3) := by decide +kernel
theorem dX4_literalWith_55 : decode cX4_literalWith 55 = .ok (.iload_n 2, 1) := by decide +kernel
theorem dX4_literalWith_56 : decode cX4_literalWith 56 = .ok (.ireturn, 1) := by decide +kernel
theorem dX4_literalWith_57 : decode cX4_literalWith 57 = .ok (.iinc 2 1, 3) := by decide +kernel
theorem dX4_literalWith_60 : decode cX4_literalWith 60 = .ok (.goto (-58), 3) := by decide +kernel
theorem dX4_literalWith_63 : decode cX4_literalWith 63 = .ok (.aload_n 0, 1) := by decide +kernel
theorem dX4_literalWith_64 : decode cX4_literalWith 64 = .ok (.getfield 40, 3) := by decide +kernel
theorem dX4_literalWith_67 : decode cX4_literalWith 67 = .ok (.getfield 80, 3) := by decide +kernel
theorem dX4_literalWith_70 : decode cX4_literalWith 70 = .ok (.bipush 24, 2) := by decide +kernel
theorem dX4_literalWith_72 : decode cX4_literalWith 72 = .ok (.if_icmp .lt 5, 3) := by decide +kernel
theorem dX4_literalWith_75 : decode cX4_literalWith 75 = .ok (.iconst (-1), 1) := by decide +kernel
theorem dX4_literalWith_76 : decode cX4_literalWith 76 = .ok (.ireturn, 1) := by decide +kernel
theorem dX4_literalWith_77 : decode cX4_literalWith 77 = .ok (.aload_n 0, 1) := by decide +kernel
theorem dX4_literalWith_78 : decode cX4_literalWith 78 = .ok (.getfield 36, 3) := by decide +kernel
theorem dX4_literalWith_81 : decode cX4_literalWith 81 = .ok (.aload_n 0, 1) := by decide +kernel
theorem dX4_literalWith_82 : decode cX4_literalWith 82 = .ok (.getfield 36, 3) := by decide +kernel
theorem dX4_literalWith_85 : decode cX4_literalWith 85 = .ok (.getfield 80, 3) := by decide +kernel
theorem dX4_literalWith_88 : decode cX4_literalWith 88 = .ok (.aload_n 1, 1) := by decide +kernel
theorem dX4_literalWith_89 : decode cX4_literalWith 89 = .ok (.iconst 0, 1) := by decide +kernel
theorem dX4_literalWith_90 : decode cX4_literalWith 90 = .ok (.aload_n 1, 1) := by decide +kernel
theorem dX4_literalWith_91 : decode cX4_literalWith 91 = .ok (.getfield 80, 3) := by decide +kernel
theorem dX4_literalWith_94 : decode cX4_literalWith 94 = .ok (.invokevirtual 90, 3) := by decide +kernel
theorem dX4_literalWith_97 : decode cX4_literalWith 97 = .ok (.aload_n 0, 1) := by decide +kernel
theorem dX4_literalWith_98 : decode cX4_literalWith 98 = .ok (.getfield 40, 3) := by decide +kernel
theorem dX4_literalWith_101 : decode cX4_literalWith 101 = .ok (.aload_n 0, 1) := by decide +kernel
theorem dX4_literalWith_102 : decode cX4_literalWith 102 = .ok (.getfield 36, 3) := by decide +kernel
theorem dX4_literalWith_105 : decode cX4_literalWith 105 = .ok (.getfield 80, 3) := by decide +kernel
theorem dX4_literalWith_108 : decode cX4_literalWith 108 = .ok (.invokevirtual 94, 3) := by decide +kernel
theorem dX4_literalWith_111 : decode cX4_literalWith 111 = .ok (.aload_n 0, 1) := by decide +kernel
theorem dX4_literalWith_112 : decode cX4_literalWith 112 = .ok (.getfield 40, 3) := by decide +kernel
theorem dX4_literalWith_115 : decode cX4_literalWith 115 = .ok (.getfield 80, 3) := by decide +kernel
theorem dX4_literalWith_118 : decode cX4_literalWith 118 = .ok (.iconst 1, 1) := by decide +kernel
theorem dX4_literalWith_119 : decode cX4_literalWith 119 = .ok (.isub, 1) := by decide +kernel
theorem dX4_literalWith_120 : decode cX4_literalWith 120 = .ok (.ireturn, 1) := by decide +kernel
def m_Pg_literalWith_111 (g : Nat) (S : St) (x0 : Nat) : Option (St × Int32) :=
some (S, (gI S (8 + 3 * x0 + 1) 2) - (1 : Int32))
def m_Pg_literalWith_97 (g : Nat) (S : St) (x0 : Nat) : Option (St × Int32) :=
(m_Row_add g S (8 + 3 * x0 + 1) (gI S (8 + 3 * x0 + 0) 2)).bind fun S_2 =>
m_Pg_literalWith_111 g S_2 x0
def b_Pg_literalWith_2 (g : Nat) (k2 : St → Nat → Nat → Int32 → Option (St × Int32)) (S : St) (x0 : Nat) (x1 : Nat) (x2 : Int32) : Option (St × Int32) :=
if (gI S (8 + 3 * x0 + 1) 2) ≤ x2 then (
  if (gI S (8 + 3 * x0 + 1) 2) < (24 : Int32) then (
    (m_Row_insert g S (8 + 3 * x0 + 0) (gI S (8 + 3 * x0 + 0) 2) x1 (0 : Int32) (gI S x1 2)).bind fun S_1 =>
    m_Pg_literalWith_97 g S_1 x0
  ) else (
    some (S, (-1 : Int32))
  )
) else (
  (m_Pg_literalStart g S x0 x2).bind fun v_2 =>
  (m_Row_at g S (8 + 3 * x0 + 1) x2).bind fun v_3 =>
  if (v_3 - v_2) = (gI S x1 2) then (
    (m_Row_holds g S x1 (0 : Int32) (8 + 3 * x0 + 0) v_2 v_3).bind fun v_5 =>
    if v_5 = 0 then (
      lt (x2 + (1 : Int32)) fun x2_6 =>
      k2 S x0 x1 x2_6
    ) else (
      some (S, x2)
    )
  ) else (
    lt (x2 + (1 : Int32)) fun x2_4 =>
    k2 S x0 x1 x2_4
  )
)
def m_Pg_literalWith_2 (g : Nat) : Nat → St → Nat → Nat → Int32 → Option (St × Int32)
  | 0, _, _, _, _ => none
  | n + 1, S, x0, x1, x2 => b_Pg_literalWith_2 g (m_Pg_literalWith_2 g n) S x0 x1 x2
def m_Pg_literalWith (g : Nat) (S : St) (x0 : Nat) (x1 : Nat) : Option (St × Int32) :=
m_Pg_literalWith_2 g g S x0 x1 (0 : Int32)
theorem km_Pg_literalWith_111 {g : Nat} {S : St} {x0 : Nat} {S' : St} {r : Int32} (h : m_Pg_literalWith_111 g S x0 = some (S', r)) : kap S ≤ kap S' := by
  unfold m_Pg_literalWith_111 at h
  have nn : nq S S := nq_rf
  obtain ⟨rfl, rfl⟩ := prI h
  have hkn := nq_kap nn
  omega
theorem km_Pg_literalWith_97 {g : Nat} {S : St} {x0 : Nat} {S' : St} {r : Int32} (h : m_Pg_literalWith_97 g S x0 = some (S', r)) : kap S ≤ kap S' := by
  unfold m_Pg_literalWith_97 at h
  have nn : nq S S := nq_rf
  obtain ⟨S_2, hS_2, h⟩ := bnd h
  have hk1 := km_Row_add hS_2
  have hkn := nq_kap nn
  have h2 := km_Pg_literalWith_111 h
  omega
theorem kmb_Pg_literalWith_2 {g : Nat} {S : St} {x0 : Nat} {x1 : Nat} {x2 : Int32} {S' : St} {r : Int32} {k2 : St → Nat → Nat → Int32 → Option (St × Int32)} (km2 : ∀ (S : St) (x0 : Nat) (x1 : Nat) (x2 : Int32), k2 S x0 x1 x2 = some (S', r) → kap S ≤ kap S') (h : b_Pg_literalWith_2 g k2 S x0 x1 x2 = some (S', r)) : kap S ≤ kap S' := by
  unfold b_Pg_literalWith_2 at h
  have nn : nq S S := nq_rf
  by_cases hc1 : (gI S (8 + 3 * x0 + 1) 2) ≤ x2
  · replace h := ift hc1 h
    by_cases hc2 : (gI S (8 + 3 * x0 + 1) 2) < (24 : Int32)
    · replace h := ift hc2 h
      obtain ⟨S_1, hS_1, h⟩ := bnd h
      have hk1 := km_Row_insert hS_1
      have hkn := nq_kap nn
      have h2 := km_Pg_literalWith_97 h
      omega
    · replace h := iff0 hc2 h
      obtain ⟨rfl, rfl⟩ := prI h
      have hkn := nq_kap nn
      omega
  · replace h := iff0 hc1 h
    obtain ⟨v_2, hv_2, h⟩ := bnd h
    obtain ⟨v_3, hv_3, h⟩ := bnd h
    by_cases hc3 : (v_3 - v_2) = (gI S x1 2)
    · replace h := ift hc3 h
      obtain ⟨v_5, hv_5, h⟩ := bnd h
      by_cases hc4 : v_5 = 0
      · replace h := ift hc4 h
        obtain ⟨x2_6, ex2_6, h⟩ := lt_e h
        have hkn := nq_kap nn
        have h2 := km2 _ _ _ _ h
        omega
      · replace h := iff0 hc4 h
        obtain ⟨rfl, rfl⟩ := prI h
        have hkn := nq_kap nn
        omega
    · replace h := iff0 hc3 h
      obtain ⟨x2_4, ex2_4, h⟩ := lt_e h
      have hkn := nq_kap nn
      have h2 := km2 _ _ _ _ h
      omega
theorem km_Pg_literalWith_2 {g : Nat} {S' : St} {r : Int32} (n : Nat) : ∀ (S : St) (x0 : Nat) (x1 : Nat) (x2 : Int32), m_Pg_literalWith_2 g n S x0 x1 x2 = some (S', r) → kap S ≤ kap S' := by
  induction n with
  | zero => intro S x0 x1 x2 h; exact absurd h (fun q => by cases q)
  | succ n ih => intro S x0 x1 x2 h; exact kmb_Pg_literalWith_2 ih h
theorem km_Pg_literalWith {g : Nat} {S : St} {x0 : Nat} {x1 : Nat} {S' : St} {r : Int32} (h : m_Pg_literalWith g S x0 x1 = some (S', r)) : kap S ≤ kap S' := by
  unfold m_Pg_literalWith at h
  have nn : nq S S := nq_rf
  have hkn := nq_kap nn
  have h2 := km_Pg_literalWith_2 g _ _ _ _ h
  omega
section S_Pg_literalWith
variable {p : Program} {l : Launch} {e : Env} {s : State} {m : MethodId} {args : Array Value} {below : List Frame} {meth : Method} {c : Code} {H : Heap} {locs : List Loc} {ls : Array Slot} {D : va_G} {T : Cy} {ρ ρ0 : Nat → Nat} {S0 : St} {A : Nat → Prop}
set_option maxRecDepth 100000 in
set_option maxHeartbeats 4000000 in
theorem w_Pg_literalWith_111 {g : Nat} {S : St} {x0 : Nat} (C : CallFix p m c cX4_literalWith 5 s args tb RX4) (hr : meth.sig.returnType = (some .int)) (hk : meth.locks = false) {S' : St} {r : Int32} (ha : Ag ρ0 ρ) (hm : kap S0 ≤ kap S) (w : Wn Yc D T ρ S A s H locs) (hl : lv_has ls 5 [(0, .ref (ρ x0))]) (ho_x0 : Ob Yc x0 2) (h : m_Pg_literalWith_111 g S x0 = some (S', r)) : W p l e (rmK 3 73 (kap S' - kap S0)) s m args below meth c H locs (kap S - kap S0) (2 * (kap S - kap S0)) (MQ below (QiM D T ρ0 A S' r) args s (kap S' - kap S0) (2 * (kap S' - kap S0)) A) (F0 m 111 ls []) := by
  have hT := km_Pg_literalWith_111 h
  unfold m_Pg_literalWith_111 at h
  have nn : nq S S := nq_rf
  refine lv_aload_n C.1 C.2.1 dX4_literalWith_111 rfl (lv_at hl 0 rfl) ?_
  refine x_getC C w (8 + 3 * x0 + 1) fX4_40 ho_x0 (crP7 ho_x0) dX4_literalWith_112 ?_
  refine x_getI C w fX4_80 (obP7 ho_x0) dX4_literalWith_115 ?_
  refine lv_iconst (v := 1) C.1 C.2.1 dX4_literalWith_118 (by decide) ?_
  refine lv_isub C.1 C.2.1 dX4_literalWith_119 ?_
  obtain ⟨rfl, rfl⟩ := prI h
  exact x_iretM C w ha hr hk dX4_literalWith_120 (by have := nq_kap nn; omega) (by have := nq_kap nn; omega)
set_option maxRecDepth 100000 in
set_option maxHeartbeats 4000000 in
theorem w_Pg_literalWith_97 {g : Nat} {S : St} {x0 : Nat} (C : CallFix p m c cX4_literalWith 5 s args tb RX4) (hr : meth.sig.returnType = (some .int)) (hk : meth.locks = false) {S' : St} {r : Int32} (ha : Ag ρ0 ρ) (hm : kap S0 ≤ kap S) (w : Wn Yc D T ρ S A s H locs) (hl : lv_has ls 5 [(0, .ref (ρ x0))]) (ho_x0 : Ob Yc x0 2) (h : m_Pg_literalWith_97 g S x0 = some (S', r)) : W p l e (rmK 3 73 (kap S' - kap S0)) s m args below meth c H locs (kap S - kap S0) (2 * (kap S - kap S0)) (MQ below (QiM D T ρ0 A S' r) args s (kap S' - kap S0) (2 * (kap S' - kap S0)) A) (F0 m 97 ls []) := by
  have hT := km_Pg_literalWith_97 h
  unfold m_Pg_literalWith_97 at h
  have nn : nq S S := nq_rf
  refine lv_aload_n C.1 C.2.1 dX4_literalWith_97 rfl (lv_at hl 0 rfl) ?_
  refine x_getC C w (8 + 3 * x0 + 1) fX4_40 ho_x0 (crP7 ho_x0) dX4_literalWith_98 ?_
  refine lv_aload_n C.1 C.2.1 dX4_literalWith_101 rfl (lv_at hl 0 rfl) ?_
  refine x_getC C w (8 + 3 * x0 + 0) fX4_36 ho_x0 (crP6 ho_x0) dX4_literalWith_102 ?_
  refine x_getI C w fX4_80 (obP6 ho_x0) dX4_literalWith_105 ?_
  obtain ⟨S_2, hS_2, h⟩ := bnd h
  have hkn := nq_kap nn
  have hk1 := km_Row_add hS_2
  have hT2 := km_Pg_literalWith_111 h
  refine x_callVvM (q := (RX6, TX6, 4)) (As := [.int (gI S (8 + 3 * x0 + 0) 2)]) (rest := []) C w (k_Row_add l D T ρ g H.size S (obP7 ho_x0) hS_2) vX4_94 (hRK (by decide) (by decide)) (obP7 ho_x0) (by decide) rfl rfl rfl hl.1 (Nat.le_of_ble_eq_true rfl) (hcM hm hkn hk1 hT2) dX4_literalWith_108 (fun ρ1 H locs hag w => ?_)
  replace ha := ha.trans hag
  rw [← hag x0 (ncP ho_x0)] at hl
  refine W.widen (k := kap S_2 - kap S0) (n := 2 * (kap S_2 - kap S0)) (by omega) (by omega) ?_
  exact w_Pg_literalWith_111 C hr hk ha (by omega) w (lv_sub hl [0] rfl) ho_x0 h
set_option maxRecDepth 100000 in
set_option maxHeartbeats 4000000 in
theorem wb_Pg_literalWith_2 {g : Nat} {S : St} {x0 : Nat} {x1 : Nat} {x2 : Int32} (C : CallFix p m c cX4_literalWith 5 s args tb RX4) (hr : meth.sig.returnType = (some .int)) (hk : meth.locks = false) {S' : St} {r : Int32} {k2 : St → Nat → Nat → Int32 → Option (St × Int32)} (kk2 : ∀ (ρ : Nat → Nat) (S : St) (x0 : Nat) (x1 : Nat) (x2 : Int32) (H : Heap) (locs : List Loc) (ls : Array Slot), Ag ρ0 ρ → kap S0 ≤ kap S → Wn Yc D T ρ S A s H locs → lv_has ls 5 [(0, .ref (ρ x0)), (1, .ref (ρ x1)), (2, .int x2)] → Ob Yc x0 2 → Ob Yc x1 4 → k2 S x0 x1 x2 = some (S', r) → W p l e (rmK 3 73 (kap S' - kap S0)) s m args below meth c H locs (kap S - kap S0) (2 * (kap S - kap S0)) (MQ below (QiM D T ρ0 A S' r) args s (kap S' - kap S0) (2 * (kap S' - kap S0)) A) (F0 m 2 ls [])) (km2 : ∀ (S : St) (x0 : Nat) (x1 : Nat) (x2 : Int32), k2 S x0 x1 x2 = some (S', r) → kap S ≤ kap S') (ha : Ag ρ0 ρ) (hm : kap S0 ≤ kap S) (w : Wn Yc D T ρ S A s H locs) (hl : lv_has ls 5 [(0, .ref (ρ x0)), (1, .ref (ρ x1)), (2, .int x2)]) (ho_x0 : Ob Yc x0 2) (ho_x1 : Ob Yc x1 4) (h : b_Pg_literalWith_2 g k2 S x0 x1 x2 = some (S', r)) : W p l e (rmK 3 73 (kap S' - kap S0)) s m args below meth c H locs (kap S - kap S0) (2 * (kap S - kap S0)) (MQ below (QiM D T ρ0 A S' r) args s (kap S' - kap S0) (2 * (kap S' - kap S0)) A) (F0 m 2 ls []) := by
  have hT := kmb_Pg_literalWith_2 km2 h
  unfold b_Pg_literalWith_2 at h
  have nn : nq S S := nq_rf
  refine lv_iload_n C.1 C.2.1 dX4_literalWith_2 rfl (lv_at hl 2 rfl) ?_
  refine lv_aload_n C.1 C.2.1 dX4_literalWith_3 rfl (lv_at hl 0 rfl) ?_
  refine x_getC C w (8 + 3 * x0 + 1) fX4_40 ho_x0 (crP7 ho_x0) dX4_literalWith_4 ?_
  refine x_getI C w fX4_80 (obP7 ho_x0) dX4_literalWith_7 ?_
  refine lv_icmp_ge (tgt := 63) C.1 C.2.1 dX4_literalWith_10 (by decide) (fun hc => ?_) (fun hc => ?_)
  · replace h := ift hc h
    refine lv_aload_n C.1 C.2.1 dX4_literalWith_63 rfl (lv_at hl 0 rfl) ?_
    refine x_getC C w (8 + 3 * x0 + 1) fX4_40 ho_x0 (crP7 ho_x0) dX4_literalWith_64 ?_
    refine x_getI C w fX4_80 (obP7 ho_x0) dX4_literalWith_67 ?_
    refine lv_bipush (v := 24) C.1 C.2.1 dX4_literalWith_70 (by decide) ?_
    refine lv_icmp_lt (tgt := 77) C.1 C.2.1 dX4_literalWith_72 (by decide) (fun hc => ?_) (fun hc => ?_)
    · replace h := ift hc h
      refine lv_aload_n C.1 C.2.1 dX4_literalWith_77 rfl (lv_at hl 0 rfl) ?_
      refine x_getC C w (8 + 3 * x0 + 0) fX4_36 ho_x0 (crP6 ho_x0) dX4_literalWith_78 ?_
      refine lv_aload_n C.1 C.2.1 dX4_literalWith_81 rfl (lv_at hl 0 rfl) ?_
      refine x_getC C w (8 + 3 * x0 + 0) fX4_36 ho_x0 (crP6 ho_x0) dX4_literalWith_82 ?_
      refine x_getI C w fX4_80 (obP6 ho_x0) dX4_literalWith_85 ?_
      refine lv_aload_n C.1 C.2.1 dX4_literalWith_88 rfl (lv_at hl 1 rfl) ?_
      refine lv_iconst (v := 0) C.1 C.2.1 dX4_literalWith_89 (by decide) ?_
      refine lv_aload_n C.1 C.2.1 dX4_literalWith_90 rfl (lv_at hl 1 rfl) ?_
      refine x_getI C w fX4_80 ho_x1 dX4_literalWith_91 ?_
      obtain ⟨S_1, hS_1, h⟩ := bnd h
      have hkn := nq_kap nn
      have hk1 := km_Row_insert hS_1
      have hT2 := km_Pg_literalWith_97 h
      refine x_callVvM (q := (RX6, TX6, 4)) (As := [.int (gI S (8 + 3 * x0 + 0) 2), .ref (ρ x1), .int (0 : Int32), .int (gI S x1 2)]) (rest := []) C w (k_Row_insert l D T ρ g H.size S (obP6 ho_x0) ho_x1 hS_1) vX4_90 (hRK (by decide) (by decide)) (obP6 ho_x0) (by decide) rfl rfl rfl hl.1 (Nat.le_of_ble_eq_true rfl) (hcM hm hkn hk1 hT2) dX4_literalWith_94 (fun ρ1 H locs hag w => ?_)
      replace ha := ha.trans hag
      rw [← hag x0 (ncP ho_x0)] at hl
      rw [← hag x1 (ncR ho_x1)] at hl
      refine W.widen (k := kap S_1 - kap S0) (n := 2 * (kap S_1 - kap S0)) (by omega) (by omega) ?_
      exact w_Pg_literalWith_97 C hr hk ha (by omega) w (lv_sub hl [0] rfl) ho_x0 h
    · replace h := iff0 hc h
      refine lv_iconst (v := (-1)) C.1 C.2.1 dX4_literalWith_75 (by decide) ?_
      obtain ⟨rfl, rfl⟩ := prI h
      exact x_iretM C w ha hr hk dX4_literalWith_76 (by have := nq_kap nn; omega) (by have := nq_kap nn; omega)
  · replace h := iff0 hc h
    refine lv_aload_n C.1 C.2.1 dX4_literalWith_13 rfl (lv_at hl 0 rfl) ?_
    refine lv_iload_n C.1 C.2.1 dX4_literalWith_14 rfl (lv_at hl 2 rfl) ?_
    obtain ⟨v_2, hv_2, h⟩ := bnd h
    refine x_callVi (q := (RX4, TX4, 16)) (As := [.int x2]) (rest := []) C w (k_Pg_literalStart l D T ρ g H.size S ho_x0 hv_2) vX4_83 (hRK (by decide) (by decide)) ho_x0 (by decide) rfl rfl rfl hl.1 (Nat.le_of_ble_eq_true rfl) (hcK hT) dX4_literalWith_15 (fun H locs w => ?_)
    refine lv_istore_n (lv' := [(3, .int v_2), (0, .ref (ρ x0)), (1, .ref (ρ x1)), (2, .int x2)]) C.1 C.2.1 dX4_literalWith_18 rfl hl (by decide) rfl (fun ls hl => ?_)
    refine lv_aload_n C.1 C.2.1 dX4_literalWith_19 rfl (lv_at hl 1 rfl) ?_
    refine x_getC C w (8 + 3 * x0 + 1) fX4_40 ho_x0 (crP7 ho_x0) dX4_literalWith_20 ?_
    refine lv_iload_n C.1 C.2.1 dX4_literalWith_23 rfl (lv_at hl 3 rfl) ?_
    obtain ⟨v_3, hv_3, h⟩ := bnd h
    refine x_callVi (q := (RX6, TX6, 4)) (As := [.int x2]) (rest := []) C w (k_Row_at l D T ρ g H.size S (obP7 ho_x0) hv_3) vX4_76 (hRK (by decide) (by decide)) (obP7 ho_x0) (by decide) rfl rfl rfl hl.1 (Nat.le_of_ble_eq_true rfl) (hcK hT) dX4_literalWith_24 (fun H locs w => ?_)
    refine lv_istore (lv' := [(4, .int v_3), (3, .int v_2), (0, .ref (ρ x0)), (1, .ref (ρ x1)), (2, .int x2)]) C.1 C.2.1 dX4_literalWith_27 hl (by decide) rfl (fun ls hl => ?_)
    refine lv_iload C.1 C.2.1 dX4_literalWith_29 (lv_at hl 0 rfl) ?_
    refine lv_iload_n C.1 C.2.1 dX4_literalWith_31 rfl (lv_at hl 1 rfl) ?_
    refine lv_isub C.1 C.2.1 dX4_literalWith_32 ?_
    refine lv_aload_n C.1 C.2.1 dX4_literalWith_33 rfl (lv_at hl 3 rfl) ?_
    refine x_getI C w fX4_80 ho_x1 dX4_literalWith_34 ?_
    refine lv_icmp_ne (tgt := 57) C.1 C.2.1 dX4_literalWith_37 (by decide) (fun hc => ?_) (fun hc => ?_)
    · replace h := iff0 hc h
      obtain ⟨x2_4, ex2_4, h⟩ := lt_e h
      refine lv_iinc (v := x2_4) (lv' := [(2, .int x2_4), (4, .int v_3), (3, .int v_2), (0, .ref (ρ x0)), (1, .ref (ρ x1))]) C.1 C.2.1 dX4_literalWith_57 hl (k := 4) rfl (by rw [ex2_4]; rfl) (by decide) rfl (fun ls hl => ?_)
      refine lv_goto (tgt := 2) C.1 C.2.1 dX4_literalWith_60 (by decide) ?_
      have hkn := nq_kap nn
      refine W.widen (k := kap S - kap S0) (n := 2 * (kap S - kap S0)) (by omega) (by omega) ?_
      exact kk2 _ _ _ _ _ _ _ _ ha (by omega) w (lv_sub hl [3, 4, 0] rfl) ho_x0 ho_x1 h
    · replace h := ift hc h
      refine lv_aload_n C.1 C.2.1 dX4_literalWith_40 rfl (lv_at hl 3 rfl) ?_
      refine lv_iconst (v := 0) C.1 C.2.1 dX4_literalWith_41 (by decide) ?_
      refine lv_aload_n C.1 C.2.1 dX4_literalWith_42 rfl (lv_at hl 2 rfl) ?_
      refine x_getC C w (8 + 3 * x0 + 0) fX4_36 ho_x0 (crP6 ho_x0) dX4_literalWith_43 ?_
      refine lv_iload_n C.1 C.2.1 dX4_literalWith_46 rfl (lv_at hl 1 rfl) ?_
      refine lv_iload C.1 C.2.1 dX4_literalWith_47 (lv_at hl 0 rfl) ?_
      obtain ⟨v_5, hv_5, h⟩ := bnd h
      refine x_callVi (q := (RX6, TX6, 4)) (As := [.int (0 : Int32), .ref (ρ (8 + 3 * x0 + 0)), .int v_2, .int v_3]) (rest := []) C w (k_Row_holds l D T ρ g H.size S ho_x1 (obP6 ho_x0) hv_5) vX4_86 (hRK (by decide) (by decide)) ho_x1 (by decide) rfl rfl rfl hl.1 (Nat.le_of_ble_eq_true rfl) (hcK hT) dX4_literalWith_49 (fun H locs w => ?_)
      refine lv_if_eq (tgt := 57) C.1 C.2.1 dX4_literalWith_52 (by decide) (fun hc => ?_) (fun hc => ?_)
      · replace h := ift hc h
        obtain ⟨x2_6, ex2_6, h⟩ := lt_e h
        refine lv_iinc (v := x2_6) (lv' := [(2, .int x2_6), (4, .int v_3), (3, .int v_2), (0, .ref (ρ x0)), (1, .ref (ρ x1))]) C.1 C.2.1 dX4_literalWith_57 hl (k := 4) rfl (by rw [ex2_6]; rfl) (by decide) rfl (fun ls hl => ?_)
        refine lv_goto (tgt := 2) C.1 C.2.1 dX4_literalWith_60 (by decide) ?_
        have hkn := nq_kap nn
        refine W.widen (k := kap S - kap S0) (n := 2 * (kap S - kap S0)) (by omega) (by omega) ?_
        exact kk2 _ _ _ _ _ _ _ _ ha (by omega) w (lv_sub hl [3, 4, 0] rfl) ho_x0 ho_x1 h
      · replace h := iff0 hc h
        refine lv_iload_n C.1 C.2.1 dX4_literalWith_55 rfl (lv_at hl 4 rfl) ?_
        obtain ⟨rfl, rfl⟩ := prI h
        exact x_iretM C w ha hr hk dX4_literalWith_56 (by have := nq_kap nn; omega) (by have := nq_kap nn; omega)
theorem w_Pg_literalWith_2 {g : Nat} (C : CallFix p m c cX4_literalWith 5 s args tb RX4) (hr : meth.sig.returnType = (some .int)) (hk : meth.locks = false) {S' : St} {r : Int32} (n : Nat) : ∀ (ρ : Nat → Nat) (S : St) (x0 : Nat) (x1 : Nat) (x2 : Int32) (H : Heap) (locs : List Loc) (ls : Array Slot), Ag ρ0 ρ → kap S0 ≤ kap S → Wn Yc D T ρ S A s H locs → lv_has ls 5 [(0, .ref (ρ x0)), (1, .ref (ρ x1)), (2, .int x2)] → Ob Yc x0 2 → Ob Yc x1 4 → m_Pg_literalWith_2 g n S x0 x1 x2 = some (S', r) → W p l e (rmK 3 73 (kap S' - kap S0)) s m args below meth c H locs (kap S - kap S0) (2 * (kap S - kap S0)) (MQ below (QiM D T ρ0 A S' r) args s (kap S' - kap S0) (2 * (kap S' - kap S0)) A) (F0 m 2 ls []) := by
  induction n with
  | zero => intro ρ S x0 x1 x2 H locs ls ha hm w hl ho_x0 ho_x1 h; exact absurd h (fun q => by cases q)
  | succ n ih => intro ρ S x0 x1 x2 H locs ls ha hm w hl ho_x0 ho_x1 h; exact wb_Pg_literalWith_2 C hr hk ih (km_Pg_literalWith_2 n) ha hm w hl ho_x0 ho_x1 h
set_option maxRecDepth 100000 in
set_option maxHeartbeats 4000000 in
theorem w_Pg_literalWith_0 {g : Nat} {S : St} {x0 : Nat} {x1 : Nat} (C : CallFix p m c cX4_literalWith 5 s args tb RX4) (hr : meth.sig.returnType = (some .int)) (hk : meth.locks = false) {S' : St} {r : Int32} (ha : Ag ρ0 ρ) (hm : kap S0 ≤ kap S) (w : Wn Yc D T ρ S A s H locs) (hl : lv_has ls 5 [(0, .ref (ρ x0)), (1, .ref (ρ x1))]) (ho_x0 : Ob Yc x0 2) (ho_x1 : Ob Yc x1 4) (h : m_Pg_literalWith g S x0 x1 = some (S', r)) : W p l e (rmK 3 73 (kap S' - kap S0)) s m args below meth c H locs (kap S - kap S0) (2 * (kap S - kap S0)) (MQ below (QiM D T ρ0 A S' r) args s (kap S' - kap S0) (2 * (kap S' - kap S0)) A) (F0 m 0 ls []) := by
  have hT := km_Pg_literalWith h
  unfold m_Pg_literalWith at h
  have nn : nq S S := nq_rf
  refine lv_iconst (v := 0) C.1 C.2.1 dX4_literalWith_0 (by decide) ?_
  refine lv_istore_n (lv' := [(2, .int (0 : Int32)), (0, .ref (ρ x0)), (1, .ref (ρ x1))]) C.1 C.2.1 dX4_literalWith_1 rfl hl (by decide) rfl (fun ls hl => ?_)
  have hkn := nq_kap nn
  refine W.widen (k := kap S - kap S0) (n := 2 * (kap S - kap S0)) (by omega) (by omega) ?_
  exact w_Pg_literalWith_2 C hr hk g _ _ _ _ _ _ _ _ ha (by omega) w (lv_sub hl [1, 2, 0] rfl) ho_x0 ho_x1 h
end S_Pg_literalWith
set_option maxRecDepth 100000 in
theorem k_Pg_literalWith (l : Launch) (D : va_G) (T : Cy) (ρ : Nat → Nat) (g sz : Nat) (S : St) {x0 : Nat} {x1 : Nat} (ho_x0 : Ob Yc x0 2) (ho_x1 : Ob Yc x1 4) {S' : St} {r : Int32} (h : m_Pg_literalWith g S x0 x1 = some (S', r)) : MiM l D T ρ yX4_literalWith cX4_literalWith 5 (some .int) 3 73 S S' r [.ref (ρ x0), .ref (ρ x1)] sz :=
  x_inR (by decide) (Nat.le_of_ble_eq_true rfl) (fun p e s m below meth c ls C hr hk w hl => W.widen (Nat.zero_le _) (Nat.zero_le _) (w_Pg_literalWith_0 C hr hk Ag.rf (Nat.le_refl _) w hl ho_x0 ho_x1 h))
