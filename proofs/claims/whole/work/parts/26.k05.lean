theorem dX9_giveParts_0 : decode cX9_giveParts 0 = .ok (.aload_n 0, 1) := by decide +kernel
theorem dX9_giveParts_1 : decode cX9_giveParts 1 = .ok (.getfield 37, 3) := by decide +kernel
theorem dX9_giveParts_4 : decode cX9_giveParts 4 = .ok (.invokevirtual 46, 3) := by decide +kernel
theorem dX9_giveParts_7 : decode cX9_giveParts 7 = .ok (.getstatic 49, 3) := by decide +kernel
theorem dX9_giveParts_10 : decode cX9_giveParts 10 = .ok (.aload_n 1, 1) := by decide +kernel
theorem dX9_giveParts_11 : decode cX9_giveParts 11 = .ok (.invokevirtual 55, 3) := by decide +kernel
theorem dX9_giveParts_14 : decode cX9_giveParts 14 = .ok (.iaload, 1) := by decide +kernel
theorem dX9_giveParts_15 : decode cX9_giveParts 15 = .ok (.tableswitch 73 17 20 #[29, 42, 55, 60], 29) := by decide +kernel
theorem dX9_giveParts_44 : decode cX9_giveParts 44 = .ok (.aload_n 0, 1) := by decide +kernel
theorem dX9_giveParts_45 : decode cX9_giveParts 45 = .ok (.aload_n 0, 1) := by decide +kernel
theorem dX9_giveParts_46 : decode cX9_giveParts 46 = .ok (.getfield 23, 3) := by decide +kernel
theorem dX9_giveParts_49 : decode cX9_giveParts 49 = .ok (.iconst 0, 1) := by decide +kernel
theorem dX9_giveParts_50 : decode cX9_giveParts 50 = .ok (.invokevirtual 42, 3) := by decide +kernel
theorem dX9_giveParts_53 : decode cX9_giveParts 53 = .ok (.invokevirtual 127, 3) := by decide +kernel
theorem dX9_giveParts_56 : decode cX9_giveParts 56 = .ok (.ireturn, 1) := by decide +kernel
theorem dX9_giveParts_57 : decode cX9_giveParts 57 = .ok (.aload_n 0, 1) := by decide +kernel
theorem dX9_giveParts_58 : decode cX9_giveParts 58 = .ok (.aload_n 0, 1) := by decide +kernel
theorem dX9_giveParts_59 : decode cX9_giveParts 59 = .ok (.getfield 23, 3) := by decide +kernel
theorem dX9_giveParts_62 : decode cX9_giveParts 62 = .ok (.iconst 0, 1) := by decide +kernel
theorem dX9_giveParts_63 : decode cX9_giveParts 63 = .ok (.invokevirtual 42, 3) := by decide +kernel
theorem dX9_giveParts_66 : decode cX9_giveParts 66 = .ok (.invokevirtual 130, 3) := by decide +kernel
theorem dX9_giveParts_69 : decode cX9_giveParts 69 = .ok (.ireturn, 1) := by decide +kernel
theorem dX9_giveParts_70 : decode cX9_giveParts 70 = .ok (.aload_n 0, 1) := by decide +kernel
theorem dX9_giveParts_71 : decode cX9_giveParts 71 = .ok (.invokevirtual 133, 3) := by decide +kernel
theorem dX9_giveParts_74 : decode cX9_giveParts 74 = .ok (.ireturn, 1) := by decide +kernel
theorem dX9_giveParts_75 : decode cX9_giveParts 75 = .ok (.aload_n 0, 1) := by decide +kernel
theorem dX9_giveParts_76 : decode cX9_giveParts 76 = .ok (.aload_n 0, 1) := by decide +kernel
theorem dX9_giveParts_77 : decode cX9_giveParts 77 = .ok (.getfield 23, 3) := by decide +kernel
theorem dX9_giveParts_80 : decode cX9_giveParts 80 = .ok (.iconst 1, 1) := by decide +kernel
theorem dX9_giveParts_81 : decode cX9_giveParts 81 = .ok (.invokevirtual 42, 3) := by decide +kernel
theorem dX9_giveParts_84 : decode cX9_giveParts 84 = .ok (.invokevirtual 136, 3) := by decide +kernel
theorem dX9_giveParts_87 : decode cX9_giveParts 87 = .ok (.ireturn, 1) := by decide +kernel
theorem dX9_giveParts_88 : decode cX9_giveParts 88 = .ok (.iconst 0, 1) := by decide +kernel
theorem dX9_giveParts_89 : decode cX9_giveParts 89 = .ok (.ireturn, 1) := by decide +kernel
def m_TS_giveParts_56 (g : Nat) (S : St) (y0 : Int32) : Option (St × Int32) :=
some (S, y0)
def m_TS_giveParts_69 (g : Nat) (S : St) (y0 : Int32) : Option (St × Int32) :=
some (S, y0)
def m_TS_giveParts_87 (g : Nat) (S : St) (y0 : Int32) : Option (St × Int32) :=
some (S, y0)
def m_TS_giveParts (g : Nat) (S : St) (x1 : Nat) : Option (St × Int32) :=
(m_Row_clear g S 23).bind fun S_1 =>
(eS (nI x1)).bind fun e_3 =>
if (swT.getD e_3 0) = (17 : Int32) then (
  (m_Bn_textAt g S_1 (0 : Int32)).bind fun v_4 =>
  (m_TS_split g S_1 v_4).bind fun (S_5, v_6) =>
  m_TS_giveParts_56 g S_5 v_6
) else
if (swT.getD e_3 0) = (18 : Int32) then (
  (m_Bn_textAt g S_1 (0 : Int32)).bind fun v_7 =>
  (m_TS_lines g S_1 v_7).bind fun (S_8, v_9) =>
  m_TS_giveParts_69 g S_8 v_9
) else
if (swT.getD e_3 0) = (19 : Int32) then (
  (m_TS_piece g S_1).bind fun (S_10, v_11) =>
  some (S_10, v_11)
) else
if (swT.getD e_3 0) = (20 : Int32) then (
  (m_Bn_textAt g S_1 (1 : Int32)).bind fun v_12 =>
  (m_TS_weave g S_1 v_12).bind fun (S_13, v_14) =>
  m_TS_giveParts_87 g S_13 v_14
) else
(
  some (S_1, (0 : Int32))
)
theorem km_TS_giveParts_56 {g : Nat} {S : St} {y0 : Int32} {S' : St} {r : Int32} (h : m_TS_giveParts_56 g S y0 = some (S', r)) : kap S ≤ kap S' := by
  unfold m_TS_giveParts_56 at h
  have nn : nq S S := nq_rf
  obtain ⟨rfl, rfl⟩ := prI h
  have hkn := nq_kap nn
  omega
theorem km_TS_giveParts_69 {g : Nat} {S : St} {y0 : Int32} {S' : St} {r : Int32} (h : m_TS_giveParts_69 g S y0 = some (S', r)) : kap S ≤ kap S' := by
  unfold m_TS_giveParts_69 at h
  have nn : nq S S := nq_rf
  obtain ⟨rfl, rfl⟩ := prI h
  have hkn := nq_kap nn
  omega
theorem km_TS_giveParts_87 {g : Nat} {S : St} {y0 : Int32} {S' : St} {r : Int32} (h : m_TS_giveParts_87 g S y0 = some (S', r)) : kap S ≤ kap S' := by
  unfold m_TS_giveParts_87 at h
  have nn : nq S S := nq_rf
  obtain ⟨rfl, rfl⟩ := prI h
  have hkn := nq_kap nn
  omega
theorem km_TS_giveParts {g : Nat} {S : St} {x1 : Nat} {S' : St} {r : Int32} (h : m_TS_giveParts g S x1 = some (S', r)) : kap S ≤ kap S' := by
  unfold m_TS_giveParts at h
  have nn : nq S S := nq_rf
  obtain ⟨S_1, hS_1, h⟩ := bnd h
  replace nn : nq S_1 S := nq_tr (kq_Row_clear hS_1) nn
  obtain ⟨e_3, he_3, h⟩ := bnd h
  by_cases hc1 : (swT.getD e_3 0) = (17 : Int32)
  · replace h := ift hc1 h
    obtain ⟨v_4, hv_4, h⟩ := bnd h
    obtain ⟨⟨S_5, v_6⟩, hv_6, h⟩ := bnd h
    have hk1 := km_TS_split hv_6
    have hkn := nq_kap nn
    have h2 := km_TS_giveParts_56 h
    omega
  replace h := iff0 hc1 h
  by_cases hc2 : (swT.getD e_3 0) = (18 : Int32)
  · replace h := ift hc2 h
    obtain ⟨v_7, hv_7, h⟩ := bnd h
    obtain ⟨⟨S_8, v_9⟩, hv_9, h⟩ := bnd h
    have hk1 := km_TS_lines hv_9
    have hkn := nq_kap nn
    have h2 := km_TS_giveParts_69 h
    omega
  replace h := iff0 hc2 h
  by_cases hc3 : (swT.getD e_3 0) = (19 : Int32)
  · replace h := ift hc3 h
    obtain ⟨⟨S_10, v_11⟩, hv_11, h⟩ := bnd h
    replace nn : nq S_10 S := nq_tr (kq_TS_piece hv_11) nn
    obtain ⟨rfl, rfl⟩ := prI h
    have hkn := nq_kap nn
    omega
  replace h := iff0 hc3 h
  by_cases hc4 : (swT.getD e_3 0) = (20 : Int32)
  · replace h := ift hc4 h
    obtain ⟨v_12, hv_12, h⟩ := bnd h
    obtain ⟨⟨S_13, v_14⟩, hv_14, h⟩ := bnd h
    have hk1 := km_TS_weave hv_14
    have hkn := nq_kap nn
    have h2 := km_TS_giveParts_87 h
    omega
  replace h := iff0 hc4 h
  obtain ⟨rfl, rfl⟩ := prI h
  have hkn := nq_kap nn
  omega
section S_TS_giveParts
variable {p : Program} {l : Launch} {e : Env} {s : State} {m : MethodId} {args : Array Value} {below : List Frame} {meth : Method} {c : Code} {H : Heap} {locs : List Loc} {ls : Array Slot} {D : va_G} {T : Cy} {ρ ρ0 : Nat → Nat} {S0 : St} {A : Nat → Prop} {Z : Ad}
set_option maxRecDepth 100000 in
set_option maxHeartbeats 4000000 in
theorem w_TS_giveParts_56 {g : Nat} {S : St} {y0 : Int32} (C : CallFix p m c cX9_giveParts 2 s args tb RX9) (hr : meth.sig.returnType = (some .int)) (hk : meth.locks = false) (hcn : Kn Z A s s.heap) (hcw : Kw Z s) {S' : St} {r : Int32} (ha : Ag ρ0 ρ) (hm : kap S0 ≤ kap S) (w : Wn Yc D T ρ S A s H locs) (hl : lv_has ls 2 []) (h : m_TS_giveParts_56 g S y0 = some (S', r)) : W p l e (rmK 6 151 (kap S' - kap S0)) s m args below meth c H locs (kap S - kap S0) (2 * (kap S - kap S0)) (MQ below (QiM D T ρ0 A S' r) args s (kap S' - kap S0) (2 * (kap S' - kap S0)) A) (F0 m 56 ls [.int y0]) := by
  have hT := km_TS_giveParts_56 h
  unfold m_TS_giveParts_56 at h
  have nn : nq S S := nq_rf
  obtain ⟨rfl, rfl⟩ := prI h
  exact x_iretM C w ha hr hk dX9_giveParts_56 (by have := nq_kap nn; omega) (by have := nq_kap nn; omega)
set_option maxRecDepth 100000 in
set_option maxHeartbeats 4000000 in
theorem w_TS_giveParts_69 {g : Nat} {S : St} {y0 : Int32} (C : CallFix p m c cX9_giveParts 2 s args tb RX9) (hr : meth.sig.returnType = (some .int)) (hk : meth.locks = false) (hcn : Kn Z A s s.heap) (hcw : Kw Z s) {S' : St} {r : Int32} (ha : Ag ρ0 ρ) (hm : kap S0 ≤ kap S) (w : Wn Yc D T ρ S A s H locs) (hl : lv_has ls 2 []) (h : m_TS_giveParts_69 g S y0 = some (S', r)) : W p l e (rmK 6 151 (kap S' - kap S0)) s m args below meth c H locs (kap S - kap S0) (2 * (kap S - kap S0)) (MQ below (QiM D T ρ0 A S' r) args s (kap S' - kap S0) (2 * (kap S' - kap S0)) A) (F0 m 69 ls [.int y0]) := by
  have hT := km_TS_giveParts_69 h
  unfold m_TS_giveParts_69 at h
  have nn : nq S S := nq_rf
  obtain ⟨rfl, rfl⟩ := prI h
  exact x_iretM C w ha hr hk dX9_giveParts_69 (by have := nq_kap nn; omega) (by have := nq_kap nn; omega)
set_option maxRecDepth 100000 in
set_option maxHeartbeats 4000000 in
theorem w_TS_giveParts_87 {g : Nat} {S : St} {y0 : Int32} (C : CallFix p m c cX9_giveParts 2 s args tb RX9) (hr : meth.sig.returnType = (some .int)) (hk : meth.locks = false) (hcn : Kn Z A s s.heap) (hcw : Kw Z s) {S' : St} {r : Int32} (ha : Ag ρ0 ρ) (hm : kap S0 ≤ kap S) (w : Wn Yc D T ρ S A s H locs) (hl : lv_has ls 2 []) (h : m_TS_giveParts_87 g S y0 = some (S', r)) : W p l e (rmK 6 151 (kap S' - kap S0)) s m args below meth c H locs (kap S - kap S0) (2 * (kap S - kap S0)) (MQ below (QiM D T ρ0 A S' r) args s (kap S' - kap S0) (2 * (kap S' - kap S0)) A) (F0 m 87 ls [.int y0]) := by
  have hT := km_TS_giveParts_87 h
  unfold m_TS_giveParts_87 at h
  have nn : nq S S := nq_rf
  obtain ⟨rfl, rfl⟩ := prI h
  exact x_iretM C w ha hr hk dX9_giveParts_87 (by have := nq_kap nn; omega) (by have := nq_kap nn; omega)
set_option maxRecDepth 100000 in
set_option maxHeartbeats 4000000 in
theorem w_TS_giveParts_0 {g : Nat} {S : St} {x1 : Nat} (C : CallFix p m c cX9_giveParts 2 s args tb RX9) (hr : meth.sig.returnType = (some .int)) (hk : meth.locks = false) (hcn : Kn Z A s s.heap) (hcw : Kw Z s) {S' : St} {r : Int32} (ha : Ag ρ0 ρ) (hm : kap S0 ≤ kap S) (w : Wn Yc D T ρ S A s H locs) (hl : lv_has ls 2 [(0, .ref (ρ 7)), (1, .ref (Z.1 x1))]) (ho_x1 : x1 < 56) (h : m_TS_giveParts g S x1 = some (S', r)) : W p l e (rmK 6 151 (kap S' - kap S0)) s m args below meth c H locs (kap S - kap S0) (2 * (kap S - kap S0)) (MQ below (QiM D T ρ0 A S' r) args s (kap S' - kap S0) (2 * (kap S' - kap S0)) A) (F0 m 0 ls []) := by
  have hT := km_TS_giveParts h
  unfold m_TS_giveParts at h
  have nn : nq S S := nq_rf
  refine lv_aload_n C.1 C.2.1 dX9_giveParts_0 rfl (lv_at hl 0 rfl) ?_
  refine x_getC C w 23 fX9_37 obC7 rfl dX9_giveParts_1 ?_
  obtain ⟨S_1, hS_1, h⟩ := bnd h
  replace nn : nq S_1 S := nq_tr (kq_Row_clear hS_1) nn
  refine x_callVv (q := (RX6, TX6, 4)) (As := []) (rest := []) C w (k_Row_clear l D T ρ g H.size S obC23 hS_1) vX9_46 (hRK (by decide) (by decide)) obC23 (by decide) rfl rfl rfl hl.1 (Nat.le_of_ble_eq_true rfl) (hcK hT) dX9_giveParts_4 (fun H locs w => ?_)
  refine x_swm C w hcn gkX9_49 dX9_giveParts_7 ?_
  refine lv_aload_n C.1 C.2.1 dX9_giveParts_10 rfl (lv_at hl 1 rfl) ?_
  refine x_ord (rest := [.ref Z.2.2.1]) ho_x1 C w hcn hcw or_9 (hRK (by decide) (by decide)) hl.1 (Nat.le_of_ble_eq_true rfl) (hcK hT) dX9_giveParts_11 (fun ρ_2 H locs hag w => ?_)
  replace ha := ha.trans hag
  rw [← hag 7 (by decide)] at hl
  obtain ⟨e_3, he_3, h⟩ := bnd h
  refine x_swl C w hcn he_3 dX9_giveParts_14 ?_
  by_cases hz15_0 : (swT.getD e_3 0) = (17 : Int32)
  · replace h := ift hz15_0 h
    refine lv_tableIn (off := 29) (tgt := 44) C.1 C.2.1 dX9_giveParts_15 (by rw [hz15_0]; decide) (by rw [hz15_0]; decide) (by rw [hz15_0]; decide +kernel) (by decide) ?_
    refine lv_aload_n C.1 C.2.1 dX9_giveParts_44 rfl (lv_at hl 0 rfl) ?_
    refine lv_aload_n C.1 C.2.1 dX9_giveParts_45 rfl (lv_at hl 0 rfl) ?_
    refine x_getC C w 4 fX9_23 obC7 rfl dX9_giveParts_46 ?_
    refine lv_iconst (v := 0) C.1 C.2.1 dX9_giveParts_49 (by decide) ?_
    obtain ⟨v_4, hv_4, h⟩ := bnd h
    refine x_callVi (q := (RX1, TX1, 12)) (As := [.int (0 : Int32)]) (rest := [.ref (ρ_2 7)]) C w (k_Bn_textAt l D T ρ_2 g H.size S_1 hv_4) vX9_42 (hRK (by decide) (by decide)) obC4 (by decide) rfl rfl rfl hl.1 (Nat.le_of_ble_eq_true rfl) (hcK hT) dX9_giveParts_50 (fun H locs w => ?_)
    obtain ⟨⟨S_5, v_6⟩, hv_6, h⟩ := bnd h
    have hkn := nq_kap nn
    have hk1 := km_TS_split hv_6
    have hT2 := km_TS_giveParts_56 h
    refine x_callViM (q := (RX9, TX9, 6)) (As := [.int v_4]) (rest := []) C w (k_TS_split l D T ρ_2 g H.size S_1 hv_6) vX9_127 (hRK (by decide) (by decide)) obC7 (by decide) rfl rfl rfl hl.1 (Nat.le_of_ble_eq_true rfl) (hcM hm hkn hk1 hT2) dX9_giveParts_53 (fun ρ1 H locs hag w => ?_)
    replace ha := ha.trans hag
    rw [← hag 7 (by decide)] at hl
    refine W.widen (k := kap S_5 - kap S0) (n := 2 * (kap S_5 - kap S0)) (by omega) (by omega) ?_
    exact w_TS_giveParts_56 C hr hk hcn hcw ha (by omega) w (lv_sub hl [] rfl) h
  replace h := iff0 hz15_0 h
  by_cases hz15_1 : (swT.getD e_3 0) = (18 : Int32)
  · replace h := ift hz15_1 h
    refine lv_tableIn (off := 42) (tgt := 57) C.1 C.2.1 dX9_giveParts_15 (by rw [hz15_1]; decide) (by rw [hz15_1]; decide) (by rw [hz15_1]; decide +kernel) (by decide) ?_
    refine lv_aload_n C.1 C.2.1 dX9_giveParts_57 rfl (lv_at hl 0 rfl) ?_
    refine lv_aload_n C.1 C.2.1 dX9_giveParts_58 rfl (lv_at hl 0 rfl) ?_
    refine x_getC C w 4 fX9_23 obC7 rfl dX9_giveParts_59 ?_
    refine lv_iconst (v := 0) C.1 C.2.1 dX9_giveParts_62 (by decide) ?_
    obtain ⟨v_7, hv_7, h⟩ := bnd h
    refine x_callVi (q := (RX1, TX1, 12)) (As := [.int (0 : Int32)]) (rest := [.ref (ρ_2 7)]) C w (k_Bn_textAt l D T ρ_2 g H.size S_1 hv_7) vX9_42 (hRK (by decide) (by decide)) obC4 (by decide) rfl rfl rfl hl.1 (Nat.le_of_ble_eq_true rfl) (hcK hT) dX9_giveParts_63 (fun H locs w => ?_)
    obtain ⟨⟨S_8, v_9⟩, hv_9, h⟩ := bnd h
    have hkn := nq_kap nn
    have hk1 := km_TS_lines hv_9
    have hT2 := km_TS_giveParts_69 h
    refine x_callViM (q := (RX9, TX9, 6)) (As := [.int v_7]) (rest := []) C w (k_TS_lines l D T ρ_2 g H.size S_1 hv_9) vX9_130 (hRK (by decide) (by decide)) obC7 (by decide) rfl rfl rfl hl.1 (Nat.le_of_ble_eq_true rfl) (hcM hm hkn hk1 hT2) dX9_giveParts_66 (fun ρ1 H locs hag w => ?_)
    replace ha := ha.trans hag
    rw [← hag 7 (by decide)] at hl
    refine W.widen (k := kap S_8 - kap S0) (n := 2 * (kap S_8 - kap S0)) (by omega) (by omega) ?_
    exact w_TS_giveParts_69 C hr hk hcn hcw ha (by omega) w (lv_sub hl [] rfl) h
  replace h := iff0 hz15_1 h
  by_cases hz15_2 : (swT.getD e_3 0) = (19 : Int32)
  · replace h := ift hz15_2 h
    refine lv_tableIn (off := 55) (tgt := 70) C.1 C.2.1 dX9_giveParts_15 (by rw [hz15_2]; decide) (by rw [hz15_2]; decide) (by rw [hz15_2]; decide +kernel) (by decide) ?_
    refine lv_aload_n C.1 C.2.1 dX9_giveParts_70 rfl (lv_at hl 0 rfl) ?_
    obtain ⟨⟨S_10, v_11⟩, hv_11, h⟩ := bnd h
    replace nn : nq S_10 S := nq_tr (kq_TS_piece hv_11) nn
    refine x_callVi (q := (RX9, TX9, 6)) (As := []) (rest := []) C w (k_TS_piece l D T ρ_2 g H.size S_1 hv_11) vX9_133 (hRK (by decide) (by decide)) obC7 (by decide) rfl rfl rfl hl.1 (Nat.le_of_ble_eq_true rfl) (hcK hT) dX9_giveParts_71 (fun H locs w => ?_)
    obtain ⟨rfl, rfl⟩ := prI h
    exact x_iretM C w ha hr hk dX9_giveParts_74 (by have := nq_kap nn; omega) (by have := nq_kap nn; omega)
  replace h := iff0 hz15_2 h
  by_cases hz15_3 : (swT.getD e_3 0) = (20 : Int32)
  · replace h := ift hz15_3 h
    refine lv_tableIn (off := 60) (tgt := 75) C.1 C.2.1 dX9_giveParts_15 (by rw [hz15_3]; decide) (by rw [hz15_3]; decide) (by rw [hz15_3]; decide +kernel) (by decide) ?_
    refine lv_aload_n C.1 C.2.1 dX9_giveParts_75 rfl (lv_at hl 0 rfl) ?_
    refine lv_aload_n C.1 C.2.1 dX9_giveParts_76 rfl (lv_at hl 0 rfl) ?_
    refine x_getC C w 4 fX9_23 obC7 rfl dX9_giveParts_77 ?_
    refine lv_iconst (v := 1) C.1 C.2.1 dX9_giveParts_80 (by decide) ?_
    obtain ⟨v_12, hv_12, h⟩ := bnd h
    refine x_callVi (q := (RX1, TX1, 12)) (As := [.int (1 : Int32)]) (rest := [.ref (ρ_2 7)]) C w (k_Bn_textAt l D T ρ_2 g H.size S_1 hv_12) vX9_42 (hRK (by decide) (by decide)) obC4 (by decide) rfl rfl rfl hl.1 (Nat.le_of_ble_eq_true rfl) (hcK hT) dX9_giveParts_81 (fun H locs w => ?_)
    obtain ⟨⟨S_13, v_14⟩, hv_14, h⟩ := bnd h
    have hkn := nq_kap nn
    have hk1 := km_TS_weave hv_14
    have hT2 := km_TS_giveParts_87 h
    refine x_callViM (q := (RX9, TX9, 6)) (As := [.int v_12]) (rest := []) C w (k_TS_weave l D T ρ_2 g H.size S_1 hv_14) vX9_136 (hRK (by decide) (by decide)) obC7 (by decide) rfl rfl rfl hl.1 (Nat.le_of_ble_eq_true rfl) (hcM hm hkn hk1 hT2) dX9_giveParts_84 (fun ρ1 H locs hag w => ?_)
    replace ha := ha.trans hag
    rw [← hag 7 (by decide)] at hl
    refine W.widen (k := kap S_13 - kap S0) (n := 2 * (kap S_13 - kap S0)) (by omega) (by omega) ?_
    exact w_TS_giveParts_87 C hr hk hcn hcw ha (by omega) w (lv_sub hl [] rfl) h
  replace h := iff0 hz15_3 h
  refine lv_tableOut (tgt := 88) C.1 C.2.1 dX9_giveParts_15 (by have g0 := i_ne (v := (17 : Int32)) (k := 17) (by decide) hz15_0; have g1 := i_ne (v := (18 : Int32)) (k := 18) (by decide) hz15_1; have g2 := i_ne (v := (19 : Int32)) (k := 19) (by decide) hz15_2; have g3 := i_ne (v := (20 : Int32)) (k := 20) (by decide) hz15_3; omega) (by decide) ?_
  refine lv_iconst (v := 0) C.1 C.2.1 dX9_giveParts_88 (by decide) ?_
  obtain ⟨rfl, rfl⟩ := prI h
  exact x_iretM C w ha hr hk dX9_giveParts_89 (by have := nq_kap nn; omega) (by have := nq_kap nn; omega)
end S_TS_giveParts
set_option maxRecDepth 100000 in
theorem k_TS_giveParts (l : Launch) (Z : Ad) (D : va_G) (T : Cy) (ρ : Nat → Nat) (g sz : Nat) (S : St) {x1 : Nat} (ho_x1 : x1 < 56) {S' : St} {r : Int32} (h : m_TS_giveParts g S x1 = some (S', r)) : MiC l Z D T ρ yX9_giveParts cX9_giveParts 2 (some .int) 6 151 S S' r [.ref (ρ 7), .ref (Z.1 x1)] sz :=
  x_inC (by decide) (Nat.le_of_ble_eq_true rfl) (fun p e s m below meth c ls C hr hk hcn hcw w hl => W.widen (Nat.zero_le _) (Nat.zero_le _) (w_TS_giveParts_0 C hr hk hcn hcw Ag.rf (Nat.le_refl _) w hl ho_x1 h))

theorem dX7_perform_0 : decode cX7_perform 0 = .ok (.aload_n 0, 1) := by decide +kernel
theorem dX7_perform_1 : decode cX7_perform 1 = .ok (.aload_n 1, 1) := by decide +kernel
theorem dX7_perform_2 : decode cX7_perform 2 = .ok (.invokevirtual 72, 3) := by decide +kernel
theorem dX7_perform_5 : decode cX7_perform 5 = .ok (.iconst 0, 1) := by decide +kernel
theorem dX7_perform_6 : decode cX7_perform 6 = .ok (.istore_n 2, 1) := by decide +kernel
theorem dX7_perform_7 : decode cX7_perform 7 = .ok (.iconst 0, 1) := by decide +kernel
theorem dX7_perform_8 : decode cX7_perform 8 = .ok (.istore_n 3, 1) := by decide +kernel
theorem dX7_perform_9 : decode cX7_perform 9 = .ok (.iload_n 3, 1) := by decide +kernel
theorem dX7_perform_10 : decode cX7_perform 10 = .ok (.bipush 60, 2) := by decide +kernel
theorem dX7_perform_12 : decode cX7_perform 12 = .ok (.if_icmp .ge 269, 3) := by decide +kernel
theorem dX7_perform_15 : decode cX7_perform 15 = .ok (.iload_n 2, 1) := by decide +kernel
theorem dX7_perform_16 : decode cX7_perform 16 = .ok (.aload_n 1, 1) := by decide +kernel
theorem dX7_perform_17 : decode cX7_perform 17 = .ok (.getfield 73, 3) := by decide +kernel
theorem dX7_perform_20 : decode cX7_perform 20 = .ok (.if_icmp .ge 261, 3) := by decide +kernel
theorem dX7_perform_23 : decode cX7_perform 23 = .ok (.aload_n 0, 1) := by decide +kernel
theorem dX7_perform_24 : decode cX7_perform 24 = .ok (.iload_n 2, 1) := by decide +kernel
theorem dX7_perform_25 : decode cX7_perform 25 = .ok (.invokevirtual 79, 3) := by decide +kernel
theorem dX7_perform_28 : decode cX7_perform 28 = .ok (.aload_n 0, 1) := by decide +kernel
theorem dX7_perform_29 : decode cX7_perform 29 = .ok (.getfield 30, 3) := by decide +kernel
theorem dX7_perform_32 : decode cX7_perform 32 = .ok (.iload_n 2, 1) := by decide +kernel
theorem dX7_perform_33 : decode cX7_perform 33 = .ok (.invokevirtual 82, 3) := by decide +kernel
theorem dX7_perform_36 : decode cX7_perform 36 = .ok (.aload_n 1, 1) := by decide +kernel
theorem dX7_perform_37 : decode cX7_perform 37 = .ok (.iload_n 2, 1) := by decide +kernel
theorem dX7_perform_38 : decode cX7_perform 38 = .ok (.invokevirtual 85, 3) := by decide +kernel
theorem dX7_perform_41 : decode cX7_perform 41 = .ok (.astore 4, 2) := by decide +kernel
theorem dX7_perform_43 : decode cX7_perform 43 = .ok (.iconst 0, 1) := by decide +kernel
theorem dX7_perform_44 : decode cX7_perform 44 = .ok (.istore 5, 2) := by decide +kernel
theorem dX7_perform_46 : decode cX7_perform 46 = .ok (.aload_n 0, 1) := by decide +kernel
theorem dX7_perform_47 : decode cX7_perform 47 = .ok (.getfield 30, 3) := by decide +kernel
theorem dX7_perform_50 : decode cX7_perform 50 = .ok (.aload 4, 2) := by decide +kernel
theorem dX7_perform_52 : decode cX7_perform 52 = .ok (.invokevirtual 89, 3) := by decide +kernel
theorem dX7_perform_55 : decode cX7_perform 55 = .ok (.ifCond .eq 9, 3) := by decide +kernel
theorem dX7_perform_58 : decode cX7_perform 58 = .ok (.iconst 4, 1) := by decide +kernel
theorem dX7_perform_59 : decode cX7_perform 59 = .ok (.istore 5, 2) := by decide +kernel
theorem dX7_perform_61 : decode cX7_perform 61 = .ok (.goto 111, 3) := by decide +kernel
theorem dX7_perform_64 : decode cX7_perform 64 = .ok (.aload 4, 2) := by decide +kernel
theorem dX7_perform_66 : decode cX7_perform 66 = .ok (.getfield 93, 3) := by decide +kernel
theorem dX7_perform_69 : decode cX7_perform 69 = .ok (.ifCond .ne 17, 3) := by decide +kernel
theorem dX7_perform_72 : decode cX7_perform 72 = .ok (.aload_n 0, 1) := by decide +kernel
theorem dX7_perform_73 : decode cX7_perform 73 = .ok (.getfield 39, 3) := by decide +kernel
theorem dX7_perform_76 : decode cX7_perform 76 = .ok (.aload 4, 2) := by decide +kernel
theorem dX7_perform_78 : decode cX7_perform 78 = .ok (.invokevirtual 98, 3) := by decide +kernel
theorem dX7_perform_81 : decode cX7_perform 81 = .ok (.istore 5, 2) := by decide +kernel
theorem dX7_perform_83 : decode cX7_perform 83 = .ok (.goto 89, 3) := by decide +kernel
theorem dX7_perform_86 : decode cX7_perform 86 = .ok (.aload 4, 2) := by decide +kernel
theorem dX7_perform_88 : decode cX7_perform 88 = .ok (.getfield 93, 3) := by decide +kernel
theorem dX7_perform_91 : decode cX7_perform 91 = .ok (.iconst 3, 1) := by decide +kernel
theorem dX7_perform_92 : decode cX7_perform 92 = .ok (.if_icmp .ne 17, 3) := by decide +kernel
theorem dX7_perform_95 : decode cX7_perform 95 = .ok (.aload_n 0, 1) := by decide +kernel
theorem dX7_perform_96 : decode cX7_perform 96 = .ok (.getfield 39, 3) := by decide +kernel
theorem dX7_perform_99 : decode cX7_perform 99 = .ok (.aload 4, 2) := by decide +kernel
theorem dX7_perform_101 : decode cX7_perform 101 = .ok (.invokevirtual 102, 3) := by decide +kernel
theorem dX7_perform_104 : decode cX7_perform 104 = .ok (.istore 5, 2) := by decide +kernel
theorem dX7_perform_106 : decode cX7_perform 106 = .ok (.goto 66, 3) := by decide +kernel
theorem dX7_perform_109 : decode cX7_perform 109 = .ok (.aload 4, 2) := by decide +kernel
theorem dX7_perform_111 : decode cX7_perform 111 = .ok (.getfield 93, 3) := by decide +kernel
theorem dX7_perform_114 : decode cX7_perform 114 = .ok (.iconst 1, 1) := by decide +kernel
theorem dX7_perform_115 : decode cX7_perform 115 = .ok (.if_icmp .ne 17, 3) := by decide +kernel
theorem dX7_perform_118 : decode cX7_perform 118 = .ok (.aload_n 0, 1) := by decide +kernel
theorem dX7_perform_119 : decode cX7_perform 119 = .ok (.getfield 46, 3) := by decide +kernel
theorem dX7_perform_122 : decode cX7_perform 122 = .ok (.aload 4, 2) := by decide +kernel
theorem dX7_perform_124 : decode cX7_perform 124 = .ok (.invokevirtual 105, 3) := by decide +kernel
theorem dX7_perform_127 : decode cX7_perform 127 = .ok (.istore 5, 2) := by decide +kernel
theorem dX7_perform_129 : decode cX7_perform 129 = .ok (.goto 43, 3) := by decide +kernel
theorem dX7_perform_132 : decode cX7_perform 132 = .ok (.aload 4, 2) := by decide +kernel
theorem dX7_perform_134 : decode cX7_perform 134 = .ok (.getfield 93, 3) := by decide +kernel
theorem dX7_perform_137 : decode cX7_perform 137 = .ok (.iconst 2, 1) := by decide +kernel
theorem dX7_perform_138 : decode cX7_perform 138 = .ok (.if_icmp .ne 17, 3) := by decide +kernel
theorem dX7_perform_141 : decode cX7_perform 141 = .ok (.aload_n 0, 1) := by decide +kernel
theorem dX7_perform_142 : decode cX7_perform 142 = .ok (.getfield 53, 3) := by decide +kernel
theorem dX7_perform_145 : decode cX7_perform 145 = .ok (.aload 4, 2) := by decide +kernel
theorem dX7_perform_147 : decode cX7_perform 147 = .ok (.invokevirtual 106, 3) := by decide +kernel
theorem dX7_perform_150 : decode cX7_perform 150 = .ok (.istore 5, 2) := by decide +kernel
theorem dX7_perform_152 : decode cX7_perform 152 = .ok (.goto 20, 3) := by decide +kernel
theorem dX7_perform_155 : decode cX7_perform 155 = .ok (.aload 4, 2) := by decide +kernel
theorem dX7_perform_157 : decode cX7_perform 157 = .ok (.getstatic 109, 3) := by decide +kernel
theorem dX7_perform_160 : decode cX7_perform 160 = .ok (.if_acmp .ne 12, 3) := by decide +kernel
theorem dX7_perform_163 : decode cX7_perform 163 = .ok (.aload_n 0, 1) := by decide +kernel
theorem dX7_perform_164 : decode cX7_perform 164 = .ok (.getfield 30, 3) := by decide +kernel
theorem dX7_perform_167 : decode cX7_perform 167 = .ok (.invokevirtual 113, 3) := by decide +kernel
theorem dX7_perform_170 : decode cX7_perform 170 = .ok (.istore 5, 2) := by decide +kernel
theorem dX7_perform_172 : decode cX7_perform 172 = .ok (.iload 5, 2) := by decide +kernel
theorem dX7_perform_174 : decode cX7_perform 174 = .ok (.ifCond .ne 40, 3) := by decide +kernel
theorem dX7_perform_177 : decode cX7_perform 177 = .ok (.aload_n 0, 1) := by decide +kernel
theorem dX7_perform_178 : decode cX7_perform 178 = .ok (.getfield 9, 3) := by decide +kernel
theorem dX7_perform_181 : decode cX7_perform 181 = .ok (.iconst 2, 1) := by decide +kernel
theorem dX7_perform_182 : decode cX7_perform 182 = .ok (.dup2, 1) := by decide +kernel
theorem dX7_perform_183 : decode cX7_perform 183 = .ok (.iaload, 1) := by decide +kernel
theorem dX7_perform_184 : decode cX7_perform 184 = .ok (.iconst 1, 1) := by decide +kernel
theorem dX7_perform_185 : decode cX7_perform 185 = .ok (.iadd, 1) := by decide +kernel
theorem dX7_perform_186 : decode cX7_perform 186 = .ok (.iastore, 1) := by decide +kernel
theorem dX7_perform_187 : decode cX7_perform 187 = .ok (.aload_n 0, 1) := by decide +kernel
theorem dX7_perform_188 : decode cX7_perform 188 = .ok (.getfield 15, 3) := by decide +kernel
theorem dX7_perform_191 : decode cX7_perform 191 = .ok (.aload_n 1, 1) := by decide +kernel
theorem dX7_perform_192 : decode cX7_perform 192 = .ok (.getfield 117, 3) := by decide +kernel
theorem dX7_perform_195 : decode cX7_perform 195 = .ok (.iload_n 2, 1) := by decide +kernel
theorem dX7_perform_196 : decode cX7_perform 196 = .ok (.iaload, 1) := by decide +kernel
theorem dX7_perform_197 : decode cX7_perform 197 = .ok (.dup2, 1) := by decide +kernel
theorem dX7_perform_198 : decode cX7_perform 198 = .ok (.iaload, 1) := by decide +kernel
theorem dX7_perform_199 : decode cX7_perform 199 = .ok (.iconst 1, 1) := by decide +kernel
theorem dX7_perform_200 : decode cX7_perform 200 = .ok (.iadd, 1) := by decide +kernel
theorem dX7_perform_201 : decode cX7_perform 201 = .ok (.iastore, 1) := by decide +kernel
theorem dX7_perform_202 : decode cX7_perform 202 = .ok (.aload_n 0, 1) := by decide +kernel
theorem dX7_perform_203 : decode cX7_perform 203 = .ok (.aload_n 1, 1) := by decide +kernel
theorem dX7_perform_204 : decode cX7_perform 204 = .ok (.iload_n 2, 1) := by decide +kernel
theorem dX7_perform_205 : decode cX7_perform 205 = .ok (.aload 4, 2) := by decide +kernel
theorem dX7_perform_207 : decode cX7_perform 207 = .ok (.invokevirtual 120, 3) := by decide +kernel
theorem dX7_perform_210 : decode cX7_perform 210 = .ok (.istore_n 2, 1) := by decide +kernel
theorem dX7_perform_211 : decode cX7_perform 211 = .ok (.goto 64, 3) := by decide +kernel
theorem dX7_perform_214 : decode cX7_perform 214 = .ok (.aload_n 0, 1) := by decide +kernel
theorem dX7_perform_215 : decode cX7_perform 215 = .ok (.getfield 9, 3) := by decide +kernel
theorem dX7_perform_218 : decode cX7_perform 218 = .ok (.iconst 3, 1) := by decide +kernel
theorem dX7_perform_219 : decode cX7_perform 219 = .ok (.dup2, 1) := by decide +kernel
theorem dX7_perform_220 : decode cX7_perform 220 = .ok (.iaload, 1) := by decide +kernel
theorem dX7_perform_221 : decode cX7_perform 221 = .ok (.iconst 1, 1) := by decide +kernel
theorem dX7_perform_222 : decode cX7_perform 222 = .ok (.iadd, 1) := by decide +kernel
theorem dX7_perform_223 : decode cX7_perform 223 = .ok (.iastore, 1) := by decide +kernel
theorem dX7_perform_224 : decode cX7_perform 224 = .ok (.aload_n 0, 1) := by decide +kernel
theorem dX7_perform_225 : decode cX7_perform 225 = .ok (.getfield 23, 3) := by decide +kernel
theorem dX7_perform_228 : decode cX7_perform 228 = .ok (.getfield 124, 3) := by decide +kernel
theorem dX7_perform_231 : decode cX7_perform 231 = .ok (.ifCond .ne 21, 3) := by decide +kernel
theorem dX7_perform_234 : decode cX7_perform 234 = .ok (.aload_n 0, 1) := by decide +kernel
theorem dX7_perform_235 : decode cX7_perform 235 = .ok (.getfield 9, 3) := by decide +kernel
theorem dX7_perform_238 : decode cX7_perform 238 = .ok (.iconst 0, 1) := by decide +kernel
theorem dX7_perform_239 : decode cX7_perform 239 = .ok (.iload_n 2, 1) := by decide +kernel
theorem dX7_perform_240 : decode cX7_perform 240 = .ok (.iastore, 1) := by decide +kernel
theorem dX7_perform_241 : decode cX7_perform 241 = .ok (.aload_n 0, 1) := by decide +kernel
theorem dX7_perform_242 : decode cX7_perform 242 = .ok (.getfield 9, 3) := by decide +kernel
theorem dX7_perform_245 : decode cX7_perform 245 = .ok (.iconst 1, 1) := by decide +kernel
theorem dX7_perform_246 : decode cX7_perform 246 = .ok (.iload 5, 2) := by decide +kernel
theorem dX7_perform_248 : decode cX7_perform 248 = .ok (.iastore, 1) := by decide +kernel
theorem dX7_perform_249 : decode cX7_perform 249 = .ok (.iload 5, 2) := by decide +kernel
theorem dX7_perform_251 : decode cX7_perform 251 = .ok (.ireturn, 1) := by decide +kernel
theorem dX7_perform_252 : decode cX7_perform 252 = .ok (.aload_n 0, 1) := by decide +kernel
theorem dX7_perform_253 : decode cX7_perform 253 = .ok (.getfield 23, 3) := by decide +kernel
theorem dX7_perform_256 : decode cX7_perform 256 = .ok (.aload_n 0, 1) := by decide +kernel
theorem dX7_perform_257 : decode cX7_perform 257 = .ok (.getfield 23, 3) := by decide +kernel
theorem dX7_perform_260 : decode cX7_perform 260 = .ok (.getfield 124, 3) := by decide +kernel
theorem dX7_perform_263 : decode cX7_perform 263 = .ok (.iconst 1, 1) := by decide +kernel
theorem dX7_perform_264 : decode cX7_perform 264 = .ok (.isub, 1) := by decide +kernel
theorem dX7_perform_265 : decode cX7_perform 265 = .ok (.invokevirtual 127, 3) := by decide +kernel
theorem dX7_perform_268 : decode cX7_perform 268 = .ok (.istore_n 2, 1) := by decide +kernel
theorem dX7_perform_269 : decode cX7_perform 269 = .ok (.aload_n 0, 1) := by decide +kernel
theorem dX7_perform_270 : decode cX7_perform 270 = .ok (.iload 5, 2) := by decide +kernel
theorem dX7_perform_272 : decode cX7_perform 272 = .ok (.invokevirtual 131, 3) := by decide +kernel
theorem dX7_perform_275 : decode cX7_perform 275 = .ok (.iinc 3 1, 3) := by decide +kernel
theorem dX7_perform_278 : decode cX7_perform 278 = .ok (.goto (-269), 3) := by decide +kernel
theorem dX7_perform_281 : decode cX7_perform 281 = .ok (.aload_n 0, 1) := by decide +kernel
theorem dX7_perform_282 : decode cX7_perform 282 = .ok (.iload_n 2, 1) := by decide +kernel
theorem dX7_perform_283 : decode cX7_perform 283 = .ok (.invokevirtual 79, 3) := by decide +kernel
theorem dX7_perform_286 : decode cX7_perform 286 = .ok (.iconst 0, 1) := by decide +kernel
theorem dX7_perform_287 : decode cX7_perform 287 = .ok (.ireturn, 1) := by decide +kernel
def m_Rn_perform_281 (g : Nat) (S : St) (x2 : Int32) : Option (St × Int32) :=
(m_Rn_leaveCatches g S x2).bind fun S_2 =>
some (S_2, (0 : Int32))
def m_Rn_perform_210 (g : Nat) (k9 : St → Nat → Int32 → Int32 → Option (St × Int32)) (S : St) (x1 : Nat) (x3 : Int32) (y0 : Int32) : Option (St × Int32) :=
lt (x3 + (1 : Int32)) fun x3_22 =>
k9 S x1 y0 x3_22
def m_Rn_perform_172 (g : Nat) (k9 : St → Nat → Int32 → Int32 → Option (St × Int32)) (S : St) (x1 : Nat) (x2 : Int32) (x3 : Int32) (x4 : Nat) (x5 : Int32) : Option (St × Int32) :=
if x5 = 0 then (
  (aI S 79 (2 : Int32)).bind fun v_15 =>
  (tI S 79 (2 : Int32) (v_15 + (1 : Int32))).bind fun S_16 =>
  (aI S_16 (50 + 8 * x1 + 0) x2).bind fun v_17 =>
  (aI S_16 80 v_17).bind fun v_18 =>
  (tI S_16 80 v_17 (v_18 + (1 : Int32))).bind fun S_19 =>
  (m_Rn_nextBehind g S_19 x1 x2 x4).bind fun (S_20, v_21) =>
  m_Rn_perform_210 g k9 S_20 x1 x3 v_21
) else (
  (aI S 79 (3 : Int32)).bind fun v_8 =>
  (tI S 79 (3 : Int32) (v_8 + (1 : Int32))).bind fun S_9 =>
  if (gI S_9 32 2) = 0 then (
    (tI S_9 79 (0 : Int32) x2).bind fun S_13 =>
    (tI S_13 79 (1 : Int32) x5).bind fun S_14 =>
    some (S_14, x5)
  ) else (
    (m_Row_at g S_9 32 ((gI S_9 32 2) - (1 : Int32))).bind fun v_10 =>
    (m_Rn_leaveCatch g S_9 x5).bind fun S_11 =>
    lt (x3 + (1 : Int32)) fun x3_12 =>
    k9 S_11 x1 v_10 x3_12
  )
)
def m_Rn_perform_150 (g : Nat) (k9 : St → Nat → Int32 → Int32 → Option (St × Int32)) (S : St) (x1 : Nat) (x2 : Int32) (x3 : Int32) (x4 : Nat) (y0 : Int32) : Option (St × Int32) :=
m_Rn_perform_172 g k9 S x1 x2 x3 x4 y0
def m_Rn_perform_127 (g : Nat) (k9 : St → Nat → Int32 → Int32 → Option (St × Int32)) (S : St) (x1 : Nat) (x2 : Int32) (x3 : Int32) (x4 : Nat) (y0 : Int32) : Option (St × Int32) :=
m_Rn_perform_172 g k9 S x1 x2 x3 x4 y0
def m_Rn_perform_104 (g : Nat) (k9 : St → Nat → Int32 → Int32 → Option (St × Int32)) (S : St) (x1 : Nat) (x2 : Int32) (x3 : Int32) (x4 : Nat) (y0 : Int32) : Option (St × Int32) :=
m_Rn_perform_172 g k9 S x1 x2 x3 x4 y0
def m_Rn_perform_81 (g : Nat) (k9 : St → Nat → Int32 → Int32 → Option (St × Int32)) (S : St) (x1 : Nat) (x2 : Int32) (x3 : Int32) (x4 : Nat) (y0 : Int32) : Option (St × Int32) :=
m_Rn_perform_172 g k9 S x1 x2 x3 x4 y0
def m_Rn_perform_55 (g : Nat) (k9 : St → Nat → Int32 → Int32 → Option (St × Int32)) (S : St) (x1 : Nat) (x2 : Int32) (x3 : Int32) (x4 : Nat) (x5 : Int32) (y0 : Int32) : Option (St × Int32) :=
if y0 = 0 then (
  if (grT.getD x4 0) = 0 then (
    (m_TS_give g S x4).bind fun (S_16, v_17) =>
    m_Rn_perform_81 g k9 S_16 x1 x2 x3 x4 v_17
  ) else (
    if (grT.getD x4 0) = (3 : Int32) then (
      (m_TS_giveParts g S x4).bind fun (S_14, v_15) =>
      m_Rn_perform_104 g k9 S_14 x1 x2 x3 x4 v_15
    ) else (
      if (grT.getD x4 0) = (1 : Int32) then (
        (m_WS_give g S x4).bind fun (S_12, v_13) =>
        m_Rn_perform_127 g k9 S_12 x1 x2 x3 x4 v_13
      ) else (
        if (grT.getD x4 0) = (2 : Int32) then (
          (m_BS_change g S x4).bind fun (S_10, v_11) =>
          m_Rn_perform_150 g k9 S_10 x1 x2 x3 x4 v_11
        ) else (
          if x4 = 55 then (
            (m_Bn_addMark g S).bind fun (S_8, v_9) =>
            m_Rn_perform_172 g k9 S_8 x1 x2 x3 x4 v_9
          ) else (
            m_Rn_perform_172 g k9 S x1 x2 x3 x4 x5
          )
        )
      )
    )
  )
) else (
  m_Rn_perform_172 g k9 S x1 x2 x3 x4 (4 : Int32)
)
def b_Rn_perform_9 (g : Nat) (k9 : St → Nat → Int32 → Int32 → Option (St × Int32)) (S : St) (x1 : Nat) (x2 : Int32) (x3 : Int32) : Option (St × Int32) :=
if (60 : Int32) ≤ x3 then (
  m_Rn_perform_281 g S x2
) else (
  if (gI S x1 8) ≤ x2 then (
    m_Rn_perform_281 g S x2
  ) else (
    (m_Rn_leaveCatches g S x2).bind fun S_2 =>
    (m_Bn_goTo g S_2 x2).bind fun S_3 =>
    (m_Pg_sortOf g S_3 x1 x2).bind fun e_5 =>
    (m_Bn_lacksText g S_3 e_5).bind fun (S_6, v_7) =>
    m_Rn_perform_55 g k9 S_6 x1 x2 x3 e_5 (0 : Int32) v_7
  )
)
def m_Rn_perform_9 (g : Nat) : Nat → St → Nat → Int32 → Int32 → Option (St × Int32)
  | 0, _, _, _, _ => none
  | n + 1, S, x1, x2, x3 => b_Rn_perform_9 g (m_Rn_perform_9 g n) S x1 x2 x3
def m_Rn_perform_5 (g : Nat) (S : St) (x1 : Nat) : Option (St × Int32) :=
m_Rn_perform_9 g g S x1 (0 : Int32) (0 : Int32)
def m_Rn_perform (g : Nat) (S : St) (x1 : Nat) : Option (St × Int32) :=
(m_Rn_begin g S x1).bind fun S_1 =>
m_Rn_perform_5 g S_1 x1
theorem km_Rn_perform_281 {g : Nat} {S : St} {x2 : Int32} {S' : St} {r : Int32} (h : m_Rn_perform_281 g S x2 = some (S', r)) : kap S ≤ kap S' := by
  unfold m_Rn_perform_281 at h
  have nn : nq S S := nq_rf
  obtain ⟨S_2, hS_2, h⟩ := bnd h
  replace nn : nq S_2 S := nq_tr (kq_Rn_leaveCatches hS_2) nn
  obtain ⟨rfl, rfl⟩ := prI h
  have hkn := nq_kap nn
  omega
theorem km_Rn_perform_210 {g : Nat} {S : St} {x1 : Nat} {x3 : Int32} {y0 : Int32} {S' : St} {r : Int32} {k9 : St → Nat → Int32 → Int32 → Option (St × Int32)} (km9 : ∀ (S : St) (x1 : Nat) (x2 : Int32) (x3 : Int32), k9 S x1 x2 x3 = some (S', r) → kap S ≤ kap S') (h : m_Rn_perform_210 g k9 S x1 x3 y0 = some (S', r)) : kap S ≤ kap S' := by
  unfold m_Rn_perform_210 at h
  have nn : nq S S := nq_rf
  obtain ⟨x3_22, ex3_22, h⟩ := lt_e h
  have hkn := nq_kap nn
  have h2 := km9 _ _ _ _ h
  omega
theorem km_Rn_perform_172 {g : Nat} {S : St} {x1 : Nat} {x2 : Int32} {x3 : Int32} {x4 : Nat} {x5 : Int32} {S' : St} {r : Int32} {k9 : St → Nat → Int32 → Int32 → Option (St × Int32)} (km9 : ∀ (S : St) (x1 : Nat) (x2 : Int32) (x3 : Int32), k9 S x1 x2 x3 = some (S', r) → kap S ≤ kap S') (h : m_Rn_perform_172 g k9 S x1 x2 x3 x4 x5 = some (S', r)) : kap S ≤ kap S' := by
  unfold m_Rn_perform_172 at h
  have nn : nq S S := nq_rf
  by_cases hc1 : x5 = 0
  · replace h := ift hc1 h
    obtain ⟨v_15, hv_15, h⟩ := bnd h
    obtain ⟨S_16, hS_16, h⟩ := bnd h
    replace nn : nq S_16 S := nq_tr (nq_tI hS_16) nn
    obtain ⟨v_17, hv_17, h⟩ := bnd h
    obtain ⟨v_18, hv_18, h⟩ := bnd h
    obtain ⟨S_19, hS_19, h⟩ := bnd h
    replace nn : nq S_19 S := nq_tr (nq_tI hS_19) nn
    obtain ⟨⟨S_20, v_21⟩, hv_21, h⟩ := bnd h
    have hk1 := km_Rn_nextBehind hv_21
    have hkn := nq_kap nn
    have h2 := km_Rn_perform_210 km9 h
    omega
  · replace h := iff0 hc1 h
    obtain ⟨v_8, hv_8, h⟩ := bnd h
    obtain ⟨S_9, hS_9, h⟩ := bnd h
    replace nn : nq S_9 S := nq_tr (nq_tI hS_9) nn
    by_cases hc2 : (gI S_9 32 2) = 0
    · replace h := ift hc2 h
      obtain ⟨S_13, hS_13, h⟩ := bnd h
      replace nn : nq S_13 S := nq_tr (nq_tI hS_13) nn
      obtain ⟨S_14, hS_14, h⟩ := bnd h
      replace nn : nq S_14 S := nq_tr (nq_tI hS_14) nn
      obtain ⟨rfl, rfl⟩ := prI h
      have hkn := nq_kap nn
      omega
    · replace h := iff0 hc2 h
      obtain ⟨v_10, hv_10, h⟩ := bnd h
      obtain ⟨S_11, hS_11, h⟩ := bnd h
      replace nn : nq S_11 S := nq_tr (kq_Rn_leaveCatch hS_11) nn
      obtain ⟨x3_12, ex3_12, h⟩ := lt_e h
      have hkn := nq_kap nn
      have h2 := km9 _ _ _ _ h
      omega
theorem km_Rn_perform_150 {g : Nat} {S : St} {x1 : Nat} {x2 : Int32} {x3 : Int32} {x4 : Nat} {y0 : Int32} {S' : St} {r : Int32} {k9 : St → Nat → Int32 → Int32 → Option (St × Int32)} (km9 : ∀ (S : St) (x1 : Nat) (x2 : Int32) (x3 : Int32), k9 S x1 x2 x3 = some (S', r) → kap S ≤ kap S') (h : m_Rn_perform_150 g k9 S x1 x2 x3 x4 y0 = some (S', r)) : kap S ≤ kap S' := by
  unfold m_Rn_perform_150 at h
  have nn : nq S S := nq_rf
  have hkn := nq_kap nn
  have h2 := km_Rn_perform_172 km9 h
  omega
theorem km_Rn_perform_127 {g : Nat} {S : St} {x1 : Nat} {x2 : Int32} {x3 : Int32} {x4 : Nat} {y0 : Int32} {S' : St} {r : Int32} {k9 : St → Nat → Int32 → Int32 → Option (St × Int32)} (km9 : ∀ (S : St) (x1 : Nat) (x2 : Int32) (x3 : Int32), k9 S x1 x2 x3 = some (S', r) → kap S ≤ kap S') (h : m_Rn_perform_127 g k9 S x1 x2 x3 x4 y0 = some (S', r)) : kap S ≤ kap S' := by
  unfold m_Rn_perform_127 at h
  have nn : nq S S := nq_rf
  have hkn := nq_kap nn
  have h2 := km_Rn_perform_172 km9 h
  omega
theorem km_Rn_perform_104 {g : Nat} {S : St} {x1 : Nat} {x2 : Int32} {x3 : Int32} {x4 : Nat} {y0 : Int32} {S' : St} {r : Int32} {k9 : St → Nat → Int32 → Int32 → Option (St × Int32)} (km9 : ∀ (S : St) (x1 : Nat) (x2 : Int32) (x3 : Int32), k9 S x1 x2 x3 = some (S', r) → kap S ≤ kap S') (h : m_Rn_perform_104 g k9 S x1 x2 x3 x4 y0 = some (S', r)) : kap S ≤ kap S' := by
  unfold m_Rn_perform_104 at h
  have nn : nq S S := nq_rf
  have hkn := nq_kap nn
  have h2 := km_Rn_perform_172 km9 h
  omega
theorem km_Rn_perform_81 {g : Nat} {S : St} {x1 : Nat} {x2 : Int32} {x3 : Int32} {x4 : Nat} {y0 : Int32} {S' : St} {r : Int32} {k9 : St → Nat → Int32 → Int32 → Option (St × Int32)} (km9 : ∀ (S : St) (x1 : Nat) (x2 : Int32) (x3 : Int32), k9 S x1 x2 x3 = some (S', r) → kap S ≤ kap S') (h : m_Rn_perform_81 g k9 S x1 x2 x3 x4 y0 = some (S', r)) : kap S ≤ kap S' := by
  unfold m_Rn_perform_81 at h
  have nn : nq S S := nq_rf
  have hkn := nq_kap nn
  have h2 := km_Rn_perform_172 km9 h
  omega
theorem km_Rn_perform_55 {g : Nat} {S : St} {x1 : Nat} {x2 : Int32} {x3 : Int32} {x4 : Nat} {x5 : Int32} {y0 : Int32} {S' : St} {r : Int32} {k9 : St → Nat → Int32 → Int32 → Option (St × Int32)} (km9 : ∀ (S : St) (x1 : Nat) (x2 : Int32) (x3 : Int32), k9 S x1 x2 x3 = some (S', r) → kap S ≤ kap S') (h : m_Rn_perform_55 g k9 S x1 x2 x3 x4 x5 y0 = some (S', r)) : kap S ≤ kap S' := by
  unfold m_Rn_perform_55 at h
  have nn : nq S S := nq_rf
  by_cases hc1 : y0 = 0
  · replace h := ift hc1 h
    by_cases hc2 : (grT.getD x4 0) = 0
    · replace h := ift hc2 h
      obtain ⟨⟨S_16, v_17⟩, hv_17, h⟩ := bnd h
      have hk1 := km_TS_give hv_17
      have hkn := nq_kap nn
      have h2 := km_Rn_perform_81 km9 h
      omega
    · replace h := iff0 hc2 h
      by_cases hc3 : (grT.getD x4 0) = (3 : Int32)
      · replace h := ift hc3 h
        obtain ⟨⟨S_14, v_15⟩, hv_15, h⟩ := bnd h
        have hk1 := km_TS_giveParts hv_15
        have hkn := nq_kap nn
        have h2 := km_Rn_perform_104 km9 h
        omega
      · replace h := iff0 hc3 h
        by_cases hc4 : (grT.getD x4 0) = (1 : Int32)
        · replace h := ift hc4 h
          obtain ⟨⟨S_12, v_13⟩, hv_13, h⟩ := bnd h
          have hk1 := km_WS_give hv_13
          have hkn := nq_kap nn
          have h2 := km_Rn_perform_127 km9 h
          omega
        · replace h := iff0 hc4 h
          by_cases hc5 : (grT.getD x4 0) = (2 : Int32)
          · replace h := ift hc5 h
            obtain ⟨⟨S_10, v_11⟩, hv_11, h⟩ := bnd h
            have hk1 := km_BS_change hv_11
            have hkn := nq_kap nn
            have h2 := km_Rn_perform_150 km9 h
            omega
          · replace h := iff0 hc5 h
            by_cases hc6 : x4 = 55
            · replace h := ift hc6 h
              obtain ⟨⟨S_8, v_9⟩, hv_9, h⟩ := bnd h
              replace nn : nq S_8 S := nq_tr (kq_Bn_addMark hv_9) nn
              have hkn := nq_kap nn
              have h2 := km_Rn_perform_172 km9 h
              omega
            · replace h := iff0 hc6 h
              have hkn := nq_kap nn
              have h2 := km_Rn_perform_172 km9 h
              omega
  · replace h := iff0 hc1 h
    have hkn := nq_kap nn
    have h2 := km_Rn_perform_172 km9 h
    omega
theorem kmb_Rn_perform_9 {g : Nat} {S : St} {x1 : Nat} {x2 : Int32} {x3 : Int32} {S' : St} {r : Int32} {k9 : St → Nat → Int32 → Int32 → Option (St × Int32)} (km9 : ∀ (S : St) (x1 : Nat) (x2 : Int32) (x3 : Int32), k9 S x1 x2 x3 = some (S', r) → kap S ≤ kap S') (h : b_Rn_perform_9 g k9 S x1 x2 x3 = some (S', r)) : kap S ≤ kap S' := by
  unfold b_Rn_perform_9 at h
  have nn : nq S S := nq_rf
  by_cases hc1 : (60 : Int32) ≤ x3
  · replace h := ift hc1 h
    have hkn := nq_kap nn
    have h2 := km_Rn_perform_281 h
    omega
  · replace h := iff0 hc1 h
    by_cases hc2 : (gI S x1 8) ≤ x2
    · replace h := ift hc2 h
      have hkn := nq_kap nn
      have h2 := km_Rn_perform_281 h
      omega
    · replace h := iff0 hc2 h
      obtain ⟨S_2, hS_2, h⟩ := bnd h
      replace nn : nq S_2 S := nq_tr (kq_Rn_leaveCatches hS_2) nn
      obtain ⟨S_3, hS_3, h⟩ := bnd h
      replace nn : nq S_3 S := nq_tr (kq_Bn_goTo hS_3) nn
      obtain ⟨e_5, he_5, h⟩ := bnd h
      obtain ⟨⟨S_6, v_7⟩, hv_7, h⟩ := bnd h
      have hk1 := km_Bn_lacksText hv_7
      have hkn := nq_kap nn
      have h2 := km_Rn_perform_55 km9 h
      omega
theorem km_Rn_perform_9 {g : Nat} {S' : St} {r : Int32} (n : Nat) : ∀ (S : St) (x1 : Nat) (x2 : Int32) (x3 : Int32), m_Rn_perform_9 g n S x1 x2 x3 = some (S', r) → kap S ≤ kap S' := by
  induction n with
  | zero => intro S x1 x2 x3 h; exact absurd h (fun q => by cases q)
  | succ n ih => intro S x1 x2 x3 h; exact kmb_Rn_perform_9 ih h
theorem km_Rn_perform_5 {g : Nat} {S : St} {x1 : Nat} {S' : St} {r : Int32} (h : m_Rn_perform_5 g S x1 = some (S', r)) : kap S ≤ kap S' := by
  unfold m_Rn_perform_5 at h
  have nn : nq S S := nq_rf
  have hkn := nq_kap nn
  have h2 := km_Rn_perform_9 g _ _ _ _ h
  omega
theorem km_Rn_perform {g : Nat} {S : St} {x1 : Nat} {S' : St} {r : Int32} (h : m_Rn_perform g S x1 = some (S', r)) : kap S ≤ kap S' := by
  unfold m_Rn_perform at h
  have nn : nq S S := nq_rf
  obtain ⟨S_1, hS_1, h⟩ := bnd h
  have hk1 := km_Rn_begin hS_1
  have hkn := nq_kap nn
  have h2 := km_Rn_perform_5 h
  omega
section S_Rn_perform
variable {p : Program} {l : Launch} {e : Env} {s : State} {m : MethodId} {args : Array Value} {below : List Frame} {meth : Method} {c : Code} {H : Heap} {locs : List Loc} {ls : Array Slot} {D : va_G} {T : Cy} {ρ ρ0 : Nat → Nat} {S0 : St} {A : Nat → Prop} {Z : Ad}
set_option maxRecDepth 100000 in
set_option maxHeartbeats 4000000 in
theorem w_Rn_perform_281 {g : Nat} {S : St} {x2 : Int32} (C : CallFix p m c cX7_perform 6 s args tb RX7) (hr : meth.sig.returnType = (some .int)) (hk : meth.locks = false) (hcn : Kn Z A s s.heap) (hcw : Kw Z s) {S' : St} {r : Int32} (ha : Ag ρ0 ρ) (hm : kap S0 ≤ kap S) (w : Wn Yc D T ρ S A s H locs) (hl : lv_has ls 6 [(0, .ref (ρ 6)), (2, .int x2)]) (h : m_Rn_perform_281 g S x2 = some (S', r)) : W p l e (rmK 8 179 (kap S' - kap S0)) s m args below meth c H locs (kap S - kap S0) (2 * (kap S - kap S0)) (MQ below (QiM D T ρ0 A S' r) args s (kap S' - kap S0) (2 * (kap S' - kap S0)) A) (F0 m 281 ls []) := by
  have hT := km_Rn_perform_281 h
  unfold m_Rn_perform_281 at h
  have nn : nq S S := nq_rf
  refine lv_aload_n C.1 C.2.1 dX7_perform_281 rfl (lv_at hl 0 rfl) ?_
  refine lv_iload_n C.1 C.2.1 dX7_perform_282 rfl (lv_at hl 1 rfl) ?_
  obtain ⟨S_2, hS_2, h⟩ := bnd h
  replace nn : nq S_2 S := nq_tr (kq_Rn_leaveCatches hS_2) nn
  refine x_callVv (q := (RX7, TX7, 8)) (As := [.int x2]) (rest := []) C w (k_Rn_leaveCatches l D T ρ g H.size S hS_2) vX7_79 (hRK (by decide) (by decide)) obC6 (by decide) rfl rfl rfl hl.1 (Nat.le_of_ble_eq_true rfl) (hcK hT) dX7_perform_283 (fun H locs w => ?_)
  refine lv_iconst (v := 0) C.1 C.2.1 dX7_perform_286 (by decide) ?_
  obtain ⟨rfl, rfl⟩ := prI h
  exact x_iretM C w ha hr hk dX7_perform_287 (by have := nq_kap nn; omega) (by have := nq_kap nn; omega)
set_option maxRecDepth 100000 in
set_option maxHeartbeats 4000000 in
theorem w_Rn_perform_210 {g : Nat} {S : St} {x1 : Nat} {x3 : Int32} {y0 : Int32} (C : CallFix p m c cX7_perform 6 s args tb RX7) (hr : meth.sig.returnType = (some .int)) (hk : meth.locks = false) (hcn : Kn Z A s s.heap) (hcw : Kw Z s) {S' : St} {r : Int32} {k9 : St → Nat → Int32 → Int32 → Option (St × Int32)} (kk9 : ∀ (ρ : Nat → Nat) (S : St) (x1 : Nat) (x2 : Int32) (x3 : Int32) (H : Heap) (locs : List Loc) (ls : Array Slot), Ag ρ0 ρ → kap S0 ≤ kap S → Wn Yc D T ρ S A s H locs → lv_has ls 6 [(0, .ref (ρ 6)), (1, .ref (ρ x1)), (2, .int x2), (3, .int x3)] → Ob Yc x1 2 → k9 S x1 x2 x3 = some (S', r) → W p l e (rmK 8 179 (kap S' - kap S0)) s m args below meth c H locs (kap S - kap S0) (2 * (kap S - kap S0)) (MQ below (QiM D T ρ0 A S' r) args s (kap S' - kap S0) (2 * (kap S' - kap S0)) A) (F0 m 9 ls [])) (km9 : ∀ (S : St) (x1 : Nat) (x2 : Int32) (x3 : Int32), k9 S x1 x2 x3 = some (S', r) → kap S ≤ kap S') (ha : Ag ρ0 ρ) (hm : kap S0 ≤ kap S) (w : Wn Yc D T ρ S A s H locs) (hl : lv_has ls 6 [(0, .ref (ρ 6)), (1, .ref (ρ x1)), (3, .int x3)]) (ho_x1 : Ob Yc x1 2) (h : m_Rn_perform_210 g k9 S x1 x3 y0 = some (S', r)) : W p l e (rmK 8 179 (kap S' - kap S0)) s m args below meth c H locs (kap S - kap S0) (2 * (kap S - kap S0)) (MQ below (QiM D T ρ0 A S' r) args s (kap S' - kap S0) (2 * (kap S' - kap S0)) A) (F0 m 210 ls [.int y0]) := by
  have hT := km_Rn_perform_210 km9 h
  unfold m_Rn_perform_210 at h
  have nn : nq S S := nq_rf
  refine lv_istore_n (lv' := [(2, .int y0), (0, .ref (ρ 6)), (1, .ref (ρ x1)), (3, .int x3)]) C.1 C.2.1 dX7_perform_210 rfl hl (by decide) rfl (fun ls hl => ?_)
  refine lv_goto (tgt := 275) C.1 C.2.1 dX7_perform_211 (by decide) ?_
  obtain ⟨x3_22, ex3_22, h⟩ := lt_e h
  refine lv_iinc (v := x3_22) (lv' := [(3, .int x3_22), (2, .int y0), (0, .ref (ρ 6)), (1, .ref (ρ x1))]) C.1 C.2.1 dX7_perform_275 hl (k := 3) rfl (by rw [ex3_22]; rfl) (by decide) rfl (fun ls hl => ?_)
  refine lv_goto (tgt := 9) C.1 C.2.1 dX7_perform_278 (by decide) ?_
  have hkn := nq_kap nn
  refine W.widen (k := kap S - kap S0) (n := 2 * (kap S - kap S0)) (by omega) (by omega) ?_
  exact kk9 _ _ _ _ _ _ _ _ ha (by omega) w (lv_sub hl [2, 3, 1, 0] rfl) ho_x1 h
set_option maxRecDepth 100000 in
set_option maxHeartbeats 4000000 in
theorem w_Rn_perform_172 {g : Nat} {S : St} {x1 : Nat} {x2 : Int32} {x3 : Int32} {x4 : Nat} {x5 : Int32} (C : CallFix p m c cX7_perform 6 s args tb RX7) (hr : meth.sig.returnType = (some .int)) (hk : meth.locks = false) (hcn : Kn Z A s s.heap) (hcw : Kw Z s) {S' : St} {r : Int32} {k9 : St → Nat → Int32 → Int32 → Option (St × Int32)} (kk9 : ∀ (ρ : Nat → Nat) (S : St) (x1 : Nat) (x2 : Int32) (x3 : Int32) (H : Heap) (locs : List Loc) (ls : Array Slot), Ag ρ0 ρ → kap S0 ≤ kap S → Wn Yc D T ρ S A s H locs → lv_has ls 6 [(0, .ref (ρ 6)), (1, .ref (ρ x1)), (2, .int x2), (3, .int x3)] → Ob Yc x1 2 → k9 S x1 x2 x3 = some (S', r) → W p l e (rmK 8 179 (kap S' - kap S0)) s m args below meth c H locs (kap S - kap S0) (2 * (kap S - kap S0)) (MQ below (QiM D T ρ0 A S' r) args s (kap S' - kap S0) (2 * (kap S' - kap S0)) A) (F0 m 9 ls [])) (km9 : ∀ (S : St) (x1 : Nat) (x2 : Int32) (x3 : Int32), k9 S x1 x2 x3 = some (S', r) → kap S ≤ kap S') (ha : Ag ρ0 ρ) (hm : kap S0 ≤ kap S) (w : Wn Yc D T ρ S A s H locs) (hl : lv_has ls 6 [(0, .ref (ρ 6)), (1, .ref (ρ x1)), (2, .int x2), (3, .int x3), (4, .ref (Z.1 x4)), (5, .int x5)]) (ho_x1 : Ob Yc x1 2) (ho_x4 : x4 < 56) (h : m_Rn_perform_172 g k9 S x1 x2 x3 x4 x5 = some (S', r)) : W p l e (rmK 8 179 (kap S' - kap S0)) s m args below meth c H locs (kap S - kap S0) (2 * (kap S - kap S0)) (MQ below (QiM D T ρ0 A S' r) args s (kap S' - kap S0) (2 * (kap S' - kap S0)) A) (F0 m 172 ls []) := by
  have hT := km_Rn_perform_172 km9 h
  unfold m_Rn_perform_172 at h
  have nn : nq S S := nq_rf
  refine lv_iload C.1 C.2.1 dX7_perform_172 (lv_at hl 5 rfl) ?_
  refine lv_if_ne (tgt := 214) C.1 C.2.1 dX7_perform_174 (by decide) (fun hc => ?_) (fun hc => ?_)
  · replace h := iff0 hc h
    refine lv_aload_n C.1 C.2.1 dX7_perform_214 rfl (lv_at hl 0 rfl) ?_
    refine x_getC C w 79 fX7_9 obC6 rfl dX7_perform_215 ?_
    refine lv_iconst (v := 3) C.1 C.2.1 dX7_perform_218 (by decide) ?_
    refine lv_dup2_11 C.1 C.2.1 dX7_perform_219 rfl rfl ?_
    obtain ⟨v_8, hv_8, h⟩ := bnd h
    refine x_iald C w obC79 hv_8 dX7_perform_220 ?_
    refine lv_iconst (v := 1) C.1 C.2.1 dX7_perform_221 (by decide) ?_
    refine lv_iadd C.1 C.2.1 dX7_perform_222 ?_
    obtain ⟨S_9, hS_9, h⟩ := bnd h
    replace nn : nq S_9 S := nq_tr (nq_tI hS_9) nn
    refine x_iast C w obC79 hS_9 dX7_perform_223 (fun H locs w => ?_)
    refine lv_aload_n C.1 C.2.1 dX7_perform_224 rfl (lv_at hl 0 rfl) ?_
    refine x_getC C w 32 fX7_23 obC6 rfl dX7_perform_225 ?_
    refine x_getI C w fX7_124 obC32 dX7_perform_228 ?_
    refine lv_if_ne (tgt := 252) C.1 C.2.1 dX7_perform_231 (by decide) (fun hc => ?_) (fun hc => ?_)
    · replace h := iff0 hc h
      refine lv_aload_n C.1 C.2.1 dX7_perform_252 rfl (lv_at hl 0 rfl) ?_
      refine x_getC C w 32 fX7_23 obC6 rfl dX7_perform_253 ?_
      refine lv_aload_n C.1 C.2.1 dX7_perform_256 rfl (lv_at hl 0 rfl) ?_
      refine x_getC C w 32 fX7_23 obC6 rfl dX7_perform_257 ?_
      refine x_getI C w fX7_124 obC32 dX7_perform_260 ?_
      refine lv_iconst (v := 1) C.1 C.2.1 dX7_perform_263 (by decide) ?_
      refine lv_isub C.1 C.2.1 dX7_perform_264 ?_
      obtain ⟨v_10, hv_10, h⟩ := bnd h
      refine x_callVi (q := (RX6, TX6, 4)) (As := [.int ((gI S_9 32 2) - (1 : Int32))]) (rest := []) C w (k_Row_at l D T ρ g H.size S_9 obC32 hv_10) vX7_127 (hRK (by decide) (by decide)) obC32 (by decide) rfl rfl rfl hl.1 (Nat.le_of_ble_eq_true rfl) (hcK hT) dX7_perform_265 (fun H locs w => ?_)
      refine lv_istore_n (lv' := [(2, .int v_10), (0, .ref (ρ 6)), (1, .ref (ρ x1)), (3, .int x3), (4, .ref (Z.1 x4)), (5, .int x5)]) C.1 C.2.1 dX7_perform_268 rfl hl (by decide) rfl (fun ls hl => ?_)
      refine lv_aload_n C.1 C.2.1 dX7_perform_269 rfl (lv_at hl 1 rfl) ?_
      refine lv_iload C.1 C.2.1 dX7_perform_270 (lv_at hl 5 rfl) ?_
      obtain ⟨S_11, hS_11, h⟩ := bnd h
      replace nn : nq S_11 S := nq_tr (kq_Rn_leaveCatch hS_11) nn
      refine x_callVv (q := (RX7, TX7, 8)) (As := [.int x5]) (rest := []) C w (k_Rn_leaveCatch l D T ρ g H.size S_9 hS_11) vX7_131 (hRK (by decide) (by decide)) obC6 (by decide) rfl rfl rfl hl.1 (Nat.le_of_ble_eq_true rfl) (hcK hT) dX7_perform_272 (fun H locs w => ?_)
      obtain ⟨x3_12, ex3_12, h⟩ := lt_e h
      refine lv_iinc (v := x3_12) (lv' := [(3, .int x3_12), (2, .int v_10), (0, .ref (ρ 6)), (1, .ref (ρ x1)), (4, .ref (Z.1 x4)), (5, .int x5)]) C.1 C.2.1 dX7_perform_275 hl (k := 3) rfl (by rw [ex3_12]; rfl) (by decide) rfl (fun ls hl => ?_)
      refine lv_goto (tgt := 9) C.1 C.2.1 dX7_perform_278 (by decide) ?_
      have hkn := nq_kap nn
      refine W.widen (k := kap S_11 - kap S0) (n := 2 * (kap S_11 - kap S0)) (by omega) (by omega) ?_
      exact kk9 _ _ _ _ _ _ _ _ ha (by omega) w (lv_sub hl [2, 3, 1, 0] rfl) ho_x1 h
    · replace h := ift hc h
      refine lv_aload_n C.1 C.2.1 dX7_perform_234 rfl (lv_at hl 0 rfl) ?_
      refine x_getC C w 79 fX7_9 obC6 rfl dX7_perform_235 ?_
      refine lv_iconst (v := 0) C.1 C.2.1 dX7_perform_238 (by decide) ?_
      refine lv_iload_n C.1 C.2.1 dX7_perform_239 rfl (lv_at hl 2 rfl) ?_
      obtain ⟨S_13, hS_13, h⟩ := bnd h
      replace nn : nq S_13 S := nq_tr (nq_tI hS_13) nn
      refine x_iast C w obC79 hS_13 dX7_perform_240 (fun H locs w => ?_)
      refine lv_aload_n C.1 C.2.1 dX7_perform_241 rfl (lv_at hl 0 rfl) ?_
      refine x_getC C w 79 fX7_9 obC6 rfl dX7_perform_242 ?_
      refine lv_iconst (v := 1) C.1 C.2.1 dX7_perform_245 (by decide) ?_
      refine lv_iload C.1 C.2.1 dX7_perform_246 (lv_at hl 5 rfl) ?_
      obtain ⟨S_14, hS_14, h⟩ := bnd h
      replace nn : nq S_14 S := nq_tr (nq_tI hS_14) nn
      refine x_iast C w obC79 hS_14 dX7_perform_248 (fun H locs w => ?_)
      refine lv_iload C.1 C.2.1 dX7_perform_249 (lv_at hl 5 rfl) ?_
      obtain ⟨rfl, rfl⟩ := prI h
      exact x_iretM C w ha hr hk dX7_perform_251 (by have := nq_kap nn; omega) (by have := nq_kap nn; omega)
  · replace h := ift hc h
    refine lv_aload_n C.1 C.2.1 dX7_perform_177 rfl (lv_at hl 0 rfl) ?_
    refine x_getC C w 79 fX7_9 obC6 rfl dX7_perform_178 ?_
    refine lv_iconst (v := 2) C.1 C.2.1 dX7_perform_181 (by decide) ?_
    refine lv_dup2_11 C.1 C.2.1 dX7_perform_182 rfl rfl ?_
    obtain ⟨v_15, hv_15, h⟩ := bnd h
    refine x_iald C w obC79 hv_15 dX7_perform_183 ?_
    refine lv_iconst (v := 1) C.1 C.2.1 dX7_perform_184 (by decide) ?_
    refine lv_iadd C.1 C.2.1 dX7_perform_185 ?_
    obtain ⟨S_16, hS_16, h⟩ := bnd h
    replace nn : nq S_16 S := nq_tr (nq_tI hS_16) nn
    refine x_iast C w obC79 hS_16 dX7_perform_186 (fun H locs w => ?_)
    refine lv_aload_n C.1 C.2.1 dX7_perform_187 rfl (lv_at hl 0 rfl) ?_
    refine x_getC C w 80 fX7_15 obC6 rfl dX7_perform_188 ?_
    refine lv_aload_n C.1 C.2.1 dX7_perform_191 rfl (lv_at hl 1 rfl) ?_
    refine x_getC C w (50 + 8 * x1 + 0) fX7_117 ho_x1 (crP0 ho_x1) dX7_perform_192 ?_
    refine lv_iload_n C.1 C.2.1 dX7_perform_195 rfl (lv_at hl 2 rfl) ?_
    obtain ⟨v_17, hv_17, h⟩ := bnd h
    refine x_iald C w (obP0 ho_x1) hv_17 dX7_perform_196 ?_
    refine lv_dup2_11 C.1 C.2.1 dX7_perform_197 rfl rfl ?_
    obtain ⟨v_18, hv_18, h⟩ := bnd h
    refine x_iald C w obC80 hv_18 dX7_perform_198 ?_
    refine lv_iconst (v := 1) C.1 C.2.1 dX7_perform_199 (by decide) ?_
    refine lv_iadd C.1 C.2.1 dX7_perform_200 ?_
    obtain ⟨S_19, hS_19, h⟩ := bnd h
    replace nn : nq S_19 S := nq_tr (nq_tI hS_19) nn
    refine x_iast C w obC80 hS_19 dX7_perform_201 (fun H locs w => ?_)
    refine lv_aload_n C.1 C.2.1 dX7_perform_202 rfl (lv_at hl 0 rfl) ?_
    refine lv_aload_n C.1 C.2.1 dX7_perform_203 rfl (lv_at hl 1 rfl) ?_
    refine lv_iload_n C.1 C.2.1 dX7_perform_204 rfl (lv_at hl 2 rfl) ?_
    refine lv_aload C.1 C.2.1 dX7_perform_205 (lv_at hl 4 rfl) ?_
    obtain ⟨⟨S_20, v_21⟩, hv_21, h⟩ := bnd h
    have hkn := nq_kap nn
    have hk1 := km_Rn_nextBehind hv_21
    have hT2 := km_Rn_perform_210 km9 h
    refine x_callViC (q := (RX7, TX7, 8)) (As := [.ref (ρ x1), .int x2, .ref (Z.1 x4)]) (rest := []) C w hcn hcw (k_Rn_nextBehind l Z D T ρ g H.size S_19 ho_x1 ho_x4 hv_21) vX7_120 (hRK (by decide) (by decide)) obC6 (by decide) rfl rfl rfl hl.1 (Nat.le_of_ble_eq_true rfl) (hcM hm hkn hk1 hT2) dX7_perform_207 (fun ρ1 H locs hag w => ?_)
    replace ha := ha.trans hag
    rw [← hag 6 (by decide)] at hl
    rw [← hag x1 (ncP ho_x1)] at hl
    refine W.widen (k := kap S_20 - kap S0) (n := 2 * (kap S_20 - kap S0)) (by omega) (by omega) ?_
    exact w_Rn_perform_210 C hr hk hcn hcw kk9 km9 ha (by omega) w (lv_sub hl [0, 1, 3] rfl) ho_x1 h
set_option maxRecDepth 100000 in
set_option maxHeartbeats 4000000 in
theorem w_Rn_perform_150 {g : Nat} {S : St} {x1 : Nat} {x2 : Int32} {x3 : Int32} {x4 : Nat} {y0 : Int32} (C : CallFix p m c cX7_perform 6 s args tb RX7) (hr : meth.sig.returnType = (some .int)) (hk : meth.locks = false) (hcn : Kn Z A s s.heap) (hcw : Kw Z s) {S' : St} {r : Int32} {k9 : St → Nat → Int32 → Int32 → Option (St × Int32)} (kk9 : ∀ (ρ : Nat → Nat) (S : St) (x1 : Nat) (x2 : Int32) (x3 : Int32) (H : Heap) (locs : List Loc) (ls : Array Slot), Ag ρ0 ρ → kap S0 ≤ kap S → Wn Yc D T ρ S A s H locs → lv_has ls 6 [(0, .ref (ρ 6)), (1, .ref (ρ x1)), (2, .int x2), (3, .int x3)] → Ob Yc x1 2 → k9 S x1 x2 x3 = some (S', r) → W p l e (rmK 8 179 (kap S' - kap S0)) s m args below meth c H locs (kap S - kap S0) (2 * (kap S - kap S0)) (MQ below (QiM D T ρ0 A S' r) args s (kap S' - kap S0) (2 * (kap S' - kap S0)) A) (F0 m 9 ls [])) (km9 : ∀ (S : St) (x1 : Nat) (x2 : Int32) (x3 : Int32), k9 S x1 x2 x3 = some (S', r) → kap S ≤ kap S') (ha : Ag ρ0 ρ) (hm : kap S0 ≤ kap S) (w : Wn Yc D T ρ S A s H locs) (hl : lv_has ls 6 [(0, .ref (ρ 6)), (1, .ref (ρ x1)), (2, .int x2), (3, .int x3), (4, .ref (Z.1 x4))]) (ho_x1 : Ob Yc x1 2) (ho_x4 : x4 < 56) (h : m_Rn_perform_150 g k9 S x1 x2 x3 x4 y0 = some (S', r)) : W p l e (rmK 8 179 (kap S' - kap S0)) s m args below meth c H locs (kap S - kap S0) (2 * (kap S - kap S0)) (MQ below (QiM D T ρ0 A S' r) args s (kap S' - kap S0) (2 * (kap S' - kap S0)) A) (F0 m 150 ls [.int y0]) := by
  have hT := km_Rn_perform_150 km9 h
  unfold m_Rn_perform_150 at h
  have nn : nq S S := nq_rf
  refine lv_istore (lv' := [(5, .int y0), (0, .ref (ρ 6)), (1, .ref (ρ x1)), (2, .int x2), (3, .int x3), (4, .ref (Z.1 x4))]) C.1 C.2.1 dX7_perform_150 hl (by decide) rfl (fun ls hl => ?_)
  refine lv_goto (tgt := 172) C.1 C.2.1 dX7_perform_152 (by decide) ?_
  have hkn := nq_kap nn
  refine W.widen (k := kap S - kap S0) (n := 2 * (kap S - kap S0)) (by omega) (by omega) ?_
  exact w_Rn_perform_172 C hr hk hcn hcw kk9 km9 ha (by omega) w (lv_sub hl [1, 2, 3, 4, 5, 0] rfl) ho_x1 ho_x4 h
set_option maxRecDepth 100000 in
set_option maxHeartbeats 4000000 in
theorem w_Rn_perform_127 {g : Nat} {S : St} {x1 : Nat} {x2 : Int32} {x3 : Int32} {x4 : Nat} {y0 : Int32} (C : CallFix p m c cX7_perform 6 s args tb RX7) (hr : meth.sig.returnType = (some .int)) (hk : meth.locks = false) (hcn : Kn Z A s s.heap) (hcw : Kw Z s) {S' : St} {r : Int32} {k9 : St → Nat → Int32 → Int32 → Option (St × Int32)} (kk9 : ∀ (ρ : Nat → Nat) (S : St) (x1 : Nat) (x2 : Int32) (x3 : Int32) (H : Heap) (locs : List Loc) (ls : Array Slot), Ag ρ0 ρ → kap S0 ≤ kap S → Wn Yc D T ρ S A s H locs → lv_has ls 6 [(0, .ref (ρ 6)), (1, .ref (ρ x1)), (2, .int x2), (3, .int x3)] → Ob Yc x1 2 → k9 S x1 x2 x3 = some (S', r) → W p l e (rmK 8 179 (kap S' - kap S0)) s m args below meth c H locs (kap S - kap S0) (2 * (kap S - kap S0)) (MQ below (QiM D T ρ0 A S' r) args s (kap S' - kap S0) (2 * (kap S' - kap S0)) A) (F0 m 9 ls [])) (km9 : ∀ (S : St) (x1 : Nat) (x2 : Int32) (x3 : Int32), k9 S x1 x2 x3 = some (S', r) → kap S ≤ kap S') (ha : Ag ρ0 ρ) (hm : kap S0 ≤ kap S) (w : Wn Yc D T ρ S A s H locs) (hl : lv_has ls 6 [(0, .ref (ρ 6)), (1, .ref (ρ x1)), (2, .int x2), (3, .int x3), (4, .ref (Z.1 x4))]) (ho_x1 : Ob Yc x1 2) (ho_x4 : x4 < 56) (h : m_Rn_perform_127 g k9 S x1 x2 x3 x4 y0 = some (S', r)) : W p l e (rmK 8 179 (kap S' - kap S0)) s m args below meth c H locs (kap S - kap S0) (2 * (kap S - kap S0)) (MQ below (QiM D T ρ0 A S' r) args s (kap S' - kap S0) (2 * (kap S' - kap S0)) A) (F0 m 127 ls [.int y0]) := by
  have hT := km_Rn_perform_127 km9 h
  unfold m_Rn_perform_127 at h
  have nn : nq S S := nq_rf
  refine lv_istore (lv' := [(5, .int y0), (0, .ref (ρ 6)), (1, .ref (ρ x1)), (2, .int x2), (3, .int x3), (4, .ref (Z.1 x4))]) C.1 C.2.1 dX7_perform_127 hl (by decide) rfl (fun ls hl => ?_)
  refine lv_goto (tgt := 172) C.1 C.2.1 dX7_perform_129 (by decide) ?_
  have hkn := nq_kap nn
  refine W.widen (k := kap S - kap S0) (n := 2 * (kap S - kap S0)) (by omega) (by omega) ?_
  exact w_Rn_perform_172 C hr hk hcn hcw kk9 km9 ha (by omega) w (lv_sub hl [1, 2, 3, 4, 5, 0] rfl) ho_x1 ho_x4 h
set_option maxRecDepth 100000 in
set_option maxHeartbeats 4000000 in
theorem w_Rn_perform_104 {g : Nat} {S : St} {x1 : Nat} {x2 : Int32} {x3 : Int32} {x4 : Nat} {y0 : Int32} (C : CallFix p m c cX7_perform 6 s args tb RX7) (hr : meth.sig.returnType = (some .int)) (hk : meth.locks = false) (hcn : Kn Z A s s.heap) (hcw : Kw Z s) {S' : St} {r : Int32} {k9 : St → Nat → Int32 → Int32 → Option (St × Int32)} (kk9 : ∀ (ρ : Nat → Nat) (S : St) (x1 : Nat) (x2 : Int32) (x3 : Int32) (H : Heap) (locs : List Loc) (ls : Array Slot), Ag ρ0 ρ → kap S0 ≤ kap S → Wn Yc D T ρ S A s H locs → lv_has ls 6 [(0, .ref (ρ 6)), (1, .ref (ρ x1)), (2, .int x2), (3, .int x3)] → Ob Yc x1 2 → k9 S x1 x2 x3 = some (S', r) → W p l e (rmK 8 179 (kap S' - kap S0)) s m args below meth c H locs (kap S - kap S0) (2 * (kap S - kap S0)) (MQ below (QiM D T ρ0 A S' r) args s (kap S' - kap S0) (2 * (kap S' - kap S0)) A) (F0 m 9 ls [])) (km9 : ∀ (S : St) (x1 : Nat) (x2 : Int32) (x3 : Int32), k9 S x1 x2 x3 = some (S', r) → kap S ≤ kap S') (ha : Ag ρ0 ρ) (hm : kap S0 ≤ kap S) (w : Wn Yc D T ρ S A s H locs) (hl : lv_has ls 6 [(0, .ref (ρ 6)), (1, .ref (ρ x1)), (2, .int x2), (3, .int x3), (4, .ref (Z.1 x4))]) (ho_x1 : Ob Yc x1 2) (ho_x4 : x4 < 56) (h : m_Rn_perform_104 g k9 S x1 x2 x3 x4 y0 = some (S', r)) : W p l e (rmK 8 179 (kap S' - kap S0)) s m args below meth c H locs (kap S - kap S0) (2 * (kap S - kap S0)) (MQ below (QiM D T ρ0 A S' r) args s (kap S' - kap S0) (2 * (kap S' - kap S0)) A) (F0 m 104 ls [.int y0]) := by
  have hT := km_Rn_perform_104 km9 h
  unfold m_Rn_perform_104 at h
  have nn : nq S S := nq_rf
  refine lv_istore (lv' := [(5, .int y0), (0, .ref (ρ 6)), (1, .ref (ρ x1)), (2, .int x2), (3, .int x3), (4, .ref (Z.1 x4))]) C.1 C.2.1 dX7_perform_104 hl (by decide) rfl (fun ls hl => ?_)
  refine lv_goto (tgt := 172) C.1 C.2.1 dX7_perform_106 (by decide) ?_
  have hkn := nq_kap nn
  refine W.widen (k := kap S - kap S0) (n := 2 * (kap S - kap S0)) (by omega) (by omega) ?_
  exact w_Rn_perform_172 C hr hk hcn hcw kk9 km9 ha (by omega) w (lv_sub hl [1, 2, 3, 4, 5, 0] rfl) ho_x1 ho_x4 h
set_option maxRecDepth 100000 in
set_option maxHeartbeats 4000000 in
theorem w_Rn_perform_81 {g : Nat} {S : St} {x1 : Nat} {x2 : Int32} {x3 : Int32} {x4 : Nat} {y0 : Int32} (C : CallFix p m c cX7_perform 6 s args tb RX7) (hr : meth.sig.returnType = (some .int)) (hk : meth.locks = false) (hcn : Kn Z A s s.heap) (hcw : Kw Z s) {S' : St} {r : Int32} {k9 : St → Nat → Int32 → Int32 → Option (St × Int32)} (kk9 : ∀ (ρ : Nat → Nat) (S : St) (x1 : Nat) (x2 : Int32) (x3 : Int32) (H : Heap) (locs : List Loc) (ls : Array Slot), Ag ρ0 ρ → kap S0 ≤ kap S → Wn Yc D T ρ S A s H locs → lv_has ls 6 [(0, .ref (ρ 6)), (1, .ref (ρ x1)), (2, .int x2), (3, .int x3)] → Ob Yc x1 2 → k9 S x1 x2 x3 = some (S', r) → W p l e (rmK 8 179 (kap S' - kap S0)) s m args below meth c H locs (kap S - kap S0) (2 * (kap S - kap S0)) (MQ below (QiM D T ρ0 A S' r) args s (kap S' - kap S0) (2 * (kap S' - kap S0)) A) (F0 m 9 ls [])) (km9 : ∀ (S : St) (x1 : Nat) (x2 : Int32) (x3 : Int32), k9 S x1 x2 x3 = some (S', r) → kap S ≤ kap S') (ha : Ag ρ0 ρ) (hm : kap S0 ≤ kap S) (w : Wn Yc D T ρ S A s H locs) (hl : lv_has ls 6 [(0, .ref (ρ 6)), (1, .ref (ρ x1)), (2, .int x2), (3, .int x3), (4, .ref (Z.1 x4))]) (ho_x1 : Ob Yc x1 2) (ho_x4 : x4 < 56) (h : m_Rn_perform_81 g k9 S x1 x2 x3 x4 y0 = some (S', r)) : W p l e (rmK 8 179 (kap S' - kap S0)) s m args below meth c H locs (kap S - kap S0) (2 * (kap S - kap S0)) (MQ below (QiM D T ρ0 A S' r) args s (kap S' - kap S0) (2 * (kap S' - kap S0)) A) (F0 m 81 ls [.int y0]) := by
  have hT := km_Rn_perform_81 km9 h
  unfold m_Rn_perform_81 at h
  have nn : nq S S := nq_rf
  refine lv_istore (lv' := [(5, .int y0), (0, .ref (ρ 6)), (1, .ref (ρ x1)), (2, .int x2), (3, .int x3), (4, .ref (Z.1 x4))]) C.1 C.2.1 dX7_perform_81 hl (by decide) rfl (fun ls hl => ?_)
  refine lv_goto (tgt := 172) C.1 C.2.1 dX7_perform_83 (by decide) ?_
  have hkn := nq_kap nn
  refine W.widen (k := kap S - kap S0) (n := 2 * (kap S - kap S0)) (by omega) (by omega) ?_
  exact w_Rn_perform_172 C hr hk hcn hcw kk9 km9 ha (by omega) w (lv_sub hl [1, 2, 3, 4, 5, 0] rfl) ho_x1 ho_x4 h
set_option maxRecDepth 100000 in
set_option maxHeartbeats 4000000 in
theorem w_Rn_perform_55 {g : Nat} {S : St} {x1 : Nat} {x2 : Int32} {x3 : Int32} {x4 : Nat} {x5 : Int32} {y0 : Int32} (C : CallFix p m c cX7_perform 6 s args tb RX7) (hr : meth.sig.returnType = (some .int)) (hk : meth.locks = false) (hcn : Kn Z A s s.heap) (hcw : Kw Z s) {S' : St} {r : Int32} {k9 : St → Nat → Int32 → Int32 → Option (St × Int32)} (kk9 : ∀ (ρ : Nat → Nat) (S : St) (x1 : Nat) (x2 : Int32) (x3 : Int32) (H : Heap) (locs : List Loc) (ls : Array Slot), Ag ρ0 ρ → kap S0 ≤ kap S → Wn Yc D T ρ S A s H locs → lv_has ls 6 [(0, .ref (ρ 6)), (1, .ref (ρ x1)), (2, .int x2), (3, .int x3)] → Ob Yc x1 2 → k9 S x1 x2 x3 = some (S', r) → W p l e (rmK 8 179 (kap S' - kap S0)) s m args below meth c H locs (kap S - kap S0) (2 * (kap S - kap S0)) (MQ below (QiM D T ρ0 A S' r) args s (kap S' - kap S0) (2 * (kap S' - kap S0)) A) (F0 m 9 ls [])) (km9 : ∀ (S : St) (x1 : Nat) (x2 : Int32) (x3 : Int32), k9 S x1 x2 x3 = some (S', r) → kap S ≤ kap S') (ha : Ag ρ0 ρ) (hm : kap S0 ≤ kap S) (w : Wn Yc D T ρ S A s H locs) (hl : lv_has ls 6 [(0, .ref (ρ 6)), (1, .ref (ρ x1)), (2, .int x2), (3, .int x3), (4, .ref (Z.1 x4)), (5, .int x5)]) (ho_x1 : Ob Yc x1 2) (ho_x4 : x4 < 56) (h : m_Rn_perform_55 g k9 S x1 x2 x3 x4 x5 y0 = some (S', r)) : W p l e (rmK 8 179 (kap S' - kap S0)) s m args below meth c H locs (kap S - kap S0) (2 * (kap S - kap S0)) (MQ below (QiM D T ρ0 A S' r) args s (kap S' - kap S0) (2 * (kap S' - kap S0)) A) (F0 m 55 ls [.int y0]) := by
  have hT := km_Rn_perform_55 km9 h
  unfold m_Rn_perform_55 at h
  have nn : nq S S := nq_rf
  refine lv_if_eq (tgt := 64) C.1 C.2.1 dX7_perform_55 (by decide) (fun hc => ?_) (fun hc => ?_)
  · replace h := ift hc h
    refine lv_aload C.1 C.2.1 dX7_perform_64 (lv_at hl 4 rfl) ?_
    refine x_eGr C w hcn ho_x4 gkX7_93 dX7_perform_66 ?_
    refine lv_if_ne (tgt := 86) C.1 C.2.1 dX7_perform_69 (by decide) (fun hc => ?_) (fun hc => ?_)
    · replace h := iff0 hc h
      refine lv_aload C.1 C.2.1 dX7_perform_86 (lv_at hl 4 rfl) ?_
      refine x_eGr C w hcn ho_x4 gkX7_93 dX7_perform_88 ?_
      refine lv_iconst (v := 3) C.1 C.2.1 dX7_perform_91 (by decide) ?_
      refine lv_icmp_ne (tgt := 109) C.1 C.2.1 dX7_perform_92 (by decide) (fun hc => ?_) (fun hc => ?_)
      · replace h := iff0 hc h
        refine lv_aload C.1 C.2.1 dX7_perform_109 (lv_at hl 4 rfl) ?_
        refine x_eGr C w hcn ho_x4 gkX7_93 dX7_perform_111 ?_
        refine lv_iconst (v := 1) C.1 C.2.1 dX7_perform_114 (by decide) ?_
        refine lv_icmp_ne (tgt := 132) C.1 C.2.1 dX7_perform_115 (by decide) (fun hc => ?_) (fun hc => ?_)
        · replace h := iff0 hc h
          refine lv_aload C.1 C.2.1 dX7_perform_132 (lv_at hl 4 rfl) ?_
          refine x_eGr C w hcn ho_x4 gkX7_93 dX7_perform_134 ?_
          refine lv_iconst (v := 2) C.1 C.2.1 dX7_perform_137 (by decide) ?_
          refine lv_icmp_ne (tgt := 155) C.1 C.2.1 dX7_perform_138 (by decide) (fun hc => ?_) (fun hc => ?_)
          · replace h := iff0 hc h
            refine lv_aload C.1 C.2.1 dX7_perform_155 (lv_at hl 4 rfl) ?_
            refine x_gsE (k := 55) C w hcn (by decide) gkX7_109 dX7_perform_157 ?_
            refine x_acmpN (tgt := 172) C hcn ho_x4 (by decide) dX7_perform_160 (by decide) (fun hc => ?_) (fun hc => ?_)
            · replace h := iff0 hc h
              have hkn := nq_kap nn
              refine W.widen (k := kap S - kap S0) (n := 2 * (kap S - kap S0)) (by omega) (by omega) ?_
              exact w_Rn_perform_172 C hr hk hcn hcw kk9 km9 ha (by omega) w (lv_sub hl [0, 1, 2, 3, 4, 5] rfl) ho_x1 ho_x4 h
            · replace h := ift hc h
              refine lv_aload_n C.1 C.2.1 dX7_perform_163 rfl (lv_at hl 0 rfl) ?_
              refine x_getC C w 4 fX7_30 obC6 rfl dX7_perform_164 ?_
              obtain ⟨⟨S_8, v_9⟩, hv_9, h⟩ := bnd h
              replace nn : nq S_8 S := nq_tr (kq_Bn_addMark hv_9) nn
              refine x_callVi (q := (RX1, TX1, 12)) (As := []) (rest := []) C w (k_Bn_addMark l D T ρ g H.size S hv_9) vX7_113 (hRK (by decide) (by decide)) obC4 (by decide) rfl rfl rfl hl.1 (Nat.le_of_ble_eq_true rfl) (hcK hT) dX7_perform_167 (fun H locs w => ?_)
              refine lv_istore (lv' := [(5, .int v_9), (0, .ref (ρ 6)), (1, .ref (ρ x1)), (2, .int x2), (3, .int x3), (4, .ref (Z.1 x4))]) C.1 C.2.1 dX7_perform_170 hl (by decide) rfl (fun ls hl => ?_)
              have hkn := nq_kap nn
              refine W.widen (k := kap S_8 - kap S0) (n := 2 * (kap S_8 - kap S0)) (by omega) (by omega) ?_
              exact w_Rn_perform_172 C hr hk hcn hcw kk9 km9 ha (by omega) w (lv_sub hl [1, 2, 3, 4, 5, 0] rfl) ho_x1 ho_x4 h
          · replace h := ift hc h
            refine lv_aload_n C.1 C.2.1 dX7_perform_141 rfl (lv_at hl 0 rfl) ?_
            refine x_getC C w 9 fX7_53 obC6 rfl dX7_perform_142 ?_
            refine lv_aload C.1 C.2.1 dX7_perform_145 (lv_at hl 4 rfl) ?_
            obtain ⟨⟨S_10, v_11⟩, hv_11, h⟩ := bnd h
            have hkn := nq_kap nn
            have hk1 := km_BS_change hv_11
            have hT2 := km_Rn_perform_150 km9 h
            refine x_callViC (q := (RX2, TX2, 2)) (As := [.ref (Z.1 x4)]) (rest := []) C w hcn hcw (k_BS_change l Z D T ρ g H.size S ho_x4 hv_11) vX7_106 (hRK (by decide) (by decide)) obC9 (by decide) rfl rfl rfl hl.1 (Nat.le_of_ble_eq_true rfl) (hcM hm hkn hk1 hT2) dX7_perform_147 (fun ρ1 H locs hag w => ?_)
            replace ha := ha.trans hag
            rw [← hag 6 (by decide)] at hl
            rw [← hag x1 (ncP ho_x1)] at hl
            refine W.widen (k := kap S_10 - kap S0) (n := 2 * (kap S_10 - kap S0)) (by omega) (by omega) ?_
            exact w_Rn_perform_150 C hr hk hcn hcw kk9 km9 ha (by omega) w (lv_sub hl [0, 1, 2, 3, 4] rfl) ho_x1 ho_x4 h
        · replace h := ift hc h
          refine lv_aload_n C.1 C.2.1 dX7_perform_118 rfl (lv_at hl 0 rfl) ?_
          refine x_getC C w 8 fX7_46 obC6 rfl dX7_perform_119 ?_
          refine lv_aload C.1 C.2.1 dX7_perform_122 (lv_at hl 4 rfl) ?_
          obtain ⟨⟨S_12, v_13⟩, hv_13, h⟩ := bnd h
          have hkn := nq_kap nn
          have hk1 := km_WS_give hv_13
          have hT2 := km_Rn_perform_127 km9 h
          refine x_callViC (q := (RX11, TX11, 2)) (As := [.ref (Z.1 x4)]) (rest := []) C w hcn hcw (k_WS_give l Z D T ρ g H.size S ho_x4 hv_13) vX7_105 (hRK (by decide) (by decide)) obC8 (by decide) rfl rfl rfl hl.1 (Nat.le_of_ble_eq_true rfl) (hcM hm hkn hk1 hT2) dX7_perform_124 (fun ρ1 H locs hag w => ?_)
          replace ha := ha.trans hag
          rw [← hag 6 (by decide)] at hl
          rw [← hag x1 (ncP ho_x1)] at hl
          refine W.widen (k := kap S_12 - kap S0) (n := 2 * (kap S_12 - kap S0)) (by omega) (by omega) ?_
          exact w_Rn_perform_127 C hr hk hcn hcw kk9 km9 ha (by omega) w (lv_sub hl [0, 1, 2, 3, 4] rfl) ho_x1 ho_x4 h
      · replace h := ift hc h
        refine lv_aload_n C.1 C.2.1 dX7_perform_95 rfl (lv_at hl 0 rfl) ?_
        refine x_getC C w 7 fX7_39 obC6 rfl dX7_perform_96 ?_
        refine lv_aload C.1 C.2.1 dX7_perform_99 (lv_at hl 4 rfl) ?_
        obtain ⟨⟨S_14, v_15⟩, hv_15, h⟩ := bnd h
        have hkn := nq_kap nn
        have hk1 := km_TS_giveParts hv_15
        have hT2 := km_Rn_perform_104 km9 h
        refine x_callViC (q := (RX9, TX9, 6)) (As := [.ref (Z.1 x4)]) (rest := []) C w hcn hcw (k_TS_giveParts l Z D T ρ g H.size S ho_x4 hv_15) vX7_102 (hRK (by decide) (by decide)) obC7 (by decide) rfl rfl rfl hl.1 (Nat.le_of_ble_eq_true rfl) (hcM hm hkn hk1 hT2) dX7_perform_101 (fun ρ1 H locs hag w => ?_)
        replace ha := ha.trans hag
        rw [← hag 6 (by decide)] at hl
        rw [← hag x1 (ncP ho_x1)] at hl
        refine W.widen (k := kap S_14 - kap S0) (n := 2 * (kap S_14 - kap S0)) (by omega) (by omega) ?_
        exact w_Rn_perform_104 C hr hk hcn hcw kk9 km9 ha (by omega) w (lv_sub hl [0, 1, 2, 3, 4] rfl) ho_x1 ho_x4 h
    · replace h := ift hc h
      refine lv_aload_n C.1 C.2.1 dX7_perform_72 rfl (lv_at hl 0 rfl) ?_
      refine x_getC C w 7 fX7_39 obC6 rfl dX7_perform_73 ?_
      refine lv_aload C.1 C.2.1 dX7_perform_76 (lv_at hl 4 rfl) ?_
      obtain ⟨⟨S_16, v_17⟩, hv_17, h⟩ := bnd h
      have hkn := nq_kap nn
      have hk1 := km_TS_give hv_17
      have hT2 := km_Rn_perform_81 km9 h
      refine x_callViC (q := (RX9, TX9, 6)) (As := [.ref (Z.1 x4)]) (rest := []) C w hcn hcw (k_TS_give l Z D T ρ g H.size S ho_x4 hv_17) vX7_98 (hRK (by decide) (by decide)) obC7 (by decide) rfl rfl rfl hl.1 (Nat.le_of_ble_eq_true rfl) (hcM hm hkn hk1 hT2) dX7_perform_78 (fun ρ1 H locs hag w => ?_)
      replace ha := ha.trans hag
      rw [← hag 6 (by decide)] at hl
      rw [← hag x1 (ncP ho_x1)] at hl
      refine W.widen (k := kap S_16 - kap S0) (n := 2 * (kap S_16 - kap S0)) (by omega) (by omega) ?_
      exact w_Rn_perform_81 C hr hk hcn hcw kk9 km9 ha (by omega) w (lv_sub hl [0, 1, 2, 3, 4] rfl) ho_x1 ho_x4 h
  · replace h := iff0 hc h
    refine lv_iconst (v := 4) C.1 C.2.1 dX7_perform_58 (by decide) ?_
    refine lv_istore (lv' := [(5, .int (4 : Int32)), (0, .ref (ρ 6)), (1, .ref (ρ x1)), (2, .int x2), (3, .int x3), (4, .ref (Z.1 x4))]) C.1 C.2.1 dX7_perform_59 hl (by decide) rfl (fun ls hl => ?_)
    refine lv_goto (tgt := 172) C.1 C.2.1 dX7_perform_61 (by decide) ?_
    have hkn := nq_kap nn
    refine W.widen (k := kap S - kap S0) (n := 2 * (kap S - kap S0)) (by omega) (by omega) ?_
    exact w_Rn_perform_172 C hr hk hcn hcw kk9 km9 ha (by omega) w (lv_sub hl [1, 2, 3, 4, 5, 0] rfl) ho_x1 ho_x4 h
set_option maxRecDepth 100000 in
set_option maxHeartbeats 4000000 in
theorem wb_Rn_perform_9 {g : Nat} {S : St} {x1 : Nat} {x2 : Int32} {x3 : Int32} (C : CallFix p m c cX7_perform 6 s args tb RX7) (hr : meth.sig.returnType = (some .int)) (hk : meth.locks = false) (hcn : Kn Z A s s.heap) (hcw : Kw Z s) {S' : St} {r : Int32} {k9 : St → Nat → Int32 → Int32 → Option (St × Int32)} (kk9 : ∀ (ρ : Nat → Nat) (S : St) (x1 : Nat) (x2 : Int32) (x3 : Int32) (H : Heap) (locs : List Loc) (ls : Array Slot), Ag ρ0 ρ → kap S0 ≤ kap S → Wn Yc D T ρ S A s H locs → lv_has ls 6 [(0, .ref (ρ 6)), (1, .ref (ρ x1)), (2, .int x2), (3, .int x3)] → Ob Yc x1 2 → k9 S x1 x2 x3 = some (S', r) → W p l e (rmK 8 179 (kap S' - kap S0)) s m args below meth c H locs (kap S - kap S0) (2 * (kap S - kap S0)) (MQ below (QiM D T ρ0 A S' r) args s (kap S' - kap S0) (2 * (kap S' - kap S0)) A) (F0 m 9 ls [])) (km9 : ∀ (S : St) (x1 : Nat) (x2 : Int32) (x3 : Int32), k9 S x1 x2 x3 = some (S', r) → kap S ≤ kap S') (ha : Ag ρ0 ρ) (hm : kap S0 ≤ kap S) (w : Wn Yc D T ρ S A s H locs) (hl : lv_has ls 6 [(0, .ref (ρ 6)), (1, .ref (ρ x1)), (2, .int x2), (3, .int x3)]) (ho_x1 : Ob Yc x1 2) (h : b_Rn_perform_9 g k9 S x1 x2 x3 = some (S', r)) : W p l e (rmK 8 179 (kap S' - kap S0)) s m args below meth c H locs (kap S - kap S0) (2 * (kap S - kap S0)) (MQ below (QiM D T ρ0 A S' r) args s (kap S' - kap S0) (2 * (kap S' - kap S0)) A) (F0 m 9 ls []) := by
  have hT := kmb_Rn_perform_9 km9 h
  unfold b_Rn_perform_9 at h
  have nn : nq S S := nq_rf
  refine lv_iload_n C.1 C.2.1 dX7_perform_9 rfl (lv_at hl 3 rfl) ?_
  refine lv_bipush (v := 60) C.1 C.2.1 dX7_perform_10 (by decide) ?_
  refine lv_icmp_ge (tgt := 281) C.1 C.2.1 dX7_perform_12 (by decide) (fun hc => ?_) (fun hc => ?_)
  · replace h := ift hc h
    have hkn := nq_kap nn
    refine W.widen (k := kap S - kap S0) (n := 2 * (kap S - kap S0)) (by omega) (by omega) ?_
    exact w_Rn_perform_281 C hr hk hcn hcw ha (by omega) w (lv_sub hl [0, 2] rfl) h
  · replace h := iff0 hc h
    refine lv_iload_n C.1 C.2.1 dX7_perform_15 rfl (lv_at hl 2 rfl) ?_
    refine lv_aload_n C.1 C.2.1 dX7_perform_16 rfl (lv_at hl 1 rfl) ?_
    refine x_getI C w fX7_73 ho_x1 dX7_perform_17 ?_
    refine lv_icmp_ge (tgt := 281) C.1 C.2.1 dX7_perform_20 (by decide) (fun hc => ?_) (fun hc => ?_)
    · replace h := ift hc h
      have hkn := nq_kap nn
      refine W.widen (k := kap S - kap S0) (n := 2 * (kap S - kap S0)) (by omega) (by omega) ?_
      exact w_Rn_perform_281 C hr hk hcn hcw ha (by omega) w (lv_sub hl [0, 2] rfl) h
    · replace h := iff0 hc h
      refine lv_aload_n C.1 C.2.1 dX7_perform_23 rfl (lv_at hl 0 rfl) ?_
      refine lv_iload_n C.1 C.2.1 dX7_perform_24 rfl (lv_at hl 2 rfl) ?_
      obtain ⟨S_2, hS_2, h⟩ := bnd h
      replace nn : nq S_2 S := nq_tr (kq_Rn_leaveCatches hS_2) nn
      refine x_callVv (q := (RX7, TX7, 8)) (As := [.int x2]) (rest := []) C w (k_Rn_leaveCatches l D T ρ g H.size S hS_2) vX7_79 (hRK (by decide) (by decide)) obC6 (by decide) rfl rfl rfl hl.1 (Nat.le_of_ble_eq_true rfl) (hcK hT) dX7_perform_25 (fun H locs w => ?_)
      refine lv_aload_n C.1 C.2.1 dX7_perform_28 rfl (lv_at hl 0 rfl) ?_
      refine x_getC C w 4 fX7_30 obC6 rfl dX7_perform_29 ?_
      refine lv_iload_n C.1 C.2.1 dX7_perform_32 rfl (lv_at hl 2 rfl) ?_
      obtain ⟨S_3, hS_3, h⟩ := bnd h
      replace nn : nq S_3 S := nq_tr (kq_Bn_goTo hS_3) nn
      refine x_callVv (q := (RX1, TX1, 12)) (As := [.int x2]) (rest := []) C w (k_Bn_goTo l D T ρ g H.size S_2 hS_3) vX7_82 (hRK (by decide) (by decide)) obC4 (by decide) rfl rfl rfl hl.1 (Nat.le_of_ble_eq_true rfl) (hcK hT) dX7_perform_33 (fun H locs w => ?_)
      refine lv_aload_n C.1 C.2.1 dX7_perform_36 rfl (lv_at hl 1 rfl) ?_
      refine lv_iload_n C.1 C.2.1 dX7_perform_37 rfl (lv_at hl 2 rfl) ?_
      obtain ⟨e_5, he_5, h⟩ := bnd h
      refine x_callVeC (q := (RX4, TX4, 16)) (As := [.int x2]) (rest := []) C w hcn hcw (k_Pg_sortOf l Z D T ρ g H.size S_3 ho_x1 he_5) vX7_85 (hRK (by decide) (by decide)) ho_x1 (by decide) rfl rfl rfl hl.1 (Nat.le_of_ble_eq_true rfl) (hcK hT) dX7_perform_38 (fun ρ_4 H locs hag w => ?_)
      replace ha := ha.trans hag
      rw [← hag 6 (by decide)] at hl
      rw [← hag x1 (ncP ho_x1)] at hl
      refine lv_astore (lv' := [(4, .ref (Z.1 e_5)), (0, .ref (ρ_4 6)), (1, .ref (ρ_4 x1)), (2, .int x2), (3, .int x3)]) C.1 C.2.1 dX7_perform_41 hl (by decide) rfl (fun ls hl => ?_)
      refine lv_iconst (v := 0) C.1 C.2.1 dX7_perform_43 (by decide) ?_
      refine lv_istore (lv' := [(5, .int (0 : Int32)), (4, .ref (Z.1 e_5)), (0, .ref (ρ_4 6)), (1, .ref (ρ_4 x1)), (2, .int x2), (3, .int x3)]) C.1 C.2.1 dX7_perform_44 hl (by decide) rfl (fun ls hl => ?_)
      refine lv_aload_n C.1 C.2.1 dX7_perform_46 rfl (lv_at hl 2 rfl) ?_
      refine x_getC C w 4 fX7_30 obC6 rfl dX7_perform_47 ?_
      refine lv_aload C.1 C.2.1 dX7_perform_50 (lv_at hl 1 rfl) ?_
      obtain ⟨⟨S_6, v_7⟩, hv_7, h⟩ := bnd h
      have hkn := nq_kap nn
      have hk1 := km_Bn_lacksText hv_7
      have hT2 := km_Rn_perform_55 km9 h
      refine x_callViC (q := (RX1, TX1, 12)) (As := [.ref (Z.1 e_5)]) (rest := []) C w hcn hcw (k_Bn_lacksText l Z D T ρ_4 g H.size S_3 (so_lt he_5) hv_7) vX7_89 (hRK (by decide) (by decide)) obC4 (by decide) rfl rfl rfl hl.1 (Nat.le_of_ble_eq_true rfl) (hcM hm hkn hk1 hT2) dX7_perform_52 (fun ρ1 H locs hag w => ?_)
      replace ha := ha.trans hag
      rw [← hag 6 (by decide)] at hl
      rw [← hag x1 (ncP ho_x1)] at hl
      refine W.widen (k := kap S_6 - kap S0) (n := 2 * (kap S_6 - kap S0)) (by omega) (by omega) ?_
      exact w_Rn_perform_55 C hr hk hcn hcw kk9 km9 ha (by omega) w (lv_sub hl [2, 3, 4, 5, 1, 0] rfl) ho_x1 (so_lt he_5) h
theorem w_Rn_perform_9 {g : Nat} (C : CallFix p m c cX7_perform 6 s args tb RX7) (hr : meth.sig.returnType = (some .int)) (hk : meth.locks = false) (hcn : Kn Z A s s.heap) (hcw : Kw Z s) {S' : St} {r : Int32} (n : Nat) : ∀ (ρ : Nat → Nat) (S : St) (x1 : Nat) (x2 : Int32) (x3 : Int32) (H : Heap) (locs : List Loc) (ls : Array Slot), Ag ρ0 ρ → kap S0 ≤ kap S → Wn Yc D T ρ S A s H locs → lv_has ls 6 [(0, .ref (ρ 6)), (1, .ref (ρ x1)), (2, .int x2), (3, .int x3)] → Ob Yc x1 2 → m_Rn_perform_9 g n S x1 x2 x3 = some (S', r) → W p l e (rmK 8 179 (kap S' - kap S0)) s m args below meth c H locs (kap S - kap S0) (2 * (kap S - kap S0)) (MQ below (QiM D T ρ0 A S' r) args s (kap S' - kap S0) (2 * (kap S' - kap S0)) A) (F0 m 9 ls []) := by
  induction n with
  | zero => intro ρ S x1 x2 x3 H locs ls ha hm w hl ho_x1 h; exact absurd h (fun q => by cases q)
  | succ n ih => intro ρ S x1 x2 x3 H locs ls ha hm w hl ho_x1 h; exact wb_Rn_perform_9 C hr hk hcn hcw ih (km_Rn_perform_9 n) ha hm w hl ho_x1 h
set_option maxRecDepth 100000 in
set_option maxHeartbeats 4000000 in
theorem w_Rn_perform_5 {g : Nat} {S : St} {x1 : Nat} (C : CallFix p m c cX7_perform 6 s args tb RX7) (hr : meth.sig.returnType = (some .int)) (hk : meth.locks = false) (hcn : Kn Z A s s.heap) (hcw : Kw Z s) {S' : St} {r : Int32} (ha : Ag ρ0 ρ) (hm : kap S0 ≤ kap S) (w : Wn Yc D T ρ S A s H locs) (hl : lv_has ls 6 [(0, .ref (ρ 6)), (1, .ref (ρ x1))]) (ho_x1 : Ob Yc x1 2) (h : m_Rn_perform_5 g S x1 = some (S', r)) : W p l e (rmK 8 179 (kap S' - kap S0)) s m args below meth c H locs (kap S - kap S0) (2 * (kap S - kap S0)) (MQ below (QiM D T ρ0 A S' r) args s (kap S' - kap S0) (2 * (kap S' - kap S0)) A) (F0 m 5 ls []) := by
  have hT := km_Rn_perform_5 h
  unfold m_Rn_perform_5 at h
  have nn : nq S S := nq_rf
  refine lv_iconst (v := 0) C.1 C.2.1 dX7_perform_5 (by decide) ?_
  refine lv_istore_n (lv' := [(2, .int (0 : Int32)), (0, .ref (ρ 6)), (1, .ref (ρ x1))]) C.1 C.2.1 dX7_perform_6 rfl hl (by decide) rfl (fun ls hl => ?_)
  refine lv_iconst (v := 0) C.1 C.2.1 dX7_perform_7 (by decide) ?_
  refine lv_istore_n (lv' := [(3, .int (0 : Int32)), (2, .int (0 : Int32)), (0, .ref (ρ 6)), (1, .ref (ρ x1))]) C.1 C.2.1 dX7_perform_8 rfl hl (by decide) rfl (fun ls hl => ?_)
  have hkn := nq_kap nn
  refine W.widen (k := kap S - kap S0) (n := 2 * (kap S - kap S0)) (by omega) (by omega) ?_
  exact w_Rn_perform_9 C hr hk hcn hcw g _ _ _ _ _ _ _ _ ha (by omega) w (lv_sub hl [2, 3, 1, 0] rfl) ho_x1 h
set_option maxRecDepth 100000 in
set_option maxHeartbeats 4000000 in
theorem w_Rn_perform_0 {g : Nat} {S : St} {x1 : Nat} (C : CallFix p m c cX7_perform 6 s args tb RX7) (hr : meth.sig.returnType = (some .int)) (hk : meth.locks = false) (hcn : Kn Z A s s.heap) (hcw : Kw Z s) {S' : St} {r : Int32} (ha : Ag ρ0 ρ) (hm : kap S0 ≤ kap S) (w : Wn Yc D T ρ S A s H locs) (hl : lv_has ls 6 [(0, .ref (ρ 6)), (1, .ref (ρ x1))]) (ho_x1 : Ob Yc x1 2) (h : m_Rn_perform g S x1 = some (S', r)) : W p l e (rmK 8 179 (kap S' - kap S0)) s m args below meth c H locs (kap S - kap S0) (2 * (kap S - kap S0)) (MQ below (QiM D T ρ0 A S' r) args s (kap S' - kap S0) (2 * (kap S' - kap S0)) A) (F0 m 0 ls []) := by
  have hT := km_Rn_perform h
  unfold m_Rn_perform at h
  have nn : nq S S := nq_rf
  refine lv_aload_n C.1 C.2.1 dX7_perform_0 rfl (lv_at hl 0 rfl) ?_
  refine lv_aload_n C.1 C.2.1 dX7_perform_1 rfl (lv_at hl 1 rfl) ?_
  obtain ⟨S_1, hS_1, h⟩ := bnd h
  have hkn := nq_kap nn
  have hk1 := km_Rn_begin hS_1
  have hT2 := km_Rn_perform_5 h
  refine x_callVvM (q := (RX7, TX7, 8)) (As := [.ref (ρ x1)]) (rest := []) C w (k_Rn_begin l D T ρ g H.size S ho_x1 hS_1) vX7_72 (hRK (by decide) (by decide)) obC6 (by decide) rfl rfl rfl hl.1 (Nat.le_of_ble_eq_true rfl) (hcM hm hkn hk1 hT2) dX7_perform_2 (fun ρ1 H locs hag w => ?_)
  replace ha := ha.trans hag
  rw [← hag 6 (by decide)] at hl
  rw [← hag x1 (ncP ho_x1)] at hl
  refine W.widen (k := kap S_1 - kap S0) (n := 2 * (kap S_1 - kap S0)) (by omega) (by omega) ?_
  exact w_Rn_perform_5 C hr hk hcn hcw ha (by omega) w (lv_sub hl [0, 1] rfl) ho_x1 h
end S_Rn_perform
set_option maxRecDepth 100000 in
theorem k_Rn_perform (l : Launch) (Z : Ad) (D : va_G) (T : Cy) (ρ : Nat → Nat) (g sz : Nat) (S : St) {x1 : Nat} (ho_x1 : Ob Yc x1 2) {S' : St} {r : Int32} (h : m_Rn_perform g S x1 = some (S', r)) : MiC l Z D T ρ yX7_perform cX7_perform 6 (some .int) 8 179 S S' r [.ref (ρ 6), .ref (ρ x1)] sz :=
  x_inC (by decide) (Nat.le_of_ble_eq_true rfl) (fun p e s m below meth c ls C hr hk hcn hcw w hl => W.widen (Nat.zero_le _) (Nat.zero_le _) (w_Rn_perform_0 C hr hk hcn hcw Ag.rf (Nat.le_refl _) w hl ho_x1 h))

theorem dX12_compile_0 : decode cX12_compile 0 = .ok (.aload_n 0, 1) := by decide +kernel
theorem dX12_compile_1 : decode cX12_compile 1 = .ok (.getfield 37, 3) := by decide +kernel
theorem dX12_compile_4 : decode cX12_compile 4 = .ok (.aload_n 0, 1) := by decide +kernel
theorem dX12_compile_5 : decode cX12_compile 5 = .ok (.getfield 25, 3) := by decide +kernel
theorem dX12_compile_8 : decode cX12_compile 8 = .ok (.invokevirtual 72, 3) := by decide +kernel
theorem dX12_compile_11 : decode cX12_compile 11 = .ok (.istore_n 1, 1) := by decide +kernel
theorem dX12_compile_12 : decode cX12_compile 12 = .ok (.iload_n 1, 1) := by decide +kernel
theorem dX12_compile_13 : decode cX12_compile 13 = .ok (.iconst (-1), 1) := by decide +kernel
theorem dX12_compile_14 : decode cX12_compile 14 = .ok (.if_icmp .ne 11, 3) := by decide +kernel
theorem dX12_compile_17 : decode cX12_compile 17 = .ok (.aload_n 0, 1) := by decide +kernel
theorem dX12_compile_18 : decode cX12_compile 18 = .ok (.getfield 25, 3) := by decide +kernel
theorem dX12_compile_21 : decode cX12_compile 21 = .ok (.invokevirtual 76, 3) := by decide +kernel
theorem dX12_compile_24 : decode cX12_compile 24 = .ok (.istore_n 1, 1) := by decide +kernel
theorem dX12_compile_25 : decode cX12_compile 25 = .ok (.aload_n 0, 1) := by decide +kernel
theorem dX12_compile_26 : decode cX12_compile 26 = .ok (.getfield 14, 3) := by decide +kernel
theorem dX12_compile_29 : decode cX12_compile 29 = .ok (.invokevirtual 80, 3) := by decide +kernel
theorem dX12_compile_32 : decode cX12_compile 32 = .ok (.iload_n 1, 1) := by decide +kernel
theorem dX12_compile_33 : decode cX12_compile 33 = .ok (.iconst (-1), 1) := by decide +kernel
theorem dX12_compile_34 : decode cX12_compile 34 = .ok (.if_icmp .eq 7, 3) := by decide +kernel
theorem dX12_compile_37 : decode cX12_compile 37 = .ok (.iconst (-1), 1) := by decide +kernel
theorem dX12_compile_38 : decode cX12_compile 38 = .ok (.iload_n 1, 1) := by decide +kernel
theorem dX12_compile_39 : decode cX12_compile 39 = .ok (.isub, 1) := by decide +kernel
theorem dX12_compile_40 : decode cX12_compile 40 = .ok (.ireturn, 1) := by decide +kernel
theorem dX12_compile_41 : decode cX12_compile 41 = .ok (.aload_n 0, 1) := by decide +kernel
theorem dX12_compile_42 : decode cX12_compile 42 = .ok (.getfield 21, 3) := by decide +kernel
theorem dX12_compile_45 : decode cX12_compile 45 = .ok (.astore_n 2, 1) := by decide +kernel
theorem dX12_compile_46 : decode cX12_compile 46 = .ok (.aload_n 0, 1) := by decide +kernel
theorem dX12_compile_47 : decode cX12_compile 47 = .ok (.aload_n 0, 1) := by decide +kernel
theorem dX12_compile_48 : decode cX12_compile 48 = .ok (.getfield 25, 3) := by decide +kernel
theorem dX12_compile_51 : decode cX12_compile 51 = .ok (.putfield 21, 3) := by decide +kernel
theorem dX12_compile_54 : decode cX12_compile 54 = .ok (.aload_n 0, 1) := by decide +kernel
theorem dX12_compile_55 : decode cX12_compile 55 = .ok (.aload_n 2, 1) := by decide +kernel
theorem dX12_compile_56 : decode cX12_compile 56 = .ok (.putfield 25, 3) := by decide +kernel
theorem dX12_compile_59 : decode cX12_compile 59 = .ok (.aload_n 0, 1) := by decide +kernel
theorem dX12_compile_60 : decode cX12_compile 60 = .ok (.iconst 1, 1) := by decide +kernel
theorem dX12_compile_61 : decode cX12_compile 61 = .ok (.putfield 28, 3) := by decide +kernel
theorem dX12_compile_64 : decode cX12_compile 64 = .ok (.aload_n 0, 1) := by decide +kernel
theorem dX12_compile_65 : decode cX12_compile 65 = .ok (.getfield 46, 3) := by decide +kernel
theorem dX12_compile_68 : decode cX12_compile 68 = .ok (.getfield 83, 3) := by decide +kernel
theorem dX12_compile_71 : decode cX12_compile 71 = .ok (.aload_n 0, 1) := by decide +kernel
theorem dX12_compile_72 : decode cX12_compile 72 = .ok (.getfield 21, 3) := by decide +kernel
theorem dX12_compile_75 : decode cX12_compile 75 = .ok (.invokevirtual 87, 3) := by decide +kernel
theorem dX12_compile_78 : decode cX12_compile 78 = .ok (.aload_n 0, 1) := by decide +kernel
theorem dX12_compile_79 : decode cX12_compile 79 = .ok (.getfield 55, 3) := by decide +kernel
theorem dX12_compile_82 : decode cX12_compile 82 = .ok (.aload_n 0, 1) := by decide +kernel
theorem dX12_compile_83 : decode cX12_compile 83 = .ok (.getfield 21, 3) := by decide +kernel
theorem dX12_compile_86 : decode cX12_compile 86 = .ok (.invokevirtual 92, 3) := by decide +kernel
theorem dX12_compile_89 : decode cX12_compile 89 = .ok (.aload_n 0, 1) := by decide +kernel
theorem dX12_compile_90 : decode cX12_compile 90 = .ok (.getfield 21, 3) := by decide +kernel
theorem dX12_compile_93 : decode cX12_compile 93 = .ok (.getfield 95, 3) := by decide +kernel
theorem dX12_compile_96 : decode cX12_compile 96 = .ok (.ireturn, 1) := by decide +kernel
def m_TL_compile_89 (g : Nat) (S : St) : Option (St × Int32) :=
if gR S 0 4 = 1 ∨ gR S 0 4 = 2 then
lt (gR S 0 4) fun p_20 =>
some (S, gI S p_20 8)
else none
def m_TL_compile_78 (g : Nat) (S : St) : Option (St × Int32) :=
if gR S 0 4 = 1 ∨ gR S 0 4 = 2 then
lt (gR S 0 4) fun p_17 =>
(m_Rn_begin g S p_17).bind fun S_18 =>
m_TL_compile_89 g S_18
else none
def m_TL_compile_25 (g : Nat) (S : St) (x1 : Int32) : Option (St × Int32) :=
(m_Row_clear g S 10).bind fun S_5 =>
if x1 = (-1 : Int32) then (
  if gR S_5 0 4 = 1 ∨ gR S_5 0 4 = 2 then
  lt (gR S_5 0 4) fun p_7 =>
  if gR S_5 0 5 = 1 ∨ gR S_5 0 5 = 2 then
  lt (gR S_5 0 5) fun p_9 =>
  lt (sR S_5 0 4 p_9) fun S_10 =>
  lt (sR S_10 0 5 p_7) fun S_11 =>
  lt (sI S_11 0 6 (1 : Int32)) fun S_12 =>
  if gR S_12 0 4 = 1 ∨ gR S_12 0 4 = 2 then
  lt (gR S_12 0 4) fun p_14 =>
  (m_Tx_load g S_12 p_14).bind fun S_15 =>
  m_TL_compile_78 g S_15
  else none
  else none
  else none
) else (
  some (S_5, (-1 : Int32) - x1)
)
def m_TL_compile_24 (g : Nat) (S : St) (y0 : Int32) : Option (St × Int32) :=
m_TL_compile_25 g S y0
def m_TL_compile_11 (g : Nat) (S : St) (y0 : Int32) : Option (St × Int32) :=
if y0 = (-1 : Int32) then (
  if gR S 0 5 = 1 ∨ gR S 0 5 = 2 then
  lt (gR S 0 5) fun p_6 =>
  (m_Pg_judged g S p_6).bind fun (S_7, v_8) =>
  m_TL_compile_24 g S_7 v_8
  else none
) else (
  m_TL_compile_25 g S y0
)
def m_TL_compile (g : Nat) (S : St) : Option (St × Int32) :=
if gR S 0 5 = 1 ∨ gR S 0 5 = 2 then
lt (gR S 0 5) fun p_2 =>
(m_Rd_read g S p_2).bind fun (S_3, v_4) =>
m_TL_compile_11 g S_3 v_4
else none
theorem km_TL_compile_89 {g : Nat} {S : St} {S' : St} {r : Int32} (h : m_TL_compile_89 g S = some (S', r)) : kap S ≤ kap S' := by
  unfold m_TL_compile_89 at h
  have nn : nq S S := nq_rf
  by_cases hc1 : gR S 0 4 = 1 ∨ gR S 0 4 = 2
  case neg => exact absurd (iff0 hc1 h) (fun q => by cases q)
  replace h := ift hc1 h
  obtain ⟨p_20, ep_20, h⟩ := lt_e h
  obtain ⟨rfl, rfl⟩ := prI h
  have hkn := nq_kap nn
  omega
theorem km_TL_compile_78 {g : Nat} {S : St} {S' : St} {r : Int32} (h : m_TL_compile_78 g S = some (S', r)) : kap S ≤ kap S' := by
  unfold m_TL_compile_78 at h
  have nn : nq S S := nq_rf
  by_cases hc1 : gR S 0 4 = 1 ∨ gR S 0 4 = 2
  case neg => exact absurd (iff0 hc1 h) (fun q => by cases q)
  replace h := ift hc1 h
  obtain ⟨p_17, ep_17, h⟩ := lt_e h
  obtain ⟨S_18, hS_18, h⟩ := bnd h
  have hk1 := km_Rn_begin hS_18
  have hkn := nq_kap nn
  have h2 := km_TL_compile_89 h
  omega
theorem km_TL_compile_25 {g : Nat} {S : St} {x1 : Int32} {S' : St} {r : Int32} (h : m_TL_compile_25 g S x1 = some (S', r)) : kap S ≤ kap S' := by
  unfold m_TL_compile_25 at h
  have nn : nq S S := nq_rf
  obtain ⟨S_5, hS_5, h⟩ := bnd h
  replace nn : nq S_5 S := nq_tr (kq_Row_clear hS_5) nn
  by_cases hc1 : x1 = (-1 : Int32)
  · replace h := ift hc1 h
    by_cases hc2 : gR S_5 0 4 = 1 ∨ gR S_5 0 4 = 2
    case neg => exact absurd (iff0 hc2 h) (fun q => by cases q)
    replace h := ift hc2 h
    obtain ⟨p_7, ep_7, h⟩ := lt_e h
    by_cases hc3 : gR S_5 0 5 = 1 ∨ gR S_5 0 5 = 2
    case neg => exact absurd (iff0 hc3 h) (fun q => by cases q)
    replace h := ift hc3 h
    obtain ⟨p_9, ep_9, h⟩ := lt_e h
    obtain ⟨S_10, eS_10, h⟩ := lt_e h
    replace nn : nq S_10 S := nq_tr (by rw [eS_10]; rfl) nn
    obtain ⟨S_11, eS_11, h⟩ := lt_e h
    replace nn : nq S_11 S := nq_tr (by rw [eS_11]; rfl) nn
    obtain ⟨S_12, eS_12, h⟩ := lt_e h
    replace nn : nq S_12 S := nq_tr (by rw [eS_12]; rfl) nn
    by_cases hc4 : gR S_12 0 4 = 1 ∨ gR S_12 0 4 = 2
    case neg => exact absurd (iff0 hc4 h) (fun q => by cases q)
    replace h := ift hc4 h
    obtain ⟨p_14, ep_14, h⟩ := lt_e h
    obtain ⟨S_15, hS_15, h⟩ := bnd h
    have hk1 := km_Tx_load hS_15
    have hkn := nq_kap nn
    have h2 := km_TL_compile_78 h
    omega
  · replace h := iff0 hc1 h
    obtain ⟨rfl, rfl⟩ := prI h
    have hkn := nq_kap nn
    omega
theorem km_TL_compile_24 {g : Nat} {S : St} {y0 : Int32} {S' : St} {r : Int32} (h : m_TL_compile_24 g S y0 = some (S', r)) : kap S ≤ kap S' := by
  unfold m_TL_compile_24 at h
  have nn : nq S S := nq_rf
  have hkn := nq_kap nn
  have h2 := km_TL_compile_25 h
  omega
theorem km_TL_compile_11 {g : Nat} {S : St} {y0 : Int32} {S' : St} {r : Int32} (h : m_TL_compile_11 g S y0 = some (S', r)) : kap S ≤ kap S' := by
  unfold m_TL_compile_11 at h
  have nn : nq S S := nq_rf
  by_cases hc1 : y0 = (-1 : Int32)
  · replace h := ift hc1 h
    by_cases hc2 : gR S 0 5 = 1 ∨ gR S 0 5 = 2
    case neg => exact absurd (iff0 hc2 h) (fun q => by cases q)
    replace h := ift hc2 h
    obtain ⟨p_6, ep_6, h⟩ := lt_e h
    obtain ⟨⟨S_7, v_8⟩, hv_8, h⟩ := bnd h
    have hk1 := km_Pg_judged hv_8
    have hkn := nq_kap nn
    have h2 := km_TL_compile_24 h
    omega
  · replace h := iff0 hc1 h
    have hkn := nq_kap nn
    have h2 := km_TL_compile_25 h
    omega
theorem km_TL_compile {g : Nat} {S : St} {S' : St} {r : Int32} (h : m_TL_compile g S = some (S', r)) : kap S ≤ kap S' := by
  unfold m_TL_compile at h
  have nn : nq S S := nq_rf
  by_cases hc1 : gR S 0 5 = 1 ∨ gR S 0 5 = 2
  case neg => exact absurd (iff0 hc1 h) (fun q => by cases q)
  replace h := ift hc1 h
  obtain ⟨p_2, ep_2, h⟩ := lt_e h
  obtain ⟨⟨S_3, v_4⟩, hv_4, h⟩ := bnd h
  have hk1 := km_Rd_read hv_4
  have hkn := nq_kap nn
  have h2 := km_TL_compile_11 h
  omega
section S_TL_compile
variable {p : Program} {l : Launch} {e : Env} {s : State} {m : MethodId} {args : Array Value} {below : List Frame} {meth : Method} {c : Code} {H : Heap} {locs : List Loc} {ls : Array Slot} {D : va_G} {T : Cy} {ρ ρ0 : Nat → Nat} {S0 : St} {A : Nat → Prop} {Z : Ad}
set_option maxRecDepth 100000 in
set_option maxHeartbeats 4000000 in
theorem w_TL_compile_89 {g : Nat} {S : St} (C : CallFix p m c cX12_compile 3 s args tb RX12) (hr : meth.sig.returnType = (some .int)) (hk : meth.locks = false) (hcn : Kn Z A s s.heap) (hcw : Kw Z s) {S' : St} {r : Int32} (ha : Ag ρ0 ρ) (hm : kap S0 ≤ kap S) (w : Wn Yc D T ρ S A s H locs) (hl : lv_has ls 3 [(0, .ref (ρ 0))]) (h : m_TL_compile_89 g S = some (S', r)) : W p l e (rmK 8 193 (kap S' - kap S0)) s m args below meth c H locs (kap S - kap S0) (2 * (kap S - kap S0)) (MQ below (QiM D T ρ0 A S' r) args s (kap S' - kap S0) (2 * (kap S' - kap S0)) A) (F0 m 89 ls []) := by
  have hT := km_TL_compile_89 h
  unfold m_TL_compile_89 at h
  have nn : nq S S := nq_rf
  refine lv_aload_n C.1 C.2.1 dX12_compile_89 rfl (lv_at hl 0 rfl) ?_
  by_cases hz_19 : gR S 0 4 = 1 ∨ gR S 0 4 = 2
  case neg => exact absurd (iff0 hz_19 h) (fun q => by cases q)
  replace h := ift hz_19 h
  obtain ⟨p_20, ep_20, h⟩ := lt_e h
  have ho_p_20 : Ob Yc p_20 2 := obPg (by rw [ep_20]; exact hz_19)
  refine x_getR C w fX12_21 obC0 dX12_compile_90 ?_
  refine x_nmR ep_20 ?_
  refine x_getI C w fX12_95 ho_p_20 dX12_compile_93 ?_
  obtain ⟨rfl, rfl⟩ := prI h
  exact x_iretM C w ha hr hk dX12_compile_96 (by have := nq_kap nn; omega) (by have := nq_kap nn; omega)
set_option maxRecDepth 100000 in
set_option maxHeartbeats 4000000 in
theorem w_TL_compile_78 {g : Nat} {S : St} (C : CallFix p m c cX12_compile 3 s args tb RX12) (hr : meth.sig.returnType = (some .int)) (hk : meth.locks = false) (hcn : Kn Z A s s.heap) (hcw : Kw Z s) {S' : St} {r : Int32} (ha : Ag ρ0 ρ) (hm : kap S0 ≤ kap S) (w : Wn Yc D T ρ S A s H locs) (hl : lv_has ls 3 [(0, .ref (ρ 0))]) (h : m_TL_compile_78 g S = some (S', r)) : W p l e (rmK 8 193 (kap S' - kap S0)) s m args below meth c H locs (kap S - kap S0) (2 * (kap S - kap S0)) (MQ below (QiM D T ρ0 A S' r) args s (kap S' - kap S0) (2 * (kap S' - kap S0)) A) (F0 m 78 ls []) := by
  have hT := km_TL_compile_78 h
  unfold m_TL_compile_78 at h
  have nn : nq S S := nq_rf
  refine lv_aload_n C.1 C.2.1 dX12_compile_78 rfl (lv_at hl 0 rfl) ?_
  refine x_getC C w 6 fX12_55 obC0 rfl dX12_compile_79 ?_
  refine lv_aload_n C.1 C.2.1 dX12_compile_82 rfl (lv_at hl 0 rfl) ?_
  by_cases hz_16 : gR S 0 4 = 1 ∨ gR S 0 4 = 2
  case neg => exact absurd (iff0 hz_16 h) (fun q => by cases q)
  replace h := ift hz_16 h
  obtain ⟨p_17, ep_17, h⟩ := lt_e h
  have ho_p_17 : Ob Yc p_17 2 := obPg (by rw [ep_17]; exact hz_16)
  refine x_getR C w fX12_21 obC0 dX12_compile_83 ?_
  refine x_nmR ep_17 ?_
  obtain ⟨S_18, hS_18, h⟩ := bnd h
  have hkn := nq_kap nn
  have hk1 := km_Rn_begin hS_18
  have hT2 := km_TL_compile_89 h
  refine x_callVvM (q := (RX7, TX7, 8)) (As := [.ref (ρ p_17)]) (rest := []) C w (k_Rn_begin l D T ρ g H.size S ho_p_17 hS_18) vX12_92 (hRK (by decide) (by decide)) obC6 (by decide) rfl rfl rfl hl.1 (Nat.le_of_ble_eq_true rfl) (hcM hm hkn hk1 hT2) dX12_compile_86 (fun ρ1 H locs hag w => ?_)
  replace ha := ha.trans hag
  rw [← hag 0 (by decide)] at hl
  refine W.widen (k := kap S_18 - kap S0) (n := 2 * (kap S_18 - kap S0)) (by omega) (by omega) ?_
  exact w_TL_compile_89 C hr hk hcn hcw ha (by omega) w (lv_sub hl [0] rfl) h
set_option maxRecDepth 100000 in
set_option maxHeartbeats 4000000 in
theorem w_TL_compile_25 {g : Nat} {S : St} {x1 : Int32} (C : CallFix p m c cX12_compile 3 s args tb RX12) (hr : meth.sig.returnType = (some .int)) (hk : meth.locks = false) (hcn : Kn Z A s s.heap) (hcw : Kw Z s) {S' : St} {r : Int32} (ha : Ag ρ0 ρ) (hm : kap S0 ≤ kap S) (w : Wn Yc D T ρ S A s H locs) (hl : lv_has ls 3 [(0, .ref (ρ 0)), (1, .int x1)]) (h : m_TL_compile_25 g S x1 = some (S', r)) : W p l e (rmK 8 193 (kap S' - kap S0)) s m args below meth c H locs (kap S - kap S0) (2 * (kap S - kap S0)) (MQ below (QiM D T ρ0 A S' r) args s (kap S' - kap S0) (2 * (kap S' - kap S0)) A) (F0 m 25 ls []) := by
  have hT := km_TL_compile_25 h
  unfold m_TL_compile_25 at h
  have nn : nq S S := nq_rf
  refine lv_aload_n C.1 C.2.1 dX12_compile_25 rfl (lv_at hl 0 rfl) ?_
  refine x_getC C w 10 fX12_14 obC0 rfl dX12_compile_26 ?_
  obtain ⟨S_5, hS_5, h⟩ := bnd h
  replace nn : nq S_5 S := nq_tr (kq_Row_clear hS_5) nn
  refine x_callVv (q := (RX6, TX6, 4)) (As := []) (rest := []) C w (k_Row_clear l D T ρ g H.size S obC10 hS_5) vX12_80 (hRK (by decide) (by decide)) obC10 (by decide) rfl rfl rfl hl.1 (Nat.le_of_ble_eq_true rfl) (hcK hT) dX12_compile_29 (fun H locs w => ?_)
  refine lv_iload_n C.1 C.2.1 dX12_compile_32 rfl (lv_at hl 1 rfl) ?_
  refine lv_iconst (v := (-1)) C.1 C.2.1 dX12_compile_33 (by decide) ?_
  refine lv_icmp_eq (tgt := 41) C.1 C.2.1 dX12_compile_34 (by decide) (fun hc => ?_) (fun hc => ?_)
  · replace h := ift hc h
    refine lv_aload_n C.1 C.2.1 dX12_compile_41 rfl (lv_at hl 0 rfl) ?_
    by_cases hz_6 : gR S_5 0 4 = 1 ∨ gR S_5 0 4 = 2
    case neg => exact absurd (iff0 hz_6 h) (fun q => by cases q)
    replace h := ift hz_6 h
    obtain ⟨p_7, ep_7, h⟩ := lt_e h
    have ho_p_7 : Ob Yc p_7 2 := obPg (by rw [ep_7]; exact hz_6)
    refine x_getR C w fX12_21 obC0 dX12_compile_42 ?_
    refine x_nmR ep_7 ?_
    refine lv_astore_n (lv' := [(2, .ref (ρ p_7)), (0, .ref (ρ 0)), (1, .int x1)]) C.1 C.2.1 dX12_compile_45 rfl hl (by decide) rfl (fun ls hl => ?_)
    refine lv_aload_n C.1 C.2.1 dX12_compile_46 rfl (lv_at hl 1 rfl) ?_
    refine lv_aload_n C.1 C.2.1 dX12_compile_47 rfl (lv_at hl 1 rfl) ?_
    by_cases hz_8 : gR S_5 0 5 = 1 ∨ gR S_5 0 5 = 2
    case neg => exact absurd (iff0 hz_8 h) (fun q => by cases q)
    replace h := ift hz_8 h
    obtain ⟨p_9, ep_9, h⟩ := lt_e h
    have ho_p_9 : Ob Yc p_9 2 := obPg (by rw [ep_9]; exact hz_8)
    refine x_getR C w fX12_25 obC0 dX12_compile_48 ?_
    refine x_nmR ep_9 ?_
    obtain ⟨S_10, eS_10, h⟩ := lt_e h
    replace nn : nq S_10 S := nq_tr (by rw [eS_10]; rfl) nn
    refine y_putR C w eS_10 fX12_21 pX12_4 obC0 dX12_compile_51 (fun H locs w => ?_)
    refine lv_aload_n C.1 C.2.1 dX12_compile_54 rfl (lv_at hl 1 rfl) ?_
    refine lv_aload_n C.1 C.2.1 dX12_compile_55 rfl (lv_at hl 0 rfl) ?_
    obtain ⟨S_11, eS_11, h⟩ := lt_e h
    replace nn : nq S_11 S := nq_tr (by rw [eS_11]; rfl) nn
    refine y_putR C w eS_11 fX12_25 pX12_5 obC0 dX12_compile_56 (fun H locs w => ?_)
    refine lv_aload_n C.1 C.2.1 dX12_compile_59 rfl (lv_at hl 1 rfl) ?_
    refine lv_iconst (v := 1) C.1 C.2.1 dX12_compile_60 (by decide) ?_
    obtain ⟨S_12, eS_12, h⟩ := lt_e h
    replace nn : nq S_12 S := nq_tr (by rw [eS_12]; rfl) nn
    refine y_putZ C w eS_12 fX12_28 pX12_6 (by decide) obC0 dX12_compile_61 (fun H locs w => ?_)
    refine lv_aload_n C.1 C.2.1 dX12_compile_64 rfl (lv_at hl 1 rfl) ?_
    refine x_getC C w 4 fX12_46 obC0 rfl dX12_compile_65 ?_
    refine x_getC C w 5 fX12_83 obC4 rfl dX12_compile_68 ?_
    refine lv_aload_n C.1 C.2.1 dX12_compile_71 rfl (lv_at hl 1 rfl) ?_
    by_cases hz_13 : gR S_12 0 4 = 1 ∨ gR S_12 0 4 = 2
    case neg => exact absurd (iff0 hz_13 h) (fun q => by cases q)
    replace h := ift hz_13 h
    obtain ⟨p_14, ep_14, h⟩ := lt_e h
    have ho_p_14 : Ob Yc p_14 2 := obPg (by rw [ep_14]; exact hz_13)
    refine x_getR C w fX12_21 obC0 dX12_compile_72 ?_
    refine x_nmR ep_14 ?_
    obtain ⟨S_15, hS_15, h⟩ := bnd h
    have hkn := nq_kap nn
    have hk1 := km_Tx_load hS_15
    have hT2 := km_TL_compile_78 h
    refine x_callVvM (q := (RX10, TX10, 5)) (As := [.ref (ρ p_14)]) (rest := []) C w (k_Tx_load l D T ρ g H.size S_12 ho_p_14 hS_15) vX12_87 (hRK (by decide) (by decide)) obC5 (by decide) rfl rfl rfl hl.1 (Nat.le_of_ble_eq_true rfl) (hcM hm hkn hk1 hT2) dX12_compile_75 (fun ρ1 H locs hag w => ?_)
    replace ha := ha.trans hag
    rw [← hag p_7 (ncP ho_p_7)] at hl
    rw [← hag 0 (by decide)] at hl
    refine W.widen (k := kap S_15 - kap S0) (n := 2 * (kap S_15 - kap S0)) (by omega) (by omega) ?_
    exact w_TL_compile_78 C hr hk hcn hcw ha (by omega) w (lv_sub hl [1] rfl) h
  · replace h := iff0 hc h
    refine lv_iconst (v := (-1)) C.1 C.2.1 dX12_compile_37 (by decide) ?_
    refine lv_iload_n C.1 C.2.1 dX12_compile_38 rfl (lv_at hl 1 rfl) ?_
    refine lv_isub C.1 C.2.1 dX12_compile_39 ?_
    obtain ⟨rfl, rfl⟩ := prI h
    exact x_iretM C w ha hr hk dX12_compile_40 (by have := nq_kap nn; omega) (by have := nq_kap nn; omega)
set_option maxRecDepth 100000 in
set_option maxHeartbeats 4000000 in
theorem w_TL_compile_24 {g : Nat} {S : St} {y0 : Int32} (C : CallFix p m c cX12_compile 3 s args tb RX12) (hr : meth.sig.returnType = (some .int)) (hk : meth.locks = false) (hcn : Kn Z A s s.heap) (hcw : Kw Z s) {S' : St} {r : Int32} (ha : Ag ρ0 ρ) (hm : kap S0 ≤ kap S) (w : Wn Yc D T ρ S A s H locs) (hl : lv_has ls 3 [(0, .ref (ρ 0))]) (h : m_TL_compile_24 g S y0 = some (S', r)) : W p l e (rmK 8 193 (kap S' - kap S0)) s m args below meth c H locs (kap S - kap S0) (2 * (kap S - kap S0)) (MQ below (QiM D T ρ0 A S' r) args s (kap S' - kap S0) (2 * (kap S' - kap S0)) A) (F0 m 24 ls [.int y0]) := by
  have hT := km_TL_compile_24 h
  unfold m_TL_compile_24 at h
  have nn : nq S S := nq_rf
  refine lv_istore_n (lv' := [(1, .int y0), (0, .ref (ρ 0))]) C.1 C.2.1 dX12_compile_24 rfl hl (by decide) rfl (fun ls hl => ?_)
  have hkn := nq_kap nn
  refine W.widen (k := kap S - kap S0) (n := 2 * (kap S - kap S0)) (by omega) (by omega) ?_
  exact w_TL_compile_25 C hr hk hcn hcw ha (by omega) w (lv_sub hl [1, 0] rfl) h
set_option maxRecDepth 100000 in
set_option maxHeartbeats 4000000 in
theorem w_TL_compile_11 {g : Nat} {S : St} {y0 : Int32} (C : CallFix p m c cX12_compile 3 s args tb RX12) (hr : meth.sig.returnType = (some .int)) (hk : meth.locks = false) (hcn : Kn Z A s s.heap) (hcw : Kw Z s) {S' : St} {r : Int32} (ha : Ag ρ0 ρ) (hm : kap S0 ≤ kap S) (w : Wn Yc D T ρ S A s H locs) (hl : lv_has ls 3 [(0, .ref (ρ 0))]) (h : m_TL_compile_11 g S y0 = some (S', r)) : W p l e (rmK 8 193 (kap S' - kap S0)) s m args below meth c H locs (kap S - kap S0) (2 * (kap S - kap S0)) (MQ below (QiM D T ρ0 A S' r) args s (kap S' - kap S0) (2 * (kap S' - kap S0)) A) (F0 m 11 ls [.int y0]) := by
  have hT := km_TL_compile_11 h
  unfold m_TL_compile_11 at h
  have nn : nq S S := nq_rf
  refine lv_istore_n (lv' := [(1, .int y0), (0, .ref (ρ 0))]) C.1 C.2.1 dX12_compile_11 rfl hl (by decide) rfl (fun ls hl => ?_)
  refine lv_iload_n C.1 C.2.1 dX12_compile_12 rfl (lv_at hl 0 rfl) ?_
  refine lv_iconst (v := (-1)) C.1 C.2.1 dX12_compile_13 (by decide) ?_
  refine lv_icmp_ne (tgt := 25) C.1 C.2.1 dX12_compile_14 (by decide) (fun hc => ?_) (fun hc => ?_)
  · replace h := iff0 hc h
    have hkn := nq_kap nn
    refine W.widen (k := kap S - kap S0) (n := 2 * (kap S - kap S0)) (by omega) (by omega) ?_
    exact w_TL_compile_25 C hr hk hcn hcw ha (by omega) w (lv_sub hl [1, 0] rfl) h
  · replace h := ift hc h
    refine lv_aload_n C.1 C.2.1 dX12_compile_17 rfl (lv_at hl 1 rfl) ?_
    by_cases hz_5 : gR S 0 5 = 1 ∨ gR S 0 5 = 2
    case neg => exact absurd (iff0 hz_5 h) (fun q => by cases q)
    replace h := ift hz_5 h
    obtain ⟨p_6, ep_6, h⟩ := lt_e h
    have ho_p_6 : Ob Yc p_6 2 := obPg (by rw [ep_6]; exact hz_5)
    refine x_getR C w fX12_25 obC0 dX12_compile_18 ?_
    refine x_nmR ep_6 ?_
    obtain ⟨⟨S_7, v_8⟩, hv_8, h⟩ := bnd h
    have hkn := nq_kap nn
    have hk1 := km_Pg_judged hv_8
    have hT2 := km_TL_compile_24 h
    refine x_callViC (q := (RX4, TX4, 16)) (As := []) (rest := []) C w hcn hcw (k_Pg_judged l Z D T ρ g H.size S ho_p_6 hv_8) vX12_76 (hRK (by decide) (by decide)) ho_p_6 (by decide) rfl rfl rfl hl.1 (Nat.le_of_ble_eq_true rfl) (hcM hm hkn hk1 hT2) dX12_compile_21 (fun ρ1 H locs hag w => ?_)
    replace ha := ha.trans hag
    rw [← hag 0 (by decide)] at hl
    refine W.widen (k := kap S_7 - kap S0) (n := 2 * (kap S_7 - kap S0)) (by omega) (by omega) ?_
    exact w_TL_compile_24 C hr hk hcn hcw ha (by omega) w (lv_sub hl [1] rfl) h
set_option maxRecDepth 100000 in
set_option maxHeartbeats 4000000 in
theorem w_TL_compile_0 {g : Nat} {S : St} (C : CallFix p m c cX12_compile 3 s args tb RX12) (hr : meth.sig.returnType = (some .int)) (hk : meth.locks = false) (hcn : Kn Z A s s.heap) (hcw : Kw Z s) {S' : St} {r : Int32} (ha : Ag ρ0 ρ) (hm : kap S0 ≤ kap S) (w : Wn Yc D T ρ S A s H locs) (hl : lv_has ls 3 [(0, .ref (ρ 0))]) (h : m_TL_compile g S = some (S', r)) : W p l e (rmK 8 193 (kap S' - kap S0)) s m args below meth c H locs (kap S - kap S0) (2 * (kap S - kap S0)) (MQ below (QiM D T ρ0 A S' r) args s (kap S' - kap S0) (2 * (kap S' - kap S0)) A) (F0 m 0 ls []) := by
  have hT := km_TL_compile h
  unfold m_TL_compile at h
  have nn : nq S S := nq_rf
  refine lv_aload_n C.1 C.2.1 dX12_compile_0 rfl (lv_at hl 0 rfl) ?_
  refine x_getC C w 3 fX12_37 obC0 rfl dX12_compile_1 ?_
  refine lv_aload_n C.1 C.2.1 dX12_compile_4 rfl (lv_at hl 0 rfl) ?_
  by_cases hz_1 : gR S 0 5 = 1 ∨ gR S 0 5 = 2
  case neg => exact absurd (iff0 hz_1 h) (fun q => by cases q)
  replace h := ift hz_1 h
  obtain ⟨p_2, ep_2, h⟩ := lt_e h
  have ho_p_2 : Ob Yc p_2 2 := obPg (by rw [ep_2]; exact hz_1)
  refine x_getR C w fX12_25 obC0 dX12_compile_5 ?_
  refine x_nmR ep_2 ?_
  obtain ⟨⟨S_3, v_4⟩, hv_4, h⟩ := bnd h
  have hkn := nq_kap nn
  have hk1 := km_Rd_read hv_4
  have hT2 := km_TL_compile_11 h
  refine x_callViC (q := (RX5, TX5, 5)) (As := [.ref (ρ p_2)]) (rest := []) C w hcn hcw (k_Rd_read l Z D T ρ g H.size S ho_p_2 hv_4) vX12_72 (hRK (by decide) (by decide)) obC3 (by decide) rfl rfl rfl hl.1 (Nat.le_of_ble_eq_true rfl) (hcM hm hkn hk1 hT2) dX12_compile_8 (fun ρ1 H locs hag w => ?_)
  replace ha := ha.trans hag
  rw [← hag 0 (by decide)] at hl
  refine W.widen (k := kap S_3 - kap S0) (n := 2 * (kap S_3 - kap S0)) (by omega) (by omega) ?_
  exact w_TL_compile_11 C hr hk hcn hcw ha (by omega) w (lv_sub hl [0] rfl) h
end S_TL_compile
set_option maxRecDepth 100000 in
theorem k_TL_compile (l : Launch) (Z : Ad) (D : va_G) (T : Cy) (ρ : Nat → Nat) (g sz : Nat) (S : St) {S' : St} {r : Int32} (h : m_TL_compile g S = some (S', r)) : MiC l Z D T ρ yX12_compile cX12_compile 3 (some .int) 8 193 S S' r [.ref (ρ 0)] sz :=
  x_inC (by decide) (Nat.le_of_ble_eq_true rfl) (fun p e s m below meth c ls C hr hk hcn hcw w hl => W.widen (Nat.zero_le _) (Nat.zero_le _) (w_TL_compile_0 C hr hk hcn hcw Ag.rf (Nat.le_refl _) w hl h))

theorem dX12_run_0 : decode cX12_run 0 = .ok (.aload_n 0, 1) := by decide +kernel
theorem dX12_run_1 : decode cX12_run 1 = .ok (.getfield 28, 3) := by decide +kernel
theorem dX12_run_4 : decode cX12_run 4 = .ok (.ifCond .ne 6, 3) := by decide +kernel
theorem dX12_run_7 : decode cX12_run 7 = .ok (.bipush (-2), 2) := by decide +kernel
theorem dX12_run_9 : decode cX12_run 9 = .ok (.ireturn, 1) := by decide +kernel
theorem dX12_run_10 : decode cX12_run 10 = .ok (.aload_n 0, 1) := by decide +kernel
theorem dX12_run_11 : decode cX12_run 11 = .ok (.getfield 55, 3) := by decide +kernel
theorem dX12_run_14 : decode cX12_run 14 = .ok (.aload_n 0, 1) := by decide +kernel
theorem dX12_run_15 : decode cX12_run 15 = .ok (.getfield 21, 3) := by decide +kernel
theorem dX12_run_18 : decode cX12_run 18 = .ok (.invokevirtual 98, 3) := by decide +kernel
theorem dX12_run_21 : decode cX12_run 21 = .ok (.pop, 1) := by decide +kernel
theorem dX12_run_22 : decode cX12_run 22 = .ok (.iconst 1, 1) := by decide +kernel
theorem dX12_run_23 : decode cX12_run 23 = .ok (.aload_n 0, 1) := by decide +kernel
theorem dX12_run_24 : decode cX12_run 24 = .ok (.getfield 55, 3) := by decide +kernel
theorem dX12_run_27 : decode cX12_run 27 = .ok (.getfield 101, 3) := by decide +kernel
theorem dX12_run_30 : decode cX12_run 30 = .ok (.iconst 0, 1) := by decide +kernel
theorem dX12_run_31 : decode cX12_run 31 = .ok (.iaload, 1) := by decide +kernel
theorem dX12_run_32 : decode cX12_run 32 = .ok (.iadd, 1) := by decide +kernel
theorem dX12_run_33 : decode cX12_run 33 = .ok (.ireturn, 1) := by decide +kernel
def m_TL_run_21 (g : Nat) (S : St) (y0 : Int32) : Option (St × Int32) :=
(aI S 79 (0 : Int32)).bind fun v_5 =>
some (S, (1 : Int32) + v_5)
def m_TL_run (g : Nat) (S : St) : Option (St × Int32) :=
if (gI S 0 6) = 0 then (
  some (S, (-2 : Int32))
) else (
  if gR S 0 4 = 1 ∨ gR S 0 4 = 2 then
  lt (gR S 0 4) fun p_2 =>
  (m_Rn_perform g S p_2).bind fun (S_3, v_4) =>
  m_TL_run_21 g S_3 v_4
  else none
)
theorem km_TL_run_21 {g : Nat} {S : St} {y0 : Int32} {S' : St} {r : Int32} (h : m_TL_run_21 g S y0 = some (S', r)) : kap S ≤ kap S' := by
  unfold m_TL_run_21 at h
  have nn : nq S S := nq_rf
  obtain ⟨v_5, hv_5, h⟩ := bnd h
  obtain ⟨rfl, rfl⟩ := prI h
  have hkn := nq_kap nn
  omega
theorem km_TL_run {g : Nat} {S : St} {S' : St} {r : Int32} (h : m_TL_run g S = some (S', r)) : kap S ≤ kap S' := by
  unfold m_TL_run at h
  have nn : nq S S := nq_rf
  by_cases hc1 : (gI S 0 6) = 0
  · replace h := ift hc1 h
    obtain ⟨rfl, rfl⟩ := prI h
    have hkn := nq_kap nn
    omega
  · replace h := iff0 hc1 h
    by_cases hc2 : gR S 0 4 = 1 ∨ gR S 0 4 = 2
    case neg => exact absurd (iff0 hc2 h) (fun q => by cases q)
    replace h := ift hc2 h
    obtain ⟨p_2, ep_2, h⟩ := lt_e h
    obtain ⟨⟨S_3, v_4⟩, hv_4, h⟩ := bnd h
    have hk1 := km_Rn_perform hv_4
    have hkn := nq_kap nn
    have h2 := km_TL_run_21 h
    omega
section S_TL_run
variable {p : Program} {l : Launch} {e : Env} {s : State} {m : MethodId} {args : Array Value} {below : List Frame} {meth : Method} {c : Code} {H : Heap} {locs : List Loc} {ls : Array Slot} {D : va_G} {T : Cy} {ρ ρ0 : Nat → Nat} {S0 : St} {A : Nat → Prop} {Z : Ad}
set_option maxRecDepth 100000 in
set_option maxHeartbeats 4000000 in
theorem w_TL_run_21 {g : Nat} {S : St} {y0 : Int32} (C : CallFix p m c cX12_run 1 s args tb RX12) (hr : meth.sig.returnType = (some .int)) (hk : meth.locks = false) (hcn : Kn Z A s s.heap) (hcw : Kw Z s) {S' : St} {r : Int32} (ha : Ag ρ0 ρ) (hm : kap S0 ≤ kap S) (w : Wn Yc D T ρ S A s H locs) (hl : lv_has ls 1 [(0, .ref (ρ 0))]) (h : m_TL_run_21 g S y0 = some (S', r)) : W p l e (rmK 9 204 (kap S' - kap S0)) s m args below meth c H locs (kap S - kap S0) (2 * (kap S - kap S0)) (MQ below (QiM D T ρ0 A S' r) args s (kap S' - kap S0) (2 * (kap S' - kap S0)) A) (F0 m 21 ls [.int y0]) := by
  have hT := km_TL_run_21 h
  unfold m_TL_run_21 at h
  have nn : nq S S := nq_rf
  refine lv_pop C.1 C.2.1 dX12_run_21 rfl ?_
  refine lv_iconst (v := 1) C.1 C.2.1 dX12_run_22 (by decide) ?_
  refine lv_aload_n C.1 C.2.1 dX12_run_23 rfl (lv_at hl 0 rfl) ?_
  refine x_getC C w 6 fX12_55 obC0 rfl dX12_run_24 ?_
  refine x_getC C w 79 fX12_101 obC6 rfl dX12_run_27 ?_
  refine lv_iconst (v := 0) C.1 C.2.1 dX12_run_30 (by decide) ?_
  obtain ⟨v_5, hv_5, h⟩ := bnd h
  refine x_iald C w obC79 hv_5 dX12_run_31 ?_
  refine lv_iadd C.1 C.2.1 dX12_run_32 ?_
  obtain ⟨rfl, rfl⟩ := prI h
  exact x_iretM C w ha hr hk dX12_run_33 (by have := nq_kap nn; omega) (by have := nq_kap nn; omega)
set_option maxRecDepth 100000 in
set_option maxHeartbeats 4000000 in
theorem w_TL_run_0 {g : Nat} {S : St} (C : CallFix p m c cX12_run 1 s args tb RX12) (hr : meth.sig.returnType = (some .int)) (hk : meth.locks = false) (hcn : Kn Z A s s.heap) (hcw : Kw Z s) {S' : St} {r : Int32} (ha : Ag ρ0 ρ) (hm : kap S0 ≤ kap S) (w : Wn Yc D T ρ S A s H locs) (hl : lv_has ls 1 [(0, .ref (ρ 0))]) (h : m_TL_run g S = some (S', r)) : W p l e (rmK 9 204 (kap S' - kap S0)) s m args below meth c H locs (kap S - kap S0) (2 * (kap S - kap S0)) (MQ below (QiM D T ρ0 A S' r) args s (kap S' - kap S0) (2 * (kap S' - kap S0)) A) (F0 m 0 ls []) := by
  have hT := km_TL_run h
  unfold m_TL_run at h
  have nn : nq S S := nq_rf
  refine lv_aload_n C.1 C.2.1 dX12_run_0 rfl (lv_at hl 0 rfl) ?_
  refine x_getI C w fX12_28 obC0 dX12_run_1 ?_
  refine lv_if_ne (tgt := 10) C.1 C.2.1 dX12_run_4 (by decide) (fun hc => ?_) (fun hc => ?_)
  · replace h := iff0 hc h
    refine lv_aload_n C.1 C.2.1 dX12_run_10 rfl (lv_at hl 0 rfl) ?_
    refine x_getC C w 6 fX12_55 obC0 rfl dX12_run_11 ?_
    refine lv_aload_n C.1 C.2.1 dX12_run_14 rfl (lv_at hl 0 rfl) ?_
    by_cases hz_1 : gR S 0 4 = 1 ∨ gR S 0 4 = 2
    case neg => exact absurd (iff0 hz_1 h) (fun q => by cases q)
    replace h := ift hz_1 h
    obtain ⟨p_2, ep_2, h⟩ := lt_e h
    have ho_p_2 : Ob Yc p_2 2 := obPg (by rw [ep_2]; exact hz_1)
    refine x_getR C w fX12_21 obC0 dX12_run_15 ?_
    refine x_nmR ep_2 ?_
    obtain ⟨⟨S_3, v_4⟩, hv_4, h⟩ := bnd h
    have hkn := nq_kap nn
    have hk1 := km_Rn_perform hv_4
    have hT2 := km_TL_run_21 h
    refine x_callViC (q := (RX7, TX7, 8)) (As := [.ref (ρ p_2)]) (rest := []) C w hcn hcw (k_Rn_perform l Z D T ρ g H.size S ho_p_2 hv_4) vX12_98 (hRK (by decide) (by decide)) obC6 (by decide) rfl rfl rfl hl.1 (Nat.le_of_ble_eq_true rfl) (hcM hm hkn hk1 hT2) dX12_run_18 (fun ρ1 H locs hag w => ?_)
    replace ha := ha.trans hag
    rw [← hag 0 (by decide)] at hl
    refine W.widen (k := kap S_3 - kap S0) (n := 2 * (kap S_3 - kap S0)) (by omega) (by omega) ?_
    exact w_TL_run_21 C hr hk hcn hcw ha (by omega) w (lv_sub hl [0] rfl) h
  · replace h := ift hc h
    refine lv_bipush (v := (-2)) C.1 C.2.1 dX12_run_7 (by decide) ?_
    obtain ⟨rfl, rfl⟩ := prI h
    exact x_iretM C w ha hr hk dX12_run_9 (by have := nq_kap nn; omega) (by have := nq_kap nn; omega)
end S_TL_run
set_option maxRecDepth 100000 in
theorem k_TL_run (l : Launch) (Z : Ad) (D : va_G) (T : Cy) (ρ : Nat → Nat) (g sz : Nat) (S : St) {S' : St} {r : Int32} (h : m_TL_run g S = some (S', r)) : MiC l Z D T ρ yX12_run cX12_run 1 (some .int) 9 204 S S' r [.ref (ρ 0)] sz :=
  x_inC (by decide) (Nat.le_of_ble_eq_true rfl) (fun p e s m below meth c ls C hr hk hcn hcw w hl => W.widen (Nat.zero_le _) (Nat.zero_le _) (w_TL_run_0 C hr hk hcn hcw Ag.rf (Nat.le_refl _) w hl h))

theorem dX12_spelled_0 : decode cX12_spelled 0 = .ok (.aload_n 0, 1) := by decide +kernel
theorem dX12_spelled_1 : decode cX12_spelled 1 = .ok (.getfield 21, 3) := by decide +kernel
theorem dX12_spelled_4 : decode cX12_spelled 4 = .ok (.iload_n 1, 1) := by decide +kernel
theorem dX12_spelled_5 : decode cX12_spelled 5 = .ok (.iload_n 2, 1) := by decide +kernel
theorem dX12_spelled_6 : decode cX12_spelled 6 = .ok (.invokevirtual 114, 3) := by decide +kernel
theorem dX12_spelled_9 : decode cX12_spelled 9 = .ok (.ireturn, 1) := by decide +kernel
def m_TL_spelled_9 (g : Nat) (S : St) (y0 : Int32) : Option (St × Int32) :=
some (S, y0)
def m_TL_spelled (g : Nat) (S : St) (x1 : Int32) (x2 : Int32) : Option (St × Int32) :=
if gR S 0 4 = 1 ∨ gR S 0 4 = 2 then
lt (gR S 0 4) fun p_2 =>
(m_Pg_spelledByte g S p_2 x1 x2).bind fun (S_3, v_4) =>
m_TL_spelled_9 g S_3 v_4
else none
theorem km_TL_spelled_9 {g : Nat} {S : St} {y0 : Int32} {S' : St} {r : Int32} (h : m_TL_spelled_9 g S y0 = some (S', r)) : kap S ≤ kap S' := by
  unfold m_TL_spelled_9 at h
  have nn : nq S S := nq_rf
  obtain ⟨rfl, rfl⟩ := prI h
  have hkn := nq_kap nn
  omega
theorem km_TL_spelled {g : Nat} {S : St} {x1 : Int32} {x2 : Int32} {S' : St} {r : Int32} (h : m_TL_spelled g S x1 x2 = some (S', r)) : kap S ≤ kap S' := by
  unfold m_TL_spelled at h
  have nn : nq S S := nq_rf
  by_cases hc1 : gR S 0 4 = 1 ∨ gR S 0 4 = 2
  case neg => exact absurd (iff0 hc1 h) (fun q => by cases q)
  replace h := ift hc1 h
  obtain ⟨p_2, ep_2, h⟩ := lt_e h
  obtain ⟨⟨S_3, v_4⟩, hv_4, h⟩ := bnd h
  have hk1 := km_Pg_spelledByte hv_4
  have hkn := nq_kap nn
  have h2 := km_TL_spelled_9 h
  omega
section S_TL_spelled
variable {p : Program} {l : Launch} {e : Env} {s : State} {m : MethodId} {args : Array Value} {below : List Frame} {meth : Method} {c : Code} {H : Heap} {locs : List Loc} {ls : Array Slot} {D : va_G} {T : Cy} {ρ ρ0 : Nat → Nat} {S0 : St} {A : Nat → Prop} {Z : Ad}
set_option maxRecDepth 100000 in
set_option maxHeartbeats 4000000 in
theorem w_TL_spelled_9 {g : Nat} {S : St} {y0 : Int32} (C : CallFix p m c cX12_spelled 3 s args tb RX12) (hr : meth.sig.returnType = (some .int)) (hk : meth.locks = false) (hcn : Kn Z A s s.heap) (hcw : Kw Z s) {S' : St} {r : Int32} (ha : Ag ρ0 ρ) (hm : kap S0 ≤ kap S) (w : Wn Yc D T ρ S A s H locs) (hl : lv_has ls 3 []) (h : m_TL_spelled_9 g S y0 = some (S', r)) : W p l e (rmK 6 146 (kap S' - kap S0)) s m args below meth c H locs (kap S - kap S0) (2 * (kap S - kap S0)) (MQ below (QiM D T ρ0 A S' r) args s (kap S' - kap S0) (2 * (kap S' - kap S0)) A) (F0 m 9 ls [.int y0]) := by
  have hT := km_TL_spelled_9 h
  unfold m_TL_spelled_9 at h
  have nn : nq S S := nq_rf
  obtain ⟨rfl, rfl⟩ := prI h
  exact x_iretM C w ha hr hk dX12_spelled_9 (by have := nq_kap nn; omega) (by have := nq_kap nn; omega)
set_option maxRecDepth 100000 in
set_option maxHeartbeats 4000000 in
theorem w_TL_spelled_0 {g : Nat} {S : St} {x1 : Int32} {x2 : Int32} (C : CallFix p m c cX12_spelled 3 s args tb RX12) (hr : meth.sig.returnType = (some .int)) (hk : meth.locks = false) (hcn : Kn Z A s s.heap) (hcw : Kw Z s) {S' : St} {r : Int32} (ha : Ag ρ0 ρ) (hm : kap S0 ≤ kap S) (w : Wn Yc D T ρ S A s H locs) (hl : lv_has ls 3 [(0, .ref (ρ 0)), (1, .int x1), (2, .int x2)]) (h : m_TL_spelled g S x1 x2 = some (S', r)) : W p l e (rmK 6 146 (kap S' - kap S0)) s m args below meth c H locs (kap S - kap S0) (2 * (kap S - kap S0)) (MQ below (QiM D T ρ0 A S' r) args s (kap S' - kap S0) (2 * (kap S' - kap S0)) A) (F0 m 0 ls []) := by
  have hT := km_TL_spelled h
  unfold m_TL_spelled at h
  have nn : nq S S := nq_rf
  refine lv_aload_n C.1 C.2.1 dX12_spelled_0 rfl (lv_at hl 0 rfl) ?_
  by_cases hz_1 : gR S 0 4 = 1 ∨ gR S 0 4 = 2
  case neg => exact absurd (iff0 hz_1 h) (fun q => by cases q)
  replace h := ift hz_1 h
  obtain ⟨p_2, ep_2, h⟩ := lt_e h
  have ho_p_2 : Ob Yc p_2 2 := obPg (by rw [ep_2]; exact hz_1)
  refine x_getR C w fX12_21 obC0 dX12_spelled_1 ?_
  refine x_nmR ep_2 ?_
  refine lv_iload_n C.1 C.2.1 dX12_spelled_4 rfl (lv_at hl 1 rfl) ?_
  refine lv_iload_n C.1 C.2.1 dX12_spelled_5 rfl (lv_at hl 2 rfl) ?_
  obtain ⟨⟨S_3, v_4⟩, hv_4, h⟩ := bnd h
  have hkn := nq_kap nn
  have hk1 := km_Pg_spelledByte hv_4
  have hT2 := km_TL_spelled_9 h
  refine x_callViC (q := (RX4, TX4, 16)) (As := [.int x1, .int x2]) (rest := []) C w hcn hcw (k_Pg_spelledByte l Z D T ρ g H.size S ho_p_2 hv_4) vX12_114 (hRK (by decide) (by decide)) ho_p_2 (by decide) rfl rfl rfl hl.1 (Nat.le_of_ble_eq_true rfl) (hcM hm hkn hk1 hT2) dX12_spelled_6 (fun ρ1 H locs hag w => ?_)
  replace ha := ha.trans hag
  rw [← hag 0 (by decide)] at hl
  refine W.widen (k := kap S_3 - kap S0) (n := 2 * (kap S_3 - kap S0)) (by omega) (by omega) ?_
  exact w_TL_spelled_9 C hr hk hcn hcw ha (by omega) w (lv_sub hl [] rfl) h
end S_TL_spelled
set_option maxRecDepth 100000 in
theorem k_TL_spelled (l : Launch) (Z : Ad) (D : va_G) (T : Cy) (ρ : Nat → Nat) (g sz : Nat) (S : St) {x1 : Int32} {x2 : Int32} {S' : St} {r : Int32} (h : m_TL_spelled g S x1 x2 = some (S', r)) : MiC l Z D T ρ yX12_spelled cX12_spelled 3 (some .int) 6 146 S S' r [.ref (ρ 0), .int x1, .int x2] sz :=
  x_inC (by decide) (Nat.le_of_ble_eq_true rfl) (fun p e s m below meth c ls C hr hk hcn hcw w hl => W.widen (Nat.zero_le _) (Nat.zero_le _) (w_TL_spelled_0 C hr hk hcn hcw Ag.rf (Nat.le_refl _) w hl h))

theorem dX12_shrink_0 : decode cX12_shrink 0 = .ok (.aload_n 0, 1) := by decide +kernel
theorem dX12_shrink_1 : decode cX12_shrink 1 = .ok (.getfield 55, 3) := by decide +kernel
theorem dX12_shrink_4 : decode cX12_shrink 4 = .ok (.getfield 101, 3) := by decide +kernel
theorem dX12_shrink_7 : decode cX12_shrink 7 = .ok (.iconst 1, 1) := by decide +kernel
theorem dX12_shrink_8 : decode cX12_shrink 8 = .ok (.iaload, 1) := by decide +kernel
theorem dX12_shrink_9 : decode cX12_shrink 9 = .ok (.istore_n 1, 1) := by decide +kernel
theorem dX12_shrink_10 : decode cX12_shrink 10 = .ok (.aload_n 0, 1) := by decide +kernel
theorem dX12_shrink_11 : decode cX12_shrink 11 = .ok (.getfield 28, 3) := by decide +kernel
theorem dX12_shrink_14 : decode cX12_shrink 14 = .ok (.ifCond .eq 7, 3) := by decide +kernel
theorem dX12_shrink_17 : decode cX12_shrink 17 = .ok (.iload_n 1, 1) := by decide +kernel
theorem dX12_shrink_18 : decode cX12_shrink 18 = .ok (.ifCond .ne 6, 3) := by decide +kernel
theorem dX12_shrink_21 : decode cX12_shrink 21 = .ok (.bipush (-2), 2) := by decide +kernel
theorem dX12_shrink_23 : decode cX12_shrink 23 = .ok (.ireturn, 1) := by decide +kernel
theorem dX12_shrink_24 : decode cX12_shrink 24 = .ok (.iconst 1, 1) := by decide +kernel
theorem dX12_shrink_25 : decode cX12_shrink 25 = .ok (.istore_n 2, 1) := by decide +kernel
theorem dX12_shrink_26 : decode cX12_shrink 26 = .ok (.iconst 0, 1) := by decide +kernel
theorem dX12_shrink_27 : decode cX12_shrink 27 = .ok (.istore_n 3, 1) := by decide +kernel
theorem dX12_shrink_28 : decode cX12_shrink 28 = .ok (.iload_n 3, 1) := by decide +kernel
theorem dX12_shrink_29 : decode cX12_shrink 29 = .ok (.bipush 60, 2) := by decide +kernel
theorem dX12_shrink_31 : decode cX12_shrink 31 = .ok (.if_icmp .gt 94, 3) := by decide +kernel
theorem dX12_shrink_34 : decode cX12_shrink 34 = .ok (.iload_n 2, 1) := by decide +kernel
theorem dX12_shrink_35 : decode cX12_shrink 35 = .ok (.ifCond .eq 90, 3) := by decide +kernel
theorem dX12_shrink_38 : decode cX12_shrink 38 = .ok (.iconst 0, 1) := by decide +kernel
theorem dX12_shrink_39 : decode cX12_shrink 39 = .ok (.istore_n 2, 1) := by decide +kernel
theorem dX12_shrink_40 : decode cX12_shrink 40 = .ok (.aload_n 0, 1) := by decide +kernel
theorem dX12_shrink_41 : decode cX12_shrink 41 = .ok (.getfield 21, 3) := by decide +kernel
theorem dX12_shrink_44 : decode cX12_shrink 44 = .ok (.getfield 95, 3) := by decide +kernel
theorem dX12_shrink_47 : decode cX12_shrink 47 = .ok (.iconst 1, 1) := by decide +kernel
theorem dX12_shrink_48 : decode cX12_shrink 48 = .ok (.isub, 1) := by decide +kernel
theorem dX12_shrink_49 : decode cX12_shrink 49 = .ok (.istore 4, 2) := by decide +kernel
theorem dX12_shrink_51 : decode cX12_shrink 51 = .ok (.iload 4, 2) := by decide +kernel
theorem dX12_shrink_53 : decode cX12_shrink 53 = .ok (.ifCond .lt 66, 3) := by decide +kernel
theorem dX12_shrink_56 : decode cX12_shrink 56 = .ok (.aload_n 0, 1) := by decide +kernel
theorem dX12_shrink_57 : decode cX12_shrink 57 = .ok (.getfield 25, 3) := by decide +kernel
theorem dX12_shrink_60 : decode cX12_shrink 60 = .ok (.aload_n 0, 1) := by decide +kernel
theorem dX12_shrink_61 : decode cX12_shrink 61 = .ok (.getfield 21, 3) := by decide +kernel
theorem dX12_shrink_64 : decode cX12_shrink 64 = .ok (.invokevirtual 118, 3) := by decide +kernel
theorem dX12_shrink_67 : decode cX12_shrink 67 = .ok (.aload_n 0, 1) := by decide +kernel
theorem dX12_shrink_68 : decode cX12_shrink 68 = .ok (.getfield 25, 3) := by decide +kernel
theorem dX12_shrink_71 : decode cX12_shrink 71 = .ok (.iload 4, 2) := by decide +kernel
theorem dX12_shrink_73 : decode cX12_shrink 73 = .ok (.invokevirtual 121, 3) := by decide +kernel
theorem dX12_shrink_76 : decode cX12_shrink 76 = .ok (.aload_n 0, 1) := by decide +kernel
theorem dX12_shrink_77 : decode cX12_shrink 77 = .ok (.getfield 25, 3) := by decide +kernel
theorem dX12_shrink_80 : decode cX12_shrink 80 = .ok (.invokevirtual 76, 3) := by decide +kernel
theorem dX12_shrink_83 : decode cX12_shrink 83 = .ok (.iconst (-1), 1) := by decide +kernel
theorem dX12_shrink_84 : decode cX12_shrink 84 = .ok (.if_icmp .ne 29, 3) := by decide +kernel
theorem dX12_shrink_87 : decode cX12_shrink 87 = .ok (.aload_n 0, 1) := by decide +kernel
theorem dX12_shrink_88 : decode cX12_shrink 88 = .ok (.getfield 55, 3) := by decide +kernel
theorem dX12_shrink_91 : decode cX12_shrink 91 = .ok (.aload_n 0, 1) := by decide +kernel
theorem dX12_shrink_92 : decode cX12_shrink 92 = .ok (.getfield 25, 3) := by decide +kernel
theorem dX12_shrink_95 : decode cX12_shrink 95 = .ok (.invokevirtual 98, 3) := by decide +kernel
theorem dX12_shrink_98 : decode cX12_shrink 98 = .ok (.iload_n 1, 1) := by decide +kernel
theorem dX12_shrink_99 : decode cX12_shrink 99 = .ok (.if_icmp .ne 14, 3) := by decide +kernel
theorem dX12_shrink_102 : decode cX12_shrink 102 = .ok (.aload_n 0, 1) := by decide +kernel
theorem dX12_shrink_103 : decode cX12_shrink 103 = .ok (.getfield 21, 3) := by decide +kernel
theorem dX12_shrink_106 : decode cX12_shrink 106 = .ok (.iload 4, 2) := by decide +kernel
theorem dX12_shrink_108 : decode cX12_shrink 108 = .ok (.invokevirtual 121, 3) := by decide +kernel
theorem dX12_shrink_111 : decode cX12_shrink 111 = .ok (.iconst 1, 1) := by decide +kernel
theorem dX12_shrink_112 : decode cX12_shrink 112 = .ok (.istore_n 2, 1) := by decide +kernel
theorem dX12_shrink_113 : decode cX12_shrink 113 = .ok (.iinc 4 (-1), 3) := by decide +kernel
theorem dX12_shrink_116 : decode cX12_shrink 116 = .ok (.goto (-65), 3) := by decide +kernel
theorem dX12_shrink_119 : decode cX12_shrink 119 = .ok (.iinc 3 1, 3) := by decide +kernel
theorem dX12_shrink_122 : decode cX12_shrink 122 = .ok (.goto (-94), 3) := by decide +kernel
theorem dX12_shrink_125 : decode cX12_shrink 125 = .ok (.aload_n 0, 1) := by decide +kernel
theorem dX12_shrink_126 : decode cX12_shrink 126 = .ok (.getfield 55, 3) := by decide +kernel
theorem dX12_shrink_129 : decode cX12_shrink 129 = .ok (.aload_n 0, 1) := by decide +kernel
theorem dX12_shrink_130 : decode cX12_shrink 130 = .ok (.getfield 21, 3) := by decide +kernel
theorem dX12_shrink_133 : decode cX12_shrink 133 = .ok (.invokevirtual 98, 3) := by decide +kernel
theorem dX12_shrink_136 : decode cX12_shrink 136 = .ok (.pop, 1) := by decide +kernel
theorem dX12_shrink_137 : decode cX12_shrink 137 = .ok (.aload_n 0, 1) := by decide +kernel
theorem dX12_shrink_138 : decode cX12_shrink 138 = .ok (.getfield 21, 3) := by decide +kernel
theorem dX12_shrink_141 : decode cX12_shrink 141 = .ok (.getfield 95, 3) := by decide +kernel
theorem dX12_shrink_144 : decode cX12_shrink 144 = .ok (.ireturn, 1) := by decide +kernel
def m_TL_shrink_136 (g : Nat) (S : St) (y0 : Int32) : Option (St × Int32) :=
if gR S 0 4 = 1 ∨ gR S 0 4 = 2 then
lt (gR S 0 4) fun p_7 =>
some (S, gI S p_7 8)
else none
def m_TL_shrink_125 (g : Nat) (S : St) : Option (St × Int32) :=
if gR S 0 4 = 1 ∨ gR S 0 4 = 2 then
lt (gR S 0 4) fun p_3 =>
(m_Rn_perform g S p_3).bind fun (S_4, v_5) =>
m_TL_shrink_136 g S_4 v_5
else none
def m_TL_shrink_111 (g : Nat) (k28 : St → Int32 → Int32 → Int32 → Option (St × Int32)) (k51 : St → Int32 → Int32 → Int32 → Int32 → Option (St × Int32)) (S : St) (x1 : Int32) (x3 : Int32) (x4 : Int32) : Option (St × Int32) :=
lt (x4 + (-1 : Int32)) fun x4_27 =>
k51 S x1 (1 : Int32) x3 x4_27
def m_TL_shrink_98 (g : Nat) (k28 : St → Int32 → Int32 → Int32 → Option (St × Int32)) (k51 : St → Int32 → Int32 → Int32 → Int32 → Option (St × Int32)) (S : St) (x1 : Int32) (x2 : Int32) (x3 : Int32) (x4 : Int32) (y0 : Int32) : Option (St × Int32) :=
if y0 = x1 then (
  if gR S 0 4 = 1 ∨ gR S 0 4 = 2 then
  lt (gR S 0 4) fun p_25 =>
  (m_Pg_leaveOut g S p_25 x4).bind fun S_26 =>
  m_TL_shrink_111 g k28 k51 S_26 x1 x3 x4
  else none
) else (
  lt (x4 + (-1 : Int32)) fun x4_23 =>
  k51 S x1 x2 x3 x4_23
)
def m_TL_shrink_83 (g : Nat) (k28 : St → Int32 → Int32 → Int32 → Option (St × Int32)) (k51 : St → Int32 → Int32 → Int32 → Int32 → Option (St × Int32)) (S : St) (x1 : Int32) (x2 : Int32) (x3 : Int32) (x4 : Int32) (y0 : Int32) : Option (St × Int32) :=
if y0 = (-1 : Int32) then (
  if gR S 0 5 = 1 ∨ gR S 0 5 = 2 then
  lt (gR S 0 5) fun p_20 =>
  (m_Rn_perform g S p_20).bind fun (S_21, v_22) =>
  m_TL_shrink_98 g k28 k51 S_21 x1 x2 x3 x4 v_22
  else none
) else (
  lt (x4 + (-1 : Int32)) fun x4_18 =>
  k51 S x1 x2 x3 x4_18
)
def m_TL_shrink_76 (g : Nat) (k28 : St → Int32 → Int32 → Int32 → Option (St × Int32)) (k51 : St → Int32 → Int32 → Int32 → Int32 → Option (St × Int32)) (S : St) (x1 : Int32) (x2 : Int32) (x3 : Int32) (x4 : Int32) : Option (St × Int32) :=
if gR S 0 5 = 1 ∨ gR S 0 5 = 2 then
lt (gR S 0 5) fun p_15 =>
(m_Pg_judged g S p_15).bind fun (S_16, v_17) =>
m_TL_shrink_83 g k28 k51 S_16 x1 x2 x3 x4 v_17
else none
def b_TL_shrink_51 (g : Nat) (k28 : St → Int32 → Int32 → Int32 → Option (St × Int32)) (k51 : St → Int32 → Int32 → Int32 → Int32 → Option (St × Int32)) (S : St) (x1 : Int32) (x2 : Int32) (x3 : Int32) (x4 : Int32) : Option (St × Int32) :=
if x4 < 0 then (
  lt (x3 + (1 : Int32)) fun x3_5 =>
  k28 S x1 x2 x3_5
) else (
  if gR S 0 5 = 1 ∨ gR S 0 5 = 2 then
  lt (gR S 0 5) fun p_7 =>
  if gR S 0 4 = 1 ∨ gR S 0 4 = 2 then
  lt (gR S 0 4) fun p_9 =>
  (m_Pg_copySteps g S p_7 p_9).bind fun S_10 =>
  if gR S_10 0 5 = 1 ∨ gR S_10 0 5 = 2 then
  lt (gR S_10 0 5) fun p_12 =>
  (m_Pg_leaveOut g S_10 p_12 x4).bind fun S_13 =>
  m_TL_shrink_76 g k28 k51 S_13 x1 x2 x3 x4
  else none
  else none
  else none
)
def m_TL_shrink_51 (g : Nat) (k28 : St → Int32 → Int32 → Int32 → Option (St × Int32)) : Nat → St → Int32 → Int32 → Int32 → Int32 → Option (St × Int32)
  | 0, _, _, _, _, _ => none
  | n + 1, S, x1, x2, x3, x4 => b_TL_shrink_51 g k28 (m_TL_shrink_51 g k28 n) S x1 x2 x3 x4
def b_TL_shrink_28 (g : Nat) (k28 : St → Int32 → Int32 → Int32 → Option (St × Int32)) (S : St) (x1 : Int32) (x2 : Int32) (x3 : Int32) : Option (St × Int32) :=
if (60 : Int32) < x3 then (
  m_TL_shrink_125 g S
) else (
  if x2 = 0 then (
    m_TL_shrink_125 g S
  ) else (
    if gR S 0 4 = 1 ∨ gR S 0 4 = 2 then
    lt (gR S 0 4) fun p_3 =>
    lt ((gI S p_3 8) - (1 : Int32)) fun x4_4 =>
    m_TL_shrink_51 g k28 g S x1 (0 : Int32) x3 x4_4
    else none
  )
)
def m_TL_shrink_28 (g : Nat) : Nat → St → Int32 → Int32 → Int32 → Option (St × Int32)
  | 0, _, _, _, _ => none
  | n + 1, S, x1, x2, x3 => b_TL_shrink_28 g (m_TL_shrink_28 g n) S x1 x2 x3
def m_TL_shrink (g : Nat) (S : St) : Option (St × Int32) :=
(aI S 79 (1 : Int32)).bind fun v_1 =>
if (gI S 0 6) = 0 then (
  some (S, (-2 : Int32))
) else (
  if v_1 = 0 then (
    some (S, (-2 : Int32))
  ) else (
    m_TL_shrink_28 g g S v_1 (1 : Int32) (0 : Int32)
  )
)
theorem km_TL_shrink_136 {g : Nat} {S : St} {y0 : Int32} {S' : St} {r : Int32} (h : m_TL_shrink_136 g S y0 = some (S', r)) : kap S ≤ kap S' := by
  unfold m_TL_shrink_136 at h
  have nn : nq S S := nq_rf
  by_cases hc1 : gR S 0 4 = 1 ∨ gR S 0 4 = 2
  case neg => exact absurd (iff0 hc1 h) (fun q => by cases q)
  replace h := ift hc1 h
  obtain ⟨p_7, ep_7, h⟩ := lt_e h
  obtain ⟨rfl, rfl⟩ := prI h
  have hkn := nq_kap nn
  omega
theorem km_TL_shrink_125 {g : Nat} {S : St} {S' : St} {r : Int32} (h : m_TL_shrink_125 g S = some (S', r)) : kap S ≤ kap S' := by
  unfold m_TL_shrink_125 at h
  have nn : nq S S := nq_rf
  by_cases hc1 : gR S 0 4 = 1 ∨ gR S 0 4 = 2
  case neg => exact absurd (iff0 hc1 h) (fun q => by cases q)
  replace h := ift hc1 h
  obtain ⟨p_3, ep_3, h⟩ := lt_e h
  obtain ⟨⟨S_4, v_5⟩, hv_5, h⟩ := bnd h
  have hk1 := km_Rn_perform hv_5
  have hkn := nq_kap nn
  have h2 := km_TL_shrink_136 h
  omega
theorem km_TL_shrink_111 {g : Nat} {S : St} {x1 : Int32} {x3 : Int32} {x4 : Int32} {S' : St} {r : Int32} {k28 : St → Int32 → Int32 → Int32 → Option (St × Int32)} (km28 : ∀ (S : St) (x1 : Int32) (x2 : Int32) (x3 : Int32), k28 S x1 x2 x3 = some (S', r) → kap S ≤ kap S') {k51 : St → Int32 → Int32 → Int32 → Int32 → Option (St × Int32)} (km51 : ∀ (S : St) (x1 : Int32) (x2 : Int32) (x3 : Int32) (x4 : Int32), k51 S x1 x2 x3 x4 = some (S', r) → kap S ≤ kap S') (h : m_TL_shrink_111 g k28 k51 S x1 x3 x4 = some (S', r)) : kap S ≤ kap S' := by
  unfold m_TL_shrink_111 at h
  have nn : nq S S := nq_rf
  obtain ⟨x4_27, ex4_27, h⟩ := lt_e h
  have hkn := nq_kap nn
  have h2 := km51 _ _ _ _ _ h
  omega
theorem km_TL_shrink_98 {g : Nat} {S : St} {x1 : Int32} {x2 : Int32} {x3 : Int32} {x4 : Int32} {y0 : Int32} {S' : St} {r : Int32} {k28 : St → Int32 → Int32 → Int32 → Option (St × Int32)} (km28 : ∀ (S : St) (x1 : Int32) (x2 : Int32) (x3 : Int32), k28 S x1 x2 x3 = some (S', r) → kap S ≤ kap S') {k51 : St → Int32 → Int32 → Int32 → Int32 → Option (St × Int32)} (km51 : ∀ (S : St) (x1 : Int32) (x2 : Int32) (x3 : Int32) (x4 : Int32), k51 S x1 x2 x3 x4 = some (S', r) → kap S ≤ kap S') (h : m_TL_shrink_98 g k28 k51 S x1 x2 x3 x4 y0 = some (S', r)) : kap S ≤ kap S' := by
  unfold m_TL_shrink_98 at h
  have nn : nq S S := nq_rf
  by_cases hc1 : y0 = x1
  · replace h := ift hc1 h
    by_cases hc2 : gR S 0 4 = 1 ∨ gR S 0 4 = 2
    case neg => exact absurd (iff0 hc2 h) (fun q => by cases q)
    replace h := ift hc2 h
    obtain ⟨p_25, ep_25, h⟩ := lt_e h
    obtain ⟨S_26, hS_26, h⟩ := bnd h
    have hk1 := km_Pg_leaveOut hS_26
    have hkn := nq_kap nn
    have h2 := km_TL_shrink_111 km28 km51 h
    omega
  · replace h := iff0 hc1 h
    obtain ⟨x4_23, ex4_23, h⟩ := lt_e h
    have hkn := nq_kap nn
    have h2 := km51 _ _ _ _ _ h
    omega
theorem km_TL_shrink_83 {g : Nat} {S : St} {x1 : Int32} {x2 : Int32} {x3 : Int32} {x4 : Int32} {y0 : Int32} {S' : St} {r : Int32} {k28 : St → Int32 → Int32 → Int32 → Option (St × Int32)} (km28 : ∀ (S : St) (x1 : Int32) (x2 : Int32) (x3 : Int32), k28 S x1 x2 x3 = some (S', r) → kap S ≤ kap S') {k51 : St → Int32 → Int32 → Int32 → Int32 → Option (St × Int32)} (km51 : ∀ (S : St) (x1 : Int32) (x2 : Int32) (x3 : Int32) (x4 : Int32), k51 S x1 x2 x3 x4 = some (S', r) → kap S ≤ kap S') (h : m_TL_shrink_83 g k28 k51 S x1 x2 x3 x4 y0 = some (S', r)) : kap S ≤ kap S' := by
  unfold m_TL_shrink_83 at h
  have nn : nq S S := nq_rf
  by_cases hc1 : y0 = (-1 : Int32)
  · replace h := ift hc1 h
    by_cases hc2 : gR S 0 5 = 1 ∨ gR S 0 5 = 2
    case neg => exact absurd (iff0 hc2 h) (fun q => by cases q)
    replace h := ift hc2 h
    obtain ⟨p_20, ep_20, h⟩ := lt_e h
    obtain ⟨⟨S_21, v_22⟩, hv_22, h⟩ := bnd h
    have hk1 := km_Rn_perform hv_22
    have hkn := nq_kap nn
    have h2 := km_TL_shrink_98 km28 km51 h
    omega
  · replace h := iff0 hc1 h
    obtain ⟨x4_18, ex4_18, h⟩ := lt_e h
    have hkn := nq_kap nn
    have h2 := km51 _ _ _ _ _ h
    omega
theorem km_TL_shrink_76 {g : Nat} {S : St} {x1 : Int32} {x2 : Int32} {x3 : Int32} {x4 : Int32} {S' : St} {r : Int32} {k28 : St → Int32 → Int32 → Int32 → Option (St × Int32)} (km28 : ∀ (S : St) (x1 : Int32) (x2 : Int32) (x3 : Int32), k28 S x1 x2 x3 = some (S', r) → kap S ≤ kap S') {k51 : St → Int32 → Int32 → Int32 → Int32 → Option (St × Int32)} (km51 : ∀ (S : St) (x1 : Int32) (x2 : Int32) (x3 : Int32) (x4 : Int32), k51 S x1 x2 x3 x4 = some (S', r) → kap S ≤ kap S') (h : m_TL_shrink_76 g k28 k51 S x1 x2 x3 x4 = some (S', r)) : kap S ≤ kap S' := by
  unfold m_TL_shrink_76 at h
  have nn : nq S S := nq_rf
  by_cases hc1 : gR S 0 5 = 1 ∨ gR S 0 5 = 2
  case neg => exact absurd (iff0 hc1 h) (fun q => by cases q)
  replace h := ift hc1 h
  obtain ⟨p_15, ep_15, h⟩ := lt_e h
  obtain ⟨⟨S_16, v_17⟩, hv_17, h⟩ := bnd h
  have hk1 := km_Pg_judged hv_17
  have hkn := nq_kap nn
  have h2 := km_TL_shrink_83 km28 km51 h
  omega
theorem kmb_TL_shrink_51 {g : Nat} {S : St} {x1 : Int32} {x2 : Int32} {x3 : Int32} {x4 : Int32} {S' : St} {r : Int32} {k28 : St → Int32 → Int32 → Int32 → Option (St × Int32)} (km28 : ∀ (S : St) (x1 : Int32) (x2 : Int32) (x3 : Int32), k28 S x1 x2 x3 = some (S', r) → kap S ≤ kap S') {k51 : St → Int32 → Int32 → Int32 → Int32 → Option (St × Int32)} (km51 : ∀ (S : St) (x1 : Int32) (x2 : Int32) (x3 : Int32) (x4 : Int32), k51 S x1 x2 x3 x4 = some (S', r) → kap S ≤ kap S') (h : b_TL_shrink_51 g k28 k51 S x1 x2 x3 x4 = some (S', r)) : kap S ≤ kap S' := by
  unfold b_TL_shrink_51 at h
  have nn : nq S S := nq_rf
  by_cases hc1 : x4 < 0
  · replace h := ift hc1 h
    obtain ⟨x3_5, ex3_5, h⟩ := lt_e h
    have hkn := nq_kap nn
    have h2 := km28 _ _ _ _ h
    omega
  · replace h := iff0 hc1 h
    by_cases hc2 : gR S 0 5 = 1 ∨ gR S 0 5 = 2
    case neg => exact absurd (iff0 hc2 h) (fun q => by cases q)
    replace h := ift hc2 h
    obtain ⟨p_7, ep_7, h⟩ := lt_e h
    by_cases hc3 : gR S 0 4 = 1 ∨ gR S 0 4 = 2
    case neg => exact absurd (iff0 hc3 h) (fun q => by cases q)
    replace h := ift hc3 h
    obtain ⟨p_9, ep_9, h⟩ := lt_e h
    obtain ⟨S_10, hS_10, h⟩ := bnd h
    replace nn : nq S_10 S := nq_tr (kq_Pg_copySteps hS_10) nn
    by_cases hc4 : gR S_10 0 5 = 1 ∨ gR S_10 0 5 = 2
    case neg => exact absurd (iff0 hc4 h) (fun q => by cases q)
    replace h := ift hc4 h
    obtain ⟨p_12, ep_12, h⟩ := lt_e h
    obtain ⟨S_13, hS_13, h⟩ := bnd h
    have hk1 := km_Pg_leaveOut hS_13
    have hkn := nq_kap nn
    have h2 := km_TL_shrink_76 km28 km51 h
    omega
theorem km_TL_shrink_51 {g : Nat} {S' : St} {r : Int32} {k28 : St → Int32 → Int32 → Int32 → Option (St × Int32)} (km28 : ∀ (S : St) (x1 : Int32) (x2 : Int32) (x3 : Int32), k28 S x1 x2 x3 = some (S', r) → kap S ≤ kap S') (n : Nat) : ∀ (S : St) (x1 : Int32) (x2 : Int32) (x3 : Int32) (x4 : Int32), m_TL_shrink_51 g k28 n S x1 x2 x3 x4 = some (S', r) → kap S ≤ kap S' := by
  induction n with
  | zero => intro S x1 x2 x3 x4 h; exact absurd h (fun q => by cases q)
  | succ n ih => intro S x1 x2 x3 x4 h; exact kmb_TL_shrink_51 km28 ih h
theorem kmb_TL_shrink_28 {g : Nat} {S : St} {x1 : Int32} {x2 : Int32} {x3 : Int32} {S' : St} {r : Int32} {k28 : St → Int32 → Int32 → Int32 → Option (St × Int32)} (km28 : ∀ (S : St) (x1 : Int32) (x2 : Int32) (x3 : Int32), k28 S x1 x2 x3 = some (S', r) → kap S ≤ kap S') (h : b_TL_shrink_28 g k28 S x1 x2 x3 = some (S', r)) : kap S ≤ kap S' := by
  unfold b_TL_shrink_28 at h
  have nn : nq S S := nq_rf
  by_cases hc1 : (60 : Int32) < x3
  · replace h := ift hc1 h
    have hkn := nq_kap nn
    have h2 := km_TL_shrink_125 h
    omega
  · replace h := iff0 hc1 h
    by_cases hc2 : x2 = 0
    · replace h := ift hc2 h
      have hkn := nq_kap nn
      have h2 := km_TL_shrink_125 h
      omega
    · replace h := iff0 hc2 h
      by_cases hc3 : gR S 0 4 = 1 ∨ gR S 0 4 = 2
      case neg => exact absurd (iff0 hc3 h) (fun q => by cases q)
      replace h := ift hc3 h
      obtain ⟨p_3, ep_3, h⟩ := lt_e h
      obtain ⟨x4_4, ex4_4, h⟩ := lt_e h
      have hkn := nq_kap nn
      have h2 := km_TL_shrink_51 km28 g _ _ _ _ _ h
      omega
theorem km_TL_shrink_28 {g : Nat} {S' : St} {r : Int32} (n : Nat) : ∀ (S : St) (x1 : Int32) (x2 : Int32) (x3 : Int32), m_TL_shrink_28 g n S x1 x2 x3 = some (S', r) → kap S ≤ kap S' := by
  induction n with
  | zero => intro S x1 x2 x3 h; exact absurd h (fun q => by cases q)
  | succ n ih => intro S x1 x2 x3 h; exact kmb_TL_shrink_28 ih h
theorem km_TL_shrink {g : Nat} {S : St} {S' : St} {r : Int32} (h : m_TL_shrink g S = some (S', r)) : kap S ≤ kap S' := by
  unfold m_TL_shrink at h
  have nn : nq S S := nq_rf
  obtain ⟨v_1, hv_1, h⟩ := bnd h
  by_cases hc1 : (gI S 0 6) = 0
  · replace h := ift hc1 h
    obtain ⟨rfl, rfl⟩ := prI h
    have hkn := nq_kap nn
    omega
  · replace h := iff0 hc1 h
    by_cases hc2 : v_1 = 0
    · replace h := ift hc2 h
      obtain ⟨rfl, rfl⟩ := prI h
      have hkn := nq_kap nn
      omega
    · replace h := iff0 hc2 h
      have hkn := nq_kap nn
      have h2 := km_TL_shrink_28 g _ _ _ _ h
      omega
section S_TL_shrink
variable {p : Program} {l : Launch} {e : Env} {s : State} {m : MethodId} {args : Array Value} {below : List Frame} {meth : Method} {c : Code} {H : Heap} {locs : List Loc} {ls : Array Slot} {D : va_G} {T : Cy} {ρ ρ0 : Nat → Nat} {S0 : St} {A : Nat → Prop} {Z : Ad}
set_option maxRecDepth 100000 in
set_option maxHeartbeats 4000000 in
theorem w_TL_shrink_136 {g : Nat} {S : St} {y0 : Int32} (C : CallFix p m c cX12_shrink 5 s args tb RX12) (hr : meth.sig.returnType = (some .int)) (hk : meth.locks = false) (hcn : Kn Z A s s.heap) (hcw : Kw Z s) {S' : St} {r : Int32} (ha : Ag ρ0 ρ) (hm : kap S0 ≤ kap S) (w : Wn Yc D T ρ S A s H locs) (hl : lv_has ls 5 [(0, .ref (ρ 0))]) (h : m_TL_shrink_136 g S y0 = some (S', r)) : W p l e (rmK 9 204 (kap S' - kap S0)) s m args below meth c H locs (kap S - kap S0) (2 * (kap S - kap S0)) (MQ below (QiM D T ρ0 A S' r) args s (kap S' - kap S0) (2 * (kap S' - kap S0)) A) (F0 m 136 ls [.int y0]) := by
  have hT := km_TL_shrink_136 h
  unfold m_TL_shrink_136 at h
  have nn : nq S S := nq_rf
  refine lv_pop C.1 C.2.1 dX12_shrink_136 rfl ?_
  refine lv_aload_n C.1 C.2.1 dX12_shrink_137 rfl (lv_at hl 0 rfl) ?_
  by_cases hz_6 : gR S 0 4 = 1 ∨ gR S 0 4 = 2
  case neg => exact absurd (iff0 hz_6 h) (fun q => by cases q)
  replace h := ift hz_6 h
  obtain ⟨p_7, ep_7, h⟩ := lt_e h
  have ho_p_7 : Ob Yc p_7 2 := obPg (by rw [ep_7]; exact hz_6)
  refine x_getR C w fX12_21 obC0 dX12_shrink_138 ?_
  refine x_nmR ep_7 ?_
  refine x_getI C w fX12_95 ho_p_7 dX12_shrink_141 ?_
  obtain ⟨rfl, rfl⟩ := prI h
  exact x_iretM C w ha hr hk dX12_shrink_144 (by have := nq_kap nn; omega) (by have := nq_kap nn; omega)
set_option maxRecDepth 100000 in
set_option maxHeartbeats 4000000 in
theorem w_TL_shrink_125 {g : Nat} {S : St} (C : CallFix p m c cX12_shrink 5 s args tb RX12) (hr : meth.sig.returnType = (some .int)) (hk : meth.locks = false) (hcn : Kn Z A s s.heap) (hcw : Kw Z s) {S' : St} {r : Int32} (ha : Ag ρ0 ρ) (hm : kap S0 ≤ kap S) (w : Wn Yc D T ρ S A s H locs) (hl : lv_has ls 5 [(0, .ref (ρ 0))]) (h : m_TL_shrink_125 g S = some (S', r)) : W p l e (rmK 9 204 (kap S' - kap S0)) s m args below meth c H locs (kap S - kap S0) (2 * (kap S - kap S0)) (MQ below (QiM D T ρ0 A S' r) args s (kap S' - kap S0) (2 * (kap S' - kap S0)) A) (F0 m 125 ls []) := by
  have hT := km_TL_shrink_125 h
  unfold m_TL_shrink_125 at h
  have nn : nq S S := nq_rf
  refine lv_aload_n C.1 C.2.1 dX12_shrink_125 rfl (lv_at hl 0 rfl) ?_
  refine x_getC C w 6 fX12_55 obC0 rfl dX12_shrink_126 ?_
  refine lv_aload_n C.1 C.2.1 dX12_shrink_129 rfl (lv_at hl 0 rfl) ?_
  by_cases hz_2 : gR S 0 4 = 1 ∨ gR S 0 4 = 2
  case neg => exact absurd (iff0 hz_2 h) (fun q => by cases q)
  replace h := ift hz_2 h
  obtain ⟨p_3, ep_3, h⟩ := lt_e h
  have ho_p_3 : Ob Yc p_3 2 := obPg (by rw [ep_3]; exact hz_2)
  refine x_getR C w fX12_21 obC0 dX12_shrink_130 ?_
  refine x_nmR ep_3 ?_
  obtain ⟨⟨S_4, v_5⟩, hv_5, h⟩ := bnd h
  have hkn := nq_kap nn
  have hk1 := km_Rn_perform hv_5
  have hT2 := km_TL_shrink_136 h
  refine x_callViC (q := (RX7, TX7, 8)) (As := [.ref (ρ p_3)]) (rest := []) C w hcn hcw (k_Rn_perform l Z D T ρ g H.size S ho_p_3 hv_5) vX12_98 (hRK (by decide) (by decide)) obC6 (by decide) rfl rfl rfl hl.1 (Nat.le_of_ble_eq_true rfl) (hcM hm hkn hk1 hT2) dX12_shrink_133 (fun ρ1 H locs hag w => ?_)
  replace ha := ha.trans hag
  rw [← hag 0 (by decide)] at hl
  refine W.widen (k := kap S_4 - kap S0) (n := 2 * (kap S_4 - kap S0)) (by omega) (by omega) ?_
  exact w_TL_shrink_136 C hr hk hcn hcw ha (by omega) w (lv_sub hl [0] rfl) h
set_option maxRecDepth 100000 in
set_option maxHeartbeats 4000000 in
theorem w_TL_shrink_111 {g : Nat} {S : St} {x1 : Int32} {x3 : Int32} {x4 : Int32} (C : CallFix p m c cX12_shrink 5 s args tb RX12) (hr : meth.sig.returnType = (some .int)) (hk : meth.locks = false) (hcn : Kn Z A s s.heap) (hcw : Kw Z s) {S' : St} {r : Int32} {k28 : St → Int32 → Int32 → Int32 → Option (St × Int32)} (kk28 : ∀ (ρ : Nat → Nat) (S : St) (x1 : Int32) (x2 : Int32) (x3 : Int32) (H : Heap) (locs : List Loc) (ls : Array Slot), Ag ρ0 ρ → kap S0 ≤ kap S → Wn Yc D T ρ S A s H locs → lv_has ls 5 [(0, .ref (ρ 0)), (1, .int x1), (2, .int x2), (3, .int x3)] → k28 S x1 x2 x3 = some (S', r) → W p l e (rmK 9 204 (kap S' - kap S0)) s m args below meth c H locs (kap S - kap S0) (2 * (kap S - kap S0)) (MQ below (QiM D T ρ0 A S' r) args s (kap S' - kap S0) (2 * (kap S' - kap S0)) A) (F0 m 28 ls [])) (km28 : ∀ (S : St) (x1 : Int32) (x2 : Int32) (x3 : Int32), k28 S x1 x2 x3 = some (S', r) → kap S ≤ kap S') {k51 : St → Int32 → Int32 → Int32 → Int32 → Option (St × Int32)} (kk51 : ∀ (ρ : Nat → Nat) (S : St) (x1 : Int32) (x2 : Int32) (x3 : Int32) (x4 : Int32) (H : Heap) (locs : List Loc) (ls : Array Slot), Ag ρ0 ρ → kap S0 ≤ kap S → Wn Yc D T ρ S A s H locs → lv_has ls 5 [(0, .ref (ρ 0)), (1, .int x1), (2, .int x2), (3, .int x3), (4, .int x4)] → k51 S x1 x2 x3 x4 = some (S', r) → W p l e (rmK 9 204 (kap S' - kap S0)) s m args below meth c H locs (kap S - kap S0) (2 * (kap S - kap S0)) (MQ below (QiM D T ρ0 A S' r) args s (kap S' - kap S0) (2 * (kap S' - kap S0)) A) (F0 m 51 ls [])) (km51 : ∀ (S : St) (x1 : Int32) (x2 : Int32) (x3 : Int32) (x4 : Int32), k51 S x1 x2 x3 x4 = some (S', r) → kap S ≤ kap S') (ha : Ag ρ0 ρ) (hm : kap S0 ≤ kap S) (w : Wn Yc D T ρ S A s H locs) (hl : lv_has ls 5 [(0, .ref (ρ 0)), (1, .int x1), (3, .int x3), (4, .int x4)]) (h : m_TL_shrink_111 g k28 k51 S x1 x3 x4 = some (S', r)) : W p l e (rmK 9 204 (kap S' - kap S0)) s m args below meth c H locs (kap S - kap S0) (2 * (kap S - kap S0)) (MQ below (QiM D T ρ0 A S' r) args s (kap S' - kap S0) (2 * (kap S' - kap S0)) A) (F0 m 111 ls []) := by
  have hT := km_TL_shrink_111 km28 km51 h
  unfold m_TL_shrink_111 at h
  have nn : nq S S := nq_rf
  refine lv_iconst (v := 1) C.1 C.2.1 dX12_shrink_111 (by decide) ?_
  refine lv_istore_n (lv' := [(2, .int (1 : Int32)), (0, .ref (ρ 0)), (1, .int x1), (3, .int x3), (4, .int x4)]) C.1 C.2.1 dX12_shrink_112 rfl hl (by decide) rfl (fun ls hl => ?_)
  obtain ⟨x4_27, ex4_27, h⟩ := lt_e h
  refine lv_iinc (v := x4_27) (lv' := [(4, .int x4_27), (2, .int (1 : Int32)), (0, .ref (ρ 0)), (1, .int x1), (3, .int x3)]) C.1 C.2.1 dX12_shrink_113 hl (k := 4) rfl (by rw [ex4_27]; rfl) (by decide) rfl (fun ls hl => ?_)
  refine lv_goto (tgt := 51) C.1 C.2.1 dX12_shrink_116 (by decide) ?_
  have hkn := nq_kap nn
  refine W.widen (k := kap S - kap S0) (n := 2 * (kap S - kap S0)) (by omega) (by omega) ?_
  exact kk51 _ _ _ _ _ _ _ _ _ ha (by omega) w (lv_sub hl [2, 3, 1, 4, 0] rfl) h
set_option maxRecDepth 100000 in
set_option maxHeartbeats 4000000 in
theorem w_TL_shrink_98 {g : Nat} {S : St} {x1 : Int32} {x2 : Int32} {x3 : Int32} {x4 : Int32} {y0 : Int32} (C : CallFix p m c cX12_shrink 5 s args tb RX12) (hr : meth.sig.returnType = (some .int)) (hk : meth.locks = false) (hcn : Kn Z A s s.heap) (hcw : Kw Z s) {S' : St} {r : Int32} {k28 : St → Int32 → Int32 → Int32 → Option (St × Int32)} (kk28 : ∀ (ρ : Nat → Nat) (S : St) (x1 : Int32) (x2 : Int32) (x3 : Int32) (H : Heap) (locs : List Loc) (ls : Array Slot), Ag ρ0 ρ → kap S0 ≤ kap S → Wn Yc D T ρ S A s H locs → lv_has ls 5 [(0, .ref (ρ 0)), (1, .int x1), (2, .int x2), (3, .int x3)] → k28 S x1 x2 x3 = some (S', r) → W p l e (rmK 9 204 (kap S' - kap S0)) s m args below meth c H locs (kap S - kap S0) (2 * (kap S - kap S0)) (MQ below (QiM D T ρ0 A S' r) args s (kap S' - kap S0) (2 * (kap S' - kap S0)) A) (F0 m 28 ls [])) (km28 : ∀ (S : St) (x1 : Int32) (x2 : Int32) (x3 : Int32), k28 S x1 x2 x3 = some (S', r) → kap S ≤ kap S') {k51 : St → Int32 → Int32 → Int32 → Int32 → Option (St × Int32)} (kk51 : ∀ (ρ : Nat → Nat) (S : St) (x1 : Int32) (x2 : Int32) (x3 : Int32) (x4 : Int32) (H : Heap) (locs : List Loc) (ls : Array Slot), Ag ρ0 ρ → kap S0 ≤ kap S → Wn Yc D T ρ S A s H locs → lv_has ls 5 [(0, .ref (ρ 0)), (1, .int x1), (2, .int x2), (3, .int x3), (4, .int x4)] → k51 S x1 x2 x3 x4 = some (S', r) → W p l e (rmK 9 204 (kap S' - kap S0)) s m args below meth c H locs (kap S - kap S0) (2 * (kap S - kap S0)) (MQ below (QiM D T ρ0 A S' r) args s (kap S' - kap S0) (2 * (kap S' - kap S0)) A) (F0 m 51 ls [])) (km51 : ∀ (S : St) (x1 : Int32) (x2 : Int32) (x3 : Int32) (x4 : Int32), k51 S x1 x2 x3 x4 = some (S', r) → kap S ≤ kap S') (ha : Ag ρ0 ρ) (hm : kap S0 ≤ kap S) (w : Wn Yc D T ρ S A s H locs) (hl : lv_has ls 5 [(0, .ref (ρ 0)), (1, .int x1), (2, .int x2), (3, .int x3), (4, .int x4)]) (h : m_TL_shrink_98 g k28 k51 S x1 x2 x3 x4 y0 = some (S', r)) : W p l e (rmK 9 204 (kap S' - kap S0)) s m args below meth c H locs (kap S - kap S0) (2 * (kap S - kap S0)) (MQ below (QiM D T ρ0 A S' r) args s (kap S' - kap S0) (2 * (kap S' - kap S0)) A) (F0 m 98 ls [.int y0]) := by
  have hT := km_TL_shrink_98 km28 km51 h
  unfold m_TL_shrink_98 at h
  have nn : nq S S := nq_rf
  refine lv_iload_n C.1 C.2.1 dX12_shrink_98 rfl (lv_at hl 1 rfl) ?_
  refine lv_icmp_ne (tgt := 113) C.1 C.2.1 dX12_shrink_99 (by decide) (fun hc => ?_) (fun hc => ?_)
  · replace h := iff0 hc h
    obtain ⟨x4_23, ex4_23, h⟩ := lt_e h
    refine lv_iinc (v := x4_23) (lv' := [(4, .int x4_23), (0, .ref (ρ 0)), (1, .int x1), (2, .int x2), (3, .int x3)]) C.1 C.2.1 dX12_shrink_113 hl (k := 4) rfl (by rw [ex4_23]; rfl) (by decide) rfl (fun ls hl => ?_)
    refine lv_goto (tgt := 51) C.1 C.2.1 dX12_shrink_116 (by decide) ?_
    have hkn := nq_kap nn
    refine W.widen (k := kap S - kap S0) (n := 2 * (kap S - kap S0)) (by omega) (by omega) ?_
    exact kk51 _ _ _ _ _ _ _ _ _ ha (by omega) w (lv_sub hl [1, 2, 3, 4, 0] rfl) h
  · replace h := ift hc h
    refine lv_aload_n C.1 C.2.1 dX12_shrink_102 rfl (lv_at hl 0 rfl) ?_
    by_cases hz_24 : gR S 0 4 = 1 ∨ gR S 0 4 = 2
    case neg => exact absurd (iff0 hz_24 h) (fun q => by cases q)
    replace h := ift hz_24 h
    obtain ⟨p_25, ep_25, h⟩ := lt_e h
    have ho_p_25 : Ob Yc p_25 2 := obPg (by rw [ep_25]; exact hz_24)
    refine x_getR C w fX12_21 obC0 dX12_shrink_103 ?_
    refine x_nmR ep_25 ?_
    refine lv_iload C.1 C.2.1 dX12_shrink_106 (lv_at hl 4 rfl) ?_
    obtain ⟨S_26, hS_26, h⟩ := bnd h
    have hkn := nq_kap nn
    have hk1 := km_Pg_leaveOut hS_26
    have hT2 := km_TL_shrink_111 km28 km51 h
    refine x_callVvC (q := (RX4, TX4, 16)) (As := [.int x4]) (rest := []) C w hcn hcw (k_Pg_leaveOut l Z D T ρ g H.size S ho_p_25 hS_26) vX12_121 (hRK (by decide) (by decide)) ho_p_25 (by decide) rfl rfl rfl hl.1 (Nat.le_of_ble_eq_true rfl) (hcM hm hkn hk1 hT2) dX12_shrink_108 (fun ρ1 H locs hag w => ?_)
    replace ha := ha.trans hag
    rw [← hag 0 (by decide)] at hl
    refine W.widen (k := kap S_26 - kap S0) (n := 2 * (kap S_26 - kap S0)) (by omega) (by omega) ?_
    exact w_TL_shrink_111 C hr hk hcn hcw kk28 km28 kk51 km51 ha (by omega) w (lv_sub hl [0, 1, 3, 4] rfl) h
set_option maxRecDepth 100000 in
set_option maxHeartbeats 4000000 in
theorem w_TL_shrink_83 {g : Nat} {S : St} {x1 : Int32} {x2 : Int32} {x3 : Int32} {x4 : Int32} {y0 : Int32} (C : CallFix p m c cX12_shrink 5 s args tb RX12) (hr : meth.sig.returnType = (some .int)) (hk : meth.locks = false) (hcn : Kn Z A s s.heap) (hcw : Kw Z s) {S' : St} {r : Int32} {k28 : St → Int32 → Int32 → Int32 → Option (St × Int32)} (kk28 : ∀ (ρ : Nat → Nat) (S : St) (x1 : Int32) (x2 : Int32) (x3 : Int32) (H : Heap) (locs : List Loc) (ls : Array Slot), Ag ρ0 ρ → kap S0 ≤ kap S → Wn Yc D T ρ S A s H locs → lv_has ls 5 [(0, .ref (ρ 0)), (1, .int x1), (2, .int x2), (3, .int x3)] → k28 S x1 x2 x3 = some (S', r) → W p l e (rmK 9 204 (kap S' - kap S0)) s m args below meth c H locs (kap S - kap S0) (2 * (kap S - kap S0)) (MQ below (QiM D T ρ0 A S' r) args s (kap S' - kap S0) (2 * (kap S' - kap S0)) A) (F0 m 28 ls [])) (km28 : ∀ (S : St) (x1 : Int32) (x2 : Int32) (x3 : Int32), k28 S x1 x2 x3 = some (S', r) → kap S ≤ kap S') {k51 : St → Int32 → Int32 → Int32 → Int32 → Option (St × Int32)} (kk51 : ∀ (ρ : Nat → Nat) (S : St) (x1 : Int32) (x2 : Int32) (x3 : Int32) (x4 : Int32) (H : Heap) (locs : List Loc) (ls : Array Slot), Ag ρ0 ρ → kap S0 ≤ kap S → Wn Yc D T ρ S A s H locs → lv_has ls 5 [(0, .ref (ρ 0)), (1, .int x1), (2, .int x2), (3, .int x3), (4, .int x4)] → k51 S x1 x2 x3 x4 = some (S', r) → W p l e (rmK 9 204 (kap S' - kap S0)) s m args below meth c H locs (kap S - kap S0) (2 * (kap S - kap S0)) (MQ below (QiM D T ρ0 A S' r) args s (kap S' - kap S0) (2 * (kap S' - kap S0)) A) (F0 m 51 ls [])) (km51 : ∀ (S : St) (x1 : Int32) (x2 : Int32) (x3 : Int32) (x4 : Int32), k51 S x1 x2 x3 x4 = some (S', r) → kap S ≤ kap S') (ha : Ag ρ0 ρ) (hm : kap S0 ≤ kap S) (w : Wn Yc D T ρ S A s H locs) (hl : lv_has ls 5 [(0, .ref (ρ 0)), (1, .int x1), (2, .int x2), (3, .int x3), (4, .int x4)]) (h : m_TL_shrink_83 g k28 k51 S x1 x2 x3 x4 y0 = some (S', r)) : W p l e (rmK 9 204 (kap S' - kap S0)) s m args below meth c H locs (kap S - kap S0) (2 * (kap S - kap S0)) (MQ below (QiM D T ρ0 A S' r) args s (kap S' - kap S0) (2 * (kap S' - kap S0)) A) (F0 m 83 ls [.int y0]) := by
  have hT := km_TL_shrink_83 km28 km51 h
  unfold m_TL_shrink_83 at h
  have nn : nq S S := nq_rf
  refine lv_iconst (v := (-1)) C.1 C.2.1 dX12_shrink_83 (by decide) ?_
  refine lv_icmp_ne (tgt := 113) C.1 C.2.1 dX12_shrink_84 (by decide) (fun hc => ?_) (fun hc => ?_)
  · replace h := iff0 hc h
    obtain ⟨x4_18, ex4_18, h⟩ := lt_e h
    refine lv_iinc (v := x4_18) (lv' := [(4, .int x4_18), (0, .ref (ρ 0)), (1, .int x1), (2, .int x2), (3, .int x3)]) C.1 C.2.1 dX12_shrink_113 hl (k := 4) rfl (by rw [ex4_18]; rfl) (by decide) rfl (fun ls hl => ?_)
    refine lv_goto (tgt := 51) C.1 C.2.1 dX12_shrink_116 (by decide) ?_
    have hkn := nq_kap nn
    refine W.widen (k := kap S - kap S0) (n := 2 * (kap S - kap S0)) (by omega) (by omega) ?_
    exact kk51 _ _ _ _ _ _ _ _ _ ha (by omega) w (lv_sub hl [1, 2, 3, 4, 0] rfl) h
  · replace h := ift hc h
    refine lv_aload_n C.1 C.2.1 dX12_shrink_87 rfl (lv_at hl 0 rfl) ?_
    refine x_getC C w 6 fX12_55 obC0 rfl dX12_shrink_88 ?_
    refine lv_aload_n C.1 C.2.1 dX12_shrink_91 rfl (lv_at hl 0 rfl) ?_
    by_cases hz_19 : gR S 0 5 = 1 ∨ gR S 0 5 = 2
    case neg => exact absurd (iff0 hz_19 h) (fun q => by cases q)
    replace h := ift hz_19 h
    obtain ⟨p_20, ep_20, h⟩ := lt_e h
    have ho_p_20 : Ob Yc p_20 2 := obPg (by rw [ep_20]; exact hz_19)
    refine x_getR C w fX12_25 obC0 dX12_shrink_92 ?_
    refine x_nmR ep_20 ?_
    obtain ⟨⟨S_21, v_22⟩, hv_22, h⟩ := bnd h
    have hkn := nq_kap nn
    have hk1 := km_Rn_perform hv_22
    have hT2 := km_TL_shrink_98 km28 km51 h
    refine x_callViC (q := (RX7, TX7, 8)) (As := [.ref (ρ p_20)]) (rest := []) C w hcn hcw (k_Rn_perform l Z D T ρ g H.size S ho_p_20 hv_22) vX12_98 (hRK (by decide) (by decide)) obC6 (by decide) rfl rfl rfl hl.1 (Nat.le_of_ble_eq_true rfl) (hcM hm hkn hk1 hT2) dX12_shrink_95 (fun ρ1 H locs hag w => ?_)
    replace ha := ha.trans hag
    rw [← hag 0 (by decide)] at hl
    refine W.widen (k := kap S_21 - kap S0) (n := 2 * (kap S_21 - kap S0)) (by omega) (by omega) ?_
    exact w_TL_shrink_98 C hr hk hcn hcw kk28 km28 kk51 km51 ha (by omega) w (lv_sub hl [0, 1, 2, 3, 4] rfl) h
set_option maxRecDepth 100000 in
set_option maxHeartbeats 4000000 in
theorem w_TL_shrink_76 {g : Nat} {S : St} {x1 : Int32} {x2 : Int32} {x3 : Int32} {x4 : Int32} (C : CallFix p m c cX12_shrink 5 s args tb RX12) (hr : meth.sig.returnType = (some .int)) (hk : meth.locks = false) (hcn : Kn Z A s s.heap) (hcw : Kw Z s) {S' : St} {r : Int32} {k28 : St → Int32 → Int32 → Int32 → Option (St × Int32)} (kk28 : ∀ (ρ : Nat → Nat) (S : St) (x1 : Int32) (x2 : Int32) (x3 : Int32) (H : Heap) (locs : List Loc) (ls : Array Slot), Ag ρ0 ρ → kap S0 ≤ kap S → Wn Yc D T ρ S A s H locs → lv_has ls 5 [(0, .ref (ρ 0)), (1, .int x1), (2, .int x2), (3, .int x3)] → k28 S x1 x2 x3 = some (S', r) → W p l e (rmK 9 204 (kap S' - kap S0)) s m args below meth c H locs (kap S - kap S0) (2 * (kap S - kap S0)) (MQ below (QiM D T ρ0 A S' r) args s (kap S' - kap S0) (2 * (kap S' - kap S0)) A) (F0 m 28 ls [])) (km28 : ∀ (S : St) (x1 : Int32) (x2 : Int32) (x3 : Int32), k28 S x1 x2 x3 = some (S', r) → kap S ≤ kap S') {k51 : St → Int32 → Int32 → Int32 → Int32 → Option (St × Int32)} (kk51 : ∀ (ρ : Nat → Nat) (S : St) (x1 : Int32) (x2 : Int32) (x3 : Int32) (x4 : Int32) (H : Heap) (locs : List Loc) (ls : Array Slot), Ag ρ0 ρ → kap S0 ≤ kap S → Wn Yc D T ρ S A s H locs → lv_has ls 5 [(0, .ref (ρ 0)), (1, .int x1), (2, .int x2), (3, .int x3), (4, .int x4)] → k51 S x1 x2 x3 x4 = some (S', r) → W p l e (rmK 9 204 (kap S' - kap S0)) s m args below meth c H locs (kap S - kap S0) (2 * (kap S - kap S0)) (MQ below (QiM D T ρ0 A S' r) args s (kap S' - kap S0) (2 * (kap S' - kap S0)) A) (F0 m 51 ls [])) (km51 : ∀ (S : St) (x1 : Int32) (x2 : Int32) (x3 : Int32) (x4 : Int32), k51 S x1 x2 x3 x4 = some (S', r) → kap S ≤ kap S') (ha : Ag ρ0 ρ) (hm : kap S0 ≤ kap S) (w : Wn Yc D T ρ S A s H locs) (hl : lv_has ls 5 [(0, .ref (ρ 0)), (1, .int x1), (2, .int x2), (3, .int x3), (4, .int x4)]) (h : m_TL_shrink_76 g k28 k51 S x1 x2 x3 x4 = some (S', r)) : W p l e (rmK 9 204 (kap S' - kap S0)) s m args below meth c H locs (kap S - kap S0) (2 * (kap S - kap S0)) (MQ below (QiM D T ρ0 A S' r) args s (kap S' - kap S0) (2 * (kap S' - kap S0)) A) (F0 m 76 ls []) := by
  have hT := km_TL_shrink_76 km28 km51 h
  unfold m_TL_shrink_76 at h
  have nn : nq S S := nq_rf
  refine lv_aload_n C.1 C.2.1 dX12_shrink_76 rfl (lv_at hl 0 rfl) ?_
  by_cases hz_14 : gR S 0 5 = 1 ∨ gR S 0 5 = 2
  case neg => exact absurd (iff0 hz_14 h) (fun q => by cases q)
  replace h := ift hz_14 h
  obtain ⟨p_15, ep_15, h⟩ := lt_e h
  have ho_p_15 : Ob Yc p_15 2 := obPg (by rw [ep_15]; exact hz_14)
  refine x_getR C w fX12_25 obC0 dX12_shrink_77 ?_
  refine x_nmR ep_15 ?_
  obtain ⟨⟨S_16, v_17⟩, hv_17, h⟩ := bnd h
  have hkn := nq_kap nn
  have hk1 := km_Pg_judged hv_17
  have hT2 := km_TL_shrink_83 km28 km51 h
  refine x_callViC (q := (RX4, TX4, 16)) (As := []) (rest := []) C w hcn hcw (k_Pg_judged l Z D T ρ g H.size S ho_p_15 hv_17) vX12_76 (hRK (by decide) (by decide)) ho_p_15 (by decide) rfl rfl rfl hl.1 (Nat.le_of_ble_eq_true rfl) (hcM hm hkn hk1 hT2) dX12_shrink_80 (fun ρ1 H locs hag w => ?_)
  replace ha := ha.trans hag
  rw [← hag 0 (by decide)] at hl
  refine W.widen (k := kap S_16 - kap S0) (n := 2 * (kap S_16 - kap S0)) (by omega) (by omega) ?_
  exact w_TL_shrink_83 C hr hk hcn hcw kk28 km28 kk51 km51 ha (by omega) w (lv_sub hl [0, 1, 2, 3, 4] rfl) h
set_option maxRecDepth 100000 in
set_option maxHeartbeats 4000000 in
theorem wb_TL_shrink_51 {g : Nat} {S : St} {x1 : Int32} {x2 : Int32} {x3 : Int32} {x4 : Int32} (C : CallFix p m c cX12_shrink 5 s args tb RX12) (hr : meth.sig.returnType = (some .int)) (hk : meth.locks = false) (hcn : Kn Z A s s.heap) (hcw : Kw Z s) {S' : St} {r : Int32} {k28 : St → Int32 → Int32 → Int32 → Option (St × Int32)} (kk28 : ∀ (ρ : Nat → Nat) (S : St) (x1 : Int32) (x2 : Int32) (x3 : Int32) (H : Heap) (locs : List Loc) (ls : Array Slot), Ag ρ0 ρ → kap S0 ≤ kap S → Wn Yc D T ρ S A s H locs → lv_has ls 5 [(0, .ref (ρ 0)), (1, .int x1), (2, .int x2), (3, .int x3)] → k28 S x1 x2 x3 = some (S', r) → W p l e (rmK 9 204 (kap S' - kap S0)) s m args below meth c H locs (kap S - kap S0) (2 * (kap S - kap S0)) (MQ below (QiM D T ρ0 A S' r) args s (kap S' - kap S0) (2 * (kap S' - kap S0)) A) (F0 m 28 ls [])) (km28 : ∀ (S : St) (x1 : Int32) (x2 : Int32) (x3 : Int32), k28 S x1 x2 x3 = some (S', r) → kap S ≤ kap S') {k51 : St → Int32 → Int32 → Int32 → Int32 → Option (St × Int32)} (kk51 : ∀ (ρ : Nat → Nat) (S : St) (x1 : Int32) (x2 : Int32) (x3 : Int32) (x4 : Int32) (H : Heap) (locs : List Loc) (ls : Array Slot), Ag ρ0 ρ → kap S0 ≤ kap S → Wn Yc D T ρ S A s H locs → lv_has ls 5 [(0, .ref (ρ 0)), (1, .int x1), (2, .int x2), (3, .int x3), (4, .int x4)] → k51 S x1 x2 x3 x4 = some (S', r) → W p l e (rmK 9 204 (kap S' - kap S0)) s m args below meth c H locs (kap S - kap S0) (2 * (kap S - kap S0)) (MQ below (QiM D T ρ0 A S' r) args s (kap S' - kap S0) (2 * (kap S' - kap S0)) A) (F0 m 51 ls [])) (km51 : ∀ (S : St) (x1 : Int32) (x2 : Int32) (x3 : Int32) (x4 : Int32), k51 S x1 x2 x3 x4 = some (S', r) → kap S ≤ kap S') (ha : Ag ρ0 ρ) (hm : kap S0 ≤ kap S) (w : Wn Yc D T ρ S A s H locs) (hl : lv_has ls 5 [(0, .ref (ρ 0)), (1, .int x1), (2, .int x2), (3, .int x3), (4, .int x4)]) (h : b_TL_shrink_51 g k28 k51 S x1 x2 x3 x4 = some (S', r)) : W p l e (rmK 9 204 (kap S' - kap S0)) s m args below meth c H locs (kap S - kap S0) (2 * (kap S - kap S0)) (MQ below (QiM D T ρ0 A S' r) args s (kap S' - kap S0) (2 * (kap S' - kap S0)) A) (F0 m 51 ls []) := by
  have hT := kmb_TL_shrink_51 km28 km51 h
  unfold b_TL_shrink_51 at h
  have nn : nq S S := nq_rf
  refine lv_iload C.1 C.2.1 dX12_shrink_51 (lv_at hl 4 rfl) ?_
  refine lv_if_lt (tgt := 119) C.1 C.2.1 dX12_shrink_53 (by decide) (fun hc => ?_) (fun hc => ?_)
  · replace h := ift hc h
    obtain ⟨x3_5, ex3_5, h⟩ := lt_e h
    refine lv_iinc (v := x3_5) (lv' := [(3, .int x3_5), (0, .ref (ρ 0)), (1, .int x1), (2, .int x2), (4, .int x4)]) C.1 C.2.1 dX12_shrink_119 hl (k := 3) rfl (by rw [ex3_5]; rfl) (by decide) rfl (fun ls hl => ?_)
    refine lv_goto (tgt := 28) C.1 C.2.1 dX12_shrink_122 (by decide) ?_
    have hkn := nq_kap nn
    refine W.widen (k := kap S - kap S0) (n := 2 * (kap S - kap S0)) (by omega) (by omega) ?_
    exact kk28 _ _ _ _ _ _ _ _ ha (by omega) w (lv_sub hl [1, 2, 3, 0] rfl) h
  · replace h := iff0 hc h
    refine lv_aload_n C.1 C.2.1 dX12_shrink_56 rfl (lv_at hl 0 rfl) ?_
    by_cases hz_6 : gR S 0 5 = 1 ∨ gR S 0 5 = 2
    case neg => exact absurd (iff0 hz_6 h) (fun q => by cases q)
    replace h := ift hz_6 h
    obtain ⟨p_7, ep_7, h⟩ := lt_e h
    have ho_p_7 : Ob Yc p_7 2 := obPg (by rw [ep_7]; exact hz_6)
    refine x_getR C w fX12_25 obC0 dX12_shrink_57 ?_
    refine x_nmR ep_7 ?_
    refine lv_aload_n C.1 C.2.1 dX12_shrink_60 rfl (lv_at hl 0 rfl) ?_
    by_cases hz_8 : gR S 0 4 = 1 ∨ gR S 0 4 = 2
    case neg => exact absurd (iff0 hz_8 h) (fun q => by cases q)
    replace h := ift hz_8 h
    obtain ⟨p_9, ep_9, h⟩ := lt_e h
    have ho_p_9 : Ob Yc p_9 2 := obPg (by rw [ep_9]; exact hz_8)
    refine x_getR C w fX12_21 obC0 dX12_shrink_61 ?_
    refine x_nmR ep_9 ?_
    obtain ⟨S_10, hS_10, h⟩ := bnd h
    replace nn : nq S_10 S := nq_tr (kq_Pg_copySteps hS_10) nn
    refine x_callVv (q := (RX4, TX4, 16)) (As := [.ref (ρ p_9)]) (rest := []) C w (k_Pg_copySteps l D T ρ g H.size S ho_p_7 ho_p_9 hS_10) vX12_118 (hRK (by decide) (by decide)) ho_p_7 (by decide) rfl rfl rfl hl.1 (Nat.le_of_ble_eq_true rfl) (hcK hT) dX12_shrink_64 (fun H locs w => ?_)
    refine lv_aload_n C.1 C.2.1 dX12_shrink_67 rfl (lv_at hl 0 rfl) ?_
    by_cases hz_11 : gR S_10 0 5 = 1 ∨ gR S_10 0 5 = 2
    case neg => exact absurd (iff0 hz_11 h) (fun q => by cases q)
    replace h := ift hz_11 h
    obtain ⟨p_12, ep_12, h⟩ := lt_e h
    have ho_p_12 : Ob Yc p_12 2 := obPg (by rw [ep_12]; exact hz_11)
    refine x_getR C w fX12_25 obC0 dX12_shrink_68 ?_
    refine x_nmR ep_12 ?_
    refine lv_iload C.1 C.2.1 dX12_shrink_71 (lv_at hl 4 rfl) ?_
    obtain ⟨S_13, hS_13, h⟩ := bnd h
    have hkn := nq_kap nn
    have hk1 := km_Pg_leaveOut hS_13
    have hT2 := km_TL_shrink_76 km28 km51 h
    refine x_callVvC (q := (RX4, TX4, 16)) (As := [.int x4]) (rest := []) C w hcn hcw (k_Pg_leaveOut l Z D T ρ g H.size S_10 ho_p_12 hS_13) vX12_121 (hRK (by decide) (by decide)) ho_p_12 (by decide) rfl rfl rfl hl.1 (Nat.le_of_ble_eq_true rfl) (hcM hm hkn hk1 hT2) dX12_shrink_73 (fun ρ1 H locs hag w => ?_)
    replace ha := ha.trans hag
    rw [← hag 0 (by decide)] at hl
    refine W.widen (k := kap S_13 - kap S0) (n := 2 * (kap S_13 - kap S0)) (by omega) (by omega) ?_
    exact w_TL_shrink_76 C hr hk hcn hcw kk28 km28 kk51 km51 ha (by omega) w (lv_sub hl [0, 1, 2, 3, 4] rfl) h
theorem w_TL_shrink_51 {g : Nat} (C : CallFix p m c cX12_shrink 5 s args tb RX12) (hr : meth.sig.returnType = (some .int)) (hk : meth.locks = false) (hcn : Kn Z A s s.heap) (hcw : Kw Z s) {S' : St} {r : Int32} {k28 : St → Int32 → Int32 → Int32 → Option (St × Int32)} (kk28 : ∀ (ρ : Nat → Nat) (S : St) (x1 : Int32) (x2 : Int32) (x3 : Int32) (H : Heap) (locs : List Loc) (ls : Array Slot), Ag ρ0 ρ → kap S0 ≤ kap S → Wn Yc D T ρ S A s H locs → lv_has ls 5 [(0, .ref (ρ 0)), (1, .int x1), (2, .int x2), (3, .int x3)] → k28 S x1 x2 x3 = some (S', r) → W p l e (rmK 9 204 (kap S' - kap S0)) s m args below meth c H locs (kap S - kap S0) (2 * (kap S - kap S0)) (MQ below (QiM D T ρ0 A S' r) args s (kap S' - kap S0) (2 * (kap S' - kap S0)) A) (F0 m 28 ls [])) (km28 : ∀ (S : St) (x1 : Int32) (x2 : Int32) (x3 : Int32), k28 S x1 x2 x3 = some (S', r) → kap S ≤ kap S') (n : Nat) : ∀ (ρ : Nat → Nat) (S : St) (x1 : Int32) (x2 : Int32) (x3 : Int32) (x4 : Int32) (H : Heap) (locs : List Loc) (ls : Array Slot), Ag ρ0 ρ → kap S0 ≤ kap S → Wn Yc D T ρ S A s H locs → lv_has ls 5 [(0, .ref (ρ 0)), (1, .int x1), (2, .int x2), (3, .int x3), (4, .int x4)] → m_TL_shrink_51 g k28 n S x1 x2 x3 x4 = some (S', r) → W p l e (rmK 9 204 (kap S' - kap S0)) s m args below meth c H locs (kap S - kap S0) (2 * (kap S - kap S0)) (MQ below (QiM D T ρ0 A S' r) args s (kap S' - kap S0) (2 * (kap S' - kap S0)) A) (F0 m 51 ls []) := by
  induction n with
  | zero => intro ρ S x1 x2 x3 x4 H locs ls ha hm w hl h; exact absurd h (fun q => by cases q)
  | succ n ih => intro ρ S x1 x2 x3 x4 H locs ls ha hm w hl h; exact wb_TL_shrink_51 C hr hk hcn hcw kk28 km28 ih (km_TL_shrink_51 km28 n) ha hm w hl h
set_option maxRecDepth 100000 in
set_option maxHeartbeats 4000000 in
theorem wb_TL_shrink_28 {g : Nat} {S : St} {x1 : Int32} {x2 : Int32} {x3 : Int32} (C : CallFix p m c cX12_shrink 5 s args tb RX12) (hr : meth.sig.returnType = (some .int)) (hk : meth.locks = false) (hcn : Kn Z A s s.heap) (hcw : Kw Z s) {S' : St} {r : Int32} {k28 : St → Int32 → Int32 → Int32 → Option (St × Int32)} (kk28 : ∀ (ρ : Nat → Nat) (S : St) (x1 : Int32) (x2 : Int32) (x3 : Int32) (H : Heap) (locs : List Loc) (ls : Array Slot), Ag ρ0 ρ → kap S0 ≤ kap S → Wn Yc D T ρ S A s H locs → lv_has ls 5 [(0, .ref (ρ 0)), (1, .int x1), (2, .int x2), (3, .int x3)] → k28 S x1 x2 x3 = some (S', r) → W p l e (rmK 9 204 (kap S' - kap S0)) s m args below meth c H locs (kap S - kap S0) (2 * (kap S - kap S0)) (MQ below (QiM D T ρ0 A S' r) args s (kap S' - kap S0) (2 * (kap S' - kap S0)) A) (F0 m 28 ls [])) (km28 : ∀ (S : St) (x1 : Int32) (x2 : Int32) (x3 : Int32), k28 S x1 x2 x3 = some (S', r) → kap S ≤ kap S') (ha : Ag ρ0 ρ) (hm : kap S0 ≤ kap S) (w : Wn Yc D T ρ S A s H locs) (hl : lv_has ls 5 [(0, .ref (ρ 0)), (1, .int x1), (2, .int x2), (3, .int x3)]) (h : b_TL_shrink_28 g k28 S x1 x2 x3 = some (S', r)) : W p l e (rmK 9 204 (kap S' - kap S0)) s m args below meth c H locs (kap S - kap S0) (2 * (kap S - kap S0)) (MQ below (QiM D T ρ0 A S' r) args s (kap S' - kap S0) (2 * (kap S' - kap S0)) A) (F0 m 28 ls []) := by
  have hT := kmb_TL_shrink_28 km28 h
  unfold b_TL_shrink_28 at h
  have nn : nq S S := nq_rf
  refine lv_iload_n C.1 C.2.1 dX12_shrink_28 rfl (lv_at hl 3 rfl) ?_
  refine lv_bipush (v := 60) C.1 C.2.1 dX12_shrink_29 (by decide) ?_
  refine lv_icmp_gt (tgt := 125) C.1 C.2.1 dX12_shrink_31 (by decide) (fun hc => ?_) (fun hc => ?_)
  · replace h := ift hc h
    have hkn := nq_kap nn
    refine W.widen (k := kap S - kap S0) (n := 2 * (kap S - kap S0)) (by omega) (by omega) ?_
    exact w_TL_shrink_125 C hr hk hcn hcw ha (by omega) w (lv_sub hl [0] rfl) h
  · replace h := iff0 hc h
    refine lv_iload_n C.1 C.2.1 dX12_shrink_34 rfl (lv_at hl 2 rfl) ?_
    refine lv_if_eq (tgt := 125) C.1 C.2.1 dX12_shrink_35 (by decide) (fun hc => ?_) (fun hc => ?_)
    · replace h := ift hc h
      have hkn := nq_kap nn
      refine W.widen (k := kap S - kap S0) (n := 2 * (kap S - kap S0)) (by omega) (by omega) ?_
      exact w_TL_shrink_125 C hr hk hcn hcw ha (by omega) w (lv_sub hl [0] rfl) h
    · replace h := iff0 hc h
      refine lv_iconst (v := 0) C.1 C.2.1 dX12_shrink_38 (by decide) ?_
      refine lv_istore_n (lv' := [(2, .int (0 : Int32)), (0, .ref (ρ 0)), (1, .int x1), (3, .int x3)]) C.1 C.2.1 dX12_shrink_39 rfl hl (by decide) rfl (fun ls hl => ?_)
      refine lv_aload_n C.1 C.2.1 dX12_shrink_40 rfl (lv_at hl 1 rfl) ?_
      by_cases hz_2 : gR S 0 4 = 1 ∨ gR S 0 4 = 2
      case neg => exact absurd (iff0 hz_2 h) (fun q => by cases q)
      replace h := ift hz_2 h
      obtain ⟨p_3, ep_3, h⟩ := lt_e h
      have ho_p_3 : Ob Yc p_3 2 := obPg (by rw [ep_3]; exact hz_2)
      refine x_getR C w fX12_21 obC0 dX12_shrink_41 ?_
      refine x_nmR ep_3 ?_
      refine x_getI C w fX12_95 ho_p_3 dX12_shrink_44 ?_
      refine lv_iconst (v := 1) C.1 C.2.1 dX12_shrink_47 (by decide) ?_
      refine lv_isub C.1 C.2.1 dX12_shrink_48 ?_
      obtain ⟨x4_4, ex4_4, h⟩ := lt_e h
      refine x_nm ex4_4 ?_
      refine lv_istore (lv' := [(4, .int x4_4), (2, .int (0 : Int32)), (0, .ref (ρ 0)), (1, .int x1), (3, .int x3)]) C.1 C.2.1 dX12_shrink_49 hl (by decide) rfl (fun ls hl => ?_)
      have hkn := nq_kap nn
      refine W.widen (k := kap S - kap S0) (n := 2 * (kap S - kap S0)) (by omega) (by omega) ?_
      exact w_TL_shrink_51 C hr hk hcn hcw kk28 km28 g _ _ _ _ _ _ _ _ _ ha (by omega) w (lv_sub hl [2, 3, 1, 4, 0] rfl) h
theorem w_TL_shrink_28 {g : Nat} (C : CallFix p m c cX12_shrink 5 s args tb RX12) (hr : meth.sig.returnType = (some .int)) (hk : meth.locks = false) (hcn : Kn Z A s s.heap) (hcw : Kw Z s) {S' : St} {r : Int32} (n : Nat) : ∀ (ρ : Nat → Nat) (S : St) (x1 : Int32) (x2 : Int32) (x3 : Int32) (H : Heap) (locs : List Loc) (ls : Array Slot), Ag ρ0 ρ → kap S0 ≤ kap S → Wn Yc D T ρ S A s H locs → lv_has ls 5 [(0, .ref (ρ 0)), (1, .int x1), (2, .int x2), (3, .int x3)] → m_TL_shrink_28 g n S x1 x2 x3 = some (S', r) → W p l e (rmK 9 204 (kap S' - kap S0)) s m args below meth c H locs (kap S - kap S0) (2 * (kap S - kap S0)) (MQ below (QiM D T ρ0 A S' r) args s (kap S' - kap S0) (2 * (kap S' - kap S0)) A) (F0 m 28 ls []) := by
  induction n with
  | zero => intro ρ S x1 x2 x3 H locs ls ha hm w hl h; exact absurd h (fun q => by cases q)
  | succ n ih => intro ρ S x1 x2 x3 H locs ls ha hm w hl h; exact wb_TL_shrink_28 C hr hk hcn hcw ih (km_TL_shrink_28 n) ha hm w hl h
set_option maxRecDepth 100000 in
set_option maxHeartbeats 4000000 in
theorem w_TL_shrink_0 {g : Nat} {S : St} (C : CallFix p m c cX12_shrink 5 s args tb RX12) (hr : meth.sig.returnType = (some .int)) (hk : meth.locks = false) (hcn : Kn Z A s s.heap) (hcw : Kw Z s) {S' : St} {r : Int32} (ha : Ag ρ0 ρ) (hm : kap S0 ≤ kap S) (w : Wn Yc D T ρ S A s H locs) (hl : lv_has ls 5 [(0, .ref (ρ 0))]) (h : m_TL_shrink g S = some (S', r)) : W p l e (rmK 9 204 (kap S' - kap S0)) s m args below meth c H locs (kap S - kap S0) (2 * (kap S - kap S0)) (MQ below (QiM D T ρ0 A S' r) args s (kap S' - kap S0) (2 * (kap S' - kap S0)) A) (F0 m 0 ls []) := by
  have hT := km_TL_shrink h
  unfold m_TL_shrink at h
  have nn : nq S S := nq_rf
  refine lv_aload_n C.1 C.2.1 dX12_shrink_0 rfl (lv_at hl 0 rfl) ?_
  refine x_getC C w 6 fX12_55 obC0 rfl dX12_shrink_1 ?_
  refine x_getC C w 79 fX12_101 obC6 rfl dX12_shrink_4 ?_
  refine lv_iconst (v := 1) C.1 C.2.1 dX12_shrink_7 (by decide) ?_
  obtain ⟨v_1, hv_1, h⟩ := bnd h
  refine x_iald C w obC79 hv_1 dX12_shrink_8 ?_
  refine lv_istore_n (lv' := [(1, .int v_1), (0, .ref (ρ 0))]) C.1 C.2.1 dX12_shrink_9 rfl hl (by decide) rfl (fun ls hl => ?_)
  refine lv_aload_n C.1 C.2.1 dX12_shrink_10 rfl (lv_at hl 1 rfl) ?_
  refine x_getI C w fX12_28 obC0 dX12_shrink_11 ?_
  refine lv_if_eq (tgt := 21) C.1 C.2.1 dX12_shrink_14 (by decide) (fun hc => ?_) (fun hc => ?_)
  · replace h := ift hc h
    refine lv_bipush (v := (-2)) C.1 C.2.1 dX12_shrink_21 (by decide) ?_
    obtain ⟨rfl, rfl⟩ := prI h
    exact x_iretM C w ha hr hk dX12_shrink_23 (by have := nq_kap nn; omega) (by have := nq_kap nn; omega)
  · replace h := iff0 hc h
    refine lv_iload_n C.1 C.2.1 dX12_shrink_17 rfl (lv_at hl 0 rfl) ?_
    refine lv_if_ne (tgt := 24) C.1 C.2.1 dX12_shrink_18 (by decide) (fun hc => ?_) (fun hc => ?_)
    · replace h := iff0 hc h
      refine lv_iconst (v := 1) C.1 C.2.1 dX12_shrink_24 (by decide) ?_
      refine lv_istore_n (lv' := [(2, .int (1 : Int32)), (1, .int v_1), (0, .ref (ρ 0))]) C.1 C.2.1 dX12_shrink_25 rfl hl (by decide) rfl (fun ls hl => ?_)
      refine lv_iconst (v := 0) C.1 C.2.1 dX12_shrink_26 (by decide) ?_
      refine lv_istore_n (lv' := [(3, .int (0 : Int32)), (2, .int (1 : Int32)), (1, .int v_1), (0, .ref (ρ 0))]) C.1 C.2.1 dX12_shrink_27 rfl hl (by decide) rfl (fun ls hl => ?_)
      have hkn := nq_kap nn
      refine W.widen (k := kap S - kap S0) (n := 2 * (kap S - kap S0)) (by omega) (by omega) ?_
      exact w_TL_shrink_28 C hr hk hcn hcw g _ _ _ _ _ _ _ _ ha (by omega) w (lv_sub hl [3, 2, 1, 0] rfl) h
    · replace h := ift hc h
      refine lv_bipush (v := (-2)) C.1 C.2.1 dX12_shrink_21 (by decide) ?_
      obtain ⟨rfl, rfl⟩ := prI h
      exact x_iretM C w ha hr hk dX12_shrink_23 (by have := nq_kap nn; omega) (by have := nq_kap nn; omega)
end S_TL_shrink
set_option maxRecDepth 100000 in
theorem k_TL_shrink (l : Launch) (Z : Ad) (D : va_G) (T : Cy) (ρ : Nat → Nat) (g sz : Nat) (S : St) {S' : St} {r : Int32} (h : m_TL_shrink g S = some (S', r)) : MiC l Z D T ρ yX12_shrink cX12_shrink 5 (some .int) 9 204 S S' r [.ref (ρ 0)] sz :=
  x_inC (by decide) (Nat.le_of_ble_eq_true rfl) (fun p e s m below meth c ls C hr hk hcn hcw w hl => W.widen (Nat.zero_le _) (Nat.zero_le _) (w_TL_shrink_0 C hr hk hcn hcw Ag.rf (Nat.le_refl _) w hl h))
