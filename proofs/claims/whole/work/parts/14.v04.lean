theorem dX12_feed_0 : decode cX12_feed 0 = .ok (.aload_n 0, 1) := by decide +kernel
theorem dX12_feed_1 : decode cX12_feed 1 = .ok (.getfield 14, 3) := by decide +kernel
theorem dX12_feed_4 : decode cX12_feed 4 = .ok (.getfield 59, 3) := by decide +kernel
theorem dX12_feed_7 : decode cX12_feed 7 = .ok (.sipush 2980, 3) := by decide +kernel
theorem dX12_feed_10 : decode cX12_feed 10 = .ok (.if_icmp .le 5, 3) := by decide +kernel
theorem dX12_feed_13 : decode cX12_feed 13 = .ok (.iconst (-1), 1) := by decide +kernel
theorem dX12_feed_14 : decode cX12_feed 14 = .ok (.ireturn, 1) := by decide +kernel
theorem dX12_feed_15 : decode cX12_feed 15 = .ok (.aload_n 0, 1) := by decide +kernel
theorem dX12_feed_16 : decode cX12_feed 16 = .ok (.iload_n 1, 1) := by decide +kernel
theorem dX12_feed_17 : decode cX12_feed 17 = .ok (.invokevirtual 63, 3) := by decide +kernel
theorem dX12_feed_20 : decode cX12_feed 20 = .ok (.aload_n 0, 1) := by decide +kernel
theorem dX12_feed_21 : decode cX12_feed 21 = .ok (.iload_n 2, 1) := by decide +kernel
theorem dX12_feed_22 : decode cX12_feed 22 = .ok (.invokevirtual 63, 3) := by decide +kernel
theorem dX12_feed_25 : decode cX12_feed 25 = .ok (.aload_n 0, 1) := by decide +kernel
theorem dX12_feed_26 : decode cX12_feed 26 = .ok (.iload_n 3, 1) := by decide +kernel
theorem dX12_feed_27 : decode cX12_feed 27 = .ok (.invokevirtual 63, 3) := by decide +kernel
theorem dX12_feed_30 : decode cX12_feed 30 = .ok (.aload_n 0, 1) := by decide +kernel
theorem dX12_feed_31 : decode cX12_feed 31 = .ok (.iload 4, 2) := by decide +kernel
theorem dX12_feed_33 : decode cX12_feed 33 = .ok (.invokevirtual 63, 3) := by decide +kernel
theorem dX12_feed_36 : decode cX12_feed 36 = .ok (.aload_n 0, 1) := by decide +kernel
theorem dX12_feed_37 : decode cX12_feed 37 = .ok (.iload 5, 2) := by decide +kernel
theorem dX12_feed_39 : decode cX12_feed 39 = .ok (.invokevirtual 63, 3) := by decide +kernel
theorem dX12_feed_42 : decode cX12_feed 42 = .ok (.aload_n 0, 1) := by decide +kernel
theorem dX12_feed_43 : decode cX12_feed 43 = .ok (.getfield 14, 3) := by decide +kernel
theorem dX12_feed_46 : decode cX12_feed 46 = .ok (.getfield 59, 3) := by decide +kernel
theorem dX12_feed_49 : decode cX12_feed 49 = .ok (.ireturn, 1) := by decide +kernel
def m_TL_feed_42 (g : Nat) (S : St) : Option (St × Int32) :=
some (S, gI S 10 2)
def m_TL_feed_36 (g : Nat) (S : St) (x5 : Int32) : Option (St × Int32) :=
(m_TL_feedBytes g S x5).bind fun S_5 =>
m_TL_feed_42 g S_5
def m_TL_feed_30 (g : Nat) (S : St) (x4 : Int32) (x5 : Int32) : Option (St × Int32) :=
(m_TL_feedBytes g S x4).bind fun S_4 =>
m_TL_feed_36 g S_4 x5
def m_TL_feed_25 (g : Nat) (S : St) (x3 : Int32) (x4 : Int32) (x5 : Int32) : Option (St × Int32) :=
(m_TL_feedBytes g S x3).bind fun S_3 =>
m_TL_feed_30 g S_3 x4 x5
def m_TL_feed_20 (g : Nat) (S : St) (x2 : Int32) (x3 : Int32) (x4 : Int32) (x5 : Int32) : Option (St × Int32) :=
(m_TL_feedBytes g S x2).bind fun S_2 =>
m_TL_feed_25 g S_2 x3 x4 x5
def m_TL_feed (g : Nat) (S : St) (x1 : Int32) (x2 : Int32) (x3 : Int32) (x4 : Int32) (x5 : Int32) : Option (St × Int32) :=
if (gI S 10 2) ≤ (2980 : Int32) then (
  (m_TL_feedBytes g S x1).bind fun S_1 =>
  m_TL_feed_20 g S_1 x2 x3 x4 x5
) else (
  some (S, (-1 : Int32))
)
theorem km_TL_feed_42 {g : Nat} {S : St} {S' : St} {r : Int32} (h : m_TL_feed_42 g S = some (S', r)) : kap S ≤ kap S' := by
  unfold m_TL_feed_42 at h
  have nn : nq S S := nq_rf
  obtain ⟨rfl, rfl⟩ := prI h
  have hkn := nq_kap nn
  omega
theorem km_TL_feed_36 {g : Nat} {S : St} {x5 : Int32} {S' : St} {r : Int32} (h : m_TL_feed_36 g S x5 = some (S', r)) : kap S ≤ kap S' := by
  unfold m_TL_feed_36 at h
  have nn : nq S S := nq_rf
  obtain ⟨S_5, hS_5, h⟩ := bnd h
  have hk1 := km_TL_feedBytes hS_5
  have hkn := nq_kap nn
  have h2 := km_TL_feed_42 h
  omega
theorem km_TL_feed_30 {g : Nat} {S : St} {x4 : Int32} {x5 : Int32} {S' : St} {r : Int32} (h : m_TL_feed_30 g S x4 x5 = some (S', r)) : kap S ≤ kap S' := by
  unfold m_TL_feed_30 at h
  have nn : nq S S := nq_rf
  obtain ⟨S_4, hS_4, h⟩ := bnd h
  have hk1 := km_TL_feedBytes hS_4
  have hkn := nq_kap nn
  have h2 := km_TL_feed_36 h
  omega
theorem km_TL_feed_25 {g : Nat} {S : St} {x3 : Int32} {x4 : Int32} {x5 : Int32} {S' : St} {r : Int32} (h : m_TL_feed_25 g S x3 x4 x5 = some (S', r)) : kap S ≤ kap S' := by
  unfold m_TL_feed_25 at h
  have nn : nq S S := nq_rf
  obtain ⟨S_3, hS_3, h⟩ := bnd h
  have hk1 := km_TL_feedBytes hS_3
  have hkn := nq_kap nn
  have h2 := km_TL_feed_30 h
  omega
theorem km_TL_feed_20 {g : Nat} {S : St} {x2 : Int32} {x3 : Int32} {x4 : Int32} {x5 : Int32} {S' : St} {r : Int32} (h : m_TL_feed_20 g S x2 x3 x4 x5 = some (S', r)) : kap S ≤ kap S' := by
  unfold m_TL_feed_20 at h
  have nn : nq S S := nq_rf
  obtain ⟨S_2, hS_2, h⟩ := bnd h
  have hk1 := km_TL_feedBytes hS_2
  have hkn := nq_kap nn
  have h2 := km_TL_feed_25 h
  omega
theorem km_TL_feed {g : Nat} {S : St} {x1 : Int32} {x2 : Int32} {x3 : Int32} {x4 : Int32} {x5 : Int32} {S' : St} {r : Int32} (h : m_TL_feed g S x1 x2 x3 x4 x5 = some (S', r)) : kap S ≤ kap S' := by
  unfold m_TL_feed at h
  have nn : nq S S := nq_rf
  by_cases hc1 : (gI S 10 2) ≤ (2980 : Int32)
  · replace h := ift hc1 h
    obtain ⟨S_1, hS_1, h⟩ := bnd h
    have hk1 := km_TL_feedBytes hS_1
    have hkn := nq_kap nn
    have h2 := km_TL_feed_20 h
    omega
  · replace h := iff0 hc1 h
    obtain ⟨rfl, rfl⟩ := prI h
    have hkn := nq_kap nn
    omega
section S_TL_feed
variable {p : Program} {l : Launch} {e : Env} {s : State} {m : MethodId} {args : Array Value} {below : List Frame} {meth : Method} {c : Code} {H : Heap} {locs : List Loc} {ls : Array Slot} {D : va_G} {T : Cy} {ρ ρ0 : Nat → Nat} {S0 : St} {A : Nat → Prop}
set_option maxRecDepth 100000 in
set_option maxHeartbeats 4000000 in
theorem w_TL_feed_42 {g : Nat} {S : St} (C : CallFix p m c cX12_feed 6 s args tb RX12) (hr : meth.sig.returnType = (some .int)) (hk : meth.locks = false) {S' : St} {r : Int32} (ha : Ag ρ0 ρ) (hm : kap S0 ≤ kap S) (w : Wn Yc D T ρ S A s H locs) (hl : lv_has ls 6 [(0, .ref (ρ 0))]) (h : m_TL_feed_42 g S = some (S', r)) : W p l e (rmK 4 91 (kap S' - kap S0)) s m args below meth c H locs (kap S - kap S0) (2 * (kap S - kap S0)) (MQ below (QiM D T ρ0 A S' r) args s (kap S' - kap S0) (2 * (kap S' - kap S0)) A) (F0 m 42 ls []) := by
  have hT := km_TL_feed_42 h
  unfold m_TL_feed_42 at h
  have nn : nq S S := nq_rf
  refine lv_aload_n C.1 C.2.1 dX12_feed_42 rfl (lv_at hl 0 rfl) ?_
  refine x_getC C w 10 fX12_14 obC0 rfl dX12_feed_43 ?_
  refine x_getI C w fX12_59 obC10 dX12_feed_46 ?_
  obtain ⟨rfl, rfl⟩ := prI h
  exact x_iretM C w ha hr hk dX12_feed_49 (by have := nq_kap nn; omega) (by have := nq_kap nn; omega)
set_option maxRecDepth 100000 in
set_option maxHeartbeats 4000000 in
theorem w_TL_feed_36 {g : Nat} {S : St} {x5 : Int32} (C : CallFix p m c cX12_feed 6 s args tb RX12) (hr : meth.sig.returnType = (some .int)) (hk : meth.locks = false) {S' : St} {r : Int32} (ha : Ag ρ0 ρ) (hm : kap S0 ≤ kap S) (w : Wn Yc D T ρ S A s H locs) (hl : lv_has ls 6 [(0, .ref (ρ 0)), (5, .int x5)]) (h : m_TL_feed_36 g S x5 = some (S', r)) : W p l e (rmK 4 91 (kap S' - kap S0)) s m args below meth c H locs (kap S - kap S0) (2 * (kap S - kap S0)) (MQ below (QiM D T ρ0 A S' r) args s (kap S' - kap S0) (2 * (kap S' - kap S0)) A) (F0 m 36 ls []) := by
  have hT := km_TL_feed_36 h
  unfold m_TL_feed_36 at h
  have nn : nq S S := nq_rf
  refine lv_aload_n C.1 C.2.1 dX12_feed_36 rfl (lv_at hl 0 rfl) ?_
  refine lv_iload C.1 C.2.1 dX12_feed_37 (lv_at hl 1 rfl) ?_
  obtain ⟨S_5, hS_5, h⟩ := bnd h
  have hkn := nq_kap nn
  have hk1 := km_TL_feedBytes hS_5
  have hT2 := km_TL_feed_42 h
  refine x_callVvM (q := (RX12, TX12, 7)) (As := [.int x5]) (rest := []) C w (k_TL_feedBytes l D T ρ g H.size S hS_5) vX12_63 (hRK (by decide) (by decide)) obC0 (by decide) rfl rfl rfl hl.1 (Nat.le_of_ble_eq_true rfl) (hcM hm hkn hk1 hT2) dX12_feed_39 (fun ρ1 H locs hag w => ?_)
  replace ha := ha.trans hag
  rw [← hag 0 (by decide)] at hl
  refine W.widen (k := kap S_5 - kap S0) (n := 2 * (kap S_5 - kap S0)) (by omega) (by omega) ?_
  exact w_TL_feed_42 C hr hk ha (by omega) w (lv_sub hl [0] rfl) h
set_option maxRecDepth 100000 in
set_option maxHeartbeats 4000000 in
theorem w_TL_feed_30 {g : Nat} {S : St} {x4 : Int32} {x5 : Int32} (C : CallFix p m c cX12_feed 6 s args tb RX12) (hr : meth.sig.returnType = (some .int)) (hk : meth.locks = false) {S' : St} {r : Int32} (ha : Ag ρ0 ρ) (hm : kap S0 ≤ kap S) (w : Wn Yc D T ρ S A s H locs) (hl : lv_has ls 6 [(0, .ref (ρ 0)), (4, .int x4), (5, .int x5)]) (h : m_TL_feed_30 g S x4 x5 = some (S', r)) : W p l e (rmK 4 91 (kap S' - kap S0)) s m args below meth c H locs (kap S - kap S0) (2 * (kap S - kap S0)) (MQ below (QiM D T ρ0 A S' r) args s (kap S' - kap S0) (2 * (kap S' - kap S0)) A) (F0 m 30 ls []) := by
  have hT := km_TL_feed_30 h
  unfold m_TL_feed_30 at h
  have nn : nq S S := nq_rf
  refine lv_aload_n C.1 C.2.1 dX12_feed_30 rfl (lv_at hl 0 rfl) ?_
  refine lv_iload C.1 C.2.1 dX12_feed_31 (lv_at hl 1 rfl) ?_
  obtain ⟨S_4, hS_4, h⟩ := bnd h
  have hkn := nq_kap nn
  have hk1 := km_TL_feedBytes hS_4
  have hT2 := km_TL_feed_36 h
  refine x_callVvM (q := (RX12, TX12, 7)) (As := [.int x4]) (rest := []) C w (k_TL_feedBytes l D T ρ g H.size S hS_4) vX12_63 (hRK (by decide) (by decide)) obC0 (by decide) rfl rfl rfl hl.1 (Nat.le_of_ble_eq_true rfl) (hcM hm hkn hk1 hT2) dX12_feed_33 (fun ρ1 H locs hag w => ?_)
  replace ha := ha.trans hag
  rw [← hag 0 (by decide)] at hl
  refine W.widen (k := kap S_4 - kap S0) (n := 2 * (kap S_4 - kap S0)) (by omega) (by omega) ?_
  exact w_TL_feed_36 C hr hk ha (by omega) w (lv_sub hl [0, 2] rfl) h
set_option maxRecDepth 100000 in
set_option maxHeartbeats 4000000 in
theorem w_TL_feed_25 {g : Nat} {S : St} {x3 : Int32} {x4 : Int32} {x5 : Int32} (C : CallFix p m c cX12_feed 6 s args tb RX12) (hr : meth.sig.returnType = (some .int)) (hk : meth.locks = false) {S' : St} {r : Int32} (ha : Ag ρ0 ρ) (hm : kap S0 ≤ kap S) (w : Wn Yc D T ρ S A s H locs) (hl : lv_has ls 6 [(0, .ref (ρ 0)), (3, .int x3), (4, .int x4), (5, .int x5)]) (h : m_TL_feed_25 g S x3 x4 x5 = some (S', r)) : W p l e (rmK 4 91 (kap S' - kap S0)) s m args below meth c H locs (kap S - kap S0) (2 * (kap S - kap S0)) (MQ below (QiM D T ρ0 A S' r) args s (kap S' - kap S0) (2 * (kap S' - kap S0)) A) (F0 m 25 ls []) := by
  have hT := km_TL_feed_25 h
  unfold m_TL_feed_25 at h
  have nn : nq S S := nq_rf
  refine lv_aload_n C.1 C.2.1 dX12_feed_25 rfl (lv_at hl 0 rfl) ?_
  refine lv_iload_n C.1 C.2.1 dX12_feed_26 rfl (lv_at hl 1 rfl) ?_
  obtain ⟨S_3, hS_3, h⟩ := bnd h
  have hkn := nq_kap nn
  have hk1 := km_TL_feedBytes hS_3
  have hT2 := km_TL_feed_30 h
  refine x_callVvM (q := (RX12, TX12, 7)) (As := [.int x3]) (rest := []) C w (k_TL_feedBytes l D T ρ g H.size S hS_3) vX12_63 (hRK (by decide) (by decide)) obC0 (by decide) rfl rfl rfl hl.1 (Nat.le_of_ble_eq_true rfl) (hcM hm hkn hk1 hT2) dX12_feed_27 (fun ρ1 H locs hag w => ?_)
  replace ha := ha.trans hag
  rw [← hag 0 (by decide)] at hl
  refine W.widen (k := kap S_3 - kap S0) (n := 2 * (kap S_3 - kap S0)) (by omega) (by omega) ?_
  exact w_TL_feed_30 C hr hk ha (by omega) w (lv_sub hl [0, 2, 3] rfl) h
set_option maxRecDepth 100000 in
set_option maxHeartbeats 4000000 in
theorem w_TL_feed_20 {g : Nat} {S : St} {x2 : Int32} {x3 : Int32} {x4 : Int32} {x5 : Int32} (C : CallFix p m c cX12_feed 6 s args tb RX12) (hr : meth.sig.returnType = (some .int)) (hk : meth.locks = false) {S' : St} {r : Int32} (ha : Ag ρ0 ρ) (hm : kap S0 ≤ kap S) (w : Wn Yc D T ρ S A s H locs) (hl : lv_has ls 6 [(0, .ref (ρ 0)), (2, .int x2), (3, .int x3), (4, .int x4), (5, .int x5)]) (h : m_TL_feed_20 g S x2 x3 x4 x5 = some (S', r)) : W p l e (rmK 4 91 (kap S' - kap S0)) s m args below meth c H locs (kap S - kap S0) (2 * (kap S - kap S0)) (MQ below (QiM D T ρ0 A S' r) args s (kap S' - kap S0) (2 * (kap S' - kap S0)) A) (F0 m 20 ls []) := by
  have hT := km_TL_feed_20 h
  unfold m_TL_feed_20 at h
  have nn : nq S S := nq_rf
  refine lv_aload_n C.1 C.2.1 dX12_feed_20 rfl (lv_at hl 0 rfl) ?_
  refine lv_iload_n C.1 C.2.1 dX12_feed_21 rfl (lv_at hl 1 rfl) ?_
  obtain ⟨S_2, hS_2, h⟩ := bnd h
  have hkn := nq_kap nn
  have hk1 := km_TL_feedBytes hS_2
  have hT2 := km_TL_feed_25 h
  refine x_callVvM (q := (RX12, TX12, 7)) (As := [.int x2]) (rest := []) C w (k_TL_feedBytes l D T ρ g H.size S hS_2) vX12_63 (hRK (by decide) (by decide)) obC0 (by decide) rfl rfl rfl hl.1 (Nat.le_of_ble_eq_true rfl) (hcM hm hkn hk1 hT2) dX12_feed_22 (fun ρ1 H locs hag w => ?_)
  replace ha := ha.trans hag
  rw [← hag 0 (by decide)] at hl
  refine W.widen (k := kap S_2 - kap S0) (n := 2 * (kap S_2 - kap S0)) (by omega) (by omega) ?_
  exact w_TL_feed_25 C hr hk ha (by omega) w (lv_sub hl [0, 2, 3, 4] rfl) h
set_option maxRecDepth 100000 in
set_option maxHeartbeats 4000000 in
theorem w_TL_feed_0 {g : Nat} {S : St} {x1 : Int32} {x2 : Int32} {x3 : Int32} {x4 : Int32} {x5 : Int32} (C : CallFix p m c cX12_feed 6 s args tb RX12) (hr : meth.sig.returnType = (some .int)) (hk : meth.locks = false) {S' : St} {r : Int32} (ha : Ag ρ0 ρ) (hm : kap S0 ≤ kap S) (w : Wn Yc D T ρ S A s H locs) (hl : lv_has ls 6 [(0, .ref (ρ 0)), (1, .int x1), (2, .int x2), (3, .int x3), (4, .int x4), (5, .int x5)]) (h : m_TL_feed g S x1 x2 x3 x4 x5 = some (S', r)) : W p l e (rmK 4 91 (kap S' - kap S0)) s m args below meth c H locs (kap S - kap S0) (2 * (kap S - kap S0)) (MQ below (QiM D T ρ0 A S' r) args s (kap S' - kap S0) (2 * (kap S' - kap S0)) A) (F0 m 0 ls []) := by
  have hT := km_TL_feed h
  unfold m_TL_feed at h
  have nn : nq S S := nq_rf
  refine lv_aload_n C.1 C.2.1 dX12_feed_0 rfl (lv_at hl 0 rfl) ?_
  refine x_getC C w 10 fX12_14 obC0 rfl dX12_feed_1 ?_
  refine x_getI C w fX12_59 obC10 dX12_feed_4 ?_
  refine lv_sipush (v := 2980) C.1 C.2.1 dX12_feed_7 (by decide) ?_
  refine lv_icmp_le (tgt := 15) C.1 C.2.1 dX12_feed_10 (by decide) (fun hc => ?_) (fun hc => ?_)
  · replace h := ift hc h
    refine lv_aload_n C.1 C.2.1 dX12_feed_15 rfl (lv_at hl 0 rfl) ?_
    refine lv_iload_n C.1 C.2.1 dX12_feed_16 rfl (lv_at hl 1 rfl) ?_
    obtain ⟨S_1, hS_1, h⟩ := bnd h
    have hkn := nq_kap nn
    have hk1 := km_TL_feedBytes hS_1
    have hT2 := km_TL_feed_20 h
    refine x_callVvM (q := (RX12, TX12, 7)) (As := [.int x1]) (rest := []) C w (k_TL_feedBytes l D T ρ g H.size S hS_1) vX12_63 (hRK (by decide) (by decide)) obC0 (by decide) rfl rfl rfl hl.1 (Nat.le_of_ble_eq_true rfl) (hcM hm hkn hk1 hT2) dX12_feed_17 (fun ρ1 H locs hag w => ?_)
    replace ha := ha.trans hag
    rw [← hag 0 (by decide)] at hl
    refine W.widen (k := kap S_1 - kap S0) (n := 2 * (kap S_1 - kap S0)) (by omega) (by omega) ?_
    exact w_TL_feed_20 C hr hk ha (by omega) w (lv_sub hl [0, 2, 3, 4, 5] rfl) h
  · replace h := iff0 hc h
    refine lv_iconst (v := (-1)) C.1 C.2.1 dX12_feed_13 (by decide) ?_
    obtain ⟨rfl, rfl⟩ := prI h
    exact x_iretM C w ha hr hk dX12_feed_14 (by have := nq_kap nn; omega) (by have := nq_kap nn; omega)
end S_TL_feed
set_option maxRecDepth 100000 in
theorem k_TL_feed (l : Launch) (D : va_G) (T : Cy) (ρ : Nat → Nat) (g sz : Nat) (S : St) {x1 : Int32} {x2 : Int32} {x3 : Int32} {x4 : Int32} {x5 : Int32} {S' : St} {r : Int32} (h : m_TL_feed g S x1 x2 x3 x4 x5 = some (S', r)) : MiM l D T ρ yX12_feed cX12_feed 6 (some .int) 4 91 S S' r [.ref (ρ 0), .int x1, .int x2, .int x3, .int x4, .int x5] sz :=
  x_inR (by decide) (Nat.le_of_ble_eq_true rfl) (fun p e s m below meth c ls C hr hk w hl => W.widen (Nat.zero_le _) (Nat.zero_le _) (w_TL_feed_0 C hr hk Ag.rf (Nat.le_refl _) w hl h))
