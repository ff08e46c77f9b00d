theorem dX4_sayWord_0 : decode cX4_sayWord 0 = .ok (.aload_n 0, 1) := by decide +kernel
theorem dX4_sayWord_1 : decode cX4_sayWord 1 = .ok (.getfield 18, 3) := by decide +kernel
theorem dX4_sayWord_4 : decode cX4_sayWord 4 = .ok (.iload_n 1, 1) := by decide +kernel
theorem dX4_sayWord_5 : decode cX4_sayWord 5 = .ok (.iaload, 1) := by decide +kernel
theorem dX4_sayWord_6 : decode cX4_sayWord 6 = .ok (.bipush 34, 2) := by decide +kernel
theorem dX4_sayWord_8 : decode cX4_sayWord 8 = .ok (.if_icmp .ne 15, 3) := by decide +kernel
theorem dX4_sayWord_11 : decode cX4_sayWord 11 = .ok (.aload_n 0, 1) := by decide +kernel
theorem dX4_sayWord_12 : decode cX4_sayWord 12 = .ok (.aload_n 0, 1) := by decide +kernel
theorem dX4_sayWord_13 : decode cX4_sayWord 13 = .ok (.getfield 24, 3) := by decide +kernel
theorem dX4_sayWord_16 : decode cX4_sayWord 16 = .ok (.iload_n 1, 1) := by decide +kernel
theorem dX4_sayWord_17 : decode cX4_sayWord 17 = .ok (.laload, 1) := by decide +kernel
theorem dX4_sayWord_18 : decode cX4_sayWord 18 = .ok (.l2i, 1) := by decide +kernel
theorem dX4_sayWord_19 : decode cX4_sayWord 19 = .ok (.invokevirtual 157, 3) := by decide +kernel
theorem dX4_sayWord_22 : decode cX4_sayWord 22 = .ok (.return_, 1) := by decide +kernel
theorem dX4_sayWord_23 : decode cX4_sayWord 23 = .ok (.aload_n 0, 1) := by decide +kernel
theorem dX4_sayWord_24 : decode cX4_sayWord 24 = .ok (.getfield 21, 3) := by decide +kernel
theorem dX4_sayWord_27 : decode cX4_sayWord 27 = .ok (.iload_n 1, 1) := by decide +kernel
theorem dX4_sayWord_28 : decode cX4_sayWord 28 = .ok (.iaload, 1) := by decide +kernel
theorem dX4_sayWord_29 : decode cX4_sayWord 29 = .ok (.bipush 32, 2) := by decide +kernel
theorem dX4_sayWord_31 : decode cX4_sayWord 31 = .ok (.if_icmp .eq 13, 3) := by decide +kernel
theorem dX4_sayWord_34 : decode cX4_sayWord 34 = .ok (.aload_n 0, 1) := by decide +kernel
theorem dX4_sayWord_35 : decode cX4_sayWord 35 = .ok (.aload_n 0, 1) := by decide +kernel
theorem dX4_sayWord_36 : decode cX4_sayWord 36 = .ok (.getfield 21, 3) := by decide +kernel
theorem dX4_sayWord_39 : decode cX4_sayWord 39 = .ok (.iload_n 1, 1) := by decide +kernel
theorem dX4_sayWord_40 : decode cX4_sayWord 40 = .ok (.iaload, 1) := by decide +kernel
theorem dX4_sayWord_41 : decode cX4_sayWord 41 = .ok (.invokevirtual 151, 3) := by decide +kernel
theorem dX4_sayWord_44 : decode cX4_sayWord 44 = .ok (.aload_n 0, 1) := by decide +kernel
theorem dX4_sayWord_45 : decode cX4_sayWord 45 = .ok (.getfield 18, 3) := by decide +kernel
theorem dX4_sayWord_48 : decode cX4_sayWord 48 = .ok (.iload_n 1, 1) := by decide +kernel
theorem dX4_sayWord_49 : decode cX4_sayWord 49 = .ok (.iaload, 1) := by decide +kernel
theorem dX4_sayWord_50 : decode cX4_sayWord 50 = .ok (.bipush 48, 2) := by decide +kernel
theorem dX4_sayWord_52 : decode cX4_sayWord 52 = .ok (.if_icmp .eq 13, 3) := by decide +kernel
theorem dX4_sayWord_55 : decode cX4_sayWord 55 = .ok (.aload_n 0, 1) := by decide +kernel
theorem dX4_sayWord_56 : decode cX4_sayWord 56 = .ok (.aload_n 0, 1) := by decide +kernel
theorem dX4_sayWord_57 : decode cX4_sayWord 57 = .ok (.getfield 18, 3) := by decide +kernel
theorem dX4_sayWord_60 : decode cX4_sayWord 60 = .ok (.iload_n 1, 1) := by decide +kernel
theorem dX4_sayWord_61 : decode cX4_sayWord 61 = .ok (.iaload, 1) := by decide +kernel
theorem dX4_sayWord_62 : decode cX4_sayWord 62 = .ok (.invokevirtual 151, 3) := by decide +kernel
theorem dX4_sayWord_65 : decode cX4_sayWord 65 = .ok (.aload_n 0, 1) := by decide +kernel
theorem dX4_sayWord_66 : decode cX4_sayWord 66 = .ok (.getfield 66, 3) := by decide +kernel
theorem dX4_sayWord_69 : decode cX4_sayWord 69 = .ok (.invokevirtual 69, 3) := by decide +kernel
theorem dX4_sayWord_72 : decode cX4_sayWord 72 = .ok (.aload_n 0, 1) := by decide +kernel
theorem dX4_sayWord_73 : decode cX4_sayWord 73 = .ok (.getfield 66, 3) := by decide +kernel
theorem dX4_sayWord_76 : decode cX4_sayWord 76 = .ok (.aload_n 0, 1) := by decide +kernel
theorem dX4_sayWord_77 : decode cX4_sayWord 77 = .ok (.getfield 24, 3) := by decide +kernel
theorem dX4_sayWord_80 : decode cX4_sayWord 80 = .ok (.iload_n 1, 1) := by decide +kernel
theorem dX4_sayWord_81 : decode cX4_sayWord 81 = .ok (.laload, 1) := by decide +kernel
theorem dX4_sayWord_82 : decode cX4_sayWord 82 = .ok (.ldc2_w 160, 3) := by decide +kernel
theorem dX4_sayWord_85 : decode cX4_sayWord 85 = .ok (.invokevirtual 162, 3) := by decide +kernel
theorem dX4_sayWord_88 : decode cX4_sayWord 88 = .ok (.iconst 0, 1) := by decide +kernel
theorem dX4_sayWord_89 : decode cX4_sayWord 89 = .ok (.istore_n 2, 1) := by decide +kernel
theorem dX4_sayWord_90 : decode cX4_sayWord 90 = .ok (.iload_n 2, 1) := by decide +kernel
theorem dX4_sayWord_91 : decode cX4_sayWord 91 = .ok (.aload_n 0, 1) := by decide +kernel
theorem dX4_sayWord_92 : decode cX4_sayWord 92 = .ok (.getfield 66, 3) := by decide +kernel
theorem dX4_sayWord_95 : decode cX4_sayWord 95 = .ok (.getfield 80, 3) := by decide +kernel
theorem dX4_sayWord_98 : decode cX4_sayWord 98 = .ok (.if_icmp .ge 21, 3) := by decide +kernel
theorem dX4_sayWord_101 : decode cX4_sayWord 101 = .ok (.aload_n 0, 1) := by decide +kernel
theorem dX4_sayWord_102 : decode cX4_sayWord 102 = .ok (.aload_n 0, 1) := by decide +kernel
theorem dX4_sayWord_103 : decode cX4_sayWord 103 = .ok (.getfield 66, 3) := by decide +kernel
theorem dX4_sayWord_106 : decode cX4_sayWord 106 = .ok (.iload_n 2, 1) := by decide +kernel
theorem dX4_sayWord_107 : decode cX4_sayWord 107 = .ok (.invokevirtual 76, 3) := by decide +kernel
theorem dX4_sayWord_110 : decode cX4_sayWord 110 = .ok (.invokevirtual 151, 3) := by decide +kernel
theorem dX4_sayWord_113 : decode cX4_sayWord 113 = .ok (.iinc 2 1, 3) := by decide +kernel
theorem dX4_sayWord_116 : decode cX4_sayWord 116 = .ok (.goto (-26), 3) := by decide +kernel
theorem dX4_sayWord_119 : decode cX4_sayWord 119 = .ok (.return_, 1) := by decide +kernel
def b_Pg_sayWord_90 (g : Nat) (k90 : St → Nat → Int32 → Option St) (S : St) (x0 : Nat) (x2 : Int32) : Option St :=
if (gI S (8 + 3 * x0 + 2) 2) ≤ x2 then (
  some S
) else (
  (m_Row_at g S (8 + 3 * x0 + 2) x2).bind fun v_7 =>
  (m_Pg_say g S x0 v_7).bind fun S_8 =>
  lt (x2 + (1 : Int32)) fun x2_9 =>
  k90 S_8 x0 x2_9
)
def m_Pg_sayWord_90 (g : Nat) : Nat → St → Nat → Int32 → Option St
  | 0, _, _, _ => none
  | n + 1, S, x0, x2 => b_Pg_sayWord_90 g (m_Pg_sayWord_90 g n) S x0 x2
def m_Pg_sayWord_88 (g : Nat) (S : St) (x0 : Nat) : Option St :=
m_Pg_sayWord_90 g g S x0 (0 : Int32)
def m_Pg_sayWord_65 (g : Nat) (S : St) (x0 : Nat) (x1 : Int32) : Option St :=
(m_Row_clear g S (8 + 3 * x0 + 2)).bind fun S_4 =>
(aJ S_4 (50 + 8 * x0 + 4) x1).bind fun v_5 =>
(m_Row_addWhole g S_4 (8 + 3 * x0 + 2) v_5 (10 : Int64)).bind fun S_6 =>
m_Pg_sayWord_88 g S_6 x0
def m_Pg_sayWord_44 (g : Nat) (S : St) (x0 : Nat) (x1 : Int32) : Option St :=
(aI S (50 + 8 * x0 + 2) x1).bind fun v_3 =>
if v_3 = (48 : Int32) then (
  m_Pg_sayWord_65 g S x0 x1
) else (
  (aI S (50 + 8 * x0 + 2) x1).bind fun v_4 =>
  (m_Pg_say g S x0 v_4).bind fun S_5 =>
  m_Pg_sayWord_65 g S_5 x0 x1
)
def m_Pg_sayWord (g : Nat) (S : St) (x0 : Nat) (x1 : Int32) : Option St :=
(aI S (50 + 8 * x0 + 2) x1).bind fun v_1 =>
if v_1 = (34 : Int32) then (
  (aJ S (50 + 8 * x0 + 4) x1).bind fun v_5 =>
  (m_Pg_sayLiteral g S x0 (v_5.toInt32)).bind fun S_6 =>
  some S_6
) else (
  (aI S (50 + 8 * x0 + 3) x1).bind fun v_2 =>
  if v_2 = (32 : Int32) then (
    m_Pg_sayWord_44 g S x0 x1
  ) else (
    (aI S (50 + 8 * x0 + 3) x1).bind fun v_3 =>
    (m_Pg_say g S x0 v_3).bind fun S_4 =>
    m_Pg_sayWord_44 g S_4 x0 x1
  )
)
theorem kmb_Pg_sayWord_90 {g : Nat} {S : St} {x0 : Nat} {x2 : Int32} {S' : St} {k90 : St → Nat → Int32 → Option St} (km90 : ∀ (S : St) (x0 : Nat) (x2 : Int32), k90 S x0 x2 = some S' → kap S ≤ kap S') (h : b_Pg_sayWord_90 g k90 S x0 x2 = some S') : kap S ≤ kap S' := by
  unfold b_Pg_sayWord_90 at h
  have nn : nq S S := nq_rf
  by_cases hc1 : (gI S (8 + 3 * x0 + 2) 2) ≤ x2
  · replace h := ift hc1 h
    obtain rfl := som h
    have hkn := nq_kap nn
    omega
  · replace h := iff0 hc1 h
    obtain ⟨v_7, hv_7, h⟩ := bnd h
    obtain ⟨S_8, hS_8, h⟩ := bnd h
    replace nn : nq S_8 S := nq_tr (kq_Pg_say hS_8) nn
    obtain ⟨x2_9, ex2_9, h⟩ := lt_e h
    have hkn := nq_kap nn
    have h2 := km90 _ _ _ h
    omega
theorem km_Pg_sayWord_90 {g : Nat} {S' : St} (n : Nat) : ∀ (S : St) (x0 : Nat) (x2 : Int32), m_Pg_sayWord_90 g n S x0 x2 = some S' → kap S ≤ kap S' := by
  induction n with
  | zero => intro S x0 x2 h; exact absurd h (fun q => by cases q)
  | succ n ih => intro S x0 x2 h; exact kmb_Pg_sayWord_90 ih h
theorem km_Pg_sayWord_88 {g : Nat} {S : St} {x0 : Nat} {S' : St} (h : m_Pg_sayWord_88 g S x0 = some S') : kap S ≤ kap S' := by
  unfold m_Pg_sayWord_88 at h
  have nn : nq S S := nq_rf
  have hkn := nq_kap nn
  have h2 := km_Pg_sayWord_90 g _ _ _ h
  omega
theorem km_Pg_sayWord_65 {g : Nat} {S : St} {x0 : Nat} {x1 : Int32} {S' : St} (h : m_Pg_sayWord_65 g S x0 x1 = some S') : kap S ≤ kap S' := by
  unfold m_Pg_sayWord_65 at h
  have nn : nq S S := nq_rf
  obtain ⟨S_4, hS_4, h⟩ := bnd h
  replace nn : nq S_4 S := nq_tr (kq_Row_clear hS_4) nn
  obtain ⟨v_5, hv_5, h⟩ := bnd h
  obtain ⟨S_6, hS_6, h⟩ := bnd h
  have hk1 := km_Row_addWhole hS_6
  have hkn := nq_kap nn
  have h2 := km_Pg_sayWord_88 h
  omega
theorem km_Pg_sayWord_44 {g : Nat} {S : St} {x0 : Nat} {x1 : Int32} {S' : St} (h : m_Pg_sayWord_44 g S x0 x1 = some S') : kap S ≤ kap S' := by
  unfold m_Pg_sayWord_44 at h
  have nn : nq S S := nq_rf
  obtain ⟨v_3, hv_3, h⟩ := bnd h
  by_cases hc1 : v_3 = (48 : Int32)
  · replace h := ift hc1 h
    have hkn := nq_kap nn
    have h2 := km_Pg_sayWord_65 h
    omega
  · replace h := iff0 hc1 h
    obtain ⟨v_4, hv_4, h⟩ := bnd h
    obtain ⟨S_5, hS_5, h⟩ := bnd h
    replace nn : nq S_5 S := nq_tr (kq_Pg_say hS_5) nn
    have hkn := nq_kap nn
    have h2 := km_Pg_sayWord_65 h
    omega
theorem km_Pg_sayWord {g : Nat} {S : St} {x0 : Nat} {x1 : Int32} {S' : St} (h : m_Pg_sayWord g S x0 x1 = some S') : kap S ≤ kap S' := by
  unfold m_Pg_sayWord at h
  have nn : nq S S := nq_rf
  obtain ⟨v_1, hv_1, h⟩ := bnd h
  by_cases hc1 : v_1 = (34 : Int32)
  · replace h := ift hc1 h
    obtain ⟨v_5, hv_5, h⟩ := bnd h
    obtain ⟨S_6, hS_6, h⟩ := bnd h
    replace nn : nq S_6 S := nq_tr (kq_Pg_sayLiteral hS_6) nn
    obtain rfl := som h
    have hkn := nq_kap nn
    omega
  · replace h := iff0 hc1 h
    obtain ⟨v_2, hv_2, h⟩ := bnd h
    by_cases hc2 : v_2 = (32 : Int32)
    · replace h := ift hc2 h
      have hkn := nq_kap nn
      have h2 := km_Pg_sayWord_44 h
      omega
    · replace h := iff0 hc2 h
      obtain ⟨v_3, hv_3, h⟩ := bnd h
      obtain ⟨S_4, hS_4, h⟩ := bnd h
      replace nn : nq S_4 S := nq_tr (kq_Pg_say hS_4) nn
      have hkn := nq_kap nn
      have h2 := km_Pg_sayWord_44 h
      omega
section S_Pg_sayWord
variable {p : Program} {l : Launch} {e : Env} {s : State} {m : MethodId} {args : Array Value} {below : List Frame} {meth : Method} {c : Code} {H : Heap} {locs : List Loc} {ls : Array Slot} {D : va_G} {T : Cy} {ρ ρ0 : Nat → Nat} {S0 : St} {A : Nat → Prop}
set_option maxRecDepth 100000 in
set_option maxHeartbeats 4000000 in
theorem wb_Pg_sayWord_90 {g : Nat} {S : St} {x0 : Nat} {x2 : Int32} (C : CallFix p m c cX4_sayWord 3 s args tb RX4) (hr : meth.sig.returnType = none) (hk : meth.locks = false) {S' : St} {k90 : St → Nat → Int32 → Option St} (kk90 : ∀ (ρ : Nat → Nat) (S : St) (x0 : Nat) (x2 : Int32) (H : Heap) (locs : List Loc) (ls : Array Slot), Ag ρ0 ρ → kap S0 ≤ kap S → Wn Yc D T ρ S A s H locs → lv_has ls 3 [(0, .ref (ρ x0)), (2, .int x2)] → Ob Yc x0 2 → k90 S x0 x2 = some S' → W p l e (rmK 4 100 (kap S' - kap S0)) s m args below meth c H locs (kap S - kap S0) (2 * (kap S - kap S0)) (MQ below (QvM D T ρ0 A S') args s (kap S' - kap S0) (2 * (kap S' - kap S0)) A) (F0 m 90 ls [])) (km90 : ∀ (S : St) (x0 : Nat) (x2 : Int32), k90 S x0 x2 = some S' → kap S ≤ kap S') (ha : Ag ρ0 ρ) (hm : kap S0 ≤ kap S) (w : Wn Yc D T ρ S A s H locs) (hl : lv_has ls 3 [(0, .ref (ρ x0)), (2, .int x2)]) (ho_x0 : Ob Yc x0 2) (h : b_Pg_sayWord_90 g k90 S x0 x2 = some S') : W p l e (rmK 4 100 (kap S' - kap S0)) s m args below meth c H locs (kap S - kap S0) (2 * (kap S - kap S0)) (MQ below (QvM D T ρ0 A S') args s (kap S' - kap S0) (2 * (kap S' - kap S0)) A) (F0 m 90 ls []) := by
  have hT := kmb_Pg_sayWord_90 km90 h
  unfold b_Pg_sayWord_90 at h
  have nn : nq S S := nq_rf
  refine lv_iload_n C.1 C.2.1 dX4_sayWord_90 rfl (lv_at hl 1 rfl) ?_
  refine lv_aload_n C.1 C.2.1 dX4_sayWord_91 rfl (lv_at hl 0 rfl) ?_
  refine x_getC C w (8 + 3 * x0 + 2) fX4_66 ho_x0 (crP15 ho_x0) dX4_sayWord_92 ?_
  refine x_getI C w fX4_80 (obP15 ho_x0) dX4_sayWord_95 ?_
  refine lv_icmp_ge (tgt := 119) C.1 C.2.1 dX4_sayWord_98 (by decide) (fun hc => ?_) (fun hc => ?_)
  · replace h := ift hc h
    obtain rfl := som h
    exact x_vretM C w ha hr hk dX4_sayWord_119 (by have := nq_kap nn; omega) (by have := nq_kap nn; omega)
  · replace h := iff0 hc h
    refine lv_aload_n C.1 C.2.1 dX4_sayWord_101 rfl (lv_at hl 0 rfl) ?_
    refine lv_aload_n C.1 C.2.1 dX4_sayWord_102 rfl (lv_at hl 0 rfl) ?_
    refine x_getC C w (8 + 3 * x0 + 2) fX4_66 ho_x0 (crP15 ho_x0) dX4_sayWord_103 ?_
    refine lv_iload_n C.1 C.2.1 dX4_sayWord_106 rfl (lv_at hl 1 rfl) ?_
    obtain ⟨v_7, hv_7, h⟩ := bnd h
    refine x_callVi (q := (RX6, TX6, 4)) (As := [.int x2]) (rest := [.ref (ρ x0)]) C w (k_Row_at l D T ρ g H.size S (obP15 ho_x0) hv_7) vX4_76 (hRK (by decide) (by decide)) (obP15 ho_x0) (by decide) rfl rfl rfl hl.1 (Nat.le_of_ble_eq_true rfl) (hcK hT) dX4_sayWord_107 (fun H locs w => ?_)
    obtain ⟨S_8, hS_8, h⟩ := bnd h
    replace nn : nq S_8 S := nq_tr (kq_Pg_say hS_8) nn
    refine x_callVv (q := (RX4, TX4, 16)) (As := [.int v_7]) (rest := []) C w (k_Pg_say l D T ρ g H.size S ho_x0 hS_8) vX4_151 (hRK (by decide) (by decide)) ho_x0 (by decide) rfl rfl rfl hl.1 (Nat.le_of_ble_eq_true rfl) (hcK hT) dX4_sayWord_110 (fun H locs w => ?_)
    obtain ⟨x2_9, ex2_9, h⟩ := lt_e h
    refine lv_iinc (v := x2_9) (lv' := [(2, .int x2_9), (0, .ref (ρ x0))]) C.1 C.2.1 dX4_sayWord_113 hl (k := 1) rfl (by rw [ex2_9]; rfl) (by decide) rfl (fun ls hl => ?_)
    refine lv_goto (tgt := 90) C.1 C.2.1 dX4_sayWord_116 (by decide) ?_
    have hkn := nq_kap nn
    refine W.widen (k := kap S_8 - kap S0) (n := 2 * (kap S_8 - kap S0)) (by omega) (by omega) ?_
    exact kk90 _ _ _ _ _ _ _ ha (by omega) w (lv_sub hl [1, 0] rfl) ho_x0 h
theorem w_Pg_sayWord_90 {g : Nat} (C : CallFix p m c cX4_sayWord 3 s args tb RX4) (hr : meth.sig.returnType = none) (hk : meth.locks = false) {S' : St} (n : Nat) : ∀ (ρ : Nat → Nat) (S : St) (x0 : Nat) (x2 : Int32) (H : Heap) (locs : List Loc) (ls : Array Slot), Ag ρ0 ρ → kap S0 ≤ kap S → Wn Yc D T ρ S A s H locs → lv_has ls 3 [(0, .ref (ρ x0)), (2, .int x2)] → Ob Yc x0 2 → m_Pg_sayWord_90 g n S x0 x2 = some S' → W p l e (rmK 4 100 (kap S' - kap S0)) s m args below meth c H locs (kap S - kap S0) (2 * (kap S - kap S0)) (MQ below (QvM D T ρ0 A S') args s (kap S' - kap S0) (2 * (kap S' - kap S0)) A) (F0 m 90 ls []) := by
  induction n with
  | zero => intro ρ S x0 x2 H locs ls ha hm w hl ho_x0 h; exact absurd h (fun q => by cases q)
  | succ n ih => intro ρ S x0 x2 H locs ls ha hm w hl ho_x0 h; exact wb_Pg_sayWord_90 C hr hk ih (km_Pg_sayWord_90 n) ha hm w hl ho_x0 h
set_option maxRecDepth 100000 in
set_option maxHeartbeats 4000000 in
theorem w_Pg_sayWord_88 {g : Nat} {S : St} {x0 : Nat} (C : CallFix p m c cX4_sayWord 3 s args tb RX4) (hr : meth.sig.returnType = none) (hk : meth.locks = false) {S' : St} (ha : Ag ρ0 ρ) (hm : kap S0 ≤ kap S) (w : Wn Yc D T ρ S A s H locs) (hl : lv_has ls 3 [(0, .ref (ρ x0))]) (ho_x0 : Ob Yc x0 2) (h : m_Pg_sayWord_88 g S x0 = some S') : W p l e (rmK 4 100 (kap S' - kap S0)) s m args below meth c H locs (kap S - kap S0) (2 * (kap S - kap S0)) (MQ below (QvM D T ρ0 A S') args s (kap S' - kap S0) (2 * (kap S' - kap S0)) A) (F0 m 88 ls []) := by
  have hT := km_Pg_sayWord_88 h
  unfold m_Pg_sayWord_88 at h
  have nn : nq S S := nq_rf
  refine lv_iconst (v := 0) C.1 C.2.1 dX4_sayWord_88 (by decide) ?_
  refine lv_istore_n (lv' := [(2, .int (0 : Int32)), (0, .ref (ρ x0))]) C.1 C.2.1 dX4_sayWord_89 rfl hl (by decide) rfl (fun ls hl => ?_)
  have hkn := nq_kap nn
  refine W.widen (k := kap S - kap S0) (n := 2 * (kap S - kap S0)) (by omega) (by omega) ?_
  exact w_Pg_sayWord_90 C hr hk g _ _ _ _ _ _ _ ha (by omega) w (lv_sub hl [1, 0] rfl) ho_x0 h
set_option maxRecDepth 100000 in
set_option maxHeartbeats 4000000 in
theorem w_Pg_sayWord_65 {g : Nat} {S : St} {x0 : Nat} {x1 : Int32} (C : CallFix p m c cX4_sayWord 3 s args tb RX4) (hr : meth.sig.returnType = none) (hk : meth.locks = false) {S' : St} (ha : Ag ρ0 ρ) (hm : kap S0 ≤ kap S) (w : Wn Yc D T ρ S A s H locs) (hl : lv_has ls 3 [(0, .ref (ρ x0)), (1, .int x1)]) (ho_x0 : Ob Yc x0 2) (h : m_Pg_sayWord_65 g S x0 x1 = some S') : W p l e (rmK 4 100 (kap S' - kap S0)) s m args below meth c H locs (kap S - kap S0) (2 * (kap S - kap S0)) (MQ below (QvM D T ρ0 A S') args s (kap S' - kap S0) (2 * (kap S' - kap S0)) A) (F0 m 65 ls []) := by
  have hT := km_Pg_sayWord_65 h
  unfold m_Pg_sayWord_65 at h
  have nn : nq S S := nq_rf
  refine lv_aload_n C.1 C.2.1 dX4_sayWord_65 rfl (lv_at hl 0 rfl) ?_
  refine x_getC C w (8 + 3 * x0 + 2) fX4_66 ho_x0 (crP15 ho_x0) dX4_sayWord_66 ?_
  obtain ⟨S_4, hS_4, h⟩ := bnd h
  replace nn : nq S_4 S := nq_tr (kq_Row_clear hS_4) nn
  refine x_callVv (q := (RX6, TX6, 4)) (As := []) (rest := []) C w (k_Row_clear l D T ρ g H.size S (obP15 ho_x0) hS_4) vX4_69 (hRK (by decide) (by decide)) (obP15 ho_x0) (by decide) rfl rfl rfl hl.1 (Nat.le_of_ble_eq_true rfl) (hcK hT) dX4_sayWord_69 (fun H locs w => ?_)
  refine lv_aload_n C.1 C.2.1 dX4_sayWord_72 rfl (lv_at hl 0 rfl) ?_
  refine x_getC C w (8 + 3 * x0 + 2) fX4_66 ho_x0 (crP15 ho_x0) dX4_sayWord_73 ?_
  refine lv_aload_n C.1 C.2.1 dX4_sayWord_76 rfl (lv_at hl 0 rfl) ?_
  refine x_getC C w (50 + 8 * x0 + 4) fX4_24 ho_x0 (crP4 ho_x0) dX4_sayWord_77 ?_
  refine lv_iload_n C.1 C.2.1 dX4_sayWord_80 rfl (lv_at hl 1 rfl) ?_
  obtain ⟨v_5, hv_5, h⟩ := bnd h
  refine x_lald C w (obP4 ho_x0) hv_5 dX4_sayWord_81 ?_
  refine lv_ldc2 C.1 C.2.1 C.2.2.2.1 (C.2.2.2.2 _ nX4_160) dX4_sayWord_82 ?_
  obtain ⟨S_6, hS_6, h⟩ := bnd h
  have hkn := nq_kap nn
  have hk1 := km_Row_addWhole hS_6
  have hT2 := km_Pg_sayWord_88 h
  refine x_callVvM (q := (RX6, TX6, 4)) (As := [.long v_5, .long (10 : Int64)]) (rest := []) C w (k_Row_addWhole l D T ρ g H.size S_4 (obP15 ho_x0) hS_6) vX4_162 (hRK (by decide) (by decide)) (obP15 ho_x0) (by decide) rfl rfl rfl hl.1 (Nat.le_of_ble_eq_true rfl) (hcM hm hkn hk1 hT2) dX4_sayWord_85 (fun ρ1 H locs hag w => ?_)
  replace ha := ha.trans hag
  rw [← hag x0 (ncP ho_x0)] at hl
  refine W.widen (k := kap S_6 - kap S0) (n := 2 * (kap S_6 - kap S0)) (by omega) (by omega) ?_
  exact w_Pg_sayWord_88 C hr hk ha (by omega) w (lv_sub hl [0] rfl) ho_x0 h
set_option maxRecDepth 100000 in
set_option maxHeartbeats 4000000 in
theorem w_Pg_sayWord_44 {g : Nat} {S : St} {x0 : Nat} {x1 : Int32} (C : CallFix p m c cX4_sayWord 3 s args tb RX4) (hr : meth.sig.returnType = none) (hk : meth.locks = false) {S' : St} (ha : Ag ρ0 ρ) (hm : kap S0 ≤ kap S) (w : Wn Yc D T ρ S A s H locs) (hl : lv_has ls 3 [(0, .ref (ρ x0)), (1, .int x1)]) (ho_x0 : Ob Yc x0 2) (h : m_Pg_sayWord_44 g S x0 x1 = some S') : W p l e (rmK 4 100 (kap S' - kap S0)) s m args below meth c H locs (kap S - kap S0) (2 * (kap S - kap S0)) (MQ below (QvM D T ρ0 A S') args s (kap S' - kap S0) (2 * (kap S' - kap S0)) A) (F0 m 44 ls []) := by
  have hT := km_Pg_sayWord_44 h
  unfold m_Pg_sayWord_44 at h
  have nn : nq S S := nq_rf
  refine lv_aload_n C.1 C.2.1 dX4_sayWord_44 rfl (lv_at hl 0 rfl) ?_
  refine x_getC C w (50 + 8 * x0 + 2) fX4_18 ho_x0 (crP2 ho_x0) dX4_sayWord_45 ?_
  refine lv_iload_n C.1 C.2.1 dX4_sayWord_48 rfl (lv_at hl 1 rfl) ?_
  obtain ⟨v_3, hv_3, h⟩ := bnd h
  refine x_iald C w (obP2 ho_x0) hv_3 dX4_sayWord_49 ?_
  refine lv_bipush (v := 48) C.1 C.2.1 dX4_sayWord_50 (by decide) ?_
  refine lv_icmp_eq (tgt := 65) C.1 C.2.1 dX4_sayWord_52 (by decide) (fun hc => ?_) (fun hc => ?_)
  · replace h := ift hc h
    have hkn := nq_kap nn
    refine W.widen (k := kap S - kap S0) (n := 2 * (kap S - kap S0)) (by omega) (by omega) ?_
    exact w_Pg_sayWord_65 C hr hk ha (by omega) w (lv_sub hl [0, 1] rfl) ho_x0 h
  · replace h := iff0 hc h
    refine lv_aload_n C.1 C.2.1 dX4_sayWord_55 rfl (lv_at hl 0 rfl) ?_
    refine lv_aload_n C.1 C.2.1 dX4_sayWord_56 rfl (lv_at hl 0 rfl) ?_
    refine x_getC C w (50 + 8 * x0 + 2) fX4_18 ho_x0 (crP2 ho_x0) dX4_sayWord_57 ?_
    refine lv_iload_n C.1 C.2.1 dX4_sayWord_60 rfl (lv_at hl 1 rfl) ?_
    obtain ⟨v_4, hv_4, h⟩ := bnd h
    refine x_iald C w (obP2 ho_x0) hv_4 dX4_sayWord_61 ?_
    obtain ⟨S_5, hS_5, h⟩ := bnd h
    replace nn : nq S_5 S := nq_tr (kq_Pg_say hS_5) nn
    refine x_callVv (q := (RX4, TX4, 16)) (As := [.int v_4]) (rest := []) C w (k_Pg_say l D T ρ g H.size S ho_x0 hS_5) vX4_151 (hRK (by decide) (by decide)) ho_x0 (by decide) rfl rfl rfl hl.1 (Nat.le_of_ble_eq_true rfl) (hcK hT) dX4_sayWord_62 (fun H locs w => ?_)
    have hkn := nq_kap nn
    refine W.widen (k := kap S_5 - kap S0) (n := 2 * (kap S_5 - kap S0)) (by omega) (by omega) ?_
    exact w_Pg_sayWord_65 C hr hk ha (by omega) w (lv_sub hl [0, 1] rfl) ho_x0 h
set_option maxRecDepth 100000 in
set_option maxHeartbeats 4000000 in
theorem w_Pg_sayWord_0 {g : Nat} {S : St} {x0 : Nat} {x1 : Int32} (C : CallFix p m c cX4_sayWord 3 s args tb RX4) (hr : meth.sig.returnType = none) (hk : meth.locks = false) {S' : St} (ha : Ag ρ0 ρ) (hm : kap S0 ≤ kap S) (w : Wn Yc D T ρ S A s H locs) (hl : lv_has ls 3 [(0, .ref (ρ x0)), (1, .int x1)]) (ho_x0 : Ob Yc x0 2) (h : m_Pg_sayWord g S x0 x1 = some S') : W p l e (rmK 4 100 (kap S' - kap S0)) s m args below meth c H locs (kap S - kap S0) (2 * (kap S - kap S0)) (MQ below (QvM D T ρ0 A S') args s (kap S' - kap S0) (2 * (kap S' - kap S0)) A) (F0 m 0 ls []) := by
  have hT := km_Pg_sayWord h
  unfold m_Pg_sayWord at h
  have nn : nq S S := nq_rf
  refine lv_aload_n C.1 C.2.1 dX4_sayWord_0 rfl (lv_at hl 0 rfl) ?_
  refine x_getC C w (50 + 8 * x0 + 2) fX4_18 ho_x0 (crP2 ho_x0) dX4_sayWord_1 ?_
  refine lv_iload_n C.1 C.2.1 dX4_sayWord_4 rfl (lv_at hl 1 rfl) ?_
  obtain ⟨v_1, hv_1, h⟩ := bnd h
  refine x_iald C w (obP2 ho_x0) hv_1 dX4_sayWord_5 ?_
  refine lv_bipush (v := 34) C.1 C.2.1 dX4_sayWord_6 (by decide) ?_
  refine lv_icmp_ne (tgt := 23) C.1 C.2.1 dX4_sayWord_8 (by decide) (fun hc => ?_) (fun hc => ?_)
  · replace h := iff0 hc h
    refine lv_aload_n C.1 C.2.1 dX4_sayWord_23 rfl (lv_at hl 0 rfl) ?_
    refine x_getC C w (50 + 8 * x0 + 3) fX4_21 ho_x0 (crP3 ho_x0) dX4_sayWord_24 ?_
    refine lv_iload_n C.1 C.2.1 dX4_sayWord_27 rfl (lv_at hl 1 rfl) ?_
    obtain ⟨v_2, hv_2, h⟩ := bnd h
    refine x_iald C w (obP3 ho_x0) hv_2 dX4_sayWord_28 ?_
    refine lv_bipush (v := 32) C.1 C.2.1 dX4_sayWord_29 (by decide) ?_
    refine lv_icmp_eq (tgt := 44) C.1 C.2.1 dX4_sayWord_31 (by decide) (fun hc => ?_) (fun hc => ?_)
    · replace h := ift hc h
      have hkn := nq_kap nn
      refine W.widen (k := kap S - kap S0) (n := 2 * (kap S - kap S0)) (by omega) (by omega) ?_
      exact w_Pg_sayWord_44 C hr hk ha (by omega) w (lv_sub hl [0, 1] rfl) ho_x0 h
    · replace h := iff0 hc h
      refine lv_aload_n C.1 C.2.1 dX4_sayWord_34 rfl (lv_at hl 0 rfl) ?_
      refine lv_aload_n C.1 C.2.1 dX4_sayWord_35 rfl (lv_at hl 0 rfl) ?_
      refine x_getC C w (50 + 8 * x0 + 3) fX4_21 ho_x0 (crP3 ho_x0) dX4_sayWord_36 ?_
      refine lv_iload_n C.1 C.2.1 dX4_sayWord_39 rfl (lv_at hl 1 rfl) ?_
      obtain ⟨v_3, hv_3, h⟩ := bnd h
      refine x_iald C w (obP3 ho_x0) hv_3 dX4_sayWord_40 ?_
      obtain ⟨S_4, hS_4, h⟩ := bnd h
      replace nn : nq S_4 S := nq_tr (kq_Pg_say hS_4) nn
      refine x_callVv (q := (RX4, TX4, 16)) (As := [.int v_3]) (rest := []) C w (k_Pg_say l D T ρ g H.size S ho_x0 hS_4) vX4_151 (hRK (by decide) (by decide)) ho_x0 (by decide) rfl rfl rfl hl.1 (Nat.le_of_ble_eq_true rfl) (hcK hT) dX4_sayWord_41 (fun H locs w => ?_)
      have hkn := nq_kap nn
      refine W.widen (k := kap S_4 - kap S0) (n := 2 * (kap S_4 - kap S0)) (by omega) (by omega) ?_
      exact w_Pg_sayWord_44 C hr hk ha (by omega) w (lv_sub hl [0, 1] rfl) ho_x0 h
  · replace h := ift hc h
    refine lv_aload_n C.1 C.2.1 dX4_sayWord_11 rfl (lv_at hl 0 rfl) ?_
    refine lv_aload_n C.1 C.2.1 dX4_sayWord_12 rfl (lv_at hl 0 rfl) ?_
    refine x_getC C w (50 + 8 * x0 + 4) fX4_24 ho_x0 (crP4 ho_x0) dX4_sayWord_13 ?_
    refine lv_iload_n C.1 C.2.1 dX4_sayWord_16 rfl (lv_at hl 1 rfl) ?_
    obtain ⟨v_5, hv_5, h⟩ := bnd h
    refine x_lald C w (obP4 ho_x0) hv_5 dX4_sayWord_17 ?_
    refine lv_l2i C.1 C.2.1 dX4_sayWord_18 rfl ?_
    obtain ⟨S_6, hS_6, h⟩ := bnd h
    replace nn : nq S_6 S := nq_tr (kq_Pg_sayLiteral hS_6) nn
    refine x_callVv (q := (RX4, TX4, 16)) (As := [.int (v_5.toInt32)]) (rest := []) C w (k_Pg_sayLiteral l D T ρ g H.size S ho_x0 hS_6) vX4_157 (hRK (by decide) (by decide)) ho_x0 (by decide) rfl rfl rfl hl.1 (Nat.le_of_ble_eq_true rfl) (hcK hT) dX4_sayWord_19 (fun H locs w => ?_)
    obtain rfl := som h
    exact x_vretM C w ha hr hk dX4_sayWord_22 (by have := nq_kap nn; omega) (by have := nq_kap nn; omega)
end S_Pg_sayWord
set_option maxRecDepth 100000 in
theorem k_Pg_sayWord (l : Launch) (D : va_G) (T : Cy) (ρ : Nat → Nat) (g sz : Nat) (S : St) {x0 : Nat} {x1 : Int32} (ho_x0 : Ob Yc x0 2) {S' : St} (h : m_Pg_sayWord g S x0 x1 = some S') : MvM l D T ρ yX4_sayWord cX4_sayWord 3 none 4 100 S S' [.ref (ρ x0), .int x1] sz :=
  x_inR (by decide) (Nat.le_of_ble_eq_true rfl) (fun p e s m below meth c ls C hr hk w hl => W.widen (Nat.zero_le _) (Nat.zero_le _) (w_Pg_sayWord_0 C hr hk Ag.rf (Nat.le_refl _) w hl ho_x0 h))

theorem dX5_readLiteral_0 : decode cX5_readLiteral 0 = .ok (.aload_n 0, 1) := by decide +kernel
theorem dX5_readLiteral_1 : decode cX5_readLiteral 1 = .ok (.getfield 20, 3) := by decide +kernel
theorem dX5_readLiteral_4 : decode cX5_readLiteral 4 = .ok (.istore_n 1, 1) := by decide +kernel
theorem dX5_readLiteral_5 : decode cX5_readLiteral 5 = .ok (.aload_n 0, 1) := by decide +kernel
theorem dX5_readLiteral_6 : decode cX5_readLiteral 6 = .ok (.getfield 14, 3) := by decide +kernel
theorem dX5_readLiteral_9 : decode cX5_readLiteral 9 = .ok (.invokevirtual 149, 3) := by decide +kernel
theorem dX5_readLiteral_12 : decode cX5_readLiteral 12 = .ok (.aload_n 0, 1) := by decide +kernel
theorem dX5_readLiteral_13 : decode cX5_readLiteral 13 = .ok (.iload_n 1, 1) := by decide +kernel
theorem dX5_readLiteral_14 : decode cX5_readLiteral 14 = .ok (.iconst 1, 1) := by decide +kernel
theorem dX5_readLiteral_15 : decode cX5_readLiteral 15 = .ok (.iadd, 1) := by decide +kernel
theorem dX5_readLiteral_16 : decode cX5_readLiteral 16 = .ok (.putfield 20, 3) := by decide +kernel
theorem dX5_readLiteral_19 : decode cX5_readLiteral 19 = .ok (.aload_n 0, 1) := by decide +kernel
theorem dX5_readLiteral_20 : decode cX5_readLiteral 20 = .ok (.getfield 20, 3) := by decide +kernel
theorem dX5_readLiteral_23 : decode cX5_readLiteral 23 = .ok (.aload_n 0, 1) := by decide +kernel
theorem dX5_readLiteral_24 : decode cX5_readLiteral 24 = .ok (.getfield 24, 3) := by decide +kernel
theorem dX5_readLiteral_27 : decode cX5_readLiteral 27 = .ok (.if_icmp .ge 52, 3) := by decide +kernel
theorem dX5_readLiteral_30 : decode cX5_readLiteral 30 = .ok (.aload_n 0, 1) := by decide +kernel
theorem dX5_readLiteral_31 : decode cX5_readLiteral 31 = .ok (.getfield 27, 3) := by decide +kernel
theorem dX5_readLiteral_34 : decode cX5_readLiteral 34 = .ok (.aload_n 0, 1) := by decide +kernel
theorem dX5_readLiteral_35 : decode cX5_readLiteral 35 = .ok (.getfield 20, 3) := by decide +kernel
theorem dX5_readLiteral_38 : decode cX5_readLiteral 38 = .ok (.invokevirtual 67, 3) := by decide +kernel
theorem dX5_readLiteral_41 : decode cX5_readLiteral 41 = .ok (.bipush 34, 2) := by decide +kernel
theorem dX5_readLiteral_43 : decode cX5_readLiteral 43 = .ok (.if_icmp .eq 36, 3) := by decide +kernel
theorem dX5_readLiteral_46 : decode cX5_readLiteral 46 = .ok (.aload_n 0, 1) := by decide +kernel
theorem dX5_readLiteral_47 : decode cX5_readLiteral 47 = .ok (.invokevirtual 150, 3) := by decide +kernel
theorem dX5_readLiteral_50 : decode cX5_readLiteral 50 = .ok (.istore_n 2, 1) := by decide +kernel
theorem dX5_readLiteral_51 : decode cX5_readLiteral 51 = .ok (.iload_n 2, 1) := by decide +kernel
theorem dX5_readLiteral_52 : decode cX5_readLiteral 52 = .ok (.iconst (-1), 1) := by decide +kernel
theorem dX5_readLiteral_53 : decode cX5_readLiteral 53 = .ok (.if_icmp .ne 5, 3) := by decide +kernel
theorem dX5_readLiteral_56 : decode cX5_readLiteral 56 = .ok (.iconst 0, 1) := by decide +kernel
theorem dX5_readLiteral_57 : decode cX5_readLiteral 57 = .ok (.ireturn, 1) := by decide +kernel
theorem dX5_readLiteral_58 : decode cX5_readLiteral 58 = .ok (.aload_n 0, 1) := by decide +kernel
theorem dX5_readLiteral_59 : decode cX5_readLiteral 59 = .ok (.getfield 14, 3) := by decide +kernel
theorem dX5_readLiteral_62 : decode cX5_readLiteral 62 = .ok (.iload_n 2, 1) := by decide +kernel
theorem dX5_readLiteral_63 : decode cX5_readLiteral 63 = .ok (.invokevirtual 153, 3) := by decide +kernel
theorem dX5_readLiteral_66 : decode cX5_readLiteral 66 = .ok (.aload_n 0, 1) := by decide +kernel
theorem dX5_readLiteral_67 : decode cX5_readLiteral 67 = .ok (.dup, 1) := by decide +kernel
theorem dX5_readLiteral_68 : decode cX5_readLiteral 68 = .ok (.getfield 20, 3) := by decide +kernel
theorem dX5_readLiteral_71 : decode cX5_readLiteral 71 = .ok (.iconst 1, 1) := by decide +kernel
theorem dX5_readLiteral_72 : decode cX5_readLiteral 72 = .ok (.iadd, 1) := by decide +kernel
theorem dX5_readLiteral_73 : decode cX5_readLiteral 73 = .ok (.putfield 20, 3) := by decide +kernel
theorem dX5_readLiteral_76 : decode cX5_readLiteral 76 = .ok (.goto (-57), 3) := by decide +kernel
theorem dX5_readLiteral_79 : decode cX5_readLiteral 79 = .ok (.aload_n 0, 1) := by decide +kernel
theorem dX5_readLiteral_80 : decode cX5_readLiteral 80 = .ok (.getfield 20, 3) := by decide +kernel
theorem dX5_readLiteral_83 : decode cX5_readLiteral 83 = .ok (.aload_n 0, 1) := by decide +kernel
theorem dX5_readLiteral_84 : decode cX5_readLiteral 84 = .ok (.getfield 24, 3) := by decide +kernel
theorem dX5_readLiteral_87 : decode cX5_readLiteral 87 = .ok (.if_icmp .ge 7, 3) := by decide +kernel
theorem dX5_readLiteral_90 : decode cX5_readLiteral 90 = .ok (.iconst 1, 1) := by decide +kernel
theorem dX5_readLiteral_91 : decode cX5_readLiteral 91 = .ok (.goto 4, 3) := by decide +kernel
theorem dX5_readLiteral_94 : decode cX5_readLiteral 94 = .ok (.iconst 0, 1) := by decide +kernel
theorem dX5_readLiteral_95 : decode cX5_readLiteral 95 = .ok (.istore_n 2, 1) := by decide +kernel
theorem dX5_readLiteral_96 : decode cX5_readLiteral 96 = .ok (.aload_n 0, 1) := by decide +kernel
theorem dX5_readLiteral_97 : decode cX5_readLiteral 97 = .ok (.dup, 1) := by decide +kernel
theorem dX5_readLiteral_98 : decode cX5_readLiteral 98 = .ok (.getfield 20, 3) := by decide +kernel
theorem dX5_readLiteral_101 : decode cX5_readLiteral 101 = .ok (.iconst 1, 1) := by decide +kernel
theorem dX5_readLiteral_102 : decode cX5_readLiteral 102 = .ok (.iadd, 1) := by decide +kernel
theorem dX5_readLiteral_103 : decode cX5_readLiteral 103 = .ok (.putfield 20, 3) := by decide +kernel
theorem dX5_readLiteral_106 : decode cX5_readLiteral 106 = .ok (.iload_n 2, 1) := by decide +kernel
theorem dX5_readLiteral_107 : decode cX5_readLiteral 107 = .ok (.ifCond .eq 40, 3) := by decide +kernel
theorem dX5_readLiteral_110 : decode cX5_readLiteral 110 = .ok (.aload_n 0, 1) := by decide +kernel
theorem dX5_readLiteral_111 : decode cX5_readLiteral 111 = .ok (.getfield 14, 3) := by decide +kernel
theorem dX5_readLiteral_114 : decode cX5_readLiteral 114 = .ok (.getfield 156, 3) := by decide +kernel
theorem dX5_readLiteral_117 : decode cX5_readLiteral 117 = .ok (.ifCond .ne 30, 3) := by decide +kernel
theorem dX5_readLiteral_120 : decode cX5_readLiteral 120 = .ok (.aload_n 0, 1) := by decide +kernel
theorem dX5_readLiteral_121 : decode cX5_readLiteral 121 = .ok (.getfield 20, 3) := by decide +kernel
theorem dX5_readLiteral_124 : decode cX5_readLiteral 124 = .ok (.aload_n 0, 1) := by decide +kernel
theorem dX5_readLiteral_125 : decode cX5_readLiteral 125 = .ok (.getfield 24, 3) := by decide +kernel
theorem dX5_readLiteral_128 : decode cX5_readLiteral 128 = .ok (.if_icmp .ge 21, 3) := by decide +kernel
theorem dX5_readLiteral_131 : decode cX5_readLiteral 131 = .ok (.aload_n 0, 1) := by decide +kernel
theorem dX5_readLiteral_132 : decode cX5_readLiteral 132 = .ok (.getfield 27, 3) := by decide +kernel
theorem dX5_readLiteral_135 : decode cX5_readLiteral 135 = .ok (.aload_n 0, 1) := by decide +kernel
theorem dX5_readLiteral_136 : decode cX5_readLiteral 136 = .ok (.getfield 20, 3) := by decide +kernel
theorem dX5_readLiteral_139 : decode cX5_readLiteral 139 = .ok (.invokevirtual 67, 3) := by decide +kernel
theorem dX5_readLiteral_142 : decode cX5_readLiteral 142 = .ok (.bipush 32, 2) := by decide +kernel
theorem dX5_readLiteral_144 : decode cX5_readLiteral 144 = .ok (.if_icmp .eq 5, 3) := by decide +kernel
theorem dX5_readLiteral_147 : decode cX5_readLiteral 147 = .ok (.iconst 0, 1) := by decide +kernel
theorem dX5_readLiteral_148 : decode cX5_readLiteral 148 = .ok (.ireturn, 1) := by decide +kernel
theorem dX5_readLiteral_149 : decode cX5_readLiteral 149 = .ok (.aload_n 0, 1) := by decide +kernel
theorem dX5_readLiteral_150 : decode cX5_readLiteral 150 = .ok (.getfield 30, 3) := by decide +kernel
theorem dX5_readLiteral_153 : decode cX5_readLiteral 153 = .ok (.aload_n 0, 1) := by decide +kernel
theorem dX5_readLiteral_154 : decode cX5_readLiteral 154 = .ok (.getfield 14, 3) := by decide +kernel
theorem dX5_readLiteral_157 : decode cX5_readLiteral 157 = .ok (.invokevirtual 160, 3) := by decide +kernel
theorem dX5_readLiteral_160 : decode cX5_readLiteral 160 = .ok (.istore_n 3, 1) := by decide +kernel
theorem dX5_readLiteral_161 : decode cX5_readLiteral 161 = .ok (.iload_n 3, 1) := by decide +kernel
theorem dX5_readLiteral_162 : decode cX5_readLiteral 162 = .ok (.iconst (-1), 1) := by decide +kernel
theorem dX5_readLiteral_163 : decode cX5_readLiteral 163 = .ok (.if_icmp .ne 5, 3) := by decide +kernel
theorem dX5_readLiteral_166 : decode cX5_readLiteral 166 = .ok (.iconst 0, 1) := by decide +kernel
theorem dX5_readLiteral_167 : decode cX5_readLiteral 167 = .ok (.ireturn, 1) := by decide +kernel
theorem dX5_readLiteral_168 : decode cX5_readLiteral 168 = .ok (.aload_n 0, 1) := by decide +kernel
theorem dX5_readLiteral_169 : decode cX5_readLiteral 169 = .ok (.getfield 30, 3) := by decide +kernel
theorem dX5_readLiteral_172 : decode cX5_readLiteral 172 = .ok (.bipush 34, 2) := by decide +kernel
theorem dX5_readLiteral_174 : decode cX5_readLiteral 174 = .ok (.bipush 32, 2) := by decide +kernel
theorem dX5_readLiteral_176 : decode cX5_readLiteral 176 = .ok (.iload_n 3, 1) := by decide +kernel
theorem dX5_readLiteral_177 : decode cX5_readLiteral 177 = .ok (.i2l, 1) := by decide +kernel
theorem dX5_readLiteral_178 : decode cX5_readLiteral 178 = .ok (.iload_n 1, 1) := by decide +kernel
theorem dX5_readLiteral_179 : decode cX5_readLiteral 179 = .ok (.invokevirtual 143, 3) := by decide +kernel
theorem dX5_readLiteral_182 : decode cX5_readLiteral 182 = .ok (.iconst 1, 1) := by decide +kernel
theorem dX5_readLiteral_183 : decode cX5_readLiteral 183 = .ok (.ireturn, 1) := by decide +kernel
def m_Rd_readLiteral_160 (g : Nat) (S : St) (x1 : Int32) (y0 : Int32) : Option (St × Int32) :=
if y0 = (-1 : Int32) then (
  some (S, (0 : Int32))
) else (
  if gR S 3 2 = 1 ∨ gR S 3 2 = 2 then
  lt (gR S 3 2) fun p_10 =>
  (m_Pg_addWord g S p_10 (34 : Int32) (32 : Int32) (y0.toInt64) x1).bind fun S_11 =>
  some (S_11, (1 : Int32))
  else none
)
def m_Rd_readLiteral_149 (g : Nat) (S : St) (x1 : Int32) : Option (St × Int32) :=
if gR S 3 2 = 1 ∨ gR S 3 2 = 2 then
lt (gR S 3 2) fun p_6 =>
(m_Pg_literalWith g S p_6 17).bind fun (S_7, v_8) =>
m_Rd_readLiteral_160 g S_7 x1 v_8
else none
def m_Rd_readLiteral_95 (g : Nat) (S : St) (x1 : Int32) (y0 : Int32) : Option (St × Int32) :=
lt (sI S 3 3 ((gI S 3 3) + (1 : Int32))) fun S_4 =>
if y0 = 0 then (
  some (S_4, (0 : Int32))
) else (
  if (gI S_4 17 3) = 0 then (
    if (gI S_4 3 4) ≤ (gI S_4 3 3) then (
      m_Rd_readLiteral_149 g S_4 x1
    ) else (
      (m_Row_at g S_4 10 (gI S_4 3 3)).bind fun v_5 =>
      if v_5 = (32 : Int32) then (
        m_Rd_readLiteral_149 g S_4 x1
      ) else (
        some (S_4, (0 : Int32))
      )
    )
  ) else (
    some (S_4, (0 : Int32))
  )
)
def m_Rd_readLiteral_79 (g : Nat) (S : St) (x1 : Int32) : Option (St × Int32) :=
if (gI S 3 4) ≤ (gI S 3 3) then (
  m_Rd_readLiteral_95 g S x1 (0 : Int32)
) else (
  m_Rd_readLiteral_95 g S x1 (1 : Int32)
)
def m_Rd_readLiteral_66 (g : Nat) (k19 : St → Int32 → Option (St × Int32)) (S : St) (x1 : Int32) : Option (St × Int32) :=
lt (sI S 3 3 ((gI S 3 3) + (1 : Int32))) fun S_8 =>
k19 S_8 x1
def b_Rd_readLiteral_19 (g : Nat) (k19 : St → Int32 → Option (St × Int32)) (S : St) (x1 : Int32) : Option (St × Int32) :=
if (gI S 3 4) ≤ (gI S 3 3) then (
  m_Rd_readLiteral_79 g S x1
) else (
  (m_Row_at g S 10 (gI S 3 3)).bind fun v_4 =>
  if v_4 = (34 : Int32) then (
    m_Rd_readLiteral_79 g S x1
  ) else (
    (m_Rd_readSign g S).bind fun (S_5, v_6) =>
    if v_6 = (-1 : Int32) then (
      some (S_5, (0 : Int32))
    ) else (
      (m_Row_add g S_5 17 v_6).bind fun S_7 =>
      m_Rd_readLiteral_66 g k19 S_7 x1
    )
  )
)
def m_Rd_readLiteral_19 (g : Nat) : Nat → St → Int32 → Option (St × Int32)
  | 0, _, _ => none
  | n + 1, S, x1 => b_Rd_readLiteral_19 g (m_Rd_readLiteral_19 g n) S x1
def m_Rd_readLiteral (g : Nat) (S : St) : Option (St × Int32) :=
lt (gI S 3 3) fun x1_1 =>
(m_Row_clear g S 17).bind fun S_2 =>
lt (sI S_2 3 3 (x1_1 + (1 : Int32))) fun S_3 =>
m_Rd_readLiteral_19 g g S_3 x1_1
theorem km_Rd_readLiteral_160 {g : Nat} {S : St} {x1 : Int32} {y0 : Int32} {S' : St} {r : Int32} (h : m_Rd_readLiteral_160 g S x1 y0 = some (S', r)) : kap S ≤ kap S' := by
  unfold m_Rd_readLiteral_160 at h
  have nn : nq S S := nq_rf
  by_cases hc1 : y0 = (-1 : Int32)
  · replace h := ift hc1 h
    obtain ⟨rfl, rfl⟩ := prI h
    have hkn := nq_kap nn
    omega
  · replace h := iff0 hc1 h
    by_cases hc2 : gR S 3 2 = 1 ∨ gR S 3 2 = 2
    case neg => exact absurd (iff0 hc2 h) (fun q => by cases q)
    replace h := ift hc2 h
    obtain ⟨p_10, ep_10, h⟩ := lt_e h
    obtain ⟨S_11, hS_11, h⟩ := bnd h
    replace nn : nq S_11 S := nq_tr (kq_Pg_addWord hS_11) nn
    obtain ⟨rfl, rfl⟩ := prI h
    have hkn := nq_kap nn
    omega
theorem km_Rd_readLiteral_149 {g : Nat} {S : St} {x1 : Int32} {S' : St} {r : Int32} (h : m_Rd_readLiteral_149 g S x1 = some (S', r)) : kap S ≤ kap S' := by
  unfold m_Rd_readLiteral_149 at h
  have nn : nq S S := nq_rf
  by_cases hc1 : gR S 3 2 = 1 ∨ gR S 3 2 = 2
  case neg => exact absurd (iff0 hc1 h) (fun q => by cases q)
  replace h := ift hc1 h
  obtain ⟨p_6, ep_6, h⟩ := lt_e h
  obtain ⟨⟨S_7, v_8⟩, hv_8, h⟩ := bnd h
  have hk1 := km_Pg_literalWith hv_8
  have hkn := nq_kap nn
  have h2 := km_Rd_readLiteral_160 h
  omega
theorem km_Rd_readLiteral_95 {g : Nat} {S : St} {x1 : Int32} {y0 : Int32} {S' : St} {r : Int32} (h : m_Rd_readLiteral_95 g S x1 y0 = some (S', r)) : kap S ≤ kap S' := by
  unfold m_Rd_readLiteral_95 at h
  have nn : nq S S := nq_rf
  obtain ⟨S_4, eS_4, h⟩ := lt_e h
  replace nn : nq S_4 S := nq_tr (by rw [eS_4]; rfl) nn
  by_cases hc1 : y0 = 0
  · replace h := ift hc1 h
    obtain ⟨rfl, rfl⟩ := prI h
    have hkn := nq_kap nn
    omega
  · replace h := iff0 hc1 h
    by_cases hc2 : (gI S_4 17 3) = 0
    · replace h := ift hc2 h
      by_cases hc3 : (gI S_4 3 4) ≤ (gI S_4 3 3)
      · replace h := ift hc3 h
        have hkn := nq_kap nn
        have h2 := km_Rd_readLiteral_149 h
        omega
      · replace h := iff0 hc3 h
        obtain ⟨v_5, hv_5, h⟩ := bnd h
        by_cases hc4 : v_5 = (32 : Int32)
        · replace h := ift hc4 h
          have hkn := nq_kap nn
          have h2 := km_Rd_readLiteral_149 h
          omega
        · replace h := iff0 hc4 h
          obtain ⟨rfl, rfl⟩ := prI h
          have hkn := nq_kap nn
          omega
    · replace h := iff0 hc2 h
      obtain ⟨rfl, rfl⟩ := prI h
      have hkn := nq_kap nn
      omega
theorem km_Rd_readLiteral_79 {g : Nat} {S : St} {x1 : Int32} {S' : St} {r : Int32} (h : m_Rd_readLiteral_79 g S x1 = some (S', r)) : kap S ≤ kap S' := by
  unfold m_Rd_readLiteral_79 at h
  have nn : nq S S := nq_rf
  by_cases hc1 : (gI S 3 4) ≤ (gI S 3 3)
  · replace h := ift hc1 h
    have hkn := nq_kap nn
    have h2 := km_Rd_readLiteral_95 h
    omega
  · replace h := iff0 hc1 h
    have hkn := nq_kap nn
    have h2 := km_Rd_readLiteral_95 h
    omega
theorem km_Rd_readLiteral_66 {g : Nat} {S : St} {x1 : Int32} {S' : St} {r : Int32} {k19 : St → Int32 → Option (St × Int32)} (km19 : ∀ (S : St) (x1 : Int32), k19 S x1 = some (S', r) → kap S ≤ kap S') (h : m_Rd_readLiteral_66 g k19 S x1 = some (S', r)) : kap S ≤ kap S' := by
  unfold m_Rd_readLiteral_66 at h
  have nn : nq S S := nq_rf
  obtain ⟨S_8, eS_8, h⟩ := lt_e h
  replace nn : nq S_8 S := nq_tr (by rw [eS_8]; rfl) nn
  have hkn := nq_kap nn
  have h2 := km19 _ _ h
  omega
theorem kmb_Rd_readLiteral_19 {g : Nat} {S : St} {x1 : Int32} {S' : St} {r : Int32} {k19 : St → Int32 → Option (St × Int32)} (km19 : ∀ (S : St) (x1 : Int32), k19 S x1 = some (S', r) → kap S ≤ kap S') (h : b_Rd_readLiteral_19 g k19 S x1 = some (S', r)) : kap S ≤ kap S' := by
  unfold b_Rd_readLiteral_19 at h
  have nn : nq S S := nq_rf
  by_cases hc1 : (gI S 3 4) ≤ (gI S 3 3)
  · replace h := ift hc1 h
    have hkn := nq_kap nn
    have h2 := km_Rd_readLiteral_79 h
    omega
  · replace h := iff0 hc1 h
    obtain ⟨v_4, hv_4, h⟩ := bnd h
    by_cases hc2 : v_4 = (34 : Int32)
    · replace h := ift hc2 h
      have hkn := nq_kap nn
      have h2 := km_Rd_readLiteral_79 h
      omega
    · replace h := iff0 hc2 h
      obtain ⟨⟨S_5, v_6⟩, hv_6, h⟩ := bnd h
      replace nn : nq S_5 S := nq_tr (kq_Rd_readSign hv_6) nn
      by_cases hc3 : v_6 = (-1 : Int32)
      · replace h := ift hc3 h
        obtain ⟨rfl, rfl⟩ := prI h
        have hkn := nq_kap nn
        omega
      · replace h := iff0 hc3 h
        obtain ⟨S_7, hS_7, h⟩ := bnd h
        have hk1 := km_Row_add hS_7
        have hkn := nq_kap nn
        have h2 := km_Rd_readLiteral_66 km19 h
        omega
theorem km_Rd_readLiteral_19 {g : Nat} {S' : St} {r : Int32} (n : Nat) : ∀ (S : St) (x1 : Int32), m_Rd_readLiteral_19 g n S x1 = some (S', r) → kap S ≤ kap S' := by
  induction n with
  | zero => intro S x1 h; exact absurd h (fun q => by cases q)
  | succ n ih => intro S x1 h; exact kmb_Rd_readLiteral_19 ih h
theorem km_Rd_readLiteral {g : Nat} {S : St} {S' : St} {r : Int32} (h : m_Rd_readLiteral g S = some (S', r)) : kap S ≤ kap S' := by
  unfold m_Rd_readLiteral at h
  have nn : nq S S := nq_rf
  obtain ⟨x1_1, ex1_1, h⟩ := lt_e h
  obtain ⟨S_2, hS_2, h⟩ := bnd h
  replace nn : nq S_2 S := nq_tr (kq_Row_clear hS_2) nn
  obtain ⟨S_3, eS_3, h⟩ := lt_e h
  replace nn : nq S_3 S := nq_tr (by rw [eS_3]; rfl) nn
  have hkn := nq_kap nn
  have h2 := km_Rd_readLiteral_19 g _ _ h
  omega
section S_Rd_readLiteral
variable {p : Program} {l : Launch} {e : Env} {s : State} {m : MethodId} {args : Array Value} {below : List Frame} {meth : Method} {c : Code} {H : Heap} {locs : List Loc} {ls : Array Slot} {D : va_G} {T : Cy} {ρ ρ0 : Nat → Nat} {S0 : St} {A : Nat → Prop}
set_option maxRecDepth 100000 in
set_option maxHeartbeats 4000000 in
theorem w_Rd_readLiteral_160 {g : Nat} {S : St} {x1 : Int32} {y0 : Int32} (C : CallFix p m c cX5_readLiteral 4 s args tb RX5) (hr : meth.sig.returnType = (some .boolean)) (hk : meth.locks = false) {S' : St} {r : Int32} (ha : Ag ρ0 ρ) (hm : kap S0 ≤ kap S) (w : Wn Yc D T ρ S A s H locs) (hl : lv_has ls 4 [(0, .ref (ρ 3)), (1, .int x1)]) (h : m_Rd_readLiteral_160 g S x1 y0 = some (S', r)) : W p l e (rmK 4 97 (kap S' - kap S0)) s m args below meth c H locs (kap S - kap S0) (2 * (kap S - kap S0)) (MQ below (QiM D T ρ0 A S' r) args s (kap S' - kap S0) (2 * (kap S' - kap S0)) A) (F0 m 160 ls [.int y0]) := by
  have hT := km_Rd_readLiteral_160 h
  unfold m_Rd_readLiteral_160 at h
  have nn : nq S S := nq_rf
  refine lv_istore_n (lv' := [(3, .int y0), (0, .ref (ρ 3)), (1, .int x1)]) C.1 C.2.1 dX5_readLiteral_160 rfl hl (by decide) rfl (fun ls hl => ?_)
  refine lv_iload_n C.1 C.2.1 dX5_readLiteral_161 rfl (lv_at hl 0 rfl) ?_
  refine lv_iconst (v := (-1)) C.1 C.2.1 dX5_readLiteral_162 (by decide) ?_
  refine lv_icmp_ne (tgt := 168) C.1 C.2.1 dX5_readLiteral_163 (by decide) (fun hc => ?_) (fun hc => ?_)
  · replace h := iff0 hc h
    refine lv_aload_n C.1 C.2.1 dX5_readLiteral_168 rfl (lv_at hl 1 rfl) ?_
    by_cases hz_9 : gR S 3 2 = 1 ∨ gR S 3 2 = 2
    case neg => exact absurd (iff0 hz_9 h) (fun q => by cases q)
    replace h := ift hz_9 h
    obtain ⟨p_10, ep_10, h⟩ := lt_e h
    have ho_p_10 : Ob Yc p_10 2 := obPg (by rw [ep_10]; exact hz_9)
    refine x_getR C w fX5_30 obC3 dX5_readLiteral_169 ?_
    refine x_nmR ep_10 ?_
    refine lv_bipush (v := 34) C.1 C.2.1 dX5_readLiteral_172 (by decide) ?_
    refine lv_bipush (v := 32) C.1 C.2.1 dX5_readLiteral_174 (by decide) ?_
    refine lv_iload_n C.1 C.2.1 dX5_readLiteral_176 rfl (lv_at hl 0 rfl) ?_
    refine lv_i2l C.1 C.2.1 dX5_readLiteral_177 rfl ?_
    refine lv_iload_n C.1 C.2.1 dX5_readLiteral_178 rfl (lv_at hl 2 rfl) ?_
    obtain ⟨S_11, hS_11, h⟩ := bnd h
    replace nn : nq S_11 S := nq_tr (kq_Pg_addWord hS_11) nn
    refine x_callVv (q := (RX4, TX4, 16)) (As := [.int (34 : Int32), .int (32 : Int32), .long (y0.toInt64), .int x1]) (rest := []) C w (k_Pg_addWord l D T ρ g H.size S ho_p_10 hS_11) vX5_143 (hRK (by decide) (by decide)) ho_p_10 (by decide) rfl rfl rfl hl.1 (Nat.le_of_ble_eq_true rfl) (hcK hT) dX5_readLiteral_179 (fun H locs w => ?_)
    refine lv_iconst (v := 1) C.1 C.2.1 dX5_readLiteral_182 (by decide) ?_
    obtain ⟨rfl, rfl⟩ := prI h
    exact x_zretM C w ha hr hk (by decide) dX5_readLiteral_183 (by have := nq_kap nn; omega) (by have := nq_kap nn; omega)
  · replace h := ift hc h
    refine lv_iconst (v := 0) C.1 C.2.1 dX5_readLiteral_166 (by decide) ?_
    obtain ⟨rfl, rfl⟩ := prI h
    exact x_zretM C w ha hr hk (by decide) dX5_readLiteral_167 (by have := nq_kap nn; omega) (by have := nq_kap nn; omega)
set_option maxRecDepth 100000 in
set_option maxHeartbeats 4000000 in
theorem w_Rd_readLiteral_149 {g : Nat} {S : St} {x1 : Int32} (C : CallFix p m c cX5_readLiteral 4 s args tb RX5) (hr : meth.sig.returnType = (some .boolean)) (hk : meth.locks = false) {S' : St} {r : Int32} (ha : Ag ρ0 ρ) (hm : kap S0 ≤ kap S) (w : Wn Yc D T ρ S A s H locs) (hl : lv_has ls 4 [(0, .ref (ρ 3)), (1, .int x1)]) (h : m_Rd_readLiteral_149 g S x1 = some (S', r)) : W p l e (rmK 4 97 (kap S' - kap S0)) s m args below meth c H locs (kap S - kap S0) (2 * (kap S - kap S0)) (MQ below (QiM D T ρ0 A S' r) args s (kap S' - kap S0) (2 * (kap S' - kap S0)) A) (F0 m 149 ls []) := by
  have hT := km_Rd_readLiteral_149 h
  unfold m_Rd_readLiteral_149 at h
  have nn : nq S S := nq_rf
  refine lv_aload_n C.1 C.2.1 dX5_readLiteral_149 rfl (lv_at hl 0 rfl) ?_
  by_cases hz_5 : gR S 3 2 = 1 ∨ gR S 3 2 = 2
  case neg => exact absurd (iff0 hz_5 h) (fun q => by cases q)
  replace h := ift hz_5 h
  obtain ⟨p_6, ep_6, h⟩ := lt_e h
  have ho_p_6 : Ob Yc p_6 2 := obPg (by rw [ep_6]; exact hz_5)
  refine x_getR C w fX5_30 obC3 dX5_readLiteral_150 ?_
  refine x_nmR ep_6 ?_
  refine lv_aload_n C.1 C.2.1 dX5_readLiteral_153 rfl (lv_at hl 0 rfl) ?_
  refine x_getC C w 17 fX5_14 obC3 rfl dX5_readLiteral_154 ?_
  obtain ⟨⟨S_7, v_8⟩, hv_8, h⟩ := bnd h
  have hkn := nq_kap nn
  have hk1 := km_Pg_literalWith hv_8
  have hT2 := km_Rd_readLiteral_160 h
  refine x_callViM (q := (RX4, TX4, 16)) (As := [.ref (ρ 17)]) (rest := []) C w (k_Pg_literalWith l D T ρ g H.size S ho_p_6 obC17 hv_8) vX5_160 (hRK (by decide) (by decide)) ho_p_6 (by decide) rfl rfl rfl hl.1 (Nat.le_of_ble_eq_true rfl) (hcM hm hkn hk1 hT2) dX5_readLiteral_157 (fun ρ1 H locs hag w => ?_)
  replace ha := ha.trans hag
  rw [← hag 3 (by decide)] at hl
  refine W.widen (k := kap S_7 - kap S0) (n := 2 * (kap S_7 - kap S0)) (by omega) (by omega) ?_
  exact w_Rd_readLiteral_160 C hr hk ha (by omega) w (lv_sub hl [0, 1] rfl) h
set_option maxRecDepth 100000 in
set_option maxHeartbeats 4000000 in
theorem w_Rd_readLiteral_95 {g : Nat} {S : St} {x1 : Int32} {y0 : Int32} (C : CallFix p m c cX5_readLiteral 4 s args tb RX5) (hr : meth.sig.returnType = (some .boolean)) (hk : meth.locks = false) {S' : St} {r : Int32} (ha : Ag ρ0 ρ) (hm : kap S0 ≤ kap S) (w : Wn Yc D T ρ S A s H locs) (hl : lv_has ls 4 [(0, .ref (ρ 3)), (1, .int x1)]) (h : m_Rd_readLiteral_95 g S x1 y0 = some (S', r)) : W p l e (rmK 4 97 (kap S' - kap S0)) s m args below meth c H locs (kap S - kap S0) (2 * (kap S - kap S0)) (MQ below (QiM D T ρ0 A S' r) args s (kap S' - kap S0) (2 * (kap S' - kap S0)) A) (F0 m 95 ls [.int y0]) := by
  have hT := km_Rd_readLiteral_95 h
  unfold m_Rd_readLiteral_95 at h
  have nn : nq S S := nq_rf
  refine lv_istore_n (lv' := [(2, .int y0), (0, .ref (ρ 3)), (1, .int x1)]) C.1 C.2.1 dX5_readLiteral_95 rfl hl (by decide) rfl (fun ls hl => ?_)
  refine lv_aload_n C.1 C.2.1 dX5_readLiteral_96 rfl (lv_at hl 1 rfl) ?_
  refine lv_dup C.1 C.2.1 dX5_readLiteral_97 rfl ?_
  refine x_getI C w fX5_20 obC3 dX5_readLiteral_98 ?_
  refine lv_iconst (v := 1) C.1 C.2.1 dX5_readLiteral_101 (by decide) ?_
  refine lv_iadd C.1 C.2.1 dX5_readLiteral_102 ?_
  obtain ⟨S_4, eS_4, h⟩ := lt_e h
  replace nn : nq S_4 S := nq_tr (by rw [eS_4]; rfl) nn
  refine y_putI C w eS_4 fX5_20 pX5_3 obC3 dX5_readLiteral_103 (fun H locs w => ?_)
  refine lv_iload_n C.1 C.2.1 dX5_readLiteral_106 rfl (lv_at hl 0 rfl) ?_
  refine lv_if_eq (tgt := 147) C.1 C.2.1 dX5_readLiteral_107 (by decide) (fun hc => ?_) (fun hc => ?_)
  · replace h := ift hc h
    refine lv_iconst (v := 0) C.1 C.2.1 dX5_readLiteral_147 (by decide) ?_
    obtain ⟨rfl, rfl⟩ := prI h
    exact x_zretM C w ha hr hk (by decide) dX5_readLiteral_148 (by have := nq_kap nn; omega) (by have := nq_kap nn; omega)
  · replace h := iff0 hc h
    refine lv_aload_n C.1 C.2.1 dX5_readLiteral_110 rfl (lv_at hl 1 rfl) ?_
    refine x_getC C w 17 fX5_14 obC3 rfl dX5_readLiteral_111 ?_
    refine x_getI C w fX5_156 obC17 dX5_readLiteral_114 ?_
    refine lv_if_ne (tgt := 147) C.1 C.2.1 dX5_readLiteral_117 (by decide) (fun hc => ?_) (fun hc => ?_)
    · replace h := iff0 hc h
      refine lv_iconst (v := 0) C.1 C.2.1 dX5_readLiteral_147 (by decide) ?_
      obtain ⟨rfl, rfl⟩ := prI h
      exact x_zretM C w ha hr hk (by decide) dX5_readLiteral_148 (by have := nq_kap nn; omega) (by have := nq_kap nn; omega)
    · replace h := ift hc h
      refine lv_aload_n C.1 C.2.1 dX5_readLiteral_120 rfl (lv_at hl 1 rfl) ?_
      refine x_getI C w fX5_20 obC3 dX5_readLiteral_121 ?_
      refine lv_aload_n C.1 C.2.1 dX5_readLiteral_124 rfl (lv_at hl 1 rfl) ?_
      refine x_getI C w fX5_24 obC3 dX5_readLiteral_125 ?_
      refine lv_icmp_ge (tgt := 149) C.1 C.2.1 dX5_readLiteral_128 (by decide) (fun hc => ?_) (fun hc => ?_)
      · replace h := ift hc h
        have hkn := nq_kap nn
        refine W.widen (k := kap S_4 - kap S0) (n := 2 * (kap S_4 - kap S0)) (by omega) (by omega) ?_
        exact w_Rd_readLiteral_149 C hr hk ha (by omega) w (lv_sub hl [1, 2] rfl) h
      · replace h := iff0 hc h
        refine lv_aload_n C.1 C.2.1 dX5_readLiteral_131 rfl (lv_at hl 1 rfl) ?_
        refine x_getC C w 10 fX5_27 obC3 rfl dX5_readLiteral_132 ?_
        refine lv_aload_n C.1 C.2.1 dX5_readLiteral_135 rfl (lv_at hl 1 rfl) ?_
        refine x_getI C w fX5_20 obC3 dX5_readLiteral_136 ?_
        obtain ⟨v_5, hv_5, h⟩ := bnd h
        refine x_callVi (q := (RX6, TX6, 4)) (As := [.int (gI S_4 3 3)]) (rest := []) C w (k_Row_at l D T ρ g H.size S_4 obC10 hv_5) vX5_67 (hRK (by decide) (by decide)) obC10 (by decide) rfl rfl rfl hl.1 (Nat.le_of_ble_eq_true rfl) (hcK hT) dX5_readLiteral_139 (fun H locs w => ?_)
        refine lv_bipush (v := 32) C.1 C.2.1 dX5_readLiteral_142 (by decide) ?_
        refine lv_icmp_eq (tgt := 149) C.1 C.2.1 dX5_readLiteral_144 (by decide) (fun hc => ?_) (fun hc => ?_)
        · replace h := ift hc h
          have hkn := nq_kap nn
          refine W.widen (k := kap S_4 - kap S0) (n := 2 * (kap S_4 - kap S0)) (by omega) (by omega) ?_
          exact w_Rd_readLiteral_149 C hr hk ha (by omega) w (lv_sub hl [1, 2] rfl) h
        · replace h := iff0 hc h
          refine lv_iconst (v := 0) C.1 C.2.1 dX5_readLiteral_147 (by decide) ?_
          obtain ⟨rfl, rfl⟩ := prI h
          exact x_zretM C w ha hr hk (by decide) dX5_readLiteral_148 (by have := nq_kap nn; omega) (by have := nq_kap nn; omega)
set_option maxRecDepth 100000 in
set_option maxHeartbeats 4000000 in
theorem w_Rd_readLiteral_79 {g : Nat} {S : St} {x1 : Int32} (C : CallFix p m c cX5_readLiteral 4 s args tb RX5) (hr : meth.sig.returnType = (some .boolean)) (hk : meth.locks = false) {S' : St} {r : Int32} (ha : Ag ρ0 ρ) (hm : kap S0 ≤ kap S) (w : Wn Yc D T ρ S A s H locs) (hl : lv_has ls 4 [(0, .ref (ρ 3)), (1, .int x1)]) (h : m_Rd_readLiteral_79 g S x1 = some (S', r)) : W p l e (rmK 4 97 (kap S' - kap S0)) s m args below meth c H locs (kap S - kap S0) (2 * (kap S - kap S0)) (MQ below (QiM D T ρ0 A S' r) args s (kap S' - kap S0) (2 * (kap S' - kap S0)) A) (F0 m 79 ls []) := by
  have hT := km_Rd_readLiteral_79 h
  unfold m_Rd_readLiteral_79 at h
  have nn : nq S S := nq_rf
  refine lv_aload_n C.1 C.2.1 dX5_readLiteral_79 rfl (lv_at hl 0 rfl) ?_
  refine x_getI C w fX5_20 obC3 dX5_readLiteral_80 ?_
  refine lv_aload_n C.1 C.2.1 dX5_readLiteral_83 rfl (lv_at hl 0 rfl) ?_
  refine x_getI C w fX5_24 obC3 dX5_readLiteral_84 ?_
  refine lv_icmp_ge (tgt := 94) C.1 C.2.1 dX5_readLiteral_87 (by decide) (fun hc => ?_) (fun hc => ?_)
  · replace h := ift hc h
    refine lv_iconst (v := 0) C.1 C.2.1 dX5_readLiteral_94 (by decide) ?_
    have hkn := nq_kap nn
    refine W.widen (k := kap S - kap S0) (n := 2 * (kap S - kap S0)) (by omega) (by omega) ?_
    exact w_Rd_readLiteral_95 C hr hk ha (by omega) w (lv_sub hl [0, 1] rfl) h
  · replace h := iff0 hc h
    refine lv_iconst (v := 1) C.1 C.2.1 dX5_readLiteral_90 (by decide) ?_
    refine lv_goto (tgt := 95) C.1 C.2.1 dX5_readLiteral_91 (by decide) ?_
    have hkn := nq_kap nn
    refine W.widen (k := kap S - kap S0) (n := 2 * (kap S - kap S0)) (by omega) (by omega) ?_
    exact w_Rd_readLiteral_95 C hr hk ha (by omega) w (lv_sub hl [0, 1] rfl) h
set_option maxRecDepth 100000 in
set_option maxHeartbeats 4000000 in
theorem w_Rd_readLiteral_66 {g : Nat} {S : St} {x1 : Int32} (C : CallFix p m c cX5_readLiteral 4 s args tb RX5) (hr : meth.sig.returnType = (some .boolean)) (hk : meth.locks = false) {S' : St} {r : Int32} {k19 : St → Int32 → Option (St × Int32)} (kk19 : ∀ (ρ : Nat → Nat) (S : St) (x1 : Int32) (H : Heap) (locs : List Loc) (ls : Array Slot), Ag ρ0 ρ → kap S0 ≤ kap S → Wn Yc D T ρ S A s H locs → lv_has ls 4 [(0, .ref (ρ 3)), (1, .int x1)] → k19 S x1 = some (S', r) → W p l e (rmK 4 97 (kap S' - kap S0)) s m args below meth c H locs (kap S - kap S0) (2 * (kap S - kap S0)) (MQ below (QiM D T ρ0 A S' r) args s (kap S' - kap S0) (2 * (kap S' - kap S0)) A) (F0 m 19 ls [])) (km19 : ∀ (S : St) (x1 : Int32), k19 S x1 = some (S', r) → kap S ≤ kap S') (ha : Ag ρ0 ρ) (hm : kap S0 ≤ kap S) (w : Wn Yc D T ρ S A s H locs) (hl : lv_has ls 4 [(0, .ref (ρ 3)), (1, .int x1)]) (h : m_Rd_readLiteral_66 g k19 S x1 = some (S', r)) : W p l e (rmK 4 97 (kap S' - kap S0)) s m args below meth c H locs (kap S - kap S0) (2 * (kap S - kap S0)) (MQ below (QiM D T ρ0 A S' r) args s (kap S' - kap S0) (2 * (kap S' - kap S0)) A) (F0 m 66 ls []) := by
  have hT := km_Rd_readLiteral_66 km19 h
  unfold m_Rd_readLiteral_66 at h
  have nn : nq S S := nq_rf
  refine lv_aload_n C.1 C.2.1 dX5_readLiteral_66 rfl (lv_at hl 0 rfl) ?_
  refine lv_dup C.1 C.2.1 dX5_readLiteral_67 rfl ?_
  refine x_getI C w fX5_20 obC3 dX5_readLiteral_68 ?_
  refine lv_iconst (v := 1) C.1 C.2.1 dX5_readLiteral_71 (by decide) ?_
  refine lv_iadd C.1 C.2.1 dX5_readLiteral_72 ?_
  obtain ⟨S_8, eS_8, h⟩ := lt_e h
  replace nn : nq S_8 S := nq_tr (by rw [eS_8]; rfl) nn
  refine y_putI C w eS_8 fX5_20 pX5_3 obC3 dX5_readLiteral_73 (fun H locs w => ?_)
  refine lv_goto (tgt := 19) C.1 C.2.1 dX5_readLiteral_76 (by decide) ?_
  have hkn := nq_kap nn
  refine W.widen (k := kap S_8 - kap S0) (n := 2 * (kap S_8 - kap S0)) (by omega) (by omega) ?_
  exact kk19 _ _ _ _ _ _ ha (by omega) w (lv_sub hl [0, 1] rfl) h
set_option maxRecDepth 100000 in
set_option maxHeartbeats 4000000 in
theorem wb_Rd_readLiteral_19 {g : Nat} {S : St} {x1 : Int32} (C : CallFix p m c cX5_readLiteral 4 s args tb RX5) (hr : meth.sig.returnType = (some .boolean)) (hk : meth.locks = false) {S' : St} {r : Int32} {k19 : St → Int32 → Option (St × Int32)} (kk19 : ∀ (ρ : Nat → Nat) (S : St) (x1 : Int32) (H : Heap) (locs : List Loc) (ls : Array Slot), Ag ρ0 ρ → kap S0 ≤ kap S → Wn Yc D T ρ S A s H locs → lv_has ls 4 [(0, .ref (ρ 3)), (1, .int x1)] → k19 S x1 = some (S', r) → W p l e (rmK 4 97 (kap S' - kap S0)) s m args below meth c H locs (kap S - kap S0) (2 * (kap S - kap S0)) (MQ below (QiM D T ρ0 A S' r) args s (kap S' - kap S0) (2 * (kap S' - kap S0)) A) (F0 m 19 ls [])) (km19 : ∀ (S : St) (x1 : Int32), k19 S x1 = some (S', r) → kap S ≤ kap S') (ha : Ag ρ0 ρ) (hm : kap S0 ≤ kap S) (w : Wn Yc D T ρ S A s H locs) (hl : lv_has ls 4 [(0, .ref (ρ 3)), (1, .int x1)]) (h : b_Rd_readLiteral_19 g k19 S x1 = some (S', r)) : W p l e (rmK 4 97 (kap S' - kap S0)) s m args below meth c H locs (kap S - kap S0) (2 * (kap S - kap S0)) (MQ below (QiM D T ρ0 A S' r) args s (kap S' - kap S0) (2 * (kap S' - kap S0)) A) (F0 m 19 ls []) := by
  have hT := kmb_Rd_readLiteral_19 km19 h
  unfold b_Rd_readLiteral_19 at h
  have nn : nq S S := nq_rf
  refine lv_aload_n C.1 C.2.1 dX5_readLiteral_19 rfl (lv_at hl 0 rfl) ?_
  refine x_getI C w fX5_20 obC3 dX5_readLiteral_20 ?_
  refine lv_aload_n C.1 C.2.1 dX5_readLiteral_23 rfl (lv_at hl 0 rfl) ?_
  refine x_getI C w fX5_24 obC3 dX5_readLiteral_24 ?_
  refine lv_icmp_ge (tgt := 79) C.1 C.2.1 dX5_readLiteral_27 (by decide) (fun hc => ?_) (fun hc => ?_)
  · replace h := ift hc h
    have hkn := nq_kap nn
    refine W.widen (k := kap S - kap S0) (n := 2 * (kap S - kap S0)) (by omega) (by omega) ?_
    exact w_Rd_readLiteral_79 C hr hk ha (by omega) w (lv_sub hl [0, 1] rfl) h
  · replace h := iff0 hc h
    refine lv_aload_n C.1 C.2.1 dX5_readLiteral_30 rfl (lv_at hl 0 rfl) ?_
    refine x_getC C w 10 fX5_27 obC3 rfl dX5_readLiteral_31 ?_
    refine lv_aload_n C.1 C.2.1 dX5_readLiteral_34 rfl (lv_at hl 0 rfl) ?_
    refine x_getI C w fX5_20 obC3 dX5_readLiteral_35 ?_
    obtain ⟨v_4, hv_4, h⟩ := bnd h
    refine x_callVi (q := (RX6, TX6, 4)) (As := [.int (gI S 3 3)]) (rest := []) C w (k_Row_at l D T ρ g H.size S obC10 hv_4) vX5_67 (hRK (by decide) (by decide)) obC10 (by decide) rfl rfl rfl hl.1 (Nat.le_of_ble_eq_true rfl) (hcK hT) dX5_readLiteral_38 (fun H locs w => ?_)
    refine lv_bipush (v := 34) C.1 C.2.1 dX5_readLiteral_41 (by decide) ?_
    refine lv_icmp_eq (tgt := 79) C.1 C.2.1 dX5_readLiteral_43 (by decide) (fun hc => ?_) (fun hc => ?_)
    · replace h := ift hc h
      have hkn := nq_kap nn
      refine W.widen (k := kap S - kap S0) (n := 2 * (kap S - kap S0)) (by omega) (by omega) ?_
      exact w_Rd_readLiteral_79 C hr hk ha (by omega) w (lv_sub hl [0, 1] rfl) h
    · replace h := iff0 hc h
      refine lv_aload_n C.1 C.2.1 dX5_readLiteral_46 rfl (lv_at hl 0 rfl) ?_
      obtain ⟨⟨S_5, v_6⟩, hv_6, h⟩ := bnd h
      replace nn : nq S_5 S := nq_tr (kq_Rd_readSign hv_6) nn
      refine x_callVi (q := (RX5, TX5, 5)) (As := []) (rest := []) C w (k_Rd_readSign l D T ρ g H.size S hv_6) vX5_150 (hRK (by decide) (by decide)) obC3 (by decide) rfl rfl rfl hl.1 (Nat.le_of_ble_eq_true rfl) (hcK hT) dX5_readLiteral_47 (fun H locs w => ?_)
      refine lv_istore_n (lv' := [(2, .int v_6), (0, .ref (ρ 3)), (1, .int x1)]) C.1 C.2.1 dX5_readLiteral_50 rfl hl (by decide) rfl (fun ls hl => ?_)
      refine lv_iload_n C.1 C.2.1 dX5_readLiteral_51 rfl (lv_at hl 0 rfl) ?_
      refine lv_iconst (v := (-1)) C.1 C.2.1 dX5_readLiteral_52 (by decide) ?_
      refine lv_icmp_ne (tgt := 58) C.1 C.2.1 dX5_readLiteral_53 (by decide) (fun hc => ?_) (fun hc => ?_)
      · replace h := iff0 hc h
        refine lv_aload_n C.1 C.2.1 dX5_readLiteral_58 rfl (lv_at hl 1 rfl) ?_
        refine x_getC C w 17 fX5_14 obC3 rfl dX5_readLiteral_59 ?_
        refine lv_iload_n C.1 C.2.1 dX5_readLiteral_62 rfl (lv_at hl 0 rfl) ?_
        obtain ⟨S_7, hS_7, h⟩ := bnd h
        have hkn := nq_kap nn
        have hk1 := km_Row_add hS_7
        have hT2 := km_Rd_readLiteral_66 km19 h
        refine x_callVvM (q := (RX6, TX6, 4)) (As := [.int v_6]) (rest := []) C w (k_Row_add l D T ρ g H.size S_5 obC17 hS_7) vX5_153 (hRK (by decide) (by decide)) obC17 (by decide) rfl rfl rfl hl.1 (Nat.le_of_ble_eq_true rfl) (hcM hm hkn hk1 hT2) dX5_readLiteral_63 (fun ρ1 H locs hag w => ?_)
        replace ha := ha.trans hag
        rw [← hag 3 (by decide)] at hl
        refine W.widen (k := kap S_7 - kap S0) (n := 2 * (kap S_7 - kap S0)) (by omega) (by omega) ?_
        exact w_Rd_readLiteral_66 C hr hk kk19 km19 ha (by omega) w (lv_sub hl [1, 2] rfl) h
      · replace h := ift hc h
        refine lv_iconst (v := 0) C.1 C.2.1 dX5_readLiteral_56 (by decide) ?_
        obtain ⟨rfl, rfl⟩ := prI h
        exact x_zretM C w ha hr hk (by decide) dX5_readLiteral_57 (by have := nq_kap nn; omega) (by have := nq_kap nn; omega)
theorem w_Rd_readLiteral_19 {g : Nat} (C : CallFix p m c cX5_readLiteral 4 s args tb RX5) (hr : meth.sig.returnType = (some .boolean)) (hk : meth.locks = false) {S' : St} {r : Int32} (n : Nat) : ∀ (ρ : Nat → Nat) (S : St) (x1 : Int32) (H : Heap) (locs : List Loc) (ls : Array Slot), Ag ρ0 ρ → kap S0 ≤ kap S → Wn Yc D T ρ S A s H locs → lv_has ls 4 [(0, .ref (ρ 3)), (1, .int x1)] → m_Rd_readLiteral_19 g n S x1 = some (S', r) → W p l e (rmK 4 97 (kap S' - kap S0)) s m args below meth c H locs (kap S - kap S0) (2 * (kap S - kap S0)) (MQ below (QiM D T ρ0 A S' r) args s (kap S' - kap S0) (2 * (kap S' - kap S0)) A) (F0 m 19 ls []) := by
  induction n with
  | zero => intro ρ S x1 H locs ls ha hm w hl h; exact absurd h (fun q => by cases q)
  | succ n ih => intro ρ S x1 H locs ls ha hm w hl h; exact wb_Rd_readLiteral_19 C hr hk ih (km_Rd_readLiteral_19 n) ha hm w hl h
set_option maxRecDepth 100000 in
set_option maxHeartbeats 4000000 in
theorem w_Rd_readLiteral_0 {g : Nat} {S : St} (C : CallFix p m c cX5_readLiteral 4 s args tb RX5) (hr : meth.sig.returnType = (some .boolean)) (hk : meth.locks = false) {S' : St} {r : Int32} (ha : Ag ρ0 ρ) (hm : kap S0 ≤ kap S) (w : Wn Yc D T ρ S A s H locs) (hl : lv_has ls 4 [(0, .ref (ρ 3))]) (h : m_Rd_readLiteral g S = some (S', r)) : W p l e (rmK 4 97 (kap S' - kap S0)) s m args below meth c H locs (kap S - kap S0) (2 * (kap S - kap S0)) (MQ below (QiM D T ρ0 A S' r) args s (kap S' - kap S0) (2 * (kap S' - kap S0)) A) (F0 m 0 ls []) := by
  have hT := km_Rd_readLiteral h
  unfold m_Rd_readLiteral at h
  have nn : nq S S := nq_rf
  refine lv_aload_n C.1 C.2.1 dX5_readLiteral_0 rfl (lv_at hl 0 rfl) ?_
  refine x_getI C w fX5_20 obC3 dX5_readLiteral_1 ?_
  obtain ⟨x1_1, ex1_1, h⟩ := lt_e h
  refine x_nm ex1_1 ?_
  refine lv_istore_n (lv' := [(1, .int x1_1), (0, .ref (ρ 3))]) C.1 C.2.1 dX5_readLiteral_4 rfl hl (by decide) rfl (fun ls hl => ?_)
  refine lv_aload_n C.1 C.2.1 dX5_readLiteral_5 rfl (lv_at hl 1 rfl) ?_
  refine x_getC C w 17 fX5_14 obC3 rfl dX5_readLiteral_6 ?_
  obtain ⟨S_2, hS_2, h⟩ := bnd h
  replace nn : nq S_2 S := nq_tr (kq_Row_clear hS_2) nn
  refine x_callVv (q := (RX6, TX6, 4)) (As := []) (rest := []) C w (k_Row_clear l D T ρ g H.size S obC17 hS_2) vX5_149 (hRK (by decide) (by decide)) obC17 (by decide) rfl rfl rfl hl.1 (Nat.le_of_ble_eq_true rfl) (hcK hT) dX5_readLiteral_9 (fun H locs w => ?_)
  refine lv_aload_n C.1 C.2.1 dX5_readLiteral_12 rfl (lv_at hl 1 rfl) ?_
  refine lv_iload_n C.1 C.2.1 dX5_readLiteral_13 rfl (lv_at hl 0 rfl) ?_
  refine lv_iconst (v := 1) C.1 C.2.1 dX5_readLiteral_14 (by decide) ?_
  refine lv_iadd C.1 C.2.1 dX5_readLiteral_15 ?_
  obtain ⟨S_3, eS_3, h⟩ := lt_e h
  replace nn : nq S_3 S := nq_tr (by rw [eS_3]; rfl) nn
  refine y_putI C w eS_3 fX5_20 pX5_3 obC3 dX5_readLiteral_16 (fun H locs w => ?_)
  have hkn := nq_kap nn
  refine W.widen (k := kap S_3 - kap S0) (n := 2 * (kap S_3 - kap S0)) (by omega) (by omega) ?_
  exact w_Rd_readLiteral_19 C hr hk g _ _ _ _ _ _ ha (by omega) w (lv_sub hl [1, 0] rfl) h
end S_Rd_readLiteral
set_option maxRecDepth 100000 in
theorem k_Rd_readLiteral (l : Launch) (D : va_G) (T : Cy) (ρ : Nat → Nat) (g sz : Nat) (S : St) {S' : St} {r : Int32} (h : m_Rd_readLiteral g S = some (S', r)) : MiM l D T ρ yX5_readLiteral cX5_readLiteral 4 (some .boolean) 4 97 S S' r [.ref (ρ 3)] sz :=
  x_inR (by decide) (Nat.le_of_ble_eq_true rfl) (fun p e s m below meth c ls C hr hk w hl => W.widen (Nat.zero_le _) (Nat.zero_le _) (w_Rd_readLiteral_0 C hr hk Ag.rf (Nat.le_refl _) w hl h))

theorem dX7_begin_0 : decode cX7_begin 0 = .ok (.aload_n 0, 1) := by decide +kernel
theorem dX7_begin_1 : decode cX7_begin 1 = .ok (.getfield 30, 3) := by decide +kernel
theorem dX7_begin_4 : decode cX7_begin 4 = .ok (.aload_n 1, 1) := by decide +kernel
theorem dX7_begin_5 : decode cX7_begin 5 = .ok (.invokevirtual 57, 3) := by decide +kernel
theorem dX7_begin_8 : decode cX7_begin 8 = .ok (.aload_n 0, 1) := by decide +kernel
theorem dX7_begin_9 : decode cX7_begin 9 = .ok (.getfield 15, 3) := by decide +kernel
theorem dX7_begin_12 : decode cX7_begin 12 = .ok (.iconst 0, 1) := by decide +kernel
theorem dX7_begin_13 : decode cX7_begin 13 = .ok (.invokestatic 63, 3) := by decide +kernel
theorem dX7_begin_16 : decode cX7_begin 16 = .ok (.aload_n 0, 1) := by decide +kernel
theorem dX7_begin_17 : decode cX7_begin 17 = .ok (.getfield 9, 3) := by decide +kernel
theorem dX7_begin_20 : decode cX7_begin 20 = .ok (.iconst 0, 1) := by decide +kernel
theorem dX7_begin_21 : decode cX7_begin 21 = .ok (.invokestatic 63, 3) := by decide +kernel
theorem dX7_begin_24 : decode cX7_begin 24 = .ok (.aload_n 0, 1) := by decide +kernel
theorem dX7_begin_25 : decode cX7_begin 25 = .ok (.getfield 9, 3) := by decide +kernel
theorem dX7_begin_28 : decode cX7_begin 28 = .ok (.iconst 0, 1) := by decide +kernel
theorem dX7_begin_29 : decode cX7_begin 29 = .ok (.iconst (-1), 1) := by decide +kernel
theorem dX7_begin_30 : decode cX7_begin 30 = .ok (.iastore, 1) := by decide +kernel
theorem dX7_begin_31 : decode cX7_begin 31 = .ok (.aload_n 0, 1) := by decide +kernel
theorem dX7_begin_32 : decode cX7_begin 32 = .ok (.getfield 23, 3) := by decide +kernel
theorem dX7_begin_35 : decode cX7_begin 35 = .ok (.invokevirtual 69, 3) := by decide +kernel
theorem dX7_begin_38 : decode cX7_begin 38 = .ok (.aload_n 0, 1) := by decide +kernel
theorem dX7_begin_39 : decode cX7_begin 39 = .ok (.getfield 27, 3) := by decide +kernel
theorem dX7_begin_42 : decode cX7_begin 42 = .ok (.invokevirtual 69, 3) := by decide +kernel
theorem dX7_begin_45 : decode cX7_begin 45 = .ok (.return_, 1) := by decide +kernel
def m_Rn_begin_8 (g : Nat) (S : St) : Option St :=
(m_Arr_fill_53178 g S 80 (0 : Int32)).bind fun S_2 =>
(m_Arr_fill_53178 g S_2 79 (0 : Int32)).bind fun S_3 =>
(tI S_3 79 (0 : Int32) (-1 : Int32)).bind fun S_4 =>
(m_Row_clear g S_4 32).bind fun S_5 =>
(m_Row_clear g S_5 33).bind fun S_6 =>
some S_6
def m_Rn_begin (g : Nat) (S : St) (x1 : Nat) : Option St :=
(m_Bn_begin g S x1).bind fun S_1 =>
m_Rn_begin_8 g S_1
theorem km_Rn_begin_8 {g : Nat} {S : St} {S' : St} (h : m_Rn_begin_8 g S = some S') : kap S ≤ kap S' := by
  unfold m_Rn_begin_8 at h
  have nn : nq S S := nq_rf
  obtain ⟨S_2, hS_2, h⟩ := bnd h
  replace nn : nq S_2 S := nq_tr (kq_Arr_fill_53178 hS_2) nn
  obtain ⟨S_3, hS_3, h⟩ := bnd h
  replace nn : nq S_3 S := nq_tr (kq_Arr_fill_53178 hS_3) nn
  obtain ⟨S_4, hS_4, h⟩ := bnd h
  replace nn : nq S_4 S := nq_tr (nq_tI hS_4) nn
  obtain ⟨S_5, hS_5, h⟩ := bnd h
  replace nn : nq S_5 S := nq_tr (kq_Row_clear hS_5) nn
  obtain ⟨S_6, hS_6, h⟩ := bnd h
  replace nn : nq S_6 S := nq_tr (kq_Row_clear hS_6) nn
  obtain rfl := som h
  have hkn := nq_kap nn
  omega
theorem km_Rn_begin {g : Nat} {S : St} {x1 : Nat} {S' : St} (h : m_Rn_begin g S x1 = some S') : kap S ≤ kap S' := by
  unfold m_Rn_begin at h
  have nn : nq S S := nq_rf
  obtain ⟨S_1, hS_1, h⟩ := bnd h
  have hk1 := km_Bn_begin hS_1
  have hkn := nq_kap nn
  have h2 := km_Rn_begin_8 h
  omega
section S_Rn_begin
variable {p : Program} {l : Launch} {e : Env} {s : State} {m : MethodId} {args : Array Value} {below : List Frame} {meth : Method} {c : Code} {H : Heap} {locs : List Loc} {ls : Array Slot} {D : va_G} {T : Cy} {ρ ρ0 : Nat → Nat} {S0 : St} {A : Nat → Prop}
set_option maxRecDepth 100000 in
set_option maxHeartbeats 4000000 in
theorem w_Rn_begin_8 {g : Nat} {S : St} (C : CallFix p m c cX7_begin 2 s args tb RX7) (hr : meth.sig.returnType = none) (hk : meth.locks = false) {S' : St} (ha : Ag ρ0 ρ) (hm : kap S0 ≤ kap S) (w : Wn Yc D T ρ S A s H locs) (hl : lv_has ls 2 [(0, .ref (ρ 6))]) (h : m_Rn_begin_8 g S = some S') : W p l e (rmK 5 113 (kap S' - kap S0)) s m args below meth c H locs (kap S - kap S0) (2 * (kap S - kap S0)) (MQ below (QvM D T ρ0 A S') args s (kap S' - kap S0) (2 * (kap S' - kap S0)) A) (F0 m 8 ls []) := by
  have hT := km_Rn_begin_8 h
  unfold m_Rn_begin_8 at h
  have nn : nq S S := nq_rf
  refine lv_aload_n C.1 C.2.1 dX7_begin_8 rfl (lv_at hl 0 rfl) ?_
  refine x_getC C w 80 fX7_15 obC6 rfl dX7_begin_9 ?_
  refine lv_iconst (v := 0) C.1 C.2.1 dX7_begin_12 (by decide) ?_
  obtain ⟨S_2, hS_2, h⟩ := bnd h
  replace nn : nq S_2 S := nq_tr (kq_Arr_fill_53178 hS_2) nn
  refine x_callSv (As := [.ref (ρ 80), .int (0 : Int32)]) (rest := []) C w (k_Arr_fill_53178 l D T ρ g H.size S obC80 hS_2) vX7_63 (hRK (by decide) (by decide)) rfl rfl hl.1 (Nat.le_of_ble_eq_true rfl) (hcK hT) dX7_begin_13 (fun H locs w => ?_)
  refine lv_aload_n C.1 C.2.1 dX7_begin_16 rfl (lv_at hl 0 rfl) ?_
  refine x_getC C w 79 fX7_9 obC6 rfl dX7_begin_17 ?_
  refine lv_iconst (v := 0) C.1 C.2.1 dX7_begin_20 (by decide) ?_
  obtain ⟨S_3, hS_3, h⟩ := bnd h
  replace nn : nq S_3 S := nq_tr (kq_Arr_fill_53178 hS_3) nn
  refine x_callSv (As := [.ref (ρ 79), .int (0 : Int32)]) (rest := []) C w (k_Arr_fill_53178 l D T ρ g H.size S_2 obC79 hS_3) vX7_63 (hRK (by decide) (by decide)) rfl rfl hl.1 (Nat.le_of_ble_eq_true rfl) (hcK hT) dX7_begin_21 (fun H locs w => ?_)
  refine lv_aload_n C.1 C.2.1 dX7_begin_24 rfl (lv_at hl 0 rfl) ?_
  refine x_getC C w 79 fX7_9 obC6 rfl dX7_begin_25 ?_
  refine lv_iconst (v := 0) C.1 C.2.1 dX7_begin_28 (by decide) ?_
  refine lv_iconst (v := (-1)) C.1 C.2.1 dX7_begin_29 (by decide) ?_
  obtain ⟨S_4, hS_4, h⟩ := bnd h
  replace nn : nq S_4 S := nq_tr (nq_tI hS_4) nn
  refine x_iast C w obC79 hS_4 dX7_begin_30 (fun H locs w => ?_)
  refine lv_aload_n C.1 C.2.1 dX7_begin_31 rfl (lv_at hl 0 rfl) ?_
  refine x_getC C w 32 fX7_23 obC6 rfl dX7_begin_32 ?_
  obtain ⟨S_5, hS_5, h⟩ := bnd h
  replace nn : nq S_5 S := nq_tr (kq_Row_clear hS_5) nn
  refine x_callVv (q := (RX6, TX6, 4)) (As := []) (rest := []) C w (k_Row_clear l D T ρ g H.size S_4 obC32 hS_5) vX7_69 (hRK (by decide) (by decide)) obC32 (by decide) rfl rfl rfl hl.1 (Nat.le_of_ble_eq_true rfl) (hcK hT) dX7_begin_35 (fun H locs w => ?_)
  refine lv_aload_n C.1 C.2.1 dX7_begin_38 rfl (lv_at hl 0 rfl) ?_
  refine x_getC C w 33 fX7_27 obC6 rfl dX7_begin_39 ?_
  obtain ⟨S_6, hS_6, h⟩ := bnd h
  replace nn : nq S_6 S := nq_tr (kq_Row_clear hS_6) nn
  refine x_callVv (q := (RX6, TX6, 4)) (As := []) (rest := []) C w (k_Row_clear l D T ρ g H.size S_5 obC33 hS_6) vX7_69 (hRK (by decide) (by decide)) obC33 (by decide) rfl rfl rfl hl.1 (Nat.le_of_ble_eq_true rfl) (hcK hT) dX7_begin_42 (fun H locs w => ?_)
  obtain rfl := som h
  exact x_vretM C w ha hr hk dX7_begin_45 (by have := nq_kap nn; omega) (by have := nq_kap nn; omega)
set_option maxRecDepth 100000 in
set_option maxHeartbeats 4000000 in
theorem w_Rn_begin_0 {g : Nat} {S : St} {x1 : Nat} (C : CallFix p m c cX7_begin 2 s args tb RX7) (hr : meth.sig.returnType = none) (hk : meth.locks = false) {S' : St} (ha : Ag ρ0 ρ) (hm : kap S0 ≤ kap S) (w : Wn Yc D T ρ S A s H locs) (hl : lv_has ls 2 [(0, .ref (ρ 6)), (1, .ref (ρ x1))]) (ho_x1 : Ob Yc x1 2) (h : m_Rn_begin g S x1 = some S') : W p l e (rmK 5 113 (kap S' - kap S0)) s m args below meth c H locs (kap S - kap S0) (2 * (kap S - kap S0)) (MQ below (QvM D T ρ0 A S') args s (kap S' - kap S0) (2 * (kap S' - kap S0)) A) (F0 m 0 ls []) := by
  have hT := km_Rn_begin h
  unfold m_Rn_begin at h
  have nn : nq S S := nq_rf
  refine lv_aload_n C.1 C.2.1 dX7_begin_0 rfl (lv_at hl 0 rfl) ?_
  refine x_getC C w 4 fX7_30 obC6 rfl dX7_begin_1 ?_
  refine lv_aload_n C.1 C.2.1 dX7_begin_4 rfl (lv_at hl 1 rfl) ?_
  obtain ⟨S_1, hS_1, h⟩ := bnd h
  have hkn := nq_kap nn
  have hk1 := km_Bn_begin hS_1
  have hT2 := km_Rn_begin_8 h
  refine x_callVvM (q := (RX1, TX1, 12)) (As := [.ref (ρ x1)]) (rest := []) C w (k_Bn_begin l D T ρ g H.size S ho_x1 hS_1) vX7_57 (hRK (by decide) (by decide)) obC4 (by decide) rfl rfl rfl hl.1 (Nat.le_of_ble_eq_true rfl) (hcM hm hkn hk1 hT2) dX7_begin_5 (fun ρ1 H locs hag w => ?_)
  replace ha := ha.trans hag
  rw [← hag 6 (by decide)] at hl
  rw [← hag x1 (ncP ho_x1)] at hl
  refine W.widen (k := kap S_1 - kap S0) (n := 2 * (kap S_1 - kap S0)) (by omega) (by omega) ?_
  exact w_Rn_begin_8 C hr hk ha (by omega) w (lv_sub hl [0] rfl) h
end S_Rn_begin
set_option maxRecDepth 100000 in
theorem k_Rn_begin (l : Launch) (D : va_G) (T : Cy) (ρ : Nat → Nat) (g sz : Nat) (S : St) {x1 : Nat} (ho_x1 : Ob Yc x1 2) {S' : St} (h : m_Rn_begin g S x1 = some S') : MvM l D T ρ yX7_begin cX7_begin 2 none 5 113 S S' [.ref (ρ 6), .ref (ρ x1)] sz :=
  x_inR (by decide) (Nat.le_of_ble_eq_true rfl) (fun p e s m below meth c ls C hr hk w hl => W.widen (Nat.zero_le _) (Nat.zero_le _) (w_Rn_begin_0 C hr hk Ag.rf (Nat.le_refl _) w hl ho_x1 h))

theorem dX10_make_0 : decode cX10_make 0 = .ok (.aload_n 1, 1) := by decide +kernel
theorem dX10_make_1 : decode cX10_make 1 = .ok (.getfield 44, 3) := by decide +kernel
theorem dX10_make_4 : decode cX10_make 4 = .ok (.ifCond .ne 9, 3) := by decide +kernel
theorem dX10_make_7 : decode cX10_make 7 = .ok (.iload_n 2, 1) := by decide +kernel
theorem dX10_make_8 : decode cX10_make 8 = .ok (.ifCond .ne 5, 3) := by decide +kernel
theorem dX10_make_11 : decode cX10_make 11 = .ok (.iconst 0, 1) := by decide +kernel
theorem dX10_make_12 : decode cX10_make 12 = .ok (.ireturn, 1) := by decide +kernel
theorem dX10_make_13 : decode cX10_make 13 = .ok (.aload_n 0, 1) := by decide +kernel
theorem dX10_make_14 : decode cX10_make 14 = .ok (.getfield 14, 3) := by decide +kernel
theorem dX10_make_17 : decode cX10_make 17 = .ok (.aload_n 0, 1) := by decide +kernel
theorem dX10_make_18 : decode cX10_make 18 = .ok (.getfield 14, 3) := by decide +kernel
theorem dX10_make_21 : decode cX10_make 21 = .ok (.getfield 44, 3) := by decide +kernel
theorem dX10_make_24 : decode cX10_make 24 = .ok (.aload_n 1, 1) := by decide +kernel
theorem dX10_make_25 : decode cX10_make 25 = .ok (.iconst 0, 1) := by decide +kernel
theorem dX10_make_26 : decode cX10_make 26 = .ok (.aload_n 1, 1) := by decide +kernel
theorem dX10_make_27 : decode cX10_make 27 = .ok (.getfield 44, 3) := by decide +kernel
theorem dX10_make_30 : decode cX10_make 30 = .ok (.invokevirtual 57, 3) := by decide +kernel
theorem dX10_make_33 : decode cX10_make 33 = .ok (.aload_n 0, 1) := by decide +kernel
theorem dX10_make_34 : decode cX10_make 34 = .ok (.getfield 20, 3) := by decide +kernel
theorem dX10_make_37 : decode cX10_make 37 = .ok (.aload_n 0, 1) := by decide +kernel
theorem dX10_make_38 : decode cX10_make 38 = .ok (.getfield 14, 3) := by decide +kernel
theorem dX10_make_41 : decode cX10_make 41 = .ok (.getfield 44, 3) := by decide +kernel
theorem dX10_make_44 : decode cX10_make 44 = .ok (.invokevirtual 33, 3) := by decide +kernel
theorem dX10_make_47 : decode cX10_make 47 = .ok (.aload_n 0, 1) := by decide +kernel
theorem dX10_make_48 : decode cX10_make 48 = .ok (.getfield 20, 3) := by decide +kernel
theorem dX10_make_51 : decode cX10_make 51 = .ok (.getfield 44, 3) := by decide +kernel
theorem dX10_make_54 : decode cX10_make 54 = .ok (.iconst 1, 1) := by decide +kernel
theorem dX10_make_55 : decode cX10_make 55 = .ok (.isub, 1) := by decide +kernel
theorem dX10_make_56 : decode cX10_make 56 = .ok (.ireturn, 1) := by decide +kernel
def m_Tx_make_47 (g : Nat) (S : St) : Option (St × Int32) :=
some (S, (gI S 19 2) - (1 : Int32))
def m_Tx_make_33 (g : Nat) (S : St) : Option (St × Int32) :=
(m_Row_add g S 19 (gI S 18 2)).bind fun S_2 =>
m_Tx_make_47 g S_2
def m_Tx_make_13 (g : Nat) (S : St) (x1 : Nat) : Option (St × Int32) :=
(m_Row_insert g S 18 (gI S 18 2) x1 (0 : Int32) (gI S x1 2)).bind fun S_1 =>
m_Tx_make_33 g S_1
def m_Tx_make (g : Nat) (S : St) (x1 : Nat) (x2 : Int32) : Option (St × Int32) :=
if (gI S x1 2) = 0 then (
  if x2 = 0 then (
    some (S, (0 : Int32))
  ) else (
    m_Tx_make_13 g S x1
  )
) else (
  m_Tx_make_13 g S x1
)
theorem km_Tx_make_47 {g : Nat} {S : St} {S' : St} {r : Int32} (h : m_Tx_make_47 g S = some (S', r)) : kap S ≤ kap S' := by
  unfold m_Tx_make_47 at h
  have nn : nq S S := nq_rf
  obtain ⟨rfl, rfl⟩ := prI h
  have hkn := nq_kap nn
  omega
theorem km_Tx_make_33 {g : Nat} {S : St} {S' : St} {r : Int32} (h : m_Tx_make_33 g S = some (S', r)) : kap S ≤ kap S' := by
  unfold m_Tx_make_33 at h
  have nn : nq S S := nq_rf
  obtain ⟨S_2, hS_2, h⟩ := bnd h
  have hk1 := km_Row_add hS_2
  have hkn := nq_kap nn
  have h2 := km_Tx_make_47 h
  omega
theorem km_Tx_make_13 {g : Nat} {S : St} {x1 : Nat} {S' : St} {r : Int32} (h : m_Tx_make_13 g S x1 = some (S', r)) : kap S ≤ kap S' := by
  unfold m_Tx_make_13 at h
  have nn : nq S S := nq_rf
  obtain ⟨S_1, hS_1, h⟩ := bnd h
  have hk1 := km_Row_insert hS_1
  have hkn := nq_kap nn
  have h2 := km_Tx_make_33 h
  omega
theorem km_Tx_make {g : Nat} {S : St} {x1 : Nat} {x2 : Int32} {S' : St} {r : Int32} (h : m_Tx_make g S x1 x2 = some (S', r)) : kap S ≤ kap S' := by
  unfold m_Tx_make at h
  have nn : nq S S := nq_rf
  by_cases hc1 : (gI S x1 2) = 0
  · replace h := ift hc1 h
    by_cases hc2 : x2 = 0
    · replace h := ift hc2 h
      obtain ⟨rfl, rfl⟩ := prI h
      have hkn := nq_kap nn
      omega
    · replace h := iff0 hc2 h
      have hkn := nq_kap nn
      have h2 := km_Tx_make_13 h
      omega
  · replace h := iff0 hc1 h
    have hkn := nq_kap nn
    have h2 := km_Tx_make_13 h
    omega
section S_Tx_make
variable {p : Program} {l : Launch} {e : Env} {s : State} {m : MethodId} {args : Array Value} {below : List Frame} {meth : Method} {c : Code} {H : Heap} {locs : List Loc} {ls : Array Slot} {D : va_G} {T : Cy} {ρ ρ0 : Nat → Nat} {S0 : St} {A : Nat → Prop}
set_option maxRecDepth 100000 in
set_option maxHeartbeats 4000000 in
theorem w_Tx_make_47 {g : Nat} {S : St} (C : CallFix p m c cX10_make 3 s args tb RX10) (hr : meth.sig.returnType = (some .int)) (hk : meth.locks = false) {S' : St} {r : Int32} (ha : Ag ρ0 ρ) (hm : kap S0 ≤ kap S) (w : Wn Yc D T ρ S A s H locs) (hl : lv_has ls 3 [(0, .ref (ρ 5))]) (h : m_Tx_make_47 g S = some (S', r)) : W p l e (rmK 3 73 (kap S' - kap S0)) s m args below meth c H locs (kap S - kap S0) (2 * (kap S - kap S0)) (MQ below (QiM D T ρ0 A S' r) args s (kap S' - kap S0) (2 * (kap S' - kap S0)) A) (F0 m 47 ls []) := by
  have hT := km_Tx_make_47 h
  unfold m_Tx_make_47 at h
  have nn : nq S S := nq_rf
  refine lv_aload_n C.1 C.2.1 dX10_make_47 rfl (lv_at hl 0 rfl) ?_
  refine x_getC C w 19 fX10_20 obC5 rfl dX10_make_48 ?_
  refine x_getI C w fX10_44 obC19 dX10_make_51 ?_
  refine lv_iconst (v := 1) C.1 C.2.1 dX10_make_54 (by decide) ?_
  refine lv_isub C.1 C.2.1 dX10_make_55 ?_
  obtain ⟨rfl, rfl⟩ := prI h
  exact x_iretM C w ha hr hk dX10_make_56 (by have := nq_kap nn; omega) (by have := nq_kap nn; omega)
set_option maxRecDepth 100000 in
set_option maxHeartbeats 4000000 in
theorem w_Tx_make_33 {g : Nat} {S : St} (C : CallFix p m c cX10_make 3 s args tb RX10) (hr : meth.sig.returnType = (some .int)) (hk : meth.locks = false) {S' : St} {r : Int32} (ha : Ag ρ0 ρ) (hm : kap S0 ≤ kap S) (w : Wn Yc D T ρ S A s H locs) (hl : lv_has ls 3 [(0, .ref (ρ 5))]) (h : m_Tx_make_33 g S = some (S', r)) : W p l e (rmK 3 73 (kap S' - kap S0)) s m args below meth c H locs (kap S - kap S0) (2 * (kap S - kap S0)) (MQ below (QiM D T ρ0 A S' r) args s (kap S' - kap S0) (2 * (kap S' - kap S0)) A) (F0 m 33 ls []) := by
  have hT := km_Tx_make_33 h
  unfold m_Tx_make_33 at h
  have nn : nq S S := nq_rf
  refine lv_aload_n C.1 C.2.1 dX10_make_33 rfl (lv_at hl 0 rfl) ?_
  refine x_getC C w 19 fX10_20 obC5 rfl dX10_make_34 ?_
  refine lv_aload_n C.1 C.2.1 dX10_make_37 rfl (lv_at hl 0 rfl) ?_
  refine x_getC C w 18 fX10_14 obC5 rfl dX10_make_38 ?_
  refine x_getI C w fX10_44 obC18 dX10_make_41 ?_
  obtain ⟨S_2, hS_2, h⟩ := bnd h
  have hkn := nq_kap nn
  have hk1 := km_Row_add hS_2
  have hT2 := km_Tx_make_47 h
  refine x_callVvM (q := (RX6, TX6, 4)) (As := [.int (gI S 18 2)]) (rest := []) C w (k_Row_add l D T ρ g H.size S obC19 hS_2) vX10_33 (hRK (by decide) (by decide)) obC19 (by decide) rfl rfl rfl hl.1 (Nat.le_of_ble_eq_true rfl) (hcM hm hkn hk1 hT2) dX10_make_44 (fun ρ1 H locs hag w => ?_)
  replace ha := ha.trans hag
  rw [← hag 5 (by decide)] at hl
  refine W.widen (k := kap S_2 - kap S0) (n := 2 * (kap S_2 - kap S0)) (by omega) (by omega) ?_
  exact w_Tx_make_47 C hr hk ha (by omega) w (lv_sub hl [0] rfl) h
set_option maxRecDepth 100000 in
set_option maxHeartbeats 4000000 in
theorem w_Tx_make_13 {g : Nat} {S : St} {x1 : Nat} (C : CallFix p m c cX10_make 3 s args tb RX10) (hr : meth.sig.returnType = (some .int)) (hk : meth.locks = false) {S' : St} {r : Int32} (ha : Ag ρ0 ρ) (hm : kap S0 ≤ kap S) (w : Wn Yc D T ρ S A s H locs) (hl : lv_has ls 3 [(0, .ref (ρ 5)), (1, .ref (ρ x1))]) (ho_x1 : Ob Yc x1 4) (h : m_Tx_make_13 g S x1 = some (S', r)) : W p l e (rmK 3 73 (kap S' - kap S0)) s m args below meth c H locs (kap S - kap S0) (2 * (kap S - kap S0)) (MQ below (QiM D T ρ0 A S' r) args s (kap S' - kap S0) (2 * (kap S' - kap S0)) A) (F0 m 13 ls []) := by
  have hT := km_Tx_make_13 h
  unfold m_Tx_make_13 at h
  have nn : nq S S := nq_rf
  refine lv_aload_n C.1 C.2.1 dX10_make_13 rfl (lv_at hl 0 rfl) ?_
  refine x_getC C w 18 fX10_14 obC5 rfl dX10_make_14 ?_
  refine lv_aload_n C.1 C.2.1 dX10_make_17 rfl (lv_at hl 0 rfl) ?_
  refine x_getC C w 18 fX10_14 obC5 rfl dX10_make_18 ?_
  refine x_getI C w fX10_44 obC18 dX10_make_21 ?_
  refine lv_aload_n C.1 C.2.1 dX10_make_24 rfl (lv_at hl 1 rfl) ?_
  refine lv_iconst (v := 0) C.1 C.2.1 dX10_make_25 (by decide) ?_
  refine lv_aload_n C.1 C.2.1 dX10_make_26 rfl (lv_at hl 1 rfl) ?_
  refine x_getI C w fX10_44 ho_x1 dX10_make_27 ?_
  obtain ⟨S_1, hS_1, h⟩ := bnd h
  have hkn := nq_kap nn
  have hk1 := km_Row_insert hS_1
  have hT2 := km_Tx_make_33 h
  refine x_callVvM (q := (RX6, TX6, 4)) (As := [.int (gI S 18 2), .ref (ρ x1), .int (0 : Int32), .int (gI S x1 2)]) (rest := []) C w (k_Row_insert l D T ρ g H.size S obC18 ho_x1 hS_1) vX10_57 (hRK (by decide) (by decide)) obC18 (by decide) rfl rfl rfl hl.1 (Nat.le_of_ble_eq_true rfl) (hcM hm hkn hk1 hT2) dX10_make_30 (fun ρ1 H locs hag w => ?_)
  replace ha := ha.trans hag
  rw [← hag 5 (by decide)] at hl
  rw [← hag x1 (ncR ho_x1)] at hl
  refine W.widen (k := kap S_1 - kap S0) (n := 2 * (kap S_1 - kap S0)) (by omega) (by omega) ?_
  exact w_Tx_make_33 C hr hk ha (by omega) w (lv_sub hl [0] rfl) h
set_option maxRecDepth 100000 in
set_option maxHeartbeats 4000000 in
theorem w_Tx_make_0 {g : Nat} {S : St} {x1 : Nat} {x2 : Int32} (C : CallFix p m c cX10_make 3 s args tb RX10) (hr : meth.sig.returnType = (some .int)) (hk : meth.locks = false) {S' : St} {r : Int32} (ha : Ag ρ0 ρ) (hm : kap S0 ≤ kap S) (w : Wn Yc D T ρ S A s H locs) (hl : lv_has ls 3 [(0, .ref (ρ 5)), (1, .ref (ρ x1)), (2, .int x2)]) (ho_x1 : Ob Yc x1 4) (h : m_Tx_make g S x1 x2 = some (S', r)) : W p l e (rmK 3 73 (kap S' - kap S0)) s m args below meth c H locs (kap S - kap S0) (2 * (kap S - kap S0)) (MQ below (QiM D T ρ0 A S' r) args s (kap S' - kap S0) (2 * (kap S' - kap S0)) A) (F0 m 0 ls []) := by
  have hT := km_Tx_make h
  unfold m_Tx_make at h
  have nn : nq S S := nq_rf
  refine lv_aload_n C.1 C.2.1 dX10_make_0 rfl (lv_at hl 1 rfl) ?_
  refine x_getI C w fX10_44 ho_x1 dX10_make_1 ?_
  refine lv_if_ne (tgt := 13) C.1 C.2.1 dX10_make_4 (by decide) (fun hc => ?_) (fun hc => ?_)
  · replace h := iff0 hc h
    have hkn := nq_kap nn
    refine W.widen (k := kap S - kap S0) (n := 2 * (kap S - kap S0)) (by omega) (by omega) ?_
    exact w_Tx_make_13 C hr hk ha (by omega) w (lv_sub hl [0, 1] rfl) ho_x1 h
  · replace h := ift hc h
    refine lv_iload_n C.1 C.2.1 dX10_make_7 rfl (lv_at hl 2 rfl) ?_
    refine lv_if_ne (tgt := 13) C.1 C.2.1 dX10_make_8 (by decide) (fun hc => ?_) (fun hc => ?_)
    · replace h := iff0 hc h
      have hkn := nq_kap nn
      refine W.widen (k := kap S - kap S0) (n := 2 * (kap S - kap S0)) (by omega) (by omega) ?_
      exact w_Tx_make_13 C hr hk ha (by omega) w (lv_sub hl [0, 1] rfl) ho_x1 h
    · replace h := ift hc h
      refine lv_iconst (v := 0) C.1 C.2.1 dX10_make_11 (by decide) ?_
      obtain ⟨rfl, rfl⟩ := prI h
      exact x_iretM C w ha hr hk dX10_make_12 (by have := nq_kap nn; omega) (by have := nq_kap nn; omega)
end S_Tx_make
set_option maxRecDepth 100000 in
theorem k_Tx_make (l : Launch) (D : va_G) (T : Cy) (ρ : Nat → Nat) (g sz : Nat) (S : St) {x1 : Nat} {x2 : Int32} (ho_x1 : Ob Yc x1 4) {S' : St} {r : Int32} (h : m_Tx_make g S x1 x2 = some (S', r)) : MiM l D T ρ yX10_make cX10_make 3 (some .int) 3 73 S S' r [.ref (ρ 5), .ref (ρ x1), .int x2] sz :=
  x_inR (by decide) (Nat.le_of_ble_eq_true rfl) (fun p e s m below meth c ls C hr hk w hl => W.widen (Nat.zero_le _) (Nat.zero_le _) (w_Tx_make_0 C hr hk Ag.rf (Nat.le_refl _) w hl ho_x1 h))

theorem dX9_become_0 : decode cX9_become 0 = .ok (.iload_n 2, 1) := by decide +kernel
theorem dX9_become_1 : decode cX9_become 1 = .ok (.ifCond .ne 12, 3) := by decide +kernel
theorem dX9_become_4 : decode cX9_become 4 = .ok (.aload_n 0, 1) := by decide +kernel
theorem dX9_become_5 : decode cX9_become 5 = .ok (.getfield 23, 3) := by decide +kernel
theorem dX9_become_8 : decode cX9_become 8 = .ok (.iload_n 1, 1) := by decide +kernel
theorem dX9_become_9 : decode cX9_become 9 = .ok (.invokevirtual 61, 3) := by decide +kernel
theorem dX9_become_12 : decode cX9_become 12 = .ok (.ireturn, 1) := by decide +kernel
theorem dX9_become_13 : decode cX9_become 13 = .ok (.aload_n 0, 1) := by decide +kernel
theorem dX9_become_14 : decode cX9_become 14 = .ok (.getfield 37, 3) := by decide +kernel
theorem dX9_become_17 : decode cX9_become 17 = .ok (.getfield 139, 3) := by decide +kernel
theorem dX9_become_20 : decode cX9_become 20 = .ok (.ifCond .eq 7, 3) := by decide +kernel
theorem dX9_become_23 : decode cX9_become 23 = .ok (.iconst 5, 1) := by decide +kernel
theorem dX9_become_24 : decode cX9_become 24 = .ok (.goto 22, 3) := by decide +kernel
theorem dX9_become_27 : decode cX9_become 27 = .ok (.aload_n 0, 1) := by decide +kernel
theorem dX9_become_28 : decode cX9_become 28 = .ok (.getfield 23, 3) := by decide +kernel
theorem dX9_become_31 : decode cX9_become 31 = .ok (.aload_n 0, 1) := by decide +kernel
theorem dX9_become_32 : decode cX9_become 32 = .ok (.getfield 33, 3) := by decide +kernel
theorem dX9_become_35 : decode cX9_become 35 = .ok (.aload_n 0, 1) := by decide +kernel
theorem dX9_become_36 : decode cX9_become 36 = .ok (.getfield 37, 3) := by decide +kernel
theorem dX9_become_39 : decode cX9_become 39 = .ok (.iconst 0, 1) := by decide +kernel
theorem dX9_become_40 : decode cX9_become 40 = .ok (.invokevirtual 67, 3) := by decide +kernel
theorem dX9_become_43 : decode cX9_become 43 = .ok (.invokevirtual 61, 3) := by decide +kernel
theorem dX9_become_46 : decode cX9_become 46 = .ok (.ireturn, 1) := by decide +kernel
def m_TS_become_43 (g : Nat) (S : St) (y1 : Int32) : Option (St × Int32) :=
(m_Bn_giveText g S y1).bind fun (S_3, v_4) =>
some (S_3, v_4)
def m_TS_become (g : Nat) (S : St) (x1 : Int32) (x2 : Int32) : Option (St × Int32) :=
if x2 = 0 then (
  (m_Bn_giveText g S x1).bind fun (S_3, v_4) =>
  some (S_3, v_4)
) else (
  if (gI S 23 3) = 0 then (
    (m_Tx_make g S 23 (0 : Int32)).bind fun (S_1, v_2) =>
    m_TS_become_43 g S_1 v_2
  ) else (
    some (S, (5 : Int32))
  )
)
theorem km_TS_become_43 {g : Nat} {S : St} {y1 : Int32} {S' : St} {r : Int32} (h : m_TS_become_43 g S y1 = some (S', r)) : kap S ≤ kap S' := by
  unfold m_TS_become_43 at h
  have nn : nq S S := nq_rf
  obtain ⟨⟨S_3, v_4⟩, hv_4, h⟩ := bnd h
  replace nn : nq S_3 S := nq_tr (kq_Bn_giveText hv_4) nn
  obtain ⟨rfl, rfl⟩ := prI h
  have hkn := nq_kap nn
  omega
theorem km_TS_become {g : Nat} {S : St} {x1 : Int32} {x2 : Int32} {S' : St} {r : Int32} (h : m_TS_become g S x1 x2 = some (S', r)) : kap S ≤ kap S' := by
  unfold m_TS_become at h
  have nn : nq S S := nq_rf
  by_cases hc1 : x2 = 0
  · replace h := ift hc1 h
    obtain ⟨⟨S_3, v_4⟩, hv_4, h⟩ := bnd h
    replace nn : nq S_3 S := nq_tr (kq_Bn_giveText hv_4) nn
    obtain ⟨rfl, rfl⟩ := prI h
    have hkn := nq_kap nn
    omega
  · replace h := iff0 hc1 h
    by_cases hc2 : (gI S 23 3) = 0
    · replace h := ift hc2 h
      obtain ⟨⟨S_1, v_2⟩, hv_2, h⟩ := bnd h
      have hk1 := km_Tx_make hv_2
      have hkn := nq_kap nn
      have h2 := km_TS_become_43 h
      omega
    · replace h := iff0 hc2 h
      obtain ⟨rfl, rfl⟩ := prI h
      have hkn := nq_kap nn
      omega
section S_TS_become
variable {p : Program} {l : Launch} {e : Env} {s : State} {m : MethodId} {args : Array Value} {below : List Frame} {meth : Method} {c : Code} {H : Heap} {locs : List Loc} {ls : Array Slot} {D : va_G} {T : Cy} {ρ ρ0 : Nat → Nat} {S0 : St} {A : Nat → Prop}
set_option maxRecDepth 100000 in
set_option maxHeartbeats 4000000 in
theorem w_TS_become_43 {g : Nat} {S : St} {y1 : Int32} (C : CallFix p m c cX9_become 3 s args tb RX9) (hr : meth.sig.returnType = (some .int)) (hk : meth.locks = false) {S' : St} {r : Int32} (ha : Ag ρ0 ρ) (hm : kap S0 ≤ kap S) (w : Wn Yc D T ρ S A s H locs) (hl : lv_has ls 3 []) (h : m_TS_become_43 g S y1 = some (S', r)) : W p l e (rmK 4 95 (kap S' - kap S0)) s m args below meth c H locs (kap S - kap S0) (2 * (kap S - kap S0)) (MQ below (QiM D T ρ0 A S' r) args s (kap S' - kap S0) (2 * (kap S' - kap S0)) A) (F0 m 43 ls [.int y1, .ref (ρ 4)]) := by
  have hT := km_TS_become_43 h
  unfold m_TS_become_43 at h
  have nn : nq S S := nq_rf
  obtain ⟨⟨S_3, v_4⟩, hv_4, h⟩ := bnd h
  replace nn : nq S_3 S := nq_tr (kq_Bn_giveText hv_4) nn
  refine x_callVi (q := (RX1, TX1, 12)) (As := [.int y1]) (rest := []) C w (k_Bn_giveText l D T ρ g H.size S hv_4) vX9_61 (hRK (by decide) (by decide)) obC4 (by decide) rfl rfl rfl hl.1 (Nat.le_of_ble_eq_true rfl) (hcK hT) dX9_become_43 (fun H locs w => ?_)
  obtain ⟨rfl, rfl⟩ := prI h
  exact x_iretM C w ha hr hk dX9_become_46 (by have := nq_kap nn; omega) (by have := nq_kap nn; omega)
set_option maxRecDepth 100000 in
set_option maxHeartbeats 4000000 in
theorem w_TS_become_0 {g : Nat} {S : St} {x1 : Int32} {x2 : Int32} (C : CallFix p m c cX9_become 3 s args tb RX9) (hr : meth.sig.returnType = (some .int)) (hk : meth.locks = false) {S' : St} {r : Int32} (ha : Ag ρ0 ρ) (hm : kap S0 ≤ kap S) (w : Wn Yc D T ρ S A s H locs) (hl : lv_has ls 3 [(0, .ref (ρ 7)), (1, .int x1), (2, .int x2)]) (h : m_TS_become g S x1 x2 = some (S', r)) : W p l e (rmK 4 95 (kap S' - kap S0)) s m args below meth c H locs (kap S - kap S0) (2 * (kap S - kap S0)) (MQ below (QiM D T ρ0 A S' r) args s (kap S' - kap S0) (2 * (kap S' - kap S0)) A) (F0 m 0 ls []) := by
  have hT := km_TS_become h
  unfold m_TS_become at h
  have nn : nq S S := nq_rf
  refine lv_iload_n C.1 C.2.1 dX9_become_0 rfl (lv_at hl 2 rfl) ?_
  refine lv_if_ne (tgt := 13) C.1 C.2.1 dX9_become_1 (by decide) (fun hc => ?_) (fun hc => ?_)
  · replace h := iff0 hc h
    refine lv_aload_n C.1 C.2.1 dX9_become_13 rfl (lv_at hl 0 rfl) ?_
    refine x_getC C w 23 fX9_37 obC7 rfl dX9_become_14 ?_
    refine x_getI C w fX9_139 obC23 dX9_become_17 ?_
    refine lv_if_eq (tgt := 27) C.1 C.2.1 dX9_become_20 (by decide) (fun hc => ?_) (fun hc => ?_)
    · replace h := ift hc h
      refine lv_aload_n C.1 C.2.1 dX9_become_27 rfl (lv_at hl 0 rfl) ?_
      refine x_getC C w 4 fX9_23 obC7 rfl dX9_become_28 ?_
      refine lv_aload_n C.1 C.2.1 dX9_become_31 rfl (lv_at hl 0 rfl) ?_
      refine x_getC C w 5 fX9_33 obC7 rfl dX9_become_32 ?_
      refine lv_aload_n C.1 C.2.1 dX9_become_35 rfl (lv_at hl 0 rfl) ?_
      refine x_getC C w 23 fX9_37 obC7 rfl dX9_become_36 ?_
      refine lv_iconst (v := 0) C.1 C.2.1 dX9_become_39 (by decide) ?_
      obtain ⟨⟨S_1, v_2⟩, hv_2, h⟩ := bnd h
      have hkn := nq_kap nn
      have hk1 := km_Tx_make hv_2
      have hT2 := km_TS_become_43 h
      refine x_callViM (q := (RX10, TX10, 5)) (As := [.ref (ρ 23), .int (0 : Int32)]) (rest := [.ref (ρ 4)]) C w (k_Tx_make l D T ρ g H.size S obC23 hv_2) vX9_67 (hRK (by decide) (by decide)) obC5 (by decide) rfl rfl rfl hl.1 (Nat.le_of_ble_eq_true rfl) (hcM hm hkn hk1 hT2) dX9_become_40 (fun ρ1 H locs hag w => ?_)
      replace ha := ha.trans hag
      rw [← hag 7 (by decide)] at hl
      rw [← hag 4 (by decide)]
      refine W.widen (k := kap S_1 - kap S0) (n := 2 * (kap S_1 - kap S0)) (by omega) (by omega) ?_
      exact w_TS_become_43 C hr hk ha (by omega) w (lv_sub hl [] rfl) h
    · replace h := iff0 hc h
      refine lv_iconst (v := 5) C.1 C.2.1 dX9_become_23 (by decide) ?_
      refine lv_goto (tgt := 46) C.1 C.2.1 dX9_become_24 (by decide) ?_
      obtain ⟨rfl, rfl⟩ := prI h
      exact x_iretM C w ha hr hk dX9_become_46 (by have := nq_kap nn; omega) (by have := nq_kap nn; omega)
  · replace h := ift hc h
    refine lv_aload_n C.1 C.2.1 dX9_become_4 rfl (lv_at hl 0 rfl) ?_
    refine x_getC C w 4 fX9_23 obC7 rfl dX9_become_5 ?_
    refine lv_iload_n C.1 C.2.1 dX9_become_8 rfl (lv_at hl 1 rfl) ?_
    obtain ⟨⟨S_3, v_4⟩, hv_4, h⟩ := bnd h
    replace nn : nq S_3 S := nq_tr (kq_Bn_giveText hv_4) nn
    refine x_callVi (q := (RX1, TX1, 12)) (As := [.int x1]) (rest := []) C w (k_Bn_giveText l D T ρ g H.size S hv_4) vX9_61 (hRK (by decide) (by decide)) obC4 (by decide) rfl rfl rfl hl.1 (Nat.le_of_ble_eq_true rfl) (hcK hT) dX9_become_9 (fun H locs w => ?_)
    obtain ⟨rfl, rfl⟩ := prI h
    exact x_iretM C w ha hr hk dX9_become_12 (by have := nq_kap nn; omega) (by have := nq_kap nn; omega)
end S_TS_become
set_option maxRecDepth 100000 in
theorem k_TS_become (l : Launch) (D : va_G) (T : Cy) (ρ : Nat → Nat) (g sz : Nat) (S : St) {x1 : Int32} {x2 : Int32} {S' : St} {r : Int32} (h : m_TS_become g S x1 x2 = some (S', r)) : MiM l D T ρ yX9_become cX9_become 3 (some .int) 4 95 S S' r [.ref (ρ 7), .int x1, .int x2] sz :=
  x_inR (by decide) (Nat.le_of_ble_eq_true rfl) (fun p e s m below meth c ls C hr hk w hl => W.widen (Nat.zero_le _) (Nat.zero_le _) (w_TS_become_0 C hr hk Ag.rf (Nat.le_refl _) w hl h))

theorem dX9_intern_0 : decode cX9_intern 0 = .ok (.aload_n 0, 1) := by decide +kernel
theorem dX9_intern_1 : decode cX9_intern 1 = .ok (.getfield 33, 3) := by decide +kernel
theorem dX9_intern_4 : decode cX9_intern 4 = .ok (.aload_n 0, 1) := by decide +kernel
theorem dX9_intern_5 : decode cX9_intern 5 = .ok (.getfield 33, 3) := by decide +kernel
theorem dX9_intern_8 : decode cX9_intern 8 = .ok (.getfield 143, 3) := by decide +kernel
theorem dX9_intern_11 : decode cX9_intern 11 = .ok (.aload_n 0, 1) := by decide +kernel
theorem dX9_intern_12 : decode cX9_intern 12 = .ok (.getfield 33, 3) := by decide +kernel
theorem dX9_intern_15 : decode cX9_intern 15 = .ok (.iload_n 1, 1) := by decide +kernel
theorem dX9_intern_16 : decode cX9_intern 16 = .ok (.invokevirtual 146, 3) := by decide +kernel
theorem dX9_intern_19 : decode cX9_intern 19 = .ok (.aload_n 0, 1) := by decide +kernel
theorem dX9_intern_20 : decode cX9_intern 20 = .ok (.getfield 33, 3) := by decide +kernel
theorem dX9_intern_23 : decode cX9_intern 23 = .ok (.iload_n 1, 1) := by decide +kernel
theorem dX9_intern_24 : decode cX9_intern 24 = .ok (.invokevirtual 149, 3) := by decide +kernel
theorem dX9_intern_27 : decode cX9_intern 27 = .ok (.invokevirtual 152, 3) := by decide +kernel
theorem dX9_intern_30 : decode cX9_intern 30 = .ok (.istore_n 2, 1) := by decide +kernel
theorem dX9_intern_31 : decode cX9_intern 31 = .ok (.iload_n 2, 1) := by decide +kernel
theorem dX9_intern_32 : decode cX9_intern 32 = .ok (.iconst (-1), 1) := by decide +kernel
theorem dX9_intern_33 : decode cX9_intern 33 = .ok (.if_icmp .ne 16, 3) := by decide +kernel
theorem dX9_intern_36 : decode cX9_intern 36 = .ok (.aload_n 0, 1) := by decide +kernel
theorem dX9_intern_37 : decode cX9_intern 37 = .ok (.getfield 33, 3) := by decide +kernel
theorem dX9_intern_40 : decode cX9_intern 40 = .ok (.getfield 156, 3) := by decide +kernel
theorem dX9_intern_43 : decode cX9_intern 43 = .ok (.iload_n 1, 1) := by decide +kernel
theorem dX9_intern_44 : decode cX9_intern 44 = .ok (.invokevirtual 159, 3) := by decide +kernel
theorem dX9_intern_47 : decode cX9_intern 47 = .ok (.iload_n 1, 1) := by decide +kernel
theorem dX9_intern_48 : decode cX9_intern 48 = .ok (.istore_n 2, 1) := by decide +kernel
theorem dX9_intern_49 : decode cX9_intern 49 = .ok (.aload_n 0, 1) := by decide +kernel
theorem dX9_intern_50 : decode cX9_intern 50 = .ok (.getfield 23, 3) := by decide +kernel
theorem dX9_intern_53 : decode cX9_intern 53 = .ok (.iload_n 2, 1) := by decide +kernel
theorem dX9_intern_54 : decode cX9_intern 54 = .ok (.invokevirtual 61, 3) := by decide +kernel
theorem dX9_intern_57 : decode cX9_intern 57 = .ok (.ireturn, 1) := by decide +kernel
def m_TS_intern_49 (g : Nat) (S : St) (x2 : Int32) : Option (St × Int32) :=
(m_Bn_giveText g S x2).bind fun (S_4, v_5) =>
some (S_4, v_5)
def m_TS_intern_47 (g : Nat) (S : St) (x1 : Int32) : Option (St × Int32) :=
m_TS_intern_49 g S x1
def m_TS_intern (g : Nat) (S : St) (x1 : Int32) : Option (St × Int32) :=
(m_Tx_startOf g S x1).bind fun v_1 =>
(m_Tx_endOf g S x1).bind fun v_2 =>
(m_Tx_pooledWith g S 18 v_1 v_2).bind fun v_3 =>
if v_3 = (-1 : Int32) then (
  (m_Row_add g S 20 x1).bind fun S_4 =>
  m_TS_intern_47 g S_4 x1
) else (
  m_TS_intern_49 g S v_3
)
theorem km_TS_intern_49 {g : Nat} {S : St} {x2 : Int32} {S' : St} {r : Int32} (h : m_TS_intern_49 g S x2 = some (S', r)) : kap S ≤ kap S' := by
  unfold m_TS_intern_49 at h
  have nn : nq S S := nq_rf
  obtain ⟨⟨S_4, v_5⟩, hv_5, h⟩ := bnd h
  replace nn : nq S_4 S := nq_tr (kq_Bn_giveText hv_5) nn
  obtain ⟨rfl, rfl⟩ := prI h
  have hkn := nq_kap nn
  omega
theorem km_TS_intern_47 {g : Nat} {S : St} {x1 : Int32} {S' : St} {r : Int32} (h : m_TS_intern_47 g S x1 = some (S', r)) : kap S ≤ kap S' := by
  unfold m_TS_intern_47 at h
  have nn : nq S S := nq_rf
  have hkn := nq_kap nn
  have h2 := km_TS_intern_49 h
  omega
theorem km_TS_intern {g : Nat} {S : St} {x1 : Int32} {S' : St} {r : Int32} (h : m_TS_intern g S x1 = some (S', r)) : kap S ≤ kap S' := by
  unfold m_TS_intern at h
  have nn : nq S S := nq_rf
  obtain ⟨v_1, hv_1, h⟩ := bnd h
  obtain ⟨v_2, hv_2, h⟩ := bnd h
  obtain ⟨v_3, hv_3, h⟩ := bnd h
  by_cases hc1 : v_3 = (-1 : Int32)
  · replace h := ift hc1 h
    obtain ⟨S_4, hS_4, h⟩ := bnd h
    have hk1 := km_Row_add hS_4
    have hkn := nq_kap nn
    have h2 := km_TS_intern_47 h
    omega
  · replace h := iff0 hc1 h
    have hkn := nq_kap nn
    have h2 := km_TS_intern_49 h
    omega
section S_TS_intern
variable {p : Program} {l : Launch} {e : Env} {s : State} {m : MethodId} {args : Array Value} {below : List Frame} {meth : Method} {c : Code} {H : Heap} {locs : List Loc} {ls : Array Slot} {D : va_G} {T : Cy} {ρ ρ0 : Nat → Nat} {S0 : St} {A : Nat → Prop}
set_option maxRecDepth 100000 in
set_option maxHeartbeats 4000000 in
theorem w_TS_intern_49 {g : Nat} {S : St} {x2 : Int32} (C : CallFix p m c cX9_intern 3 s args tb RX9) (hr : meth.sig.returnType = (some .int)) (hk : meth.locks = false) {S' : St} {r : Int32} (ha : Ag ρ0 ρ) (hm : kap S0 ≤ kap S) (w : Wn Yc D T ρ S A s H locs) (hl : lv_has ls 3 [(0, .ref (ρ 7)), (2, .int x2)]) (h : m_TS_intern_49 g S x2 = some (S', r)) : W p l e (rmK 3 69 (kap S' - kap S0)) s m args below meth c H locs (kap S - kap S0) (2 * (kap S - kap S0)) (MQ below (QiM D T ρ0 A S' r) args s (kap S' - kap S0) (2 * (kap S' - kap S0)) A) (F0 m 49 ls []) := by
  have hT := km_TS_intern_49 h
  unfold m_TS_intern_49 at h
  have nn : nq S S := nq_rf
  refine lv_aload_n C.1 C.2.1 dX9_intern_49 rfl (lv_at hl 0 rfl) ?_
  refine x_getC C w 4 fX9_23 obC7 rfl dX9_intern_50 ?_
  refine lv_iload_n C.1 C.2.1 dX9_intern_53 rfl (lv_at hl 1 rfl) ?_
  obtain ⟨⟨S_4, v_5⟩, hv_5, h⟩ := bnd h
  replace nn : nq S_4 S := nq_tr (kq_Bn_giveText hv_5) nn
  refine x_callVi (q := (RX1, TX1, 12)) (As := [.int x2]) (rest := []) C w (k_Bn_giveText l D T ρ g H.size S hv_5) vX9_61 (hRK (by decide) (by decide)) obC4 (by decide) rfl rfl rfl hl.1 (Nat.le_of_ble_eq_true rfl) (hcK hT) dX9_intern_54 (fun H locs w => ?_)
  obtain ⟨rfl, rfl⟩ := prI h
  exact x_iretM C w ha hr hk dX9_intern_57 (by have := nq_kap nn; omega) (by have := nq_kap nn; omega)
set_option maxRecDepth 100000 in
set_option maxHeartbeats 4000000 in
theorem w_TS_intern_47 {g : Nat} {S : St} {x1 : Int32} (C : CallFix p m c cX9_intern 3 s args tb RX9) (hr : meth.sig.returnType = (some .int)) (hk : meth.locks = false) {S' : St} {r : Int32} (ha : Ag ρ0 ρ) (hm : kap S0 ≤ kap S) (w : Wn Yc D T ρ S A s H locs) (hl : lv_has ls 3 [(0, .ref (ρ 7)), (1, .int x1)]) (h : m_TS_intern_47 g S x1 = some (S', r)) : W p l e (rmK 3 69 (kap S' - kap S0)) s m args below meth c H locs (kap S - kap S0) (2 * (kap S - kap S0)) (MQ below (QiM D T ρ0 A S' r) args s (kap S' - kap S0) (2 * (kap S' - kap S0)) A) (F0 m 47 ls []) := by
  have hT := km_TS_intern_47 h
  unfold m_TS_intern_47 at h
  have nn : nq S S := nq_rf
  refine lv_iload_n C.1 C.2.1 dX9_intern_47 rfl (lv_at hl 1 rfl) ?_
  refine lv_istore_n (lv' := [(2, .int x1), (0, .ref (ρ 7)), (1, .int x1)]) C.1 C.2.1 dX9_intern_48 rfl hl (by decide) rfl (fun ls hl => ?_)
  have hkn := nq_kap nn
  refine W.widen (k := kap S - kap S0) (n := 2 * (kap S - kap S0)) (by omega) (by omega) ?_
  exact w_TS_intern_49 C hr hk ha (by omega) w (lv_sub hl [1, 0] rfl) h
set_option maxRecDepth 100000 in
set_option maxHeartbeats 4000000 in
theorem w_TS_intern_0 {g : Nat} {S : St} {x1 : Int32} (C : CallFix p m c cX9_intern 3 s args tb RX9) (hr : meth.sig.returnType = (some .int)) (hk : meth.locks = false) {S' : St} {r : Int32} (ha : Ag ρ0 ρ) (hm : kap S0 ≤ kap S) (w : Wn Yc D T ρ S A s H locs) (hl : lv_has ls 3 [(0, .ref (ρ 7)), (1, .int x1)]) (h : m_TS_intern g S x1 = some (S', r)) : W p l e (rmK 3 69 (kap S' - kap S0)) s m args below meth c H locs (kap S - kap S0) (2 * (kap S - kap S0)) (MQ below (QiM D T ρ0 A S' r) args s (kap S' - kap S0) (2 * (kap S' - kap S0)) A) (F0 m 0 ls []) := by
  have hT := km_TS_intern h
  unfold m_TS_intern at h
  have nn : nq S S := nq_rf
  refine lv_aload_n C.1 C.2.1 dX9_intern_0 rfl (lv_at hl 0 rfl) ?_
  refine x_getC C w 5 fX9_33 obC7 rfl dX9_intern_1 ?_
  refine lv_aload_n C.1 C.2.1 dX9_intern_4 rfl (lv_at hl 0 rfl) ?_
  refine x_getC C w 5 fX9_33 obC7 rfl dX9_intern_5 ?_
  refine x_getC C w 18 fX9_143 obC5 rfl dX9_intern_8 ?_
  refine lv_aload_n C.1 C.2.1 dX9_intern_11 rfl (lv_at hl 0 rfl) ?_
  refine x_getC C w 5 fX9_33 obC7 rfl dX9_intern_12 ?_
  refine lv_iload_n C.1 C.2.1 dX9_intern_15 rfl (lv_at hl 1 rfl) ?_
  obtain ⟨v_1, hv_1, h⟩ := bnd h
  refine x_callVi (q := (RX10, TX10, 5)) (As := [.int x1]) (rest := [.ref (ρ 18), .ref (ρ 5)]) C w (k_Tx_startOf l D T ρ g H.size S hv_1) vX9_146 (hRK (by decide) (by decide)) obC5 (by decide) rfl rfl rfl hl.1 (Nat.le_of_ble_eq_true rfl) (hcK hT) dX9_intern_16 (fun H locs w => ?_)
  refine lv_aload_n C.1 C.2.1 dX9_intern_19 rfl (lv_at hl 0 rfl) ?_
  refine x_getC C w 5 fX9_33 obC7 rfl dX9_intern_20 ?_
  refine lv_iload_n C.1 C.2.1 dX9_intern_23 rfl (lv_at hl 1 rfl) ?_
  obtain ⟨v_2, hv_2, h⟩ := bnd h
  refine x_callVi (q := (RX10, TX10, 5)) (As := [.int x1]) (rest := [.int v_1, .ref (ρ 18), .ref (ρ 5)]) C w (k_Tx_endOf l D T ρ g H.size S hv_2) vX9_149 (hRK (by decide) (by decide)) obC5 (by decide) rfl rfl rfl hl.1 (Nat.le_of_ble_eq_true rfl) (hcK hT) dX9_intern_24 (fun H locs w => ?_)
  obtain ⟨v_3, hv_3, h⟩ := bnd h
  refine x_callVi (q := (RX10, TX10, 5)) (As := [.ref (ρ 18), .int v_1, .int v_2]) (rest := []) C w (k_Tx_pooledWith l D T ρ g H.size S obC18 hv_3) vX9_152 (hRK (by decide) (by decide)) obC5 (by decide) rfl rfl rfl hl.1 (Nat.le_of_ble_eq_true rfl) (hcK hT) dX9_intern_27 (fun H locs w => ?_)
  refine lv_istore_n (lv' := [(2, .int v_3), (0, .ref (ρ 7)), (1, .int x1)]) C.1 C.2.1 dX9_intern_30 rfl hl (by decide) rfl (fun ls hl => ?_)
  refine lv_iload_n C.1 C.2.1 dX9_intern_31 rfl (lv_at hl 0 rfl) ?_
  refine lv_iconst (v := (-1)) C.1 C.2.1 dX9_intern_32 (by decide) ?_
  refine lv_icmp_ne (tgt := 49) C.1 C.2.1 dX9_intern_33 (by decide) (fun hc => ?_) (fun hc => ?_)
  · replace h := iff0 hc h
    have hkn := nq_kap nn
    refine W.widen (k := kap S - kap S0) (n := 2 * (kap S - kap S0)) (by omega) (by omega) ?_
    exact w_TS_intern_49 C hr hk ha (by omega) w (lv_sub hl [1, 0] rfl) h
  · replace h := ift hc h
    refine lv_aload_n C.1 C.2.1 dX9_intern_36 rfl (lv_at hl 1 rfl) ?_
    refine x_getC C w 5 fX9_33 obC7 rfl dX9_intern_37 ?_
    refine x_getC C w 20 fX9_156 obC5 rfl dX9_intern_40 ?_
    refine lv_iload_n C.1 C.2.1 dX9_intern_43 rfl (lv_at hl 2 rfl) ?_
    obtain ⟨S_4, hS_4, h⟩ := bnd h
    have hkn := nq_kap nn
    have hk1 := km_Row_add hS_4
    have hT2 := km_TS_intern_47 h
    refine x_callVvM (q := (RX6, TX6, 4)) (As := [.int x1]) (rest := []) C w (k_Row_add l D T ρ g H.size S obC20 hS_4) vX9_159 (hRK (by decide) (by decide)) obC20 (by decide) rfl rfl rfl hl.1 (Nat.le_of_ble_eq_true rfl) (hcM hm hkn hk1 hT2) dX9_intern_44 (fun ρ1 H locs hag w => ?_)
    replace ha := ha.trans hag
    rw [← hag 7 (by decide)] at hl
    refine W.widen (k := kap S_4 - kap S0) (n := 2 * (kap S_4 - kap S0)) (by omega) (by omega) ?_
    exact w_TS_intern_47 C hr hk ha (by omega) w (lv_sub hl [1, 2] rfl) h
end S_TS_intern
set_option maxRecDepth 100000 in
theorem k_TS_intern (l : Launch) (D : va_G) (T : Cy) (ρ : Nat → Nat) (g sz : Nat) (S : St) {x1 : Int32} {S' : St} {r : Int32} (h : m_TS_intern g S x1 = some (S', r)) : MiM l D T ρ yX9_intern cX9_intern 3 (some .int) 3 69 S S' r [.ref (ρ 7), .int x1] sz :=
  x_inR (by decide) (Nat.le_of_ble_eq_true rfl) (fun p e s m below meth c ls C hr hk w hl => W.widen (Nat.zero_le _) (Nat.zero_le _) (w_TS_intern_0 C hr hk Ag.rf (Nat.le_refl _) w hl h))

theorem dX9_addStretch_0 : decode cX9_addStretch 0 = .ok (.aload_n 0, 1) := by decide +kernel
theorem dX9_addStretch_1 : decode cX9_addStretch 1 = .ok (.getfield 33, 3) := by decide +kernel
theorem dX9_addStretch_4 : decode cX9_addStretch 4 = .ok (.iload_n 1, 1) := by decide +kernel
theorem dX9_addStretch_5 : decode cX9_addStretch 5 = .ok (.invokevirtual 146, 3) := by decide +kernel
theorem dX9_addStretch_8 : decode cX9_addStretch 8 = .ok (.istore 4, 2) := by decide +kernel
theorem dX9_addStretch_10 : decode cX9_addStretch 10 = .ok (.aload_n 0, 1) := by decide +kernel
theorem dX9_addStretch_11 : decode cX9_addStretch 11 = .ok (.getfield 37, 3) := by decide +kernel
theorem dX9_addStretch_14 : decode cX9_addStretch 14 = .ok (.aload_n 0, 1) := by decide +kernel
theorem dX9_addStretch_15 : decode cX9_addStretch 15 = .ok (.getfield 37, 3) := by decide +kernel
theorem dX9_addStretch_18 : decode cX9_addStretch 18 = .ok (.getfield 105, 3) := by decide +kernel
theorem dX9_addStretch_21 : decode cX9_addStretch 21 = .ok (.aload_n 0, 1) := by decide +kernel
theorem dX9_addStretch_22 : decode cX9_addStretch 22 = .ok (.getfield 33, 3) := by decide +kernel
theorem dX9_addStretch_25 : decode cX9_addStretch 25 = .ok (.getfield 143, 3) := by decide +kernel
theorem dX9_addStretch_28 : decode cX9_addStretch 28 = .ok (.iload 4, 2) := by decide +kernel
theorem dX9_addStretch_30 : decode cX9_addStretch 30 = .ok (.iload_n 2, 1) := by decide +kernel
theorem dX9_addStretch_31 : decode cX9_addStretch 31 = .ok (.iadd, 1) := by decide +kernel
theorem dX9_addStretch_32 : decode cX9_addStretch 32 = .ok (.iload 4, 2) := by decide +kernel
theorem dX9_addStretch_34 : decode cX9_addStretch 34 = .ok (.iload_n 3, 1) := by decide +kernel
theorem dX9_addStretch_35 : decode cX9_addStretch 35 = .ok (.iadd, 1) := by decide +kernel
theorem dX9_addStretch_36 : decode cX9_addStretch 36 = .ok (.invokevirtual 109, 3) := by decide +kernel
theorem dX9_addStretch_39 : decode cX9_addStretch 39 = .ok (.return_, 1) := by decide +kernel
def m_TS_addStretch_39 (g : Nat) (S : St) : Option St :=
some S
def m_TS_addStretch (g : Nat) (S : St) (x1 : Int32) (x2 : Int32) (x3 : Int32) : Option St :=
(m_Tx_startOf g S x1).bind fun v_1 =>
(m_Row_insert g S 23 (gI S 23 2) 18 (v_1 + x2) (v_1 + x3)).bind fun S_2 =>
m_TS_addStretch_39 g S_2
theorem km_TS_addStretch_39 {g : Nat} {S : St} {S' : St} (h : m_TS_addStretch_39 g S = some S') : kap S ≤ kap S' := by
  unfold m_TS_addStretch_39 at h
  have nn : nq S S := nq_rf
  obtain rfl := som h
  have hkn := nq_kap nn
  omega
theorem km_TS_addStretch {g : Nat} {S : St} {x1 : Int32} {x2 : Int32} {x3 : Int32} {S' : St} (h : m_TS_addStretch g S x1 x2 x3 = some S') : kap S ≤ kap S' := by
  unfold m_TS_addStretch at h
  have nn : nq S S := nq_rf
  obtain ⟨v_1, hv_1, h⟩ := bnd h
  obtain ⟨S_2, hS_2, h⟩ := bnd h
  have hk1 := km_Row_insert hS_2
  have hkn := nq_kap nn
  have h2 := km_TS_addStretch_39 h
  omega
section S_TS_addStretch
variable {p : Program} {l : Launch} {e : Env} {s : State} {m : MethodId} {args : Array Value} {below : List Frame} {meth : Method} {c : Code} {H : Heap} {locs : List Loc} {ls : Array Slot} {D : va_G} {T : Cy} {ρ ρ0 : Nat → Nat} {S0 : St} {A : Nat → Prop}
set_option maxRecDepth 100000 in
set_option maxHeartbeats 4000000 in
theorem w_TS_addStretch_39 {g : Nat} {S : St} (C : CallFix p m c cX9_addStretch 5 s args tb RX9) (hr : meth.sig.returnType = none) (hk : meth.locks = false) {S' : St} (ha : Ag ρ0 ρ) (hm : kap S0 ≤ kap S) (w : Wn Yc D T ρ S A s H locs) (hl : lv_has ls 5 []) (h : m_TS_addStretch_39 g S = some S') : W p l e (rmK 3 73 (kap S' - kap S0)) s m args below meth c H locs (kap S - kap S0) (2 * (kap S - kap S0)) (MQ below (QvM D T ρ0 A S') args s (kap S' - kap S0) (2 * (kap S' - kap S0)) A) (F0 m 39 ls []) := by
  have hT := km_TS_addStretch_39 h
  unfold m_TS_addStretch_39 at h
  have nn : nq S S := nq_rf
  obtain rfl := som h
  exact x_vretM C w ha hr hk dX9_addStretch_39 (by have := nq_kap nn; omega) (by have := nq_kap nn; omega)
set_option maxRecDepth 100000 in
set_option maxHeartbeats 4000000 in
theorem w_TS_addStretch_0 {g : Nat} {S : St} {x1 : Int32} {x2 : Int32} {x3 : Int32} (C : CallFix p m c cX9_addStretch 5 s args tb RX9) (hr : meth.sig.returnType = none) (hk : meth.locks = false) {S' : St} (ha : Ag ρ0 ρ) (hm : kap S0 ≤ kap S) (w : Wn Yc D T ρ S A s H locs) (hl : lv_has ls 5 [(0, .ref (ρ 7)), (1, .int x1), (2, .int x2), (3, .int x3)]) (h : m_TS_addStretch g S x1 x2 x3 = some S') : W p l e (rmK 3 73 (kap S' - kap S0)) s m args below meth c H locs (kap S - kap S0) (2 * (kap S - kap S0)) (MQ below (QvM D T ρ0 A S') args s (kap S' - kap S0) (2 * (kap S' - kap S0)) A) (F0 m 0 ls []) := by
  have hT := km_TS_addStretch h
  unfold m_TS_addStretch at h
  have nn : nq S S := nq_rf
  refine lv_aload_n C.1 C.2.1 dX9_addStretch_0 rfl (lv_at hl 0 rfl) ?_
  refine x_getC C w 5 fX9_33 obC7 rfl dX9_addStretch_1 ?_
  refine lv_iload_n C.1 C.2.1 dX9_addStretch_4 rfl (lv_at hl 1 rfl) ?_
  obtain ⟨v_1, hv_1, h⟩ := bnd h
  refine x_callVi (q := (RX10, TX10, 5)) (As := [.int x1]) (rest := []) C w (k_Tx_startOf l D T ρ g H.size S hv_1) vX9_146 (hRK (by decide) (by decide)) obC5 (by decide) rfl rfl rfl hl.1 (Nat.le_of_ble_eq_true rfl) (hcK hT) dX9_addStretch_5 (fun H locs w => ?_)
  refine lv_istore (lv' := [(4, .int v_1), (0, .ref (ρ 7)), (1, .int x1), (2, .int x2), (3, .int x3)]) C.1 C.2.1 dX9_addStretch_8 hl (by decide) rfl (fun ls hl => ?_)
  refine lv_aload_n C.1 C.2.1 dX9_addStretch_10 rfl (lv_at hl 1 rfl) ?_
  refine x_getC C w 23 fX9_37 obC7 rfl dX9_addStretch_11 ?_
  refine lv_aload_n C.1 C.2.1 dX9_addStretch_14 rfl (lv_at hl 1 rfl) ?_
  refine x_getC C w 23 fX9_37 obC7 rfl dX9_addStretch_15 ?_
  refine x_getI C w fX9_105 obC23 dX9_addStretch_18 ?_
  refine lv_aload_n C.1 C.2.1 dX9_addStretch_21 rfl (lv_at hl 1 rfl) ?_
  refine x_getC C w 5 fX9_33 obC7 rfl dX9_addStretch_22 ?_
  refine x_getC C w 18 fX9_143 obC5 rfl dX9_addStretch_25 ?_
  refine lv_iload C.1 C.2.1 dX9_addStretch_28 (lv_at hl 0 rfl) ?_
  refine lv_iload_n C.1 C.2.1 dX9_addStretch_30 rfl (lv_at hl 3 rfl) ?_
  refine lv_iadd C.1 C.2.1 dX9_addStretch_31 ?_
  refine lv_iload C.1 C.2.1 dX9_addStretch_32 (lv_at hl 0 rfl) ?_
  refine lv_iload_n C.1 C.2.1 dX9_addStretch_34 rfl (lv_at hl 4 rfl) ?_
  refine lv_iadd C.1 C.2.1 dX9_addStretch_35 ?_
  obtain ⟨S_2, hS_2, h⟩ := bnd h
  have hkn := nq_kap nn
  have hk1 := km_Row_insert hS_2
  have hT2 := km_TS_addStretch_39 h
  refine x_callVvM (q := (RX6, TX6, 4)) (As := [.int (gI S 23 2), .ref (ρ 18), .int (v_1 + x2), .int (v_1 + x3)]) (rest := []) C w (k_Row_insert l D T ρ g H.size S obC23 obC18 hS_2) vX9_109 (hRK (by decide) (by decide)) obC23 (by decide) rfl rfl rfl hl.1 (Nat.le_of_ble_eq_true rfl) (hcM hm hkn hk1 hT2) dX9_addStretch_36 (fun ρ1 H locs hag w => ?_)
  replace ha := ha.trans hag
  rw [← hag 7 (by decide)] at hl
  refine W.widen (k := kap S_2 - kap S0) (n := 2 * (kap S_2 - kap S0)) (by omega) (by omega) ?_
  exact w_TS_addStretch_39 C hr hk ha (by omega) w (lv_sub hl [] rfl) h
end S_TS_addStretch
set_option maxRecDepth 100000 in
theorem k_TS_addStretch (l : Launch) (D : va_G) (T : Cy) (ρ : Nat → Nat) (g sz : Nat) (S : St) {x1 : Int32} {x2 : Int32} {x3 : Int32} {S' : St} (h : m_TS_addStretch g S x1 x2 x3 = some S') : MvM l D T ρ yX9_addStretch cX9_addStretch 5 none 3 73 S S' [.ref (ρ 7), .int x1, .int x2, .int x3] sz :=
  x_inR (by decide) (Nat.le_of_ble_eq_true rfl) (fun p e s m below meth c ls C hr hk w hl => W.widen (Nat.zero_le _) (Nat.zero_le _) (w_TS_addStretch_0 C hr hk Ag.rf (Nat.le_refl _) w hl h))

theorem dX9_part_0 : decode cX9_part 0 = .ok (.aload_n 0, 1) := by decide +kernel
theorem dX9_part_1 : decode cX9_part 1 = .ok (.getfield 33, 3) := by decide +kernel
theorem dX9_part_4 : decode cX9_part 4 = .ok (.iload_n 1, 1) := by decide +kernel
theorem dX9_part_5 : decode cX9_part 5 = .ok (.invokevirtual 171, 3) := by decide +kernel
theorem dX9_part_8 : decode cX9_part 8 = .ok (.istore_n 2, 1) := by decide +kernel
theorem dX9_part_9 : decode cX9_part 9 = .ok (.aload_n 0, 1) := by decide +kernel
theorem dX9_part_10 : decode cX9_part 10 = .ok (.getfield 23, 3) := by decide +kernel
theorem dX9_part_13 : decode cX9_part 13 = .ok (.iconst 2, 1) := by decide +kernel
theorem dX9_part_14 : decode cX9_part 14 = .ok (.iload_n 2, 1) := by decide +kernel
theorem dX9_part_15 : decode cX9_part 15 = .ok (.invokevirtual 174, 3) := by decide +kernel
theorem dX9_part_18 : decode cX9_part 18 = .ok (.istore_n 3, 1) := by decide +kernel
theorem dX9_part_19 : decode cX9_part 19 = .ok (.aload_n 0, 1) := by decide +kernel
theorem dX9_part_20 : decode cX9_part 20 = .ok (.getfield 23, 3) := by decide +kernel
theorem dX9_part_23 : decode cX9_part 23 = .ok (.iconst 3, 1) := by decide +kernel
theorem dX9_part_24 : decode cX9_part 24 = .ok (.iload_n 2, 1) := by decide +kernel
theorem dX9_part_25 : decode cX9_part 25 = .ok (.invokevirtual 174, 3) := by decide +kernel
theorem dX9_part_28 : decode cX9_part 28 = .ok (.istore 4, 2) := by decide +kernel
theorem dX9_part_30 : decode cX9_part 30 = .ok (.iload_n 3, 1) := by decide +kernel
theorem dX9_part_31 : decode cX9_part 31 = .ok (.ifCond .lt 15, 3) := by decide +kernel
theorem dX9_part_34 : decode cX9_part 34 = .ok (.iload_n 3, 1) := by decide +kernel
theorem dX9_part_35 : decode cX9_part 35 = .ok (.iload 4, 2) := by decide +kernel
theorem dX9_part_37 : decode cX9_part 37 = .ok (.if_icmp .gt 9, 3) := by decide +kernel
theorem dX9_part_40 : decode cX9_part 40 = .ok (.iload 4, 2) := by decide +kernel
theorem dX9_part_42 : decode cX9_part 42 = .ok (.iload_n 2, 1) := by decide +kernel
theorem dX9_part_43 : decode cX9_part 43 = .ok (.if_icmp .le 5, 3) := by decide +kernel
theorem dX9_part_46 : decode cX9_part 46 = .ok (.iconst 1, 1) := by decide +kernel
theorem dX9_part_47 : decode cX9_part 47 = .ok (.ireturn, 1) := by decide +kernel
theorem dX9_part_48 : decode cX9_part 48 = .ok (.aload_n 0, 1) := by decide +kernel
theorem dX9_part_49 : decode cX9_part 49 = .ok (.iload_n 1, 1) := by decide +kernel
theorem dX9_part_50 : decode cX9_part 50 = .ok (.iload_n 3, 1) := by decide +kernel
theorem dX9_part_51 : decode cX9_part 51 = .ok (.iload 4, 2) := by decide +kernel
theorem dX9_part_53 : decode cX9_part 53 = .ok (.invokevirtual 178, 3) := by decide +kernel
theorem dX9_part_56 : decode cX9_part 56 = .ok (.aload_n 0, 1) := by decide +kernel
theorem dX9_part_57 : decode cX9_part 57 = .ok (.iload_n 1, 1) := by decide +kernel
theorem dX9_part_58 : decode cX9_part 58 = .ok (.iload 4, 2) := by decide +kernel
theorem dX9_part_60 : decode cX9_part 60 = .ok (.iload_n 3, 1) := by decide +kernel
theorem dX9_part_61 : decode cX9_part 61 = .ok (.isub, 1) := by decide +kernel
theorem dX9_part_62 : decode cX9_part 62 = .ok (.iload_n 2, 1) := by decide +kernel
theorem dX9_part_63 : decode cX9_part 63 = .ok (.if_icmp .ge 7, 3) := by decide +kernel
theorem dX9_part_66 : decode cX9_part 66 = .ok (.iconst 1, 1) := by decide +kernel
theorem dX9_part_67 : decode cX9_part 67 = .ok (.goto 4, 3) := by decide +kernel
theorem dX9_part_70 : decode cX9_part 70 = .ok (.iconst 0, 1) := by decide +kernel
theorem dX9_part_71 : decode cX9_part 71 = .ok (.invokevirtual 113, 3) := by decide +kernel
theorem dX9_part_74 : decode cX9_part 74 = .ok (.ireturn, 1) := by decide +kernel
def m_TS_part_74 (g : Nat) (S : St) (y0 : Int32) : Option (St × Int32) :=
some (S, y0)
def m_TS_part_71 (g : Nat) (S : St) (y1 : Int32) (y2 : Int32) : Option (St × Int32) :=
(m_TS_become g S y1 y2).bind fun (S_5, v_6) =>
m_TS_part_74 g S_5 v_6
def m_TS_part_56 (g : Nat) (S : St) (x1 : Int32) (x2 : Int32) (x3 : Int32) (x4 : Int32) : Option (St × Int32) :=
if x2 ≤ (x4 - x3) then (
  m_TS_part_71 g S x1 (0 : Int32)
) else (
  m_TS_part_71 g S x1 (1 : Int32)
)
def m_TS_part (g : Nat) (S : St) (x1 : Int32) : Option (St × Int32) :=
(m_Tx_sizeOf g S x1).bind fun v_1 =>
(m_Bn_placeAt g S (2 : Int32) v_1).bind fun v_2 =>
(m_Bn_placeAt g S (3 : Int32) v_1).bind fun v_3 =>
if v_2 < 0 then (
  some (S, (1 : Int32))
) else (
  if v_3 < v_2 then (
    some (S, (1 : Int32))
  ) else (
    if v_3 ≤ v_1 then (
      (m_TS_addStretch g S x1 v_2 v_3).bind fun S_4 =>
      m_TS_part_56 g S_4 x1 v_1 v_2 v_3
    ) else (
      some (S, (1 : Int32))
    )
  )
)
theorem km_TS_part_74 {g : Nat} {S : St} {y0 : Int32} {S' : St} {r : Int32} (h : m_TS_part_74 g S y0 = some (S', r)) : kap S ≤ kap S' := by
  unfold m_TS_part_74 at h
  have nn : nq S S := nq_rf
  obtain ⟨rfl, rfl⟩ := prI h
  have hkn := nq_kap nn
  omega
theorem km_TS_part_71 {g : Nat} {S : St} {y1 : Int32} {y2 : Int32} {S' : St} {r : Int32} (h : m_TS_part_71 g S y1 y2 = some (S', r)) : kap S ≤ kap S' := by
  unfold m_TS_part_71 at h
  have nn : nq S S := nq_rf
  obtain ⟨⟨S_5, v_6⟩, hv_6, h⟩ := bnd h
  have hk1 := km_TS_become hv_6
  have hkn := nq_kap nn
  have h2 := km_TS_part_74 h
  omega
theorem km_TS_part_56 {g : Nat} {S : St} {x1 : Int32} {x2 : Int32} {x3 : Int32} {x4 : Int32} {S' : St} {r : Int32} (h : m_TS_part_56 g S x1 x2 x3 x4 = some (S', r)) : kap S ≤ kap S' := by
  unfold m_TS_part_56 at h
  have nn : nq S S := nq_rf
  by_cases hc1 : x2 ≤ (x4 - x3)
  · replace h := ift hc1 h
    have hkn := nq_kap nn
    have h2 := km_TS_part_71 h
    omega
  · replace h := iff0 hc1 h
    have hkn := nq_kap nn
    have h2 := km_TS_part_71 h
    omega
theorem km_TS_part {g : Nat} {S : St} {x1 : Int32} {S' : St} {r : Int32} (h : m_TS_part g S x1 = some (S', r)) : kap S ≤ kap S' := by
  unfold m_TS_part at h
  have nn : nq S S := nq_rf
  obtain ⟨v_1, hv_1, h⟩ := bnd h
  obtain ⟨v_2, hv_2, h⟩ := bnd h
  obtain ⟨v_3, hv_3, h⟩ := bnd h
  by_cases hc1 : v_2 < 0
  · replace h := ift hc1 h
    obtain ⟨rfl, rfl⟩ := prI h
    have hkn := nq_kap nn
    omega
  · replace h := iff0 hc1 h
    by_cases hc2 : v_3 < v_2
    · replace h := ift hc2 h
      obtain ⟨rfl, rfl⟩ := prI h
      have hkn := nq_kap nn
      omega
    · replace h := iff0 hc2 h
      by_cases hc3 : v_3 ≤ v_1
      · replace h := ift hc3 h
        obtain ⟨S_4, hS_4, h⟩ := bnd h
        have hk1 := km_TS_addStretch hS_4
        have hkn := nq_kap nn
        have h2 := km_TS_part_56 h
        omega
      · replace h := iff0 hc3 h
        obtain ⟨rfl, rfl⟩ := prI h
        have hkn := nq_kap nn
        omega
section S_TS_part
variable {p : Program} {l : Launch} {e : Env} {s : State} {m : MethodId} {args : Array Value} {below : List Frame} {meth : Method} {c : Code} {H : Heap} {locs : List Loc} {ls : Array Slot} {D : va_G} {T : Cy} {ρ ρ0 : Nat → Nat} {S0 : St} {A : Nat → Prop}
set_option maxRecDepth 100000 in
set_option maxHeartbeats 4000000 in
theorem w_TS_part_74 {g : Nat} {S : St} {y0 : Int32} (C : CallFix p m c cX9_part 5 s args tb RX9) (hr : meth.sig.returnType = (some .int)) (hk : meth.locks = false) {S' : St} {r : Int32} (ha : Ag ρ0 ρ) (hm : kap S0 ≤ kap S) (w : Wn Yc D T ρ S A s H locs) (hl : lv_has ls 5 []) (h : m_TS_part_74 g S y0 = some (S', r)) : W p l e (rmK 5 117 (kap S' - kap S0)) s m args below meth c H locs (kap S - kap S0) (2 * (kap S - kap S0)) (MQ below (QiM D T ρ0 A S' r) args s (kap S' - kap S0) (2 * (kap S' - kap S0)) A) (F0 m 74 ls [.int y0]) := by
  have hT := km_TS_part_74 h
  unfold m_TS_part_74 at h
  have nn : nq S S := nq_rf
  obtain ⟨rfl, rfl⟩ := prI h
  exact x_iretM C w ha hr hk dX9_part_74 (by have := nq_kap nn; omega) (by have := nq_kap nn; omega)
set_option maxRecDepth 100000 in
set_option maxHeartbeats 4000000 in
theorem w_TS_part_71 {g : Nat} {S : St} {y1 : Int32} {y2 : Int32} (C : CallFix p m c cX9_part 5 s args tb RX9) (hr : meth.sig.returnType = (some .int)) (hk : meth.locks = false) {S' : St} {r : Int32} (ha : Ag ρ0 ρ) (hm : kap S0 ≤ kap S) (w : Wn Yc D T ρ S A s H locs) (hl : lv_has ls 5 []) (h : m_TS_part_71 g S y1 y2 = some (S', r)) : W p l e (rmK 5 117 (kap S' - kap S0)) s m args below meth c H locs (kap S - kap S0) (2 * (kap S - kap S0)) (MQ below (QiM D T ρ0 A S' r) args s (kap S' - kap S0) (2 * (kap S' - kap S0)) A) (F0 m 71 ls [.int y2, .int y1, .ref (ρ 7)]) := by
  have hT := km_TS_part_71 h
  unfold m_TS_part_71 at h
  have nn : nq S S := nq_rf
  obtain ⟨⟨S_5, v_6⟩, hv_6, h⟩ := bnd h
  have hkn := nq_kap nn
  have hk1 := km_TS_become hv_6
  have hT2 := km_TS_part_74 h
  refine x_callViM (q := (RX9, TX9, 6)) (As := [.int y1, .int y2]) (rest := []) C w (k_TS_become l D T ρ g H.size S hv_6) vX9_113 (hRK (by decide) (by decide)) obC7 (by decide) rfl rfl rfl hl.1 (Nat.le_of_ble_eq_true rfl) (hcM hm hkn hk1 hT2) dX9_part_71 (fun ρ1 H locs hag w => ?_)
  replace ha := ha.trans hag
  refine W.widen (k := kap S_5 - kap S0) (n := 2 * (kap S_5 - kap S0)) (by omega) (by omega) ?_
  exact w_TS_part_74 C hr hk ha (by omega) w (lv_sub hl [] rfl) h
set_option maxRecDepth 100000 in
set_option maxHeartbeats 4000000 in
theorem w_TS_part_56 {g : Nat} {S : St} {x1 : Int32} {x2 : Int32} {x3 : Int32} {x4 : Int32} (C : CallFix p m c cX9_part 5 s args tb RX9) (hr : meth.sig.returnType = (some .int)) (hk : meth.locks = false) {S' : St} {r : Int32} (ha : Ag ρ0 ρ) (hm : kap S0 ≤ kap S) (w : Wn Yc D T ρ S A s H locs) (hl : lv_has ls 5 [(0, .ref (ρ 7)), (1, .int x1), (2, .int x2), (3, .int x3), (4, .int x4)]) (h : m_TS_part_56 g S x1 x2 x3 x4 = some (S', r)) : W p l e (rmK 5 117 (kap S' - kap S0)) s m args below meth c H locs (kap S - kap S0) (2 * (kap S - kap S0)) (MQ below (QiM D T ρ0 A S' r) args s (kap S' - kap S0) (2 * (kap S' - kap S0)) A) (F0 m 56 ls []) := by
  have hT := km_TS_part_56 h
  unfold m_TS_part_56 at h
  have nn : nq S S := nq_rf
  refine lv_aload_n C.1 C.2.1 dX9_part_56 rfl (lv_at hl 0 rfl) ?_
  refine lv_iload_n C.1 C.2.1 dX9_part_57 rfl (lv_at hl 1 rfl) ?_
  refine lv_iload C.1 C.2.1 dX9_part_58 (lv_at hl 4 rfl) ?_
  refine lv_iload_n C.1 C.2.1 dX9_part_60 rfl (lv_at hl 3 rfl) ?_
  refine lv_isub C.1 C.2.1 dX9_part_61 ?_
  refine lv_iload_n C.1 C.2.1 dX9_part_62 rfl (lv_at hl 2 rfl) ?_
  refine lv_icmp_ge (tgt := 70) C.1 C.2.1 dX9_part_63 (by decide) (fun hc => ?_) (fun hc => ?_)
  · replace h := ift hc h
    refine lv_iconst (v := 0) C.1 C.2.1 dX9_part_70 (by decide) ?_
    have hkn := nq_kap nn
    refine W.widen (k := kap S - kap S0) (n := 2 * (kap S - kap S0)) (by omega) (by omega) ?_
    exact w_TS_part_71 C hr hk ha (by omega) w (lv_sub hl [] rfl) h
  · replace h := iff0 hc h
    refine lv_iconst (v := 1) C.1 C.2.1 dX9_part_66 (by decide) ?_
    refine lv_goto (tgt := 71) C.1 C.2.1 dX9_part_67 (by decide) ?_
    have hkn := nq_kap nn
    refine W.widen (k := kap S - kap S0) (n := 2 * (kap S - kap S0)) (by omega) (by omega) ?_
    exact w_TS_part_71 C hr hk ha (by omega) w (lv_sub hl [] rfl) h
set_option maxRecDepth 100000 in
set_option maxHeartbeats 4000000 in
theorem w_TS_part_0 {g : Nat} {S : St} {x1 : Int32} (C : CallFix p m c cX9_part 5 s args tb RX9) (hr : meth.sig.returnType = (some .int)) (hk : meth.locks = false) {S' : St} {r : Int32} (ha : Ag ρ0 ρ) (hm : kap S0 ≤ kap S) (w : Wn Yc D T ρ S A s H locs) (hl : lv_has ls 5 [(0, .ref (ρ 7)), (1, .int x1)]) (h : m_TS_part g S x1 = some (S', r)) : W p l e (rmK 5 117 (kap S' - kap S0)) s m args below meth c H locs (kap S - kap S0) (2 * (kap S - kap S0)) (MQ below (QiM D T ρ0 A S' r) args s (kap S' - kap S0) (2 * (kap S' - kap S0)) A) (F0 m 0 ls []) := by
  have hT := km_TS_part h
  unfold m_TS_part at h
  have nn : nq S S := nq_rf
  refine lv_aload_n C.1 C.2.1 dX9_part_0 rfl (lv_at hl 0 rfl) ?_
  refine x_getC C w 5 fX9_33 obC7 rfl dX9_part_1 ?_
  refine lv_iload_n C.1 C.2.1 dX9_part_4 rfl (lv_at hl 1 rfl) ?_
  obtain ⟨v_1, hv_1, h⟩ := bnd h
  refine x_callVi (q := (RX10, TX10, 5)) (As := [.int x1]) (rest := []) C w (k_Tx_sizeOf l D T ρ g H.size S hv_1) vX9_171 (hRK (by decide) (by decide)) obC5 (by decide) rfl rfl rfl hl.1 (Nat.le_of_ble_eq_true rfl) (hcK hT) dX9_part_5 (fun H locs w => ?_)
  refine lv_istore_n (lv' := [(2, .int v_1), (0, .ref (ρ 7)), (1, .int x1)]) C.1 C.2.1 dX9_part_8 rfl hl (by decide) rfl (fun ls hl => ?_)
  refine lv_aload_n C.1 C.2.1 dX9_part_9 rfl (lv_at hl 1 rfl) ?_
  refine x_getC C w 4 fX9_23 obC7 rfl dX9_part_10 ?_
  refine lv_iconst (v := 2) C.1 C.2.1 dX9_part_13 (by decide) ?_
  refine lv_iload_n C.1 C.2.1 dX9_part_14 rfl (lv_at hl 0 rfl) ?_
  obtain ⟨v_2, hv_2, h⟩ := bnd h
  refine x_callVi (q := (RX1, TX1, 12)) (As := [.int (2 : Int32), .int v_1]) (rest := []) C w (k_Bn_placeAt l D T ρ g H.size S hv_2) vX9_174 (hRK (by decide) (by decide)) obC4 (by decide) rfl rfl rfl hl.1 (Nat.le_of_ble_eq_true rfl) (hcK hT) dX9_part_15 (fun H locs w => ?_)
  refine lv_istore_n (lv' := [(3, .int v_2), (2, .int v_1), (0, .ref (ρ 7)), (1, .int x1)]) C.1 C.2.1 dX9_part_18 rfl hl (by decide) rfl (fun ls hl => ?_)
  refine lv_aload_n C.1 C.2.1 dX9_part_19 rfl (lv_at hl 2 rfl) ?_
  refine x_getC C w 4 fX9_23 obC7 rfl dX9_part_20 ?_
  refine lv_iconst (v := 3) C.1 C.2.1 dX9_part_23 (by decide) ?_
  refine lv_iload_n C.1 C.2.1 dX9_part_24 rfl (lv_at hl 1 rfl) ?_
  obtain ⟨v_3, hv_3, h⟩ := bnd h
  refine x_callVi (q := (RX1, TX1, 12)) (As := [.int (3 : Int32), .int v_1]) (rest := []) C w (k_Bn_placeAt l D T ρ g H.size S hv_3) vX9_174 (hRK (by decide) (by decide)) obC4 (by decide) rfl rfl rfl hl.1 (Nat.le_of_ble_eq_true rfl) (hcK hT) dX9_part_25 (fun H locs w => ?_)
  refine lv_istore (lv' := [(4, .int v_3), (3, .int v_2), (2, .int v_1), (0, .ref (ρ 7)), (1, .int x1)]) C.1 C.2.1 dX9_part_28 hl (by decide) rfl (fun ls hl => ?_)
  refine lv_iload_n C.1 C.2.1 dX9_part_30 rfl (lv_at hl 1 rfl) ?_
  refine lv_if_lt (tgt := 46) C.1 C.2.1 dX9_part_31 (by decide) (fun hc => ?_) (fun hc => ?_)
  · replace h := ift hc h
    refine lv_iconst (v := 1) C.1 C.2.1 dX9_part_46 (by decide) ?_
    obtain ⟨rfl, rfl⟩ := prI h
    exact x_iretM C w ha hr hk dX9_part_47 (by have := nq_kap nn; omega) (by have := nq_kap nn; omega)
  · replace h := iff0 hc h
    refine lv_iload_n C.1 C.2.1 dX9_part_34 rfl (lv_at hl 1 rfl) ?_
    refine lv_iload C.1 C.2.1 dX9_part_35 (lv_at hl 0 rfl) ?_
    refine lv_icmp_gt (tgt := 46) C.1 C.2.1 dX9_part_37 (by decide) (fun hc => ?_) (fun hc => ?_)
    · replace h := ift hc h
      refine lv_iconst (v := 1) C.1 C.2.1 dX9_part_46 (by decide) ?_
      obtain ⟨rfl, rfl⟩ := prI h
      exact x_iretM C w ha hr hk dX9_part_47 (by have := nq_kap nn; omega) (by have := nq_kap nn; omega)
    · replace h := iff0 hc h
      refine lv_iload C.1 C.2.1 dX9_part_40 (lv_at hl 0 rfl) ?_
      refine lv_iload_n C.1 C.2.1 dX9_part_42 rfl (lv_at hl 2 rfl) ?_
      refine lv_icmp_le (tgt := 48) C.1 C.2.1 dX9_part_43 (by decide) (fun hc => ?_) (fun hc => ?_)
      · replace h := ift hc h
        refine lv_aload_n C.1 C.2.1 dX9_part_48 rfl (lv_at hl 3 rfl) ?_
        refine lv_iload_n C.1 C.2.1 dX9_part_49 rfl (lv_at hl 4 rfl) ?_
        refine lv_iload_n C.1 C.2.1 dX9_part_50 rfl (lv_at hl 1 rfl) ?_
        refine lv_iload C.1 C.2.1 dX9_part_51 (lv_at hl 0 rfl) ?_
        obtain ⟨S_4, hS_4, h⟩ := bnd h
        have hkn := nq_kap nn
        have hk1 := km_TS_addStretch hS_4
        have hT2 := km_TS_part_56 h
        refine x_callVvM (q := (RX9, TX9, 6)) (As := [.int x1, .int v_2, .int v_3]) (rest := []) C w (k_TS_addStretch l D T ρ g H.size S hS_4) vX9_178 (hRK (by decide) (by decide)) obC7 (by decide) rfl rfl rfl hl.1 (Nat.le_of_ble_eq_true rfl) (hcM hm hkn hk1 hT2) dX9_part_53 (fun ρ1 H locs hag w => ?_)
        replace ha := ha.trans hag
        rw [← hag 7 (by decide)] at hl
        refine W.widen (k := kap S_4 - kap S0) (n := 2 * (kap S_4 - kap S0)) (by omega) (by omega) ?_
        exact w_TS_part_56 C hr hk ha (by omega) w (lv_sub hl [3, 4, 2, 1, 0] rfl) h
      · replace h := iff0 hc h
        refine lv_iconst (v := 1) C.1 C.2.1 dX9_part_46 (by decide) ?_
        obtain ⟨rfl, rfl⟩ := prI h
        exact x_iretM C w ha hr hk dX9_part_47 (by have := nq_kap nn; omega) (by have := nq_kap nn; omega)
end S_TS_part
set_option maxRecDepth 100000 in
theorem k_TS_part (l : Launch) (D : va_G) (T : Cy) (ρ : Nat → Nat) (g sz : Nat) (S : St) {x1 : Int32} {S' : St} {r : Int32} (h : m_TS_part g S x1 = some (S', r)) : MiM l D T ρ yX9_part cX9_part 5 (some .int) 5 117 S S' r [.ref (ρ 7), .int x1] sz :=
  x_inR (by decide) (Nat.le_of_ble_eq_true rfl) (fun p e s m below meth c ls C hr hk w hl => W.widen (Nat.zero_le _) (Nat.zero_le _) (w_TS_part_0 C hr hk Ag.rf (Nat.le_refl _) w hl h))

theorem dX9_trim_0 : decode cX9_trim 0 = .ok (.aload_n 0, 1) := by decide +kernel
theorem dX9_trim_1 : decode cX9_trim 1 = .ok (.getfield 33, 3) := by decide +kernel
theorem dX9_trim_4 : decode cX9_trim 4 = .ok (.getfield 143, 3) := by decide +kernel
theorem dX9_trim_7 : decode cX9_trim 7 = .ok (.astore_n 3, 1) := by decide +kernel
theorem dX9_trim_8 : decode cX9_trim 8 = .ok (.aload_n 0, 1) := by decide +kernel
theorem dX9_trim_9 : decode cX9_trim 9 = .ok (.getfield 33, 3) := by decide +kernel
theorem dX9_trim_12 : decode cX9_trim 12 = .ok (.iload_n 1, 1) := by decide +kernel
theorem dX9_trim_13 : decode cX9_trim 13 = .ok (.invokevirtual 146, 3) := by decide +kernel
theorem dX9_trim_16 : decode cX9_trim 16 = .ok (.istore 4, 2) := by decide +kernel
theorem dX9_trim_18 : decode cX9_trim 18 = .ok (.aload_n 0, 1) := by decide +kernel
theorem dX9_trim_19 : decode cX9_trim 19 = .ok (.getfield 33, 3) := by decide +kernel
theorem dX9_trim_22 : decode cX9_trim 22 = .ok (.iload_n 1, 1) := by decide +kernel
theorem dX9_trim_23 : decode cX9_trim 23 = .ok (.invokevirtual 149, 3) := by decide +kernel
theorem dX9_trim_26 : decode cX9_trim 26 = .ok (.istore 5, 2) := by decide +kernel
theorem dX9_trim_28 : decode cX9_trim 28 = .ok (.iload 4, 2) := by decide +kernel
theorem dX9_trim_30 : decode cX9_trim 30 = .ok (.iload 5, 2) := by decide +kernel
theorem dX9_trim_32 : decode cX9_trim 32 = .ok (.if_icmp .ge 22, 3) := by decide +kernel
theorem dX9_trim_35 : decode cX9_trim 35 = .ok (.aload_n 3, 1) := by decide +kernel
theorem dX9_trim_36 : decode cX9_trim 36 = .ok (.iload 4, 2) := by decide +kernel
theorem dX9_trim_38 : decode cX9_trim 38 = .ok (.invokevirtual 182, 3) := by decide +kernel
theorem dX9_trim_41 : decode cX9_trim 41 = .ok (.iload_n 2, 1) := by decide +kernel
theorem dX9_trim_42 : decode cX9_trim 42 = .ok (.invokestatic 185, 3) := by decide +kernel
theorem dX9_trim_45 : decode cX9_trim 45 = .ok (.ifCond .eq 9, 3) := by decide +kernel
theorem dX9_trim_48 : decode cX9_trim 48 = .ok (.iinc 4 1, 3) := by decide +kernel
theorem dX9_trim_51 : decode cX9_trim 51 = .ok (.goto (-23), 3) := by decide +kernel
theorem dX9_trim_54 : decode cX9_trim 54 = .ok (.iload 4, 2) := by decide +kernel
theorem dX9_trim_56 : decode cX9_trim 56 = .ok (.iload 5, 2) := by decide +kernel
theorem dX9_trim_58 : decode cX9_trim 58 = .ok (.if_icmp .ge 24, 3) := by decide +kernel
theorem dX9_trim_61 : decode cX9_trim 61 = .ok (.aload_n 3, 1) := by decide +kernel
theorem dX9_trim_62 : decode cX9_trim 62 = .ok (.iload 5, 2) := by decide +kernel
theorem dX9_trim_64 : decode cX9_trim 64 = .ok (.iconst 1, 1) := by decide +kernel
theorem dX9_trim_65 : decode cX9_trim 65 = .ok (.isub, 1) := by decide +kernel
theorem dX9_trim_66 : decode cX9_trim 66 = .ok (.invokevirtual 182, 3) := by decide +kernel
theorem dX9_trim_69 : decode cX9_trim 69 = .ok (.iload_n 2, 1) := by decide +kernel
theorem dX9_trim_70 : decode cX9_trim 70 = .ok (.invokestatic 185, 3) := by decide +kernel
theorem dX9_trim_73 : decode cX9_trim 73 = .ok (.ifCond .eq 9, 3) := by decide +kernel
theorem dX9_trim_76 : decode cX9_trim 76 = .ok (.iinc 5 (-1), 3) := by decide +kernel
theorem dX9_trim_79 : decode cX9_trim 79 = .ok (.goto (-25), 3) := by decide +kernel
theorem dX9_trim_82 : decode cX9_trim 82 = .ok (.aload_n 0, 1) := by decide +kernel
theorem dX9_trim_83 : decode cX9_trim 83 = .ok (.getfield 37, 3) := by decide +kernel
theorem dX9_trim_86 : decode cX9_trim 86 = .ok (.iconst 0, 1) := by decide +kernel
theorem dX9_trim_87 : decode cX9_trim 87 = .ok (.aload_n 3, 1) := by decide +kernel
theorem dX9_trim_88 : decode cX9_trim 88 = .ok (.iload 4, 2) := by decide +kernel
theorem dX9_trim_90 : decode cX9_trim 90 = .ok (.iload 5, 2) := by decide +kernel
theorem dX9_trim_92 : decode cX9_trim 92 = .ok (.invokevirtual 109, 3) := by decide +kernel
theorem dX9_trim_95 : decode cX9_trim 95 = .ok (.aload_n 0, 1) := by decide +kernel
theorem dX9_trim_96 : decode cX9_trim 96 = .ok (.iload_n 1, 1) := by decide +kernel
theorem dX9_trim_97 : decode cX9_trim 97 = .ok (.iload 5, 2) := by decide +kernel
theorem dX9_trim_99 : decode cX9_trim 99 = .ok (.iload 4, 2) := by decide +kernel
theorem dX9_trim_101 : decode cX9_trim 101 = .ok (.isub, 1) := by decide +kernel
theorem dX9_trim_102 : decode cX9_trim 102 = .ok (.aload_n 0, 1) := by decide +kernel
theorem dX9_trim_103 : decode cX9_trim 103 = .ok (.getfield 33, 3) := by decide +kernel
theorem dX9_trim_106 : decode cX9_trim 106 = .ok (.iload_n 1, 1) := by decide +kernel
theorem dX9_trim_107 : decode cX9_trim 107 = .ok (.invokevirtual 171, 3) := by decide +kernel
theorem dX9_trim_110 : decode cX9_trim 110 = .ok (.if_icmp .ge 7, 3) := by decide +kernel
theorem dX9_trim_113 : decode cX9_trim 113 = .ok (.iconst 1, 1) := by decide +kernel
theorem dX9_trim_114 : decode cX9_trim 114 = .ok (.goto 4, 3) := by decide +kernel
theorem dX9_trim_117 : decode cX9_trim 117 = .ok (.iconst 0, 1) := by decide +kernel
theorem dX9_trim_118 : decode cX9_trim 118 = .ok (.invokevirtual 113, 3) := by decide +kernel
theorem dX9_trim_121 : decode cX9_trim 121 = .ok (.ireturn, 1) := by decide +kernel
def m_TS_trim_121 (g : Nat) (S : St) (y0 : Int32) : Option (St × Int32) :=
some (S, y0)
def m_TS_trim_118 (g : Nat) (S : St) (y1 : Int32) (y2 : Int32) : Option (St × Int32) :=
(m_TS_become g S y1 y2).bind fun (S_5, v_6) =>
m_TS_trim_121 g S_5 v_6
def m_TS_trim_95 (g : Nat) (S : St) (x1 : Int32) (x4 : Int32) (x5 : Int32) : Option (St × Int32) :=
(m_Tx_sizeOf g S x1).bind fun v_4 =>
if v_4 ≤ (x5 - x4) then (
  m_TS_trim_118 g S x1 (0 : Int32)
) else (
  m_TS_trim_118 g S x1 (1 : Int32)
)
def m_TS_trim_82 (g : Nat) (S : St) (x1 : Int32) (x4 : Int32) (x5 : Int32) : Option (St × Int32) :=
(m_Row_insert g S 23 (0 : Int32) 18 x4 x5).bind fun S_3 =>
m_TS_trim_95 g S_3 x1 x4 x5
def b_TS_trim_54 (g : Nat) (k54 : St → Int32 → Int32 → Int32 → Int32 → Option (St × Int32)) (S : St) (x1 : Int32) (x2 : Int32) (x4 : Int32) (x5 : Int32) : Option (St × Int32) :=
if x5 ≤ x4 then (
  m_TS_trim_82 g S x1 x4 x5
) else (
  (m_Row_at g S 18 (x5 - (1 : Int32))).bind fun v_3 =>
  (m_TS_isLeftOut g v_3 x2).bind fun v_4 =>
  if v_4 = 0 then (
    m_TS_trim_82 g S x1 x4 x5
  ) else (
    lt (x5 + (-1 : Int32)) fun x5_5 =>
    k54 S x1 x2 x4 x5_5
  )
)
def m_TS_trim_54 (g : Nat) : Nat → St → Int32 → Int32 → Int32 → Int32 → Option (St × Int32)
  | 0, _, _, _, _, _ => none
  | n + 1, S, x1, x2, x4, x5 => b_TS_trim_54 g (m_TS_trim_54 g n) S x1 x2 x4 x5
def b_TS_trim_28 (g : Nat) (k28 : St → Int32 → Int32 → Int32 → Int32 → Option (St × Int32)) (S : St) (x1 : Int32) (x2 : Int32) (x4 : Int32) (x5 : Int32) : Option (St × Int32) :=
if x5 ≤ x4 then (
  m_TS_trim_54 g g S x1 x2 x4 x5
) else (
  (m_Row_at g S 18 x4).bind fun v_3 =>
  (m_TS_isLeftOut g v_3 x2).bind fun v_4 =>
  if v_4 = 0 then (
    m_TS_trim_54 g g S x1 x2 x4 x5
  ) else (
    lt (x4 + (1 : Int32)) fun x4_5 =>
    k28 S x1 x2 x4_5 x5
  )
)
def m_TS_trim_28 (g : Nat) : Nat → St → Int32 → Int32 → Int32 → Int32 → Option (St × Int32)
  | 0, _, _, _, _, _ => none
  | n + 1, S, x1, x2, x4, x5 => b_TS_trim_28 g (m_TS_trim_28 g n) S x1 x2 x4 x5
def m_TS_trim (g : Nat) (S : St) (x1 : Int32) (x2 : Int32) : Option (St × Int32) :=
(m_Tx_startOf g S x1).bind fun v_1 =>
(m_Tx_endOf g S x1).bind fun v_2 =>
m_TS_trim_28 g g S x1 x2 v_1 v_2
theorem km_TS_trim_121 {g : Nat} {S : St} {y0 : Int32} {S' : St} {r : Int32} (h : m_TS_trim_121 g S y0 = some (S', r)) : kap S ≤ kap S' := by
  unfold m_TS_trim_121 at h
  have nn : nq S S := nq_rf
  obtain ⟨rfl, rfl⟩ := prI h
  have hkn := nq_kap nn
  omega
theorem km_TS_trim_118 {g : Nat} {S : St} {y1 : Int32} {y2 : Int32} {S' : St} {r : Int32} (h : m_TS_trim_118 g S y1 y2 = some (S', r)) : kap S ≤ kap S' := by
  unfold m_TS_trim_118 at h
  have nn : nq S S := nq_rf
  obtain ⟨⟨S_5, v_6⟩, hv_6, h⟩ := bnd h
  have hk1 := km_TS_become hv_6
  have hkn := nq_kap nn
  have h2 := km_TS_trim_121 h
  omega
theorem km_TS_trim_95 {g : Nat} {S : St} {x1 : Int32} {x4 : Int32} {x5 : Int32} {S' : St} {r : Int32} (h : m_TS_trim_95 g S x1 x4 x5 = some (S', r)) : kap S ≤ kap S' := by
  unfold m_TS_trim_95 at h
  have nn : nq S S := nq_rf
  obtain ⟨v_4, hv_4, h⟩ := bnd h
  by_cases hc1 : v_4 ≤ (x5 - x4)
  · replace h := ift hc1 h
    have hkn := nq_kap nn
    have h2 := km_TS_trim_118 h
    omega
  · replace h := iff0 hc1 h
    have hkn := nq_kap nn
    have h2 := km_TS_trim_118 h
    omega
theorem km_TS_trim_82 {g : Nat} {S : St} {x1 : Int32} {x4 : Int32} {x5 : Int32} {S' : St} {r : Int32} (h : m_TS_trim_82 g S x1 x4 x5 = some (S', r)) : kap S ≤ kap S' := by
  unfold m_TS_trim_82 at h
  have nn : nq S S := nq_rf
  obtain ⟨S_3, hS_3, h⟩ := bnd h
  have hk1 := km_Row_insert hS_3
  have hkn := nq_kap nn
  have h2 := km_TS_trim_95 h
  omega
theorem kmb_TS_trim_54 {g : Nat} {S : St} {x1 : Int32} {x2 : Int32} {x4 : Int32} {x5 : Int32} {S' : St} {r : Int32} {k54 : St → Int32 → Int32 → Int32 → Int32 → Option (St × Int32)} (km54 : ∀ (S : St) (x1 : Int32) (x2 : Int32) (x4 : Int32) (x5 : Int32), k54 S x1 x2 x4 x5 = some (S', r) → kap S ≤ kap S') (h : b_TS_trim_54 g k54 S x1 x2 x4 x5 = some (S', r)) : kap S ≤ kap S' := by
  unfold b_TS_trim_54 at h
  have nn : nq S S := nq_rf
  by_cases hc1 : x5 ≤ x4
  · replace h := ift hc1 h
    have hkn := nq_kap nn
    have h2 := km_TS_trim_82 h
    omega
  · replace h := iff0 hc1 h
    obtain ⟨v_3, hv_3, h⟩ := bnd h
    obtain ⟨v_4, hv_4, h⟩ := bnd h
    by_cases hc2 : v_4 = 0
    · replace h := ift hc2 h
      have hkn := nq_kap nn
      have h2 := km_TS_trim_82 h
      omega
    · replace h := iff0 hc2 h
      obtain ⟨x5_5, ex5_5, h⟩ := lt_e h
      have hkn := nq_kap nn
      have h2 := km54 _ _ _ _ _ h
      omega
theorem km_TS_trim_54 {g : Nat} {S' : St} {r : Int32} (n : Nat) : ∀ (S : St) (x1 : Int32) (x2 : Int32) (x4 : Int32) (x5 : Int32), m_TS_trim_54 g n S x1 x2 x4 x5 = some (S', r) → kap S ≤ kap S' := by
  induction n with
  | zero => intro S x1 x2 x4 x5 h; exact absurd h (fun q => by cases q)
  | succ n ih => intro S x1 x2 x4 x5 h; exact kmb_TS_trim_54 ih h
theorem kmb_TS_trim_28 {g : Nat} {S : St} {x1 : Int32} {x2 : Int32} {x4 : Int32} {x5 : Int32} {S' : St} {r : Int32} {k28 : St → Int32 → Int32 → Int32 → Int32 → Option (St × Int32)} (km28 : ∀ (S : St) (x1 : Int32) (x2 : Int32) (x4 : Int32) (x5 : Int32), k28 S x1 x2 x4 x5 = some (S', r) → kap S ≤ kap S') (h : b_TS_trim_28 g k28 S x1 x2 x4 x5 = some (S', r)) : kap S ≤ kap S' := by
  unfold b_TS_trim_28 at h
  have nn : nq S S := nq_rf
  by_cases hc1 : x5 ≤ x4
  · replace h := ift hc1 h
    have hkn := nq_kap nn
    have h2 := km_TS_trim_54 g _ _ _ _ _ h
    omega
  · replace h := iff0 hc1 h
    obtain ⟨v_3, hv_3, h⟩ := bnd h
    obtain ⟨v_4, hv_4, h⟩ := bnd h
    by_cases hc2 : v_4 = 0
    · replace h := ift hc2 h
      have hkn := nq_kap nn
      have h2 := km_TS_trim_54 g _ _ _ _ _ h
      omega
    · replace h := iff0 hc2 h
      obtain ⟨x4_5, ex4_5, h⟩ := lt_e h
      have hkn := nq_kap nn
      have h2 := km28 _ _ _ _ _ h
      omega
theorem km_TS_trim_28 {g : Nat} {S' : St} {r : Int32} (n : Nat) : ∀ (S : St) (x1 : Int32) (x2 : Int32) (x4 : Int32) (x5 : Int32), m_TS_trim_28 g n S x1 x2 x4 x5 = some (S', r) → kap S ≤ kap S' := by
  induction n with
  | zero => intro S x1 x2 x4 x5 h; exact absurd h (fun q => by cases q)
  | succ n ih => intro S x1 x2 x4 x5 h; exact kmb_TS_trim_28 ih h
theorem km_TS_trim {g : Nat} {S : St} {x1 : Int32} {x2 : Int32} {S' : St} {r : Int32} (h : m_TS_trim g S x1 x2 = some (S', r)) : kap S ≤ kap S' := by
  unfold m_TS_trim at h
  have nn : nq S S := nq_rf
  obtain ⟨v_1, hv_1, h⟩ := bnd h
  obtain ⟨v_2, hv_2, h⟩ := bnd h
  have hkn := nq_kap nn
  have h2 := km_TS_trim_28 g _ _ _ _ _ h
  omega
section S_TS_trim
variable {p : Program} {l : Launch} {e : Env} {s : State} {m : MethodId} {args : Array Value} {below : List Frame} {meth : Method} {c : Code} {H : Heap} {locs : List Loc} {ls : Array Slot} {D : va_G} {T : Cy} {ρ ρ0 : Nat → Nat} {S0 : St} {A : Nat → Prop}
set_option maxRecDepth 100000 in
set_option maxHeartbeats 4000000 in
theorem w_TS_trim_121 {g : Nat} {S : St} {y0 : Int32} (C : CallFix p m c cX9_trim 6 s args tb RX9) (hr : meth.sig.returnType = (some .int)) (hk : meth.locks = false) {S' : St} {r : Int32} (ha : Ag ρ0 ρ) (hm : kap S0 ≤ kap S) (w : Wn Yc D T ρ S A s H locs) (hl : lv_has ls 6 []) (h : m_TS_trim_121 g S y0 = some (S', r)) : W p l e (rmK 5 117 (kap S' - kap S0)) s m args below meth c H locs (kap S - kap S0) (2 * (kap S - kap S0)) (MQ below (QiM D T ρ0 A S' r) args s (kap S' - kap S0) (2 * (kap S' - kap S0)) A) (F0 m 121 ls [.int y0]) := by
  have hT := km_TS_trim_121 h
  unfold m_TS_trim_121 at h
  have nn : nq S S := nq_rf
  obtain ⟨rfl, rfl⟩ := prI h
  exact x_iretM C w ha hr hk dX9_trim_121 (by have := nq_kap nn; omega) (by have := nq_kap nn; omega)
set_option maxRecDepth 100000 in
set_option maxHeartbeats 4000000 in
theorem w_TS_trim_118 {g : Nat} {S : St} {y1 : Int32} {y2 : Int32} (C : CallFix p m c cX9_trim 6 s args tb RX9) (hr : meth.sig.returnType = (some .int)) (hk : meth.locks = false) {S' : St} {r : Int32} (ha : Ag ρ0 ρ) (hm : kap S0 ≤ kap S) (w : Wn Yc D T ρ S A s H locs) (hl : lv_has ls 6 []) (h : m_TS_trim_118 g S y1 y2 = some (S', r)) : W p l e (rmK 5 117 (kap S' - kap S0)) s m args below meth c H locs (kap S - kap S0) (2 * (kap S - kap S0)) (MQ below (QiM D T ρ0 A S' r) args s (kap S' - kap S0) (2 * (kap S' - kap S0)) A) (F0 m 118 ls [.int y2, .int y1, .ref (ρ 7)]) := by
  have hT := km_TS_trim_118 h
  unfold m_TS_trim_118 at h
  have nn : nq S S := nq_rf
  obtain ⟨⟨S_5, v_6⟩, hv_6, h⟩ := bnd h
  have hkn := nq_kap nn
  have hk1 := km_TS_become hv_6
  have hT2 := km_TS_trim_121 h
  refine x_callViM (q := (RX9, TX9, 6)) (As := [.int y1, .int y2]) (rest := []) C w (k_TS_become l D T ρ g H.size S hv_6) vX9_113 (hRK (by decide) (by decide)) obC7 (by decide) rfl rfl rfl hl.1 (Nat.le_of_ble_eq_true rfl) (hcM hm hkn hk1 hT2) dX9_trim_118 (fun ρ1 H locs hag w => ?_)
  replace ha := ha.trans hag
  refine W.widen (k := kap S_5 - kap S0) (n := 2 * (kap S_5 - kap S0)) (by omega) (by omega) ?_
  exact w_TS_trim_121 C hr hk ha (by omega) w (lv_sub hl [] rfl) h
set_option maxRecDepth 100000 in
set_option maxHeartbeats 4000000 in
theorem w_TS_trim_95 {g : Nat} {S : St} {x1 : Int32} {x4 : Int32} {x5 : Int32} (C : CallFix p m c cX9_trim 6 s args tb RX9) (hr : meth.sig.returnType = (some .int)) (hk : meth.locks = false) {S' : St} {r : Int32} (ha : Ag ρ0 ρ) (hm : kap S0 ≤ kap S) (w : Wn Yc D T ρ S A s H locs) (hl : lv_has ls 6 [(0, .ref (ρ 7)), (1, .int x1), (4, .int x4), (5, .int x5)]) (h : m_TS_trim_95 g S x1 x4 x5 = some (S', r)) : W p l e (rmK 5 117 (kap S' - kap S0)) s m args below meth c H locs (kap S - kap S0) (2 * (kap S - kap S0)) (MQ below (QiM D T ρ0 A S' r) args s (kap S' - kap S0) (2 * (kap S' - kap S0)) A) (F0 m 95 ls []) := by
  have hT := km_TS_trim_95 h
  unfold m_TS_trim_95 at h
  have nn : nq S S := nq_rf
  refine lv_aload_n C.1 C.2.1 dX9_trim_95 rfl (lv_at hl 0 rfl) ?_
  refine lv_iload_n C.1 C.2.1 dX9_trim_96 rfl (lv_at hl 1 rfl) ?_
  refine lv_iload C.1 C.2.1 dX9_trim_97 (lv_at hl 3 rfl) ?_
  refine lv_iload C.1 C.2.1 dX9_trim_99 (lv_at hl 2 rfl) ?_
  refine lv_isub C.1 C.2.1 dX9_trim_101 ?_
  refine lv_aload_n C.1 C.2.1 dX9_trim_102 rfl (lv_at hl 0 rfl) ?_
  refine x_getC C w 5 fX9_33 obC7 rfl dX9_trim_103 ?_
  refine lv_iload_n C.1 C.2.1 dX9_trim_106 rfl (lv_at hl 1 rfl) ?_
  obtain ⟨v_4, hv_4, h⟩ := bnd h
  refine x_callVi (q := (RX10, TX10, 5)) (As := [.int x1]) (rest := [.int (x5 - x4), .int x1, .ref (ρ 7)]) C w (k_Tx_sizeOf l D T ρ g H.size S hv_4) vX9_171 (hRK (by decide) (by decide)) obC5 (by decide) rfl rfl rfl hl.1 (Nat.le_of_ble_eq_true rfl) (hcK hT) dX9_trim_107 (fun H locs w => ?_)
  refine lv_icmp_ge (tgt := 117) C.1 C.2.1 dX9_trim_110 (by decide) (fun hc => ?_) (fun hc => ?_)
  · replace h := ift hc h
    refine lv_iconst (v := 0) C.1 C.2.1 dX9_trim_117 (by decide) ?_
    have hkn := nq_kap nn
    refine W.widen (k := kap S - kap S0) (n := 2 * (kap S - kap S0)) (by omega) (by omega) ?_
    exact w_TS_trim_118 C hr hk ha (by omega) w (lv_sub hl [] rfl) h
  · replace h := iff0 hc h
    refine lv_iconst (v := 1) C.1 C.2.1 dX9_trim_113 (by decide) ?_
    refine lv_goto (tgt := 118) C.1 C.2.1 dX9_trim_114 (by decide) ?_
    have hkn := nq_kap nn
    refine W.widen (k := kap S - kap S0) (n := 2 * (kap S - kap S0)) (by omega) (by omega) ?_
    exact w_TS_trim_118 C hr hk ha (by omega) w (lv_sub hl [] rfl) h
set_option maxRecDepth 100000 in
set_option maxHeartbeats 4000000 in
theorem w_TS_trim_82 {g : Nat} {S : St} {x1 : Int32} {x4 : Int32} {x5 : Int32} (C : CallFix p m c cX9_trim 6 s args tb RX9) (hr : meth.sig.returnType = (some .int)) (hk : meth.locks = false) {S' : St} {r : Int32} (ha : Ag ρ0 ρ) (hm : kap S0 ≤ kap S) (w : Wn Yc D T ρ S A s H locs) (hl : lv_has ls 6 [(0, .ref (ρ 7)), (1, .int x1), (3, .ref (ρ 18)), (4, .int x4), (5, .int x5)]) (h : m_TS_trim_82 g S x1 x4 x5 = some (S', r)) : W p l e (rmK 5 117 (kap S' - kap S0)) s m args below meth c H locs (kap S - kap S0) (2 * (kap S - kap S0)) (MQ below (QiM D T ρ0 A S' r) args s (kap S' - kap S0) (2 * (kap S' - kap S0)) A) (F0 m 82 ls []) := by
  have hT := km_TS_trim_82 h
  unfold m_TS_trim_82 at h
  have nn : nq S S := nq_rf
  refine lv_aload_n C.1 C.2.1 dX9_trim_82 rfl (lv_at hl 0 rfl) ?_
  refine x_getC C w 23 fX9_37 obC7 rfl dX9_trim_83 ?_
  refine lv_iconst (v := 0) C.1 C.2.1 dX9_trim_86 (by decide) ?_
  refine lv_aload_n C.1 C.2.1 dX9_trim_87 rfl (lv_at hl 2 rfl) ?_
  refine lv_iload C.1 C.2.1 dX9_trim_88 (lv_at hl 3 rfl) ?_
  refine lv_iload C.1 C.2.1 dX9_trim_90 (lv_at hl 4 rfl) ?_
  obtain ⟨S_3, hS_3, h⟩ := bnd h
  have hkn := nq_kap nn
  have hk1 := km_Row_insert hS_3
  have hT2 := km_TS_trim_95 h
  refine x_callVvM (q := (RX6, TX6, 4)) (As := [.int (0 : Int32), .ref (ρ 18), .int x4, .int x5]) (rest := []) C w (k_Row_insert l D T ρ g H.size S obC23 obC18 hS_3) vX9_109 (hRK (by decide) (by decide)) obC23 (by decide) rfl rfl rfl hl.1 (Nat.le_of_ble_eq_true rfl) (hcM hm hkn hk1 hT2) dX9_trim_92 (fun ρ1 H locs hag w => ?_)
  replace ha := ha.trans hag
  rw [← hag 7 (by decide)] at hl
  rw [← hag 18 (by decide)] at hl
  refine W.widen (k := kap S_3 - kap S0) (n := 2 * (kap S_3 - kap S0)) (by omega) (by omega) ?_
  exact w_TS_trim_95 C hr hk ha (by omega) w (lv_sub hl [0, 1, 3, 4] rfl) h
set_option maxRecDepth 100000 in
set_option maxHeartbeats 4000000 in
theorem wb_TS_trim_54 {g : Nat} {S : St} {x1 : Int32} {x2 : Int32} {x4 : Int32} {x5 : Int32} (C : CallFix p m c cX9_trim 6 s args tb RX9) (hr : meth.sig.returnType = (some .int)) (hk : meth.locks = false) {S' : St} {r : Int32} {k54 : St → Int32 → Int32 → Int32 → Int32 → Option (St × Int32)} (kk54 : ∀ (ρ : Nat → Nat) (S : St) (x1 : Int32) (x2 : Int32) (x4 : Int32) (x5 : Int32) (H : Heap) (locs : List Loc) (ls : Array Slot), Ag ρ0 ρ → kap S0 ≤ kap S → Wn Yc D T ρ S A s H locs → lv_has ls 6 [(0, .ref (ρ 7)), (1, .int x1), (2, .int x2), (3, .ref (ρ 18)), (4, .int x4), (5, .int x5)] → k54 S x1 x2 x4 x5 = some (S', r) → W p l e (rmK 5 117 (kap S' - kap S0)) s m args below meth c H locs (kap S - kap S0) (2 * (kap S - kap S0)) (MQ below (QiM D T ρ0 A S' r) args s (kap S' - kap S0) (2 * (kap S' - kap S0)) A) (F0 m 54 ls [])) (km54 : ∀ (S : St) (x1 : Int32) (x2 : Int32) (x4 : Int32) (x5 : Int32), k54 S x1 x2 x4 x5 = some (S', r) → kap S ≤ kap S') (ha : Ag ρ0 ρ) (hm : kap S0 ≤ kap S) (w : Wn Yc D T ρ S A s H locs) (hl : lv_has ls 6 [(0, .ref (ρ 7)), (1, .int x1), (2, .int x2), (3, .ref (ρ 18)), (4, .int x4), (5, .int x5)]) (h : b_TS_trim_54 g k54 S x1 x2 x4 x5 = some (S', r)) : W p l e (rmK 5 117 (kap S' - kap S0)) s m args below meth c H locs (kap S - kap S0) (2 * (kap S - kap S0)) (MQ below (QiM D T ρ0 A S' r) args s (kap S' - kap S0) (2 * (kap S' - kap S0)) A) (F0 m 54 ls []) := by
  have hT := kmb_TS_trim_54 km54 h
  unfold b_TS_trim_54 at h
  have nn : nq S S := nq_rf
  refine lv_iload C.1 C.2.1 dX9_trim_54 (lv_at hl 4 rfl) ?_
  refine lv_iload C.1 C.2.1 dX9_trim_56 (lv_at hl 5 rfl) ?_
  refine lv_icmp_ge (tgt := 82) C.1 C.2.1 dX9_trim_58 (by decide) (fun hc => ?_) (fun hc => ?_)
  · replace h := ift hc h
    have hkn := nq_kap nn
    refine W.widen (k := kap S - kap S0) (n := 2 * (kap S - kap S0)) (by omega) (by omega) ?_
    exact w_TS_trim_82 C hr hk ha (by omega) w (lv_sub hl [0, 1, 3, 4, 5] rfl) h
  · replace h := iff0 hc h
    refine lv_aload_n C.1 C.2.1 dX9_trim_61 rfl (lv_at hl 3 rfl) ?_
    refine lv_iload C.1 C.2.1 dX9_trim_62 (lv_at hl 5 rfl) ?_
    refine lv_iconst (v := 1) C.1 C.2.1 dX9_trim_64 (by decide) ?_
    refine lv_isub C.1 C.2.1 dX9_trim_65 ?_
    obtain ⟨v_3, hv_3, h⟩ := bnd h
    refine x_callVi (q := (RX6, TX6, 4)) (As := [.int (x5 - (1 : Int32))]) (rest := []) C w (k_Row_at l D T ρ g H.size S obC18 hv_3) vX9_182 (hRK (by decide) (by decide)) obC18 (by decide) rfl rfl rfl hl.1 (Nat.le_of_ble_eq_true rfl) (hcK hT) dX9_trim_66 (fun H locs w => ?_)
    refine lv_iload_n C.1 C.2.1 dX9_trim_69 rfl (lv_at hl 2 rfl) ?_
    obtain ⟨v_4, hv_4, h⟩ := bnd h
    refine x_callSi (As := [.int v_3, .int x2]) (rest := []) C w (k_TS_isLeftOut l D T ρ g H.size S hv_4) vX9_185 (hRK (by decide) (by decide)) rfl rfl hl.1 (Nat.le_of_ble_eq_true rfl) (hcK hT) dX9_trim_70 (fun H locs w => ?_)
    refine lv_if_eq (tgt := 82) C.1 C.2.1 dX9_trim_73 (by decide) (fun hc => ?_) (fun hc => ?_)
    · replace h := ift hc h
      have hkn := nq_kap nn
      refine W.widen (k := kap S - kap S0) (n := 2 * (kap S - kap S0)) (by omega) (by omega) ?_
      exact w_TS_trim_82 C hr hk ha (by omega) w (lv_sub hl [0, 1, 3, 4, 5] rfl) h
    · replace h := iff0 hc h
      obtain ⟨x5_5, ex5_5, h⟩ := lt_e h
      refine lv_iinc (v := x5_5) (lv' := [(5, .int x5_5), (0, .ref (ρ 7)), (1, .int x1), (2, .int x2), (3, .ref (ρ 18)), (4, .int x4)]) C.1 C.2.1 dX9_trim_76 hl (k := 5) rfl (by rw [ex5_5]; rfl) (by decide) rfl (fun ls hl => ?_)
      refine lv_goto (tgt := 54) C.1 C.2.1 dX9_trim_79 (by decide) ?_
      have hkn := nq_kap nn
      refine W.widen (k := kap S - kap S0) (n := 2 * (kap S - kap S0)) (by omega) (by omega) ?_
      exact kk54 _ _ _ _ _ _ _ _ _ ha (by omega) w (lv_sub hl [1, 2, 3, 4, 5, 0] rfl) h
theorem w_TS_trim_54 {g : Nat} (C : CallFix p m c cX9_trim 6 s args tb RX9) (hr : meth.sig.returnType = (some .int)) (hk : meth.locks = false) {S' : St} {r : Int32} (n : Nat) : ∀ (ρ : Nat → Nat) (S : St) (x1 : Int32) (x2 : Int32) (x4 : Int32) (x5 : Int32) (H : Heap) (locs : List Loc) (ls : Array Slot), Ag ρ0 ρ → kap S0 ≤ kap S → Wn Yc D T ρ S A s H locs → lv_has ls 6 [(0, .ref (ρ 7)), (1, .int x1), (2, .int x2), (3, .ref (ρ 18)), (4, .int x4), (5, .int x5)] → m_TS_trim_54 g n S x1 x2 x4 x5 = some (S', r) → W p l e (rmK 5 117 (kap S' - kap S0)) s m args below meth c H locs (kap S - kap S0) (2 * (kap S - kap S0)) (MQ below (QiM D T ρ0 A S' r) args s (kap S' - kap S0) (2 * (kap S' - kap S0)) A) (F0 m 54 ls []) := by
  induction n with
  | zero => intro ρ S x1 x2 x4 x5 H locs ls ha hm w hl h; exact absurd h (fun q => by cases q)
  | succ n ih => intro ρ S x1 x2 x4 x5 H locs ls ha hm w hl h; exact wb_TS_trim_54 C hr hk ih (km_TS_trim_54 n) ha hm w hl h
set_option maxRecDepth 100000 in
set_option maxHeartbeats 4000000 in
theorem wb_TS_trim_28 {g : Nat} {S : St} {x1 : Int32} {x2 : Int32} {x4 : Int32} {x5 : Int32} (C : CallFix p m c cX9_trim 6 s args tb RX9) (hr : meth.sig.returnType = (some .int)) (hk : meth.locks = false) {S' : St} {r : Int32} {k28 : St → Int32 → Int32 → Int32 → Int32 → Option (St × Int32)} (kk28 : ∀ (ρ : Nat → Nat) (S : St) (x1 : Int32) (x2 : Int32) (x4 : Int32) (x5 : Int32) (H : Heap) (locs : List Loc) (ls : Array Slot), Ag ρ0 ρ → kap S0 ≤ kap S → Wn Yc D T ρ S A s H locs → lv_has ls 6 [(0, .ref (ρ 7)), (1, .int x1), (2, .int x2), (3, .ref (ρ 18)), (4, .int x4), (5, .int x5)] → k28 S x1 x2 x4 x5 = some (S', r) → W p l e (rmK 5 117 (kap S' - kap S0)) s m args below meth c H locs (kap S - kap S0) (2 * (kap S - kap S0)) (MQ below (QiM D T ρ0 A S' r) args s (kap S' - kap S0) (2 * (kap S' - kap S0)) A) (F0 m 28 ls [])) (km28 : ∀ (S : St) (x1 : Int32) (x2 : Int32) (x4 : Int32) (x5 : Int32), k28 S x1 x2 x4 x5 = some (S', r) → kap S ≤ kap S') (ha : Ag ρ0 ρ) (hm : kap S0 ≤ kap S) (w : Wn Yc D T ρ S A s H locs) (hl : lv_has ls 6 [(0, .ref (ρ 7)), (1, .int x1), (2, .int x2), (3, .ref (ρ 18)), (4, .int x4), (5, .int x5)]) (h : b_TS_trim_28 g k28 S x1 x2 x4 x5 = some (S', r)) : W p l e (rmK 5 117 (kap S' - kap S0)) s m args below meth c H locs (kap S - kap S0) (2 * (kap S - kap S0)) (MQ below (QiM D T ρ0 A S' r) args s (kap S' - kap S0) (2 * (kap S' - kap S0)) A) (F0 m 28 ls []) := by
  have hT := kmb_TS_trim_28 km28 h
  unfold b_TS_trim_28 at h
  have nn : nq S S := nq_rf
  refine lv_iload C.1 C.2.1 dX9_trim_28 (lv_at hl 4 rfl) ?_
  refine lv_iload C.1 C.2.1 dX9_trim_30 (lv_at hl 5 rfl) ?_
  refine lv_icmp_ge (tgt := 54) C.1 C.2.1 dX9_trim_32 (by decide) (fun hc => ?_) (fun hc => ?_)
  · replace h := ift hc h
    have hkn := nq_kap nn
    refine W.widen (k := kap S - kap S0) (n := 2 * (kap S - kap S0)) (by omega) (by omega) ?_
    exact w_TS_trim_54 C hr hk g _ _ _ _ _ _ _ _ _ ha (by omega) w (lv_sub hl [0, 1, 2, 3, 4, 5] rfl) h
  · replace h := iff0 hc h
    refine lv_aload_n C.1 C.2.1 dX9_trim_35 rfl (lv_at hl 3 rfl) ?_
    refine lv_iload C.1 C.2.1 dX9_trim_36 (lv_at hl 4 rfl) ?_
    obtain ⟨v_3, hv_3, h⟩ := bnd h
    refine x_callVi (q := (RX6, TX6, 4)) (As := [.int x4]) (rest := []) C w (k_Row_at l D T ρ g H.size S obC18 hv_3) vX9_182 (hRK (by decide) (by decide)) obC18 (by decide) rfl rfl rfl hl.1 (Nat.le_of_ble_eq_true rfl) (hcK hT) dX9_trim_38 (fun H locs w => ?_)
    refine lv_iload_n C.1 C.2.1 dX9_trim_41 rfl (lv_at hl 2 rfl) ?_
    obtain ⟨v_4, hv_4, h⟩ := bnd h
    refine x_callSi (As := [.int v_3, .int x2]) (rest := []) C w (k_TS_isLeftOut l D T ρ g H.size S hv_4) vX9_185 (hRK (by decide) (by decide)) rfl rfl hl.1 (Nat.le_of_ble_eq_true rfl) (hcK hT) dX9_trim_42 (fun H locs w => ?_)
    refine lv_if_eq (tgt := 54) C.1 C.2.1 dX9_trim_45 (by decide) (fun hc => ?_) (fun hc => ?_)
    · replace h := ift hc h
      have hkn := nq_kap nn
      refine W.widen (k := kap S - kap S0) (n := 2 * (kap S - kap S0)) (by omega) (by omega) ?_
      exact w_TS_trim_54 C hr hk g _ _ _ _ _ _ _ _ _ ha (by omega) w (lv_sub hl [0, 1, 2, 3, 4, 5] rfl) h
    · replace h := iff0 hc h
      obtain ⟨x4_5, ex4_5, h⟩ := lt_e h
      refine lv_iinc (v := x4_5) (lv' := [(4, .int x4_5), (0, .ref (ρ 7)), (1, .int x1), (2, .int x2), (3, .ref (ρ 18)), (5, .int x5)]) C.1 C.2.1 dX9_trim_48 hl (k := 4) rfl (by rw [ex4_5]; rfl) (by decide) rfl (fun ls hl => ?_)
      refine lv_goto (tgt := 28) C.1 C.2.1 dX9_trim_51 (by decide) ?_
      have hkn := nq_kap nn
      refine W.widen (k := kap S - kap S0) (n := 2 * (kap S - kap S0)) (by omega) (by omega) ?_
      exact kk28 _ _ _ _ _ _ _ _ _ ha (by omega) w (lv_sub hl [1, 2, 3, 4, 0, 5] rfl) h
theorem w_TS_trim_28 {g : Nat} (C : CallFix p m c cX9_trim 6 s args tb RX9) (hr : meth.sig.returnType = (some .int)) (hk : meth.locks = false) {S' : St} {r : Int32} (n : Nat) : ∀ (ρ : Nat → Nat) (S : St) (x1 : Int32) (x2 : Int32) (x4 : Int32) (x5 : Int32) (H : Heap) (locs : List Loc) (ls : Array Slot), Ag ρ0 ρ → kap S0 ≤ kap S → Wn Yc D T ρ S A s H locs → lv_has ls 6 [(0, .ref (ρ 7)), (1, .int x1), (2, .int x2), (3, .ref (ρ 18)), (4, .int x4), (5, .int x5)] → m_TS_trim_28 g n S x1 x2 x4 x5 = some (S', r) → W p l e (rmK 5 117 (kap S' - kap S0)) s m args below meth c H locs (kap S - kap S0) (2 * (kap S - kap S0)) (MQ below (QiM D T ρ0 A S' r) args s (kap S' - kap S0) (2 * (kap S' - kap S0)) A) (F0 m 28 ls []) := by
  induction n with
  | zero => intro ρ S x1 x2 x4 x5 H locs ls ha hm w hl h; exact absurd h (fun q => by cases q)
  | succ n ih => intro ρ S x1 x2 x4 x5 H locs ls ha hm w hl h; exact wb_TS_trim_28 C hr hk ih (km_TS_trim_28 n) ha hm w hl h
set_option maxRecDepth 100000 in
set_option maxHeartbeats 4000000 in
theorem w_TS_trim_0 {g : Nat} {S : St} {x1 : Int32} {x2 : Int32} (C : CallFix p m c cX9_trim 6 s args tb RX9) (hr : meth.sig.returnType = (some .int)) (hk : meth.locks = false) {S' : St} {r : Int32} (ha : Ag ρ0 ρ) (hm : kap S0 ≤ kap S) (w : Wn Yc D T ρ S A s H locs) (hl : lv_has ls 6 [(0, .ref (ρ 7)), (1, .int x1), (2, .int x2)]) (h : m_TS_trim g S x1 x2 = some (S', r)) : W p l e (rmK 5 117 (kap S' - kap S0)) s m args below meth c H locs (kap S - kap S0) (2 * (kap S - kap S0)) (MQ below (QiM D T ρ0 A S' r) args s (kap S' - kap S0) (2 * (kap S' - kap S0)) A) (F0 m 0 ls []) := by
  have hT := km_TS_trim h
  unfold m_TS_trim at h
  have nn : nq S S := nq_rf
  refine lv_aload_n C.1 C.2.1 dX9_trim_0 rfl (lv_at hl 0 rfl) ?_
  refine x_getC C w 5 fX9_33 obC7 rfl dX9_trim_1 ?_
  refine x_getC C w 18 fX9_143 obC5 rfl dX9_trim_4 ?_
  refine lv_astore_n (lv' := [(3, .ref (ρ 18)), (0, .ref (ρ 7)), (1, .int x1), (2, .int x2)]) C.1 C.2.1 dX9_trim_7 rfl hl (by decide) rfl (fun ls hl => ?_)
  refine lv_aload_n C.1 C.2.1 dX9_trim_8 rfl (lv_at hl 1 rfl) ?_
  refine x_getC C w 5 fX9_33 obC7 rfl dX9_trim_9 ?_
  refine lv_iload_n C.1 C.2.1 dX9_trim_12 rfl (lv_at hl 2 rfl) ?_
  obtain ⟨v_1, hv_1, h⟩ := bnd h
  refine x_callVi (q := (RX10, TX10, 5)) (As := [.int x1]) (rest := []) C w (k_Tx_startOf l D T ρ g H.size S hv_1) vX9_146 (hRK (by decide) (by decide)) obC5 (by decide) rfl rfl rfl hl.1 (Nat.le_of_ble_eq_true rfl) (hcK hT) dX9_trim_13 (fun H locs w => ?_)
  refine lv_istore (lv' := [(4, .int v_1), (3, .ref (ρ 18)), (0, .ref (ρ 7)), (1, .int x1), (2, .int x2)]) C.1 C.2.1 dX9_trim_16 hl (by decide) rfl (fun ls hl => ?_)
  refine lv_aload_n C.1 C.2.1 dX9_trim_18 rfl (lv_at hl 2 rfl) ?_
  refine x_getC C w 5 fX9_33 obC7 rfl dX9_trim_19 ?_
  refine lv_iload_n C.1 C.2.1 dX9_trim_22 rfl (lv_at hl 3 rfl) ?_
  obtain ⟨v_2, hv_2, h⟩ := bnd h
  refine x_callVi (q := (RX10, TX10, 5)) (As := [.int x1]) (rest := []) C w (k_Tx_endOf l D T ρ g H.size S hv_2) vX9_149 (hRK (by decide) (by decide)) obC5 (by decide) rfl rfl rfl hl.1 (Nat.le_of_ble_eq_true rfl) (hcK hT) dX9_trim_23 (fun H locs w => ?_)
  refine lv_istore (lv' := [(5, .int v_2), (4, .int v_1), (3, .ref (ρ 18)), (0, .ref (ρ 7)), (1, .int x1), (2, .int x2)]) C.1 C.2.1 dX9_trim_26 hl (by decide) rfl (fun ls hl => ?_)
  have hkn := nq_kap nn
  refine W.widen (k := kap S - kap S0) (n := 2 * (kap S - kap S0)) (by omega) (by omega) ?_
  exact w_TS_trim_28 C hr hk g _ _ _ _ _ _ _ _ _ ha (by omega) w (lv_sub hl [3, 4, 5, 2, 1, 0] rfl) h
end S_TS_trim
set_option maxRecDepth 100000 in
theorem k_TS_trim (l : Launch) (D : va_G) (T : Cy) (ρ : Nat → Nat) (g sz : Nat) (S : St) {x1 : Int32} {x2 : Int32} {S' : St} {r : Int32} (h : m_TS_trim g S x1 x2 = some (S', r)) : MiM l D T ρ yX9_trim cX9_trim 6 (some .int) 5 117 S S' r [.ref (ρ 7), .int x1, .int x2] sz :=
  x_inR (by decide) (Nat.le_of_ble_eq_true rfl) (fun p e s m below meth c ls C hr hk w hl => W.widen (Nat.zero_le _) (Nat.zero_le _) (w_TS_trim_0 C hr hk Ag.rf (Nat.le_refl _) w hl h))

theorem dX9_repeat_0 : decode cX9_repeat 0 = .ok (.aload_n 0, 1) := by decide +kernel
theorem dX9_repeat_1 : decode cX9_repeat 1 = .ok (.getfield 23, 3) := by decide +kernel
theorem dX9_repeat_4 : decode cX9_repeat 4 = .ok (.iconst 2, 1) := by decide +kernel
theorem dX9_repeat_5 : decode cX9_repeat 5 = .ok (.invokevirtual 119, 3) := by decide +kernel
theorem dX9_repeat_8 : decode cX9_repeat 8 = .ok (.lstore_n 2, 1) := by decide +kernel
theorem dX9_repeat_9 : decode cX9_repeat 9 = .ok (.lload_n 2, 1) := by decide +kernel
theorem dX9_repeat_10 : decode cX9_repeat 10 = .ok (.lconst 0, 1) := by decide +kernel
theorem dX9_repeat_11 : decode cX9_repeat 11 = .ok (.lcmp, 1) := by decide +kernel
theorem dX9_repeat_12 : decode cX9_repeat 12 = .ok (.ifCond .ge 5, 3) := by decide +kernel
theorem dX9_repeat_15 : decode cX9_repeat 15 = .ok (.iconst 3, 1) := by decide +kernel
theorem dX9_repeat_16 : decode cX9_repeat 16 = .ok (.ireturn, 1) := by decide +kernel
theorem dX9_repeat_17 : decode cX9_repeat 17 = .ok (.iconst 0, 1) := by decide +kernel
theorem dX9_repeat_18 : decode cX9_repeat 18 = .ok (.istore 4, 2) := by decide +kernel
theorem dX9_repeat_20 : decode cX9_repeat 20 = .ok (.iload 4, 2) := by decide +kernel
theorem dX9_repeat_22 : decode cX9_repeat 22 = .ok (.i2l, 1) := by decide +kernel
theorem dX9_repeat_23 : decode cX9_repeat 23 = .ok (.lload_n 2, 1) := by decide +kernel
theorem dX9_repeat_24 : decode cX9_repeat 24 = .ok (.lcmp, 1) := by decide +kernel
theorem dX9_repeat_25 : decode cX9_repeat 25 = .ok (.ifCond .ge 35, 3) := by decide +kernel
theorem dX9_repeat_28 : decode cX9_repeat 28 = .ok (.iload 4, 2) := by decide +kernel
theorem dX9_repeat_30 : decode cX9_repeat 30 = .ok (.sipush 400, 3) := by decide +kernel
theorem dX9_repeat_33 : decode cX9_repeat 33 = .ok (.if_icmp .ge 27, 3) := by decide +kernel
theorem dX9_repeat_36 : decode cX9_repeat 36 = .ok (.aload_n 0, 1) := by decide +kernel
theorem dX9_repeat_37 : decode cX9_repeat 37 = .ok (.getfield 37, 3) := by decide +kernel
theorem dX9_repeat_40 : decode cX9_repeat 40 = .ok (.getfield 139, 3) := by decide +kernel
theorem dX9_repeat_43 : decode cX9_repeat 43 = .ok (.ifCond .ne 17, 3) := by decide +kernel
theorem dX9_repeat_46 : decode cX9_repeat 46 = .ok (.aload_n 0, 1) := by decide +kernel
theorem dX9_repeat_47 : decode cX9_repeat 47 = .ok (.getfield 23, 3) := by decide +kernel
theorem dX9_repeat_50 : decode cX9_repeat 50 = .ok (.iload_n 1, 1) := by decide +kernel
theorem dX9_repeat_51 : decode cX9_repeat 51 = .ok (.invokevirtual 64, 3) := by decide +kernel
theorem dX9_repeat_54 : decode cX9_repeat 54 = .ok (.iinc 4 1, 3) := by decide +kernel
theorem dX9_repeat_57 : decode cX9_repeat 57 = .ok (.goto (-37), 3) := by decide +kernel
theorem dX9_repeat_60 : decode cX9_repeat 60 = .ok (.lload_n 2, 1) := by decide +kernel
theorem dX9_repeat_61 : decode cX9_repeat 61 = .ok (.ldc2_w 195, 3) := by decide +kernel
theorem dX9_repeat_64 : decode cX9_repeat 64 = .ok (.lcmp, 1) := by decide +kernel
theorem dX9_repeat_65 : decode cX9_repeat 65 = .ok (.ifCond .le 16, 3) := by decide +kernel
theorem dX9_repeat_68 : decode cX9_repeat 68 = .ok (.aload_n 0, 1) := by decide +kernel
theorem dX9_repeat_69 : decode cX9_repeat 69 = .ok (.getfield 33, 3) := by decide +kernel
theorem dX9_repeat_72 : decode cX9_repeat 72 = .ok (.iload_n 1, 1) := by decide +kernel
theorem dX9_repeat_73 : decode cX9_repeat 73 = .ok (.invokevirtual 171, 3) := by decide +kernel
theorem dX9_repeat_76 : decode cX9_repeat 76 = .ok (.ifCond .le 5, 3) := by decide +kernel
theorem dX9_repeat_79 : decode cX9_repeat 79 = .ok (.iconst 5, 1) := by decide +kernel
theorem dX9_repeat_80 : decode cX9_repeat 80 = .ok (.ireturn, 1) := by decide +kernel
theorem dX9_repeat_81 : decode cX9_repeat 81 = .ok (.aload_n 0, 1) := by decide +kernel
theorem dX9_repeat_82 : decode cX9_repeat 82 = .ok (.iload_n 1, 1) := by decide +kernel
theorem dX9_repeat_83 : decode cX9_repeat 83 = .ok (.lload_n 2, 1) := by decide +kernel
theorem dX9_repeat_84 : decode cX9_repeat 84 = .ok (.lconst 1, 1) := by decide +kernel
theorem dX9_repeat_85 : decode cX9_repeat 85 = .ok (.lcmp, 1) := by decide +kernel
theorem dX9_repeat_86 : decode cX9_repeat 86 = .ok (.ifCond .eq 7, 3) := by decide +kernel
theorem dX9_repeat_89 : decode cX9_repeat 89 = .ok (.iconst 1, 1) := by decide +kernel
theorem dX9_repeat_90 : decode cX9_repeat 90 = .ok (.goto 4, 3) := by decide +kernel
theorem dX9_repeat_93 : decode cX9_repeat 93 = .ok (.iconst 0, 1) := by decide +kernel
theorem dX9_repeat_94 : decode cX9_repeat 94 = .ok (.invokevirtual 113, 3) := by decide +kernel
theorem dX9_repeat_97 : decode cX9_repeat 97 = .ok (.ireturn, 1) := by decide +kernel
def m_TS_repeat_97 (g : Nat) (S : St) (y0 : Int32) : Option (St × Int32) :=
some (S, y0)
def m_TS_repeat_94 (g : Nat) (S : St) (y1 : Int32) (y2 : Int32) : Option (St × Int32) :=
(m_TS_become g S y1 y2).bind fun (S_2, v_3) =>
m_TS_repeat_97 g S_2 v_3
def m_TS_repeat_81 (g : Nat) (S : St) (x1 : Int32) (x2 : Int64) : Option (St × Int32) :=
if x2 = (1 : Int64) then (
  m_TS_repeat_94 g S x1 (0 : Int32)
) else (
  m_TS_repeat_94 g S x1 (1 : Int32)
)
def m_TS_repeat_60 (g : Nat) (S : St) (x1 : Int32) (x2 : Int64) : Option (St × Int32) :=
if (400 : Int64) < x2 then (
  (m_Tx_sizeOf g S x1).bind fun v_2 =>
  if v_2 ≤ 0 then (
    m_TS_repeat_81 g S x1 x2
  ) else (
    some (S, (5 : Int32))
  )
) else (
  m_TS_repeat_81 g S x1 x2
)
def m_TS_repeat_54 (g : Nat) (k20 : St → Int32 → Int64 → Int32 → Option (St × Int32)) (S : St) (x1 : Int32) (x2 : Int64) (x4 : Int32) : Option (St × Int32) :=
lt (x4 + (1 : Int32)) fun x4_3 =>
k20 S x1 x2 x4_3
def b_TS_repeat_20 (g : Nat) (k20 : St → Int32 → Int64 → Int32 → Option (St × Int32)) (S : St) (x1 : Int32) (x2 : Int64) (x4 : Int32) : Option (St × Int32) :=
if (x4.toInt64) < x2 then (
  if (400 : Int32) ≤ x4 then (
    m_TS_repeat_60 g S x1 x2
  ) else (
    if (gI S 23 3) = 0 then (
      (m_Bn_addText g S x1).bind fun S_2 =>
      m_TS_repeat_54 g k20 S_2 x1 x2 x4
    ) else (
      m_TS_repeat_60 g S x1 x2
    )
  )
) else (
  m_TS_repeat_60 g S x1 x2
)
def m_TS_repeat_20 (g : Nat) : Nat → St → Int32 → Int64 → Int32 → Option (St × Int32)
  | 0, _, _, _, _ => none
  | n + 1, S, x1, x2, x4 => b_TS_repeat_20 g (m_TS_repeat_20 g n) S x1 x2 x4
def m_TS_repeat (g : Nat) (S : St) (x1 : Int32) : Option (St × Int32) :=
(m_Bn_wholeAt g S (2 : Int32)).bind fun v_1 =>
if v_1 < (0 : Int64) then (
  some (S, (3 : Int32))
) else (
  m_TS_repeat_20 g g S x1 v_1 (0 : Int32)
)
theorem km_TS_repeat_97 {g : Nat} {S : St} {y0 : Int32} {S' : St} {r : Int32} (h : m_TS_repeat_97 g S y0 = some (S', r)) : kap S ≤ kap S' := by
  unfold m_TS_repeat_97 at h
  have nn : nq S S := nq_rf
  obtain ⟨rfl, rfl⟩ := prI h
  have hkn := nq_kap nn
  omega
theorem km_TS_repeat_94 {g : Nat} {S : St} {y1 : Int32} {y2 : Int32} {S' : St} {r : Int32} (h : m_TS_repeat_94 g S y1 y2 = some (S', r)) : kap S ≤ kap S' := by
  unfold m_TS_repeat_94 at h
  have nn : nq S S := nq_rf
  obtain ⟨⟨S_2, v_3⟩, hv_3, h⟩ := bnd h
  have hk1 := km_TS_become hv_3
  have hkn := nq_kap nn
  have h2 := km_TS_repeat_97 h
  omega
theorem km_TS_repeat_81 {g : Nat} {S : St} {x1 : Int32} {x2 : Int64} {S' : St} {r : Int32} (h : m_TS_repeat_81 g S x1 x2 = some (S', r)) : kap S ≤ kap S' := by
  unfold m_TS_repeat_81 at h
  have nn : nq S S := nq_rf
  by_cases hc1 : x2 = (1 : Int64)
  · replace h := ift hc1 h
    have hkn := nq_kap nn
    have h2 := km_TS_repeat_94 h
    omega
  · replace h := iff0 hc1 h
    have hkn := nq_kap nn
    have h2 := km_TS_repeat_94 h
    omega
theorem km_TS_repeat_60 {g : Nat} {S : St} {x1 : Int32} {x2 : Int64} {S' : St} {r : Int32} (h : m_TS_repeat_60 g S x1 x2 = some (S', r)) : kap S ≤ kap S' := by
  unfold m_TS_repeat_60 at h
  have nn : nq S S := nq_rf
  by_cases hc1 : (400 : Int64) < x2
  · replace h := ift hc1 h
    obtain ⟨v_2, hv_2, h⟩ := bnd h
    by_cases hc2 : v_2 ≤ 0
    · replace h := ift hc2 h
      have hkn := nq_kap nn
      have h2 := km_TS_repeat_81 h
      omega
    · replace h := iff0 hc2 h
      obtain ⟨rfl, rfl⟩ := prI h
      have hkn := nq_kap nn
      omega
  · replace h := iff0 hc1 h
    have hkn := nq_kap nn
    have h2 := km_TS_repeat_81 h
    omega
theorem km_TS_repeat_54 {g : Nat} {S : St} {x1 : Int32} {x2 : Int64} {x4 : Int32} {S' : St} {r : Int32} {k20 : St → Int32 → Int64 → Int32 → Option (St × Int32)} (km20 : ∀ (S : St) (x1 : Int32) (x2 : Int64) (x4 : Int32), k20 S x1 x2 x4 = some (S', r) → kap S ≤ kap S') (h : m_TS_repeat_54 g k20 S x1 x2 x4 = some (S', r)) : kap S ≤ kap S' := by
  unfold m_TS_repeat_54 at h
  have nn : nq S S := nq_rf
  obtain ⟨x4_3, ex4_3, h⟩ := lt_e h
  have hkn := nq_kap nn
  have h2 := km20 _ _ _ _ h
  omega
theorem kmb_TS_repeat_20 {g : Nat} {S : St} {x1 : Int32} {x2 : Int64} {x4 : Int32} {S' : St} {r : Int32} {k20 : St → Int32 → Int64 → Int32 → Option (St × Int32)} (km20 : ∀ (S : St) (x1 : Int32) (x2 : Int64) (x4 : Int32), k20 S x1 x2 x4 = some (S', r) → kap S ≤ kap S') (h : b_TS_repeat_20 g k20 S x1 x2 x4 = some (S', r)) : kap S ≤ kap S' := by
  unfold b_TS_repeat_20 at h
  have nn : nq S S := nq_rf
  by_cases hc1 : (x4.toInt64) < x2
  · replace h := ift hc1 h
    by_cases hc2 : (400 : Int32) ≤ x4
    · replace h := ift hc2 h
      have hkn := nq_kap nn
      have h2 := km_TS_repeat_60 h
      omega
    · replace h := iff0 hc2 h
      by_cases hc3 : (gI S 23 3) = 0
      · replace h := ift hc3 h
        obtain ⟨S_2, hS_2, h⟩ := bnd h
        have hk1 := km_Bn_addText hS_2
        have hkn := nq_kap nn
        have h2 := km_TS_repeat_54 km20 h
        omega
      · replace h := iff0 hc3 h
        have hkn := nq_kap nn
        have h2 := km_TS_repeat_60 h
        omega
  · replace h := iff0 hc1 h
    have hkn := nq_kap nn
    have h2 := km_TS_repeat_60 h
    omega
theorem km_TS_repeat_20 {g : Nat} {S' : St} {r : Int32} (n : Nat) : ∀ (S : St) (x1 : Int32) (x2 : Int64) (x4 : Int32), m_TS_repeat_20 g n S x1 x2 x4 = some (S', r) → kap S ≤ kap S' := by
  induction n with
  | zero => intro S x1 x2 x4 h; exact absurd h (fun q => by cases q)
  | succ n ih => intro S x1 x2 x4 h; exact kmb_TS_repeat_20 ih h
theorem km_TS_repeat {g : Nat} {S : St} {x1 : Int32} {S' : St} {r : Int32} (h : m_TS_repeat g S x1 = some (S', r)) : kap S ≤ kap S' := by
  unfold m_TS_repeat at h
  have nn : nq S S := nq_rf
  obtain ⟨v_1, hv_1, h⟩ := bnd h
  by_cases hc1 : v_1 < (0 : Int64)
  · replace h := ift hc1 h
    obtain ⟨rfl, rfl⟩ := prI h
    have hkn := nq_kap nn
    omega
  · replace h := iff0 hc1 h
    have hkn := nq_kap nn
    have h2 := km_TS_repeat_20 g _ _ _ _ h
    omega
section S_TS_repeat
variable {p : Program} {l : Launch} {e : Env} {s : State} {m : MethodId} {args : Array Value} {below : List Frame} {meth : Method} {c : Code} {H : Heap} {locs : List Loc} {ls : Array Slot} {D : va_G} {T : Cy} {ρ ρ0 : Nat → Nat} {S0 : St} {A : Nat → Prop}
set_option maxRecDepth 100000 in
set_option maxHeartbeats 4000000 in
theorem w_TS_repeat_97 {g : Nat} {S : St} {y0 : Int32} (C : CallFix p m c cX9_repeat 5 s args tb RX9) (hr : meth.sig.returnType = (some .int)) (hk : meth.locks = false) {S' : St} {r : Int32} (ha : Ag ρ0 ρ) (hm : kap S0 ≤ kap S) (w : Wn Yc D T ρ S A s H locs) (hl : lv_has ls 5 []) (h : m_TS_repeat_97 g S y0 = some (S', r)) : W p l e (rmK 5 117 (kap S' - kap S0)) s m args below meth c H locs (kap S - kap S0) (2 * (kap S - kap S0)) (MQ below (QiM D T ρ0 A S' r) args s (kap S' - kap S0) (2 * (kap S' - kap S0)) A) (F0 m 97 ls [.int y0]) := by
  have hT := km_TS_repeat_97 h
  unfold m_TS_repeat_97 at h
  have nn : nq S S := nq_rf
  obtain ⟨rfl, rfl⟩ := prI h
  exact x_iretM C w ha hr hk dX9_repeat_97 (by have := nq_kap nn; omega) (by have := nq_kap nn; omega)
set_option maxRecDepth 100000 in
set_option maxHeartbeats 4000000 in
theorem w_TS_repeat_94 {g : Nat} {S : St} {y1 : Int32} {y2 : Int32} (C : CallFix p m c cX9_repeat 5 s args tb RX9) (hr : meth.sig.returnType = (some .int)) (hk : meth.locks = false) {S' : St} {r : Int32} (ha : Ag ρ0 ρ) (hm : kap S0 ≤ kap S) (w : Wn Yc D T ρ S A s H locs) (hl : lv_has ls 5 []) (h : m_TS_repeat_94 g S y1 y2 = some (S', r)) : W p l e (rmK 5 117 (kap S' - kap S0)) s m args below meth c H locs (kap S - kap S0) (2 * (kap S - kap S0)) (MQ below (QiM D T ρ0 A S' r) args s (kap S' - kap S0) (2 * (kap S' - kap S0)) A) (F0 m 94 ls [.int y2, .int y1, .ref (ρ 7)]) := by
  have hT := km_TS_repeat_94 h
  unfold m_TS_repeat_94 at h
  have nn : nq S S := nq_rf
  obtain ⟨⟨S_2, v_3⟩, hv_3, h⟩ := bnd h
  have hkn := nq_kap nn
  have hk1 := km_TS_become hv_3
  have hT2 := km_TS_repeat_97 h
  refine x_callViM (q := (RX9, TX9, 6)) (As := [.int y1, .int y2]) (rest := []) C w (k_TS_become l D T ρ g H.size S hv_3) vX9_113 (hRK (by decide) (by decide)) obC7 (by decide) rfl rfl rfl hl.1 (Nat.le_of_ble_eq_true rfl) (hcM hm hkn hk1 hT2) dX9_repeat_94 (fun ρ1 H locs hag w => ?_)
  replace ha := ha.trans hag
  refine W.widen (k := kap S_2 - kap S0) (n := 2 * (kap S_2 - kap S0)) (by omega) (by omega) ?_
  exact w_TS_repeat_97 C hr hk ha (by omega) w (lv_sub hl [] rfl) h
set_option maxRecDepth 100000 in
set_option maxHeartbeats 4000000 in
theorem w_TS_repeat_81 {g : Nat} {S : St} {x1 : Int32} {x2 : Int64} (C : CallFix p m c cX9_repeat 5 s args tb RX9) (hr : meth.sig.returnType = (some .int)) (hk : meth.locks = false) {S' : St} {r : Int32} (ha : Ag ρ0 ρ) (hm : kap S0 ≤ kap S) (w : Wn Yc D T ρ S A s H locs) (hl : lv_has ls 5 [(0, .ref (ρ 7)), (1, .int x1), (2, .long x2)]) (h : m_TS_repeat_81 g S x1 x2 = some (S', r)) : W p l e (rmK 5 117 (kap S' - kap S0)) s m args below meth c H locs (kap S - kap S0) (2 * (kap S - kap S0)) (MQ below (QiM D T ρ0 A S' r) args s (kap S' - kap S0) (2 * (kap S' - kap S0)) A) (F0 m 81 ls []) := by
  have hT := km_TS_repeat_81 h
  unfold m_TS_repeat_81 at h
  have nn : nq S S := nq_rf
  refine lv_aload_n C.1 C.2.1 dX9_repeat_81 rfl (lv_at hl 0 rfl) ?_
  refine lv_iload_n C.1 C.2.1 dX9_repeat_82 rfl (lv_at hl 1 rfl) ?_
  refine lv_lload_n C.1 C.2.1 dX9_repeat_83 rfl (lv_at hl 2 rfl) ?_
  refine lv_lconst (v := 1) C.1 C.2.1 dX9_repeat_84 (by decide) ?_
  refine x_l_eq (tgt := 93) C dX9_repeat_85 dX9_repeat_86 (by decide) (fun hc => ?_) (fun hc => ?_)
  · replace h := ift hc h
    refine lv_iconst (v := 0) C.1 C.2.1 dX9_repeat_93 (by decide) ?_
    have hkn := nq_kap nn
    refine W.widen (k := kap S - kap S0) (n := 2 * (kap S - kap S0)) (by omega) (by omega) ?_
    exact w_TS_repeat_94 C hr hk ha (by omega) w (lv_sub hl [] rfl) h
  · replace h := iff0 hc h
    refine lv_iconst (v := 1) C.1 C.2.1 dX9_repeat_89 (by decide) ?_
    refine lv_goto (tgt := 94) C.1 C.2.1 dX9_repeat_90 (by decide) ?_
    have hkn := nq_kap nn
    refine W.widen (k := kap S - kap S0) (n := 2 * (kap S - kap S0)) (by omega) (by omega) ?_
    exact w_TS_repeat_94 C hr hk ha (by omega) w (lv_sub hl [] rfl) h
set_option maxRecDepth 100000 in
set_option maxHeartbeats 4000000 in
theorem w_TS_repeat_60 {g : Nat} {S : St} {x1 : Int32} {x2 : Int64} (C : CallFix p m c cX9_repeat 5 s args tb RX9) (hr : meth.sig.returnType = (some .int)) (hk : meth.locks = false) {S' : St} {r : Int32} (ha : Ag ρ0 ρ) (hm : kap S0 ≤ kap S) (w : Wn Yc D T ρ S A s H locs) (hl : lv_has ls 5 [(0, .ref (ρ 7)), (1, .int x1), (2, .long x2)]) (h : m_TS_repeat_60 g S x1 x2 = some (S', r)) : W p l e (rmK 5 117 (kap S' - kap S0)) s m args below meth c H locs (kap S - kap S0) (2 * (kap S - kap S0)) (MQ below (QiM D T ρ0 A S' r) args s (kap S' - kap S0) (2 * (kap S' - kap S0)) A) (F0 m 60 ls []) := by
  have hT := km_TS_repeat_60 h
  unfold m_TS_repeat_60 at h
  have nn : nq S S := nq_rf
  refine lv_lload_n C.1 C.2.1 dX9_repeat_60 rfl (lv_at hl 2 rfl) ?_
  refine lv_ldc2 C.1 C.2.1 C.2.2.2.1 (C.2.2.2.2 _ nX9_195) dX9_repeat_61 ?_
  refine x_l_le (tgt := 81) C dX9_repeat_64 dX9_repeat_65 (by decide) (fun hc => ?_) (fun hc => ?_)
  · replace h := iff0 hc h
    have hkn := nq_kap nn
    refine W.widen (k := kap S - kap S0) (n := 2 * (kap S - kap S0)) (by omega) (by omega) ?_
    exact w_TS_repeat_81 C hr hk ha (by omega) w (lv_sub hl [0, 1, 2] rfl) h
  · replace h := ift hc h
    refine lv_aload_n C.1 C.2.1 dX9_repeat_68 rfl (lv_at hl 0 rfl) ?_
    refine x_getC C w 5 fX9_33 obC7 rfl dX9_repeat_69 ?_
    refine lv_iload_n C.1 C.2.1 dX9_repeat_72 rfl (lv_at hl 1 rfl) ?_
    obtain ⟨v_2, hv_2, h⟩ := bnd h
    refine x_callVi (q := (RX10, TX10, 5)) (As := [.int x1]) (rest := []) C w (k_Tx_sizeOf l D T ρ g H.size S hv_2) vX9_171 (hRK (by decide) (by decide)) obC5 (by decide) rfl rfl rfl hl.1 (Nat.le_of_ble_eq_true rfl) (hcK hT) dX9_repeat_73 (fun H locs w => ?_)
    refine lv_if_le (tgt := 81) C.1 C.2.1 dX9_repeat_76 (by decide) (fun hc => ?_) (fun hc => ?_)
    · replace h := ift hc h
      have hkn := nq_kap nn
      refine W.widen (k := kap S - kap S0) (n := 2 * (kap S - kap S0)) (by omega) (by omega) ?_
      exact w_TS_repeat_81 C hr hk ha (by omega) w (lv_sub hl [0, 1, 2] rfl) h
    · replace h := iff0 hc h
      refine lv_iconst (v := 5) C.1 C.2.1 dX9_repeat_79 (by decide) ?_
      obtain ⟨rfl, rfl⟩ := prI h
      exact x_iretM C w ha hr hk dX9_repeat_80 (by have := nq_kap nn; omega) (by have := nq_kap nn; omega)
set_option maxRecDepth 100000 in
set_option maxHeartbeats 4000000 in
theorem w_TS_repeat_54 {g : Nat} {S : St} {x1 : Int32} {x2 : Int64} {x4 : Int32} (C : CallFix p m c cX9_repeat 5 s args tb RX9) (hr : meth.sig.returnType = (some .int)) (hk : meth.locks = false) {S' : St} {r : Int32} {k20 : St → Int32 → Int64 → Int32 → Option (St × Int32)} (kk20 : ∀ (ρ : Nat → Nat) (S : St) (x1 : Int32) (x2 : Int64) (x4 : Int32) (H : Heap) (locs : List Loc) (ls : Array Slot), Ag ρ0 ρ → kap S0 ≤ kap S → Wn Yc D T ρ S A s H locs → lv_has ls 5 [(0, .ref (ρ 7)), (1, .int x1), (2, .long x2), (4, .int x4)] → k20 S x1 x2 x4 = some (S', r) → W p l e (rmK 5 117 (kap S' - kap S0)) s m args below meth c H locs (kap S - kap S0) (2 * (kap S - kap S0)) (MQ below (QiM D T ρ0 A S' r) args s (kap S' - kap S0) (2 * (kap S' - kap S0)) A) (F0 m 20 ls [])) (km20 : ∀ (S : St) (x1 : Int32) (x2 : Int64) (x4 : Int32), k20 S x1 x2 x4 = some (S', r) → kap S ≤ kap S') (ha : Ag ρ0 ρ) (hm : kap S0 ≤ kap S) (w : Wn Yc D T ρ S A s H locs) (hl : lv_has ls 5 [(0, .ref (ρ 7)), (1, .int x1), (2, .long x2), (4, .int x4)]) (h : m_TS_repeat_54 g k20 S x1 x2 x4 = some (S', r)) : W p l e (rmK 5 117 (kap S' - kap S0)) s m args below meth c H locs (kap S - kap S0) (2 * (kap S - kap S0)) (MQ below (QiM D T ρ0 A S' r) args s (kap S' - kap S0) (2 * (kap S' - kap S0)) A) (F0 m 54 ls []) := by
  have hT := km_TS_repeat_54 km20 h
  unfold m_TS_repeat_54 at h
  have nn : nq S S := nq_rf
  obtain ⟨x4_3, ex4_3, h⟩ := lt_e h
  refine lv_iinc (v := x4_3) (lv' := [(4, .int x4_3), (0, .ref (ρ 7)), (1, .int x1), (2, .long x2)]) C.1 C.2.1 dX9_repeat_54 hl (k := 3) rfl (by rw [ex4_3]; rfl) (by decide) rfl (fun ls hl => ?_)
  refine lv_goto (tgt := 20) C.1 C.2.1 dX9_repeat_57 (by decide) ?_
  have hkn := nq_kap nn
  refine W.widen (k := kap S - kap S0) (n := 2 * (kap S - kap S0)) (by omega) (by omega) ?_
  exact kk20 _ _ _ _ _ _ _ _ ha (by omega) w (lv_sub hl [1, 2, 3, 0] rfl) h
set_option maxRecDepth 100000 in
set_option maxHeartbeats 4000000 in
theorem wb_TS_repeat_20 {g : Nat} {S : St} {x1 : Int32} {x2 : Int64} {x4 : Int32} (C : CallFix p m c cX9_repeat 5 s args tb RX9) (hr : meth.sig.returnType = (some .int)) (hk : meth.locks = false) {S' : St} {r : Int32} {k20 : St → Int32 → Int64 → Int32 → Option (St × Int32)} (kk20 : ∀ (ρ : Nat → Nat) (S : St) (x1 : Int32) (x2 : Int64) (x4 : Int32) (H : Heap) (locs : List Loc) (ls : Array Slot), Ag ρ0 ρ → kap S0 ≤ kap S → Wn Yc D T ρ S A s H locs → lv_has ls 5 [(0, .ref (ρ 7)), (1, .int x1), (2, .long x2), (4, .int x4)] → k20 S x1 x2 x4 = some (S', r) → W p l e (rmK 5 117 (kap S' - kap S0)) s m args below meth c H locs (kap S - kap S0) (2 * (kap S - kap S0)) (MQ below (QiM D T ρ0 A S' r) args s (kap S' - kap S0) (2 * (kap S' - kap S0)) A) (F0 m 20 ls [])) (km20 : ∀ (S : St) (x1 : Int32) (x2 : Int64) (x4 : Int32), k20 S x1 x2 x4 = some (S', r) → kap S ≤ kap S') (ha : Ag ρ0 ρ) (hm : kap S0 ≤ kap S) (w : Wn Yc D T ρ S A s H locs) (hl : lv_has ls 5 [(0, .ref (ρ 7)), (1, .int x1), (2, .long x2), (4, .int x4)]) (h : b_TS_repeat_20 g k20 S x1 x2 x4 = some (S', r)) : W p l e (rmK 5 117 (kap S' - kap S0)) s m args below meth c H locs (kap S - kap S0) (2 * (kap S - kap S0)) (MQ below (QiM D T ρ0 A S' r) args s (kap S' - kap S0) (2 * (kap S' - kap S0)) A) (F0 m 20 ls []) := by
  have hT := kmb_TS_repeat_20 km20 h
  unfold b_TS_repeat_20 at h
  have nn : nq S S := nq_rf
  refine lv_iload C.1 C.2.1 dX9_repeat_20 (lv_at hl 3 rfl) ?_
  refine lv_i2l C.1 C.2.1 dX9_repeat_22 rfl ?_
  refine lv_lload_n C.1 C.2.1 dX9_repeat_23 rfl (lv_at hl 2 rfl) ?_
  refine x_l_ge (tgt := 60) C dX9_repeat_24 dX9_repeat_25 (by decide) (fun hc => ?_) (fun hc => ?_)
  · replace h := iff0 hc h
    have hkn := nq_kap nn
    refine W.widen (k := kap S - kap S0) (n := 2 * (kap S - kap S0)) (by omega) (by omega) ?_
    exact w_TS_repeat_60 C hr hk ha (by omega) w (lv_sub hl [0, 1, 2] rfl) h
  · replace h := ift hc h
    refine lv_iload C.1 C.2.1 dX9_repeat_28 (lv_at hl 3 rfl) ?_
    refine lv_sipush (v := 400) C.1 C.2.1 dX9_repeat_30 (by decide) ?_
    refine lv_icmp_ge (tgt := 60) C.1 C.2.1 dX9_repeat_33 (by decide) (fun hc => ?_) (fun hc => ?_)
    · replace h := ift hc h
      have hkn := nq_kap nn
      refine W.widen (k := kap S - kap S0) (n := 2 * (kap S - kap S0)) (by omega) (by omega) ?_
      exact w_TS_repeat_60 C hr hk ha (by omega) w (lv_sub hl [0, 1, 2] rfl) h
    · replace h := iff0 hc h
      refine lv_aload_n C.1 C.2.1 dX9_repeat_36 rfl (lv_at hl 0 rfl) ?_
      refine x_getC C w 23 fX9_37 obC7 rfl dX9_repeat_37 ?_
      refine x_getI C w fX9_139 obC23 dX9_repeat_40 ?_
      refine lv_if_ne (tgt := 60) C.1 C.2.1 dX9_repeat_43 (by decide) (fun hc => ?_) (fun hc => ?_)
      · replace h := iff0 hc h
        have hkn := nq_kap nn
        refine W.widen (k := kap S - kap S0) (n := 2 * (kap S - kap S0)) (by omega) (by omega) ?_
        exact w_TS_repeat_60 C hr hk ha (by omega) w (lv_sub hl [0, 1, 2] rfl) h
      · replace h := ift hc h
        refine lv_aload_n C.1 C.2.1 dX9_repeat_46 rfl (lv_at hl 0 rfl) ?_
        refine x_getC C w 4 fX9_23 obC7 rfl dX9_repeat_47 ?_
        refine lv_iload_n C.1 C.2.1 dX9_repeat_50 rfl (lv_at hl 1 rfl) ?_
        obtain ⟨S_2, hS_2, h⟩ := bnd h
        have hkn := nq_kap nn
        have hk1 := km_Bn_addText hS_2
        have hT2 := km_TS_repeat_54 km20 h
        refine x_callVvM (q := (RX1, TX1, 12)) (As := [.int x1]) (rest := []) C w (k_Bn_addText l D T ρ g H.size S hS_2) vX9_64 (hRK (by decide) (by decide)) obC4 (by decide) rfl rfl rfl hl.1 (Nat.le_of_ble_eq_true rfl) (hcM hm hkn hk1 hT2) dX9_repeat_51 (fun ρ1 H locs hag w => ?_)
        replace ha := ha.trans hag
        rw [← hag 7 (by decide)] at hl
        refine W.widen (k := kap S_2 - kap S0) (n := 2 * (kap S_2 - kap S0)) (by omega) (by omega) ?_
        exact w_TS_repeat_54 C hr hk kk20 km20 ha (by omega) w (lv_sub hl [0, 1, 2, 3] rfl) h
theorem w_TS_repeat_20 {g : Nat} (C : CallFix p m c cX9_repeat 5 s args tb RX9) (hr : meth.sig.returnType = (some .int)) (hk : meth.locks = false) {S' : St} {r : Int32} (n : Nat) : ∀ (ρ : Nat → Nat) (S : St) (x1 : Int32) (x2 : Int64) (x4 : Int32) (H : Heap) (locs : List Loc) (ls : Array Slot), Ag ρ0 ρ → kap S0 ≤ kap S → Wn Yc D T ρ S A s H locs → lv_has ls 5 [(0, .ref (ρ 7)), (1, .int x1), (2, .long x2), (4, .int x4)] → m_TS_repeat_20 g n S x1 x2 x4 = some (S', r) → W p l e (rmK 5 117 (kap S' - kap S0)) s m args below meth c H locs (kap S - kap S0) (2 * (kap S - kap S0)) (MQ below (QiM D T ρ0 A S' r) args s (kap S' - kap S0) (2 * (kap S' - kap S0)) A) (F0 m 20 ls []) := by
  induction n with
  | zero => intro ρ S x1 x2 x4 H locs ls ha hm w hl h; exact absurd h (fun q => by cases q)
  | succ n ih => intro ρ S x1 x2 x4 H locs ls ha hm w hl h; exact wb_TS_repeat_20 C hr hk ih (km_TS_repeat_20 n) ha hm w hl h
set_option maxRecDepth 100000 in
set_option maxHeartbeats 4000000 in
theorem w_TS_repeat_0 {g : Nat} {S : St} {x1 : Int32} (C : CallFix p m c cX9_repeat 5 s args tb RX9) (hr : meth.sig.returnType = (some .int)) (hk : meth.locks = false) {S' : St} {r : Int32} (ha : Ag ρ0 ρ) (hm : kap S0 ≤ kap S) (w : Wn Yc D T ρ S A s H locs) (hl : lv_has ls 5 [(0, .ref (ρ 7)), (1, .int x1)]) (h : m_TS_repeat g S x1 = some (S', r)) : W p l e (rmK 5 117 (kap S' - kap S0)) s m args below meth c H locs (kap S - kap S0) (2 * (kap S - kap S0)) (MQ below (QiM D T ρ0 A S' r) args s (kap S' - kap S0) (2 * (kap S' - kap S0)) A) (F0 m 0 ls []) := by
  have hT := km_TS_repeat h
  unfold m_TS_repeat at h
  have nn : nq S S := nq_rf
  refine lv_aload_n C.1 C.2.1 dX9_repeat_0 rfl (lv_at hl 0 rfl) ?_
  refine x_getC C w 4 fX9_23 obC7 rfl dX9_repeat_1 ?_
  refine lv_iconst (v := 2) C.1 C.2.1 dX9_repeat_4 (by decide) ?_
  obtain ⟨v_1, hv_1, h⟩ := bnd h
  refine x_callVj (q := (RX1, TX1, 12)) (As := [.int (2 : Int32)]) (rest := []) C w (k_Bn_wholeAt l D T ρ g H.size S hv_1) vX9_119 (hRK (by decide) (by decide)) obC4 (by decide) rfl rfl rfl hl.1 (Nat.le_of_ble_eq_true rfl) (hcK hT) dX9_repeat_5 (fun H locs w => ?_)
  refine lv_lstore_n (lv' := [(2, .long v_1), (0, .ref (ρ 7)), (1, .int x1)]) C.1 C.2.1 dX9_repeat_8 rfl hl (by decide) rfl (fun ls hl => ?_)
  refine lv_lload_n C.1 C.2.1 dX9_repeat_9 rfl (lv_at hl 0 rfl) ?_
  refine lv_lconst (v := 0) C.1 C.2.1 dX9_repeat_10 (by decide) ?_
  refine x_l_ge (tgt := 17) C dX9_repeat_11 dX9_repeat_12 (by decide) (fun hc => ?_) (fun hc => ?_)
  · replace h := iff0 hc h
    refine lv_iconst (v := 0) C.1 C.2.1 dX9_repeat_17 (by decide) ?_
    refine lv_istore (lv' := [(4, .int (0 : Int32)), (2, .long v_1), (0, .ref (ρ 7)), (1, .int x1)]) C.1 C.2.1 dX9_repeat_18 hl (by decide) rfl (fun ls hl => ?_)
    have hkn := nq_kap nn
    refine W.widen (k := kap S - kap S0) (n := 2 * (kap S - kap S0)) (by omega) (by omega) ?_
    exact w_TS_repeat_20 C hr hk g _ _ _ _ _ _ _ _ ha (by omega) w (lv_sub hl [2, 3, 1, 0] rfl) h
  · replace h := ift hc h
    refine lv_iconst (v := 3) C.1 C.2.1 dX9_repeat_15 (by decide) ?_
    obtain ⟨rfl, rfl⟩ := prI h
    exact x_iretM C w ha hr hk dX9_repeat_16 (by have := nq_kap nn; omega) (by have := nq_kap nn; omega)
end S_TS_repeat
set_option maxRecDepth 100000 in
theorem k_TS_repeat (l : Launch) (D : va_G) (T : Cy) (ρ : Nat → Nat) (g sz : Nat) (S : St) {x1 : Int32} {S' : St} {r : Int32} (h : m_TS_repeat g S x1 = some (S', r)) : MiM l D T ρ yX9_repeat cX9_repeat 5 (some .int) 5 117 S S' r [.ref (ρ 7), .int x1] sz :=
  x_inR (by decide) (Nat.le_of_ble_eq_true rfl) (fun p e s m below meth c ls C hr hk w hl => W.widen (Nat.zero_le _) (Nat.zero_le _) (w_TS_repeat_0 C hr hk Ag.rf (Nat.le_refl _) w hl h))

theorem dX9_change_0 : decode cX9_change 0 = .ok (.aload_n 0, 1) := by decide +kernel
theorem dX9_change_1 : decode cX9_change 1 = .ok (.getfield 23, 3) := by decide +kernel
theorem dX9_change_4 : decode cX9_change 4 = .ok (.iconst 2, 1) := by decide +kernel
theorem dX9_change_5 : decode cX9_change 5 = .ok (.invokevirtual 119, 3) := by decide +kernel
theorem dX9_change_8 : decode cX9_change 8 = .ok (.lstore_n 2, 1) := by decide +kernel
theorem dX9_change_9 : decode cX9_change 9 = .ok (.aload_n 0, 1) := by decide +kernel
theorem dX9_change_10 : decode cX9_change 10 = .ok (.getfield 23, 3) := by decide +kernel
theorem dX9_change_13 : decode cX9_change 13 = .ok (.iconst 3, 1) := by decide +kernel
theorem dX9_change_14 : decode cX9_change 14 = .ok (.invokevirtual 119, 3) := by decide +kernel
theorem dX9_change_17 : decode cX9_change 17 = .ok (.lstore 4, 2) := by decide +kernel
theorem dX9_change_19 : decode cX9_change 19 = .ok (.lload_n 2, 1) := by decide +kernel
theorem dX9_change_20 : decode cX9_change 20 = .ok (.invokestatic 197, 3) := by decide +kernel
theorem dX9_change_23 : decode cX9_change 23 = .ok (.ifCond .eq 11, 3) := by decide +kernel
theorem dX9_change_26 : decode cX9_change 26 = .ok (.lload 4, 2) := by decide +kernel
theorem dX9_change_28 : decode cX9_change 28 = .ok (.invokestatic 197, 3) := by decide +kernel
theorem dX9_change_31 : decode cX9_change 31 = .ok (.ifCond .ne 5, 3) := by decide +kernel
theorem dX9_change_34 : decode cX9_change 34 = .ok (.iconst 3, 1) := by decide +kernel
theorem dX9_change_35 : decode cX9_change 35 = .ok (.ireturn, 1) := by decide +kernel
theorem dX9_change_36 : decode cX9_change 36 = .ok (.iconst 0, 1) := by decide +kernel
theorem dX9_change_37 : decode cX9_change 37 = .ok (.istore 6, 2) := by decide +kernel
theorem dX9_change_39 : decode cX9_change 39 = .ok (.aload_n 0, 1) := by decide +kernel
theorem dX9_change_40 : decode cX9_change 40 = .ok (.getfield 33, 3) := by decide +kernel
theorem dX9_change_43 : decode cX9_change 43 = .ok (.iload_n 1, 1) := by decide +kernel
theorem dX9_change_44 : decode cX9_change 44 = .ok (.invokevirtual 149, 3) := by decide +kernel
theorem dX9_change_47 : decode cX9_change 47 = .ok (.istore 7, 2) := by decide +kernel
theorem dX9_change_49 : decode cX9_change 49 = .ok (.aload_n 0, 1) := by decide +kernel
theorem dX9_change_50 : decode cX9_change 50 = .ok (.getfield 33, 3) := by decide +kernel
theorem dX9_change_53 : decode cX9_change 53 = .ok (.iload_n 1, 1) := by decide +kernel
theorem dX9_change_54 : decode cX9_change 54 = .ok (.invokevirtual 146, 3) := by decide +kernel
theorem dX9_change_57 : decode cX9_change 57 = .ok (.istore 8, 2) := by decide +kernel
theorem dX9_change_59 : decode cX9_change 59 = .ok (.iload 8, 2) := by decide +kernel
theorem dX9_change_61 : decode cX9_change 61 = .ok (.iload 7, 2) := by decide +kernel
theorem dX9_change_63 : decode cX9_change 63 = .ok (.if_icmp .ge 73, 3) := by decide +kernel
theorem dX9_change_66 : decode cX9_change 66 = .ok (.aload_n 0, 1) := by decide +kernel
theorem dX9_change_67 : decode cX9_change 67 = .ok (.getfield 33, 3) := by decide +kernel
theorem dX9_change_70 : decode cX9_change 70 = .ok (.getfield 143, 3) := by decide +kernel
theorem dX9_change_73 : decode cX9_change 73 = .ok (.iload 8, 2) := by decide +kernel
theorem dX9_change_75 : decode cX9_change 75 = .ok (.invokevirtual 182, 3) := by decide +kernel
theorem dX9_change_78 : decode cX9_change 78 = .ok (.istore 9, 2) := by decide +kernel
theorem dX9_change_80 : decode cX9_change 80 = .ok (.aload_n 0, 1) := by decide +kernel
theorem dX9_change_81 : decode cX9_change 81 = .ok (.getfield 37, 3) := by decide +kernel
theorem dX9_change_84 : decode cX9_change 84 = .ok (.iload 9, 2) := by decide +kernel
theorem dX9_change_86 : decode cX9_change 86 = .ok (.i2l, 1) := by decide +kernel
theorem dX9_change_87 : decode cX9_change 87 = .ok (.lload_n 2, 1) := by decide +kernel
theorem dX9_change_88 : decode cX9_change 88 = .ok (.lcmp, 1) := by decide +kernel
theorem dX9_change_89 : decode cX9_change 89 = .ok (.ifCond .ne 9, 3) := by decide +kernel
theorem dX9_change_92 : decode cX9_change 92 = .ok (.lload 4, 2) := by decide +kernel
theorem dX9_change_94 : decode cX9_change 94 = .ok (.l2i, 1) := by decide +kernel
theorem dX9_change_95 : decode cX9_change 95 = .ok (.goto 5, 3) := by decide +kernel
theorem dX9_change_98 : decode cX9_change 98 = .ok (.iload 9, 2) := by decide +kernel
theorem dX9_change_100 : decode cX9_change 100 = .ok (.invokevirtual 159, 3) := by decide +kernel
theorem dX9_change_103 : decode cX9_change 103 = .ok (.iload 6, 2) := by decide +kernel
theorem dX9_change_105 : decode cX9_change 105 = .ok (.ifCond .ne 18, 3) := by decide +kernel
theorem dX9_change_108 : decode cX9_change 108 = .ok (.iload 9, 2) := by decide +kernel
theorem dX9_change_110 : decode cX9_change 110 = .ok (.i2l, 1) := by decide +kernel
theorem dX9_change_111 : decode cX9_change 111 = .ok (.lload_n 2, 1) := by decide +kernel
theorem dX9_change_112 : decode cX9_change 112 = .ok (.lcmp, 1) := by decide +kernel
theorem dX9_change_113 : decode cX9_change 113 = .ok (.ifCond .ne 14, 3) := by decide +kernel
theorem dX9_change_116 : decode cX9_change 116 = .ok (.lload_n 2, 1) := by decide +kernel
theorem dX9_change_117 : decode cX9_change 117 = .ok (.lload 4, 2) := by decide +kernel
theorem dX9_change_119 : decode cX9_change 119 = .ok (.lcmp, 1) := by decide +kernel
theorem dX9_change_120 : decode cX9_change 120 = .ok (.ifCond .eq 7, 3) := by decide +kernel
theorem dX9_change_123 : decode cX9_change 123 = .ok (.iconst 1, 1) := by decide +kernel
theorem dX9_change_124 : decode cX9_change 124 = .ok (.goto 4, 3) := by decide +kernel
theorem dX9_change_127 : decode cX9_change 127 = .ok (.iconst 0, 1) := by decide +kernel
theorem dX9_change_128 : decode cX9_change 128 = .ok (.istore 6, 2) := by decide +kernel
theorem dX9_change_130 : decode cX9_change 130 = .ok (.iinc 8 1, 3) := by decide +kernel
theorem dX9_change_133 : decode cX9_change 133 = .ok (.goto (-74), 3) := by decide +kernel
theorem dX9_change_136 : decode cX9_change 136 = .ok (.aload_n 0, 1) := by decide +kernel
theorem dX9_change_137 : decode cX9_change 137 = .ok (.iload_n 1, 1) := by decide +kernel
theorem dX9_change_138 : decode cX9_change 138 = .ok (.iload 6, 2) := by decide +kernel
theorem dX9_change_140 : decode cX9_change 140 = .ok (.invokevirtual 113, 3) := by decide +kernel
theorem dX9_change_143 : decode cX9_change 143 = .ok (.ireturn, 1) := by decide +kernel
def m_TS_change_143 (g : Nat) (S : St) (y0 : Int32) : Option (St × Int32) :=
some (S, y0)
def m_TS_change_103 (g : Nat) (k59 : St → Int32 → Int64 → Int64 → Int32 → Int32 → Int32 → Option (St × Int32)) (S : St) (x1 : Int32) (x2 : Int64) (x4 : Int64) (x6 : Int32) (x7 : Int32) (x8 : Int32) (x9 : Int32) : Option (St × Int32) :=
if x6 = 0 then (
  if (x9.toInt64) = x2 then (
    if x2 = x4 then (
      lt (x8 + (1 : Int32)) fun x8_13 =>
      k59 S x1 x2 x4 (0 : Int32) x7 x8_13
    ) else (
      lt (x8 + (1 : Int32)) fun x8_14 =>
      k59 S x1 x2 x4 (1 : Int32) x7 x8_14
    )
  ) else (
    lt (x8 + (1 : Int32)) fun x8_12 =>
    k59 S x1 x2 x4 (0 : Int32) x7 x8_12
  )
) else (
  lt (x8 + (1 : Int32)) fun x8_11 =>
  k59 S x1 x2 x4 (1 : Int32) x7 x8_11
)
def m_TS_change_100 (g : Nat) (k59 : St → Int32 → Int64 → Int64 → Int32 → Int32 → Int32 → Option (St × Int32)) (S : St) (x1 : Int32) (x2 : Int64) (x4 : Int64) (x6 : Int32) (x7 : Int32) (x8 : Int32) (x9 : Int32) (y1 : Int32) : Option (St × Int32) :=
(m_Row_add g S 23 y1).bind fun S_10 =>
m_TS_change_103 g k59 S_10 x1 x2 x4 x6 x7 x8 x9
def b_TS_change_59 (g : Nat) (k59 : St → Int32 → Int64 → Int64 → Int32 → Int32 → Int32 → Option (St × Int32)) (S : St) (x1 : Int32) (x2 : Int64) (x4 : Int64) (x6 : Int32) (x7 : Int32) (x8 : Int32) : Option (St × Int32) :=
if x7 ≤ x8 then (
  (m_TS_become g S x1 x6).bind fun (S_7, v_8) =>
  m_TS_change_143 g S_7 v_8
) else (
  (m_Row_at g S 18 x8).bind fun v_9 =>
  if (v_9.toInt64) = x2 then (
    m_TS_change_100 g k59 S x1 x2 x4 x6 x7 x8 v_9 (x4.toInt32)
  ) else (
    m_TS_change_100 g k59 S x1 x2 x4 x6 x7 x8 v_9 v_9
  )
)
def m_TS_change_59 (g : Nat) : Nat → St → Int32 → Int64 → Int64 → Int32 → Int32 → Int32 → Option (St × Int32)
  | 0, _, _, _, _, _, _, _ => none
  | n + 1, S, x1, x2, x4, x6, x7, x8 => b_TS_change_59 g (m_TS_change_59 g n) S x1 x2 x4 x6 x7 x8
def m_TS_change (g : Nat) (S : St) (x1 : Int32) : Option (St × Int32) :=
(m_Bn_wholeAt g S (2 : Int32)).bind fun v_1 =>
(m_Bn_wholeAt g S (3 : Int32)).bind fun v_2 =>
(m_Lt_isUnit g v_1).bind fun v_3 =>
if v_3 = 0 then (
  some (S, (3 : Int32))
) else (
  (m_Lt_isUnit g v_2).bind fun v_4 =>
  if v_4 = 0 then (
    some (S, (3 : Int32))
  ) else (
    (m_Tx_endOf g S x1).bind fun v_5 =>
    (m_Tx_startOf g S x1).bind fun v_6 =>
    m_TS_change_59 g g S x1 v_1 v_2 (0 : Int32) v_5 v_6
  )
)
theorem km_TS_change_143 {g : Nat} {S : St} {y0 : Int32} {S' : St} {r : Int32} (h : m_TS_change_143 g S y0 = some (S', r)) : kap S ≤ kap S' := by
  unfold m_TS_change_143 at h
  have nn : nq S S := nq_rf
  obtain ⟨rfl, rfl⟩ := prI h
  have hkn := nq_kap nn
  omega
theorem km_TS_change_103 {g : Nat} {S : St} {x1 : Int32} {x2 : Int64} {x4 : Int64} {x6 : Int32} {x7 : Int32} {x8 : Int32} {x9 : Int32} {S' : St} {r : Int32} {k59 : St → Int32 → Int64 → Int64 → Int32 → Int32 → Int32 → Option (St × Int32)} (km59 : ∀ (S : St) (x1 : Int32) (x2 : Int64) (x4 : Int64) (x6 : Int32) (x7 : Int32) (x8 : Int32), k59 S x1 x2 x4 x6 x7 x8 = some (S', r) → kap S ≤ kap S') (h : m_TS_change_103 g k59 S x1 x2 x4 x6 x7 x8 x9 = some (S', r)) : kap S ≤ kap S' := by
  unfold m_TS_change_103 at h
  have nn : nq S S := nq_rf
  by_cases hc1 : x6 = 0
  · replace h := ift hc1 h
    by_cases hc2 : (x9.toInt64) = x2
    · replace h := ift hc2 h
      by_cases hc3 : x2 = x4
      · replace h := ift hc3 h
        obtain ⟨x8_13, ex8_13, h⟩ := lt_e h
        have hkn := nq_kap nn
        have h2 := km59 _ _ _ _ _ _ _ h
        omega
      · replace h := iff0 hc3 h
        obtain ⟨x8_14, ex8_14, h⟩ := lt_e h
        have hkn := nq_kap nn
        have h2 := km59 _ _ _ _ _ _ _ h
        omega
    · replace h := iff0 hc2 h
      obtain ⟨x8_12, ex8_12, h⟩ := lt_e h
      have hkn := nq_kap nn
      have h2 := km59 _ _ _ _ _ _ _ h
      omega
  · replace h := iff0 hc1 h
    obtain ⟨x8_11, ex8_11, h⟩ := lt_e h
    have hkn := nq_kap nn
    have h2 := km59 _ _ _ _ _ _ _ h
    omega
theorem km_TS_change_100 {g : Nat} {S : St} {x1 : Int32} {x2 : Int64} {x4 : Int64} {x6 : Int32} {x7 : Int32} {x8 : Int32} {x9 : Int32} {y1 : Int32} {S' : St} {r : Int32} {k59 : St → Int32 → Int64 → Int64 → Int32 → Int32 → Int32 → Option (St × Int32)} (km59 : ∀ (S : St) (x1 : Int32) (x2 : Int64) (x4 : Int64) (x6 : Int32) (x7 : Int32) (x8 : Int32), k59 S x1 x2 x4 x6 x7 x8 = some (S', r) → kap S ≤ kap S') (h : m_TS_change_100 g k59 S x1 x2 x4 x6 x7 x8 x9 y1 = some (S', r)) : kap S ≤ kap S' := by
  unfold m_TS_change_100 at h
  have nn : nq S S := nq_rf
  obtain ⟨S_10, hS_10, h⟩ := bnd h
  have hk1 := km_Row_add hS_10
  have hkn := nq_kap nn
  have h2 := km_TS_change_103 km59 h
  omega
theorem kmb_TS_change_59 {g : Nat} {S : St} {x1 : Int32} {x2 : Int64} {x4 : Int64} {x6 : Int32} {x7 : Int32} {x8 : Int32} {S' : St} {r : Int32} {k59 : St → Int32 → Int64 → Int64 → Int32 → Int32 → Int32 → Option (St × Int32)} (km59 : ∀ (S : St) (x1 : Int32) (x2 : Int64) (x4 : Int64) (x6 : Int32) (x7 : Int32) (x8 : Int32), k59 S x1 x2 x4 x6 x7 x8 = some (S', r) → kap S ≤ kap S') (h : b_TS_change_59 g k59 S x1 x2 x4 x6 x7 x8 = some (S', r)) : kap S ≤ kap S' := by
  unfold b_TS_change_59 at h
  have nn : nq S S := nq_rf
  by_cases hc1 : x7 ≤ x8
  · replace h := ift hc1 h
    obtain ⟨⟨S_7, v_8⟩, hv_8, h⟩ := bnd h
    have hk1 := km_TS_become hv_8
    have hkn := nq_kap nn
    have h2 := km_TS_change_143 h
    omega
  · replace h := iff0 hc1 h
    obtain ⟨v_9, hv_9, h⟩ := bnd h
    by_cases hc2 : (v_9.toInt64) = x2
    · replace h := ift hc2 h
      have hkn := nq_kap nn
      have h2 := km_TS_change_100 km59 h
      omega
    · replace h := iff0 hc2 h
      have hkn := nq_kap nn
      have h2 := km_TS_change_100 km59 h
      omega
theorem km_TS_change_59 {g : Nat} {S' : St} {r : Int32} (n : Nat) : ∀ (S : St) (x1 : Int32) (x2 : Int64) (x4 : Int64) (x6 : Int32) (x7 : Int32) (x8 : Int32), m_TS_change_59 g n S x1 x2 x4 x6 x7 x8 = some (S', r) → kap S ≤ kap S' := by
  induction n with
  | zero => intro S x1 x2 x4 x6 x7 x8 h; exact absurd h (fun q => by cases q)
  | succ n ih => intro S x1 x2 x4 x6 x7 x8 h; exact kmb_TS_change_59 ih h
theorem km_TS_change {g : Nat} {S : St} {x1 : Int32} {S' : St} {r : Int32} (h : m_TS_change g S x1 = some (S', r)) : kap S ≤ kap S' := by
  unfold m_TS_change at h
  have nn : nq S S := nq_rf
  obtain ⟨v_1, hv_1, h⟩ := bnd h
  obtain ⟨v_2, hv_2, h⟩ := bnd h
  obtain ⟨v_3, hv_3, h⟩ := bnd h
  by_cases hc1 : v_3 = 0
  · replace h := ift hc1 h
    obtain ⟨rfl, rfl⟩ := prI h
    have hkn := nq_kap nn
    omega
  · replace h := iff0 hc1 h
    obtain ⟨v_4, hv_4, h⟩ := bnd h
    by_cases hc2 : v_4 = 0
    · replace h := ift hc2 h
      obtain ⟨rfl, rfl⟩ := prI h
      have hkn := nq_kap nn
      omega
    · replace h := iff0 hc2 h
      obtain ⟨v_5, hv_5, h⟩ := bnd h
      obtain ⟨v_6, hv_6, h⟩ := bnd h
      have hkn := nq_kap nn
      have h2 := km_TS_change_59 g _ _ _ _ _ _ _ h
      omega
section S_TS_change
variable {p : Program} {l : Launch} {e : Env} {s : State} {m : MethodId} {args : Array Value} {below : List Frame} {meth : Method} {c : Code} {H : Heap} {locs : List Loc} {ls : Array Slot} {D : va_G} {T : Cy} {ρ ρ0 : Nat → Nat} {S0 : St} {A : Nat → Prop}
set_option maxRecDepth 100000 in
set_option maxHeartbeats 4000000 in
theorem w_TS_change_143 {g : Nat} {S : St} {y0 : Int32} (C : CallFix p m c cX9_change 10 s args tb RX9) (hr : meth.sig.returnType = (some .int)) (hk : meth.locks = false) {S' : St} {r : Int32} (ha : Ag ρ0 ρ) (hm : kap S0 ≤ kap S) (w : Wn Yc D T ρ S A s H locs) (hl : lv_has ls 10 []) (h : m_TS_change_143 g S y0 = some (S', r)) : W p l e (rmK 5 117 (kap S' - kap S0)) s m args below meth c H locs (kap S - kap S0) (2 * (kap S - kap S0)) (MQ below (QiM D T ρ0 A S' r) args s (kap S' - kap S0) (2 * (kap S' - kap S0)) A) (F0 m 143 ls [.int y0]) := by
  have hT := km_TS_change_143 h
  unfold m_TS_change_143 at h
  have nn : nq S S := nq_rf
  obtain ⟨rfl, rfl⟩ := prI h
  exact x_iretM C w ha hr hk dX9_change_143 (by have := nq_kap nn; omega) (by have := nq_kap nn; omega)
set_option maxRecDepth 100000 in
set_option maxHeartbeats 4000000 in
theorem w_TS_change_103 {g : Nat} {S : St} {x1 : Int32} {x2 : Int64} {x4 : Int64} {x6 : Int32} {x7 : Int32} {x8 : Int32} {x9 : Int32} (C : CallFix p m c cX9_change 10 s args tb RX9) (hr : meth.sig.returnType = (some .int)) (hk : meth.locks = false) {S' : St} {r : Int32} {k59 : St → Int32 → Int64 → Int64 → Int32 → Int32 → Int32 → Option (St × Int32)} (kk59 : ∀ (ρ : Nat → Nat) (S : St) (x1 : Int32) (x2 : Int64) (x4 : Int64) (x6 : Int32) (x7 : Int32) (x8 : Int32) (H : Heap) (locs : List Loc) (ls : Array Slot), Ag ρ0 ρ → kap S0 ≤ kap S → Wn Yc D T ρ S A s H locs → lv_has ls 10 [(0, .ref (ρ 7)), (1, .int x1), (2, .long x2), (4, .long x4), (6, .int x6), (7, .int x7), (8, .int x8)] → k59 S x1 x2 x4 x6 x7 x8 = some (S', r) → W p l e (rmK 5 117 (kap S' - kap S0)) s m args below meth c H locs (kap S - kap S0) (2 * (kap S - kap S0)) (MQ below (QiM D T ρ0 A S' r) args s (kap S' - kap S0) (2 * (kap S' - kap S0)) A) (F0 m 59 ls [])) (km59 : ∀ (S : St) (x1 : Int32) (x2 : Int64) (x4 : Int64) (x6 : Int32) (x7 : Int32) (x8 : Int32), k59 S x1 x2 x4 x6 x7 x8 = some (S', r) → kap S ≤ kap S') (ha : Ag ρ0 ρ) (hm : kap S0 ≤ kap S) (w : Wn Yc D T ρ S A s H locs) (hl : lv_has ls 10 [(0, .ref (ρ 7)), (1, .int x1), (2, .long x2), (4, .long x4), (6, .int x6), (7, .int x7), (8, .int x8), (9, .int x9)]) (h : m_TS_change_103 g k59 S x1 x2 x4 x6 x7 x8 x9 = some (S', r)) : W p l e (rmK 5 117 (kap S' - kap S0)) s m args below meth c H locs (kap S - kap S0) (2 * (kap S - kap S0)) (MQ below (QiM D T ρ0 A S' r) args s (kap S' - kap S0) (2 * (kap S' - kap S0)) A) (F0 m 103 ls []) := by
  have hT := km_TS_change_103 km59 h
  unfold m_TS_change_103 at h
  have nn : nq S S := nq_rf
  refine lv_iload C.1 C.2.1 dX9_change_103 (lv_at hl 4 rfl) ?_
  refine lv_if_ne (tgt := 123) C.1 C.2.1 dX9_change_105 (by decide) (fun hc => ?_) (fun hc => ?_)
  · replace h := iff0 hc h
    refine lv_iconst (v := 1) C.1 C.2.1 dX9_change_123 (by decide) ?_
    refine lv_goto (tgt := 128) C.1 C.2.1 dX9_change_124 (by decide) ?_
    refine lv_istore (lv' := [(6, .int (1 : Int32)), (0, .ref (ρ 7)), (1, .int x1), (2, .long x2), (4, .long x4), (7, .int x7), (8, .int x8), (9, .int x9)]) C.1 C.2.1 dX9_change_128 hl (by decide) rfl (fun ls hl => ?_)
    obtain ⟨x8_11, ex8_11, h⟩ := lt_e h
    refine lv_iinc (v := x8_11) (lv' := [(8, .int x8_11), (6, .int (1 : Int32)), (0, .ref (ρ 7)), (1, .int x1), (2, .long x2), (4, .long x4), (7, .int x7), (9, .int x9)]) C.1 C.2.1 dX9_change_130 hl (k := 6) rfl (by rw [ex8_11]; rfl) (by decide) rfl (fun ls hl => ?_)
    refine lv_goto (tgt := 59) C.1 C.2.1 dX9_change_133 (by decide) ?_
    have hkn := nq_kap nn
    refine W.widen (k := kap S - kap S0) (n := 2 * (kap S - kap S0)) (by omega) (by omega) ?_
    exact kk59 _ _ _ _ _ _ _ _ _ _ _ ha (by omega) w (lv_sub hl [2, 3, 4, 5, 1, 6, 0] rfl) h
  · replace h := ift hc h
    refine lv_iload C.1 C.2.1 dX9_change_108 (lv_at hl 7 rfl) ?_
    refine lv_i2l C.1 C.2.1 dX9_change_110 rfl ?_
    refine lv_lload_n C.1 C.2.1 dX9_change_111 rfl (lv_at hl 2 rfl) ?_
    refine x_l_ne (tgt := 127) C dX9_change_112 dX9_change_113 (by decide) (fun hc => ?_) (fun hc => ?_)
    · replace h := iff0 hc h
      refine lv_iconst (v := 0) C.1 C.2.1 dX9_change_127 (by decide) ?_
      refine lv_istore (lv' := [(6, .int (0 : Int32)), (0, .ref (ρ 7)), (1, .int x1), (2, .long x2), (4, .long x4), (7, .int x7), (8, .int x8), (9, .int x9)]) C.1 C.2.1 dX9_change_128 hl (by decide) rfl (fun ls hl => ?_)
      obtain ⟨x8_12, ex8_12, h⟩ := lt_e h
      refine lv_iinc (v := x8_12) (lv' := [(8, .int x8_12), (6, .int (0 : Int32)), (0, .ref (ρ 7)), (1, .int x1), (2, .long x2), (4, .long x4), (7, .int x7), (9, .int x9)]) C.1 C.2.1 dX9_change_130 hl (k := 6) rfl (by rw [ex8_12]; rfl) (by decide) rfl (fun ls hl => ?_)
      refine lv_goto (tgt := 59) C.1 C.2.1 dX9_change_133 (by decide) ?_
      have hkn := nq_kap nn
      refine W.widen (k := kap S - kap S0) (n := 2 * (kap S - kap S0)) (by omega) (by omega) ?_
      exact kk59 _ _ _ _ _ _ _ _ _ _ _ ha (by omega) w (lv_sub hl [2, 3, 4, 5, 1, 6, 0] rfl) h
    · replace h := ift hc h
      refine lv_lload_n C.1 C.2.1 dX9_change_116 rfl (lv_at hl 2 rfl) ?_
      refine lv_lload C.1 C.2.1 dX9_change_117 (lv_at hl 3 rfl) ?_
      refine x_l_eq (tgt := 127) C dX9_change_119 dX9_change_120 (by decide) (fun hc => ?_) (fun hc => ?_)
      · replace h := ift hc h
        refine lv_iconst (v := 0) C.1 C.2.1 dX9_change_127 (by decide) ?_
        refine lv_istore (lv' := [(6, .int (0 : Int32)), (0, .ref (ρ 7)), (1, .int x1), (2, .long x2), (4, .long x4), (7, .int x7), (8, .int x8), (9, .int x9)]) C.1 C.2.1 dX9_change_128 hl (by decide) rfl (fun ls hl => ?_)
        obtain ⟨x8_13, ex8_13, h⟩ := lt_e h
        refine lv_iinc (v := x8_13) (lv' := [(8, .int x8_13), (6, .int (0 : Int32)), (0, .ref (ρ 7)), (1, .int x1), (2, .long x2), (4, .long x4), (7, .int x7), (9, .int x9)]) C.1 C.2.1 dX9_change_130 hl (k := 6) rfl (by rw [ex8_13]; rfl) (by decide) rfl (fun ls hl => ?_)
        refine lv_goto (tgt := 59) C.1 C.2.1 dX9_change_133 (by decide) ?_
        have hkn := nq_kap nn
        refine W.widen (k := kap S - kap S0) (n := 2 * (kap S - kap S0)) (by omega) (by omega) ?_
        exact kk59 _ _ _ _ _ _ _ _ _ _ _ ha (by omega) w (lv_sub hl [2, 3, 4, 5, 1, 6, 0] rfl) h
      · replace h := iff0 hc h
        refine lv_iconst (v := 1) C.1 C.2.1 dX9_change_123 (by decide) ?_
        refine lv_goto (tgt := 128) C.1 C.2.1 dX9_change_124 (by decide) ?_
        refine lv_istore (lv' := [(6, .int (1 : Int32)), (0, .ref (ρ 7)), (1, .int x1), (2, .long x2), (4, .long x4), (7, .int x7), (8, .int x8), (9, .int x9)]) C.1 C.2.1 dX9_change_128 hl (by decide) rfl (fun ls hl => ?_)
        obtain ⟨x8_14, ex8_14, h⟩ := lt_e h
        refine lv_iinc (v := x8_14) (lv' := [(8, .int x8_14), (6, .int (1 : Int32)), (0, .ref (ρ 7)), (1, .int x1), (2, .long x2), (4, .long x4), (7, .int x7), (9, .int x9)]) C.1 C.2.1 dX9_change_130 hl (k := 6) rfl (by rw [ex8_14]; rfl) (by decide) rfl (fun ls hl => ?_)
        refine lv_goto (tgt := 59) C.1 C.2.1 dX9_change_133 (by decide) ?_
        have hkn := nq_kap nn
        refine W.widen (k := kap S - kap S0) (n := 2 * (kap S - kap S0)) (by omega) (by omega) ?_
        exact kk59 _ _ _ _ _ _ _ _ _ _ _ ha (by omega) w (lv_sub hl [2, 3, 4, 5, 1, 6, 0] rfl) h
set_option maxRecDepth 100000 in
set_option maxHeartbeats 4000000 in
theorem w_TS_change_100 {g : Nat} {S : St} {x1 : Int32} {x2 : Int64} {x4 : Int64} {x6 : Int32} {x7 : Int32} {x8 : Int32} {x9 : Int32} {y1 : Int32} (C : CallFix p m c cX9_change 10 s args tb RX9) (hr : meth.sig.returnType = (some .int)) (hk : meth.locks = false) {S' : St} {r : Int32} {k59 : St → Int32 → Int64 → Int64 → Int32 → Int32 → Int32 → Option (St × Int32)} (kk59 : ∀ (ρ : Nat → Nat) (S : St) (x1 : Int32) (x2 : Int64) (x4 : Int64) (x6 : Int32) (x7 : Int32) (x8 : Int32) (H : Heap) (locs : List Loc) (ls : Array Slot), Ag ρ0 ρ → kap S0 ≤ kap S → Wn Yc D T ρ S A s H locs → lv_has ls 10 [(0, .ref (ρ 7)), (1, .int x1), (2, .long x2), (4, .long x4), (6, .int x6), (7, .int x7), (8, .int x8)] → k59 S x1 x2 x4 x6 x7 x8 = some (S', r) → W p l e (rmK 5 117 (kap S' - kap S0)) s m args below meth c H locs (kap S - kap S0) (2 * (kap S - kap S0)) (MQ below (QiM D T ρ0 A S' r) args s (kap S' - kap S0) (2 * (kap S' - kap S0)) A) (F0 m 59 ls [])) (km59 : ∀ (S : St) (x1 : Int32) (x2 : Int64) (x4 : Int64) (x6 : Int32) (x7 : Int32) (x8 : Int32), k59 S x1 x2 x4 x6 x7 x8 = some (S', r) → kap S ≤ kap S') (ha : Ag ρ0 ρ) (hm : kap S0 ≤ kap S) (w : Wn Yc D T ρ S A s H locs) (hl : lv_has ls 10 [(0, .ref (ρ 7)), (1, .int x1), (2, .long x2), (4, .long x4), (6, .int x6), (7, .int x7), (8, .int x8), (9, .int x9)]) (h : m_TS_change_100 g k59 S x1 x2 x4 x6 x7 x8 x9 y1 = some (S', r)) : W p l e (rmK 5 117 (kap S' - kap S0)) s m args below meth c H locs (kap S - kap S0) (2 * (kap S - kap S0)) (MQ below (QiM D T ρ0 A S' r) args s (kap S' - kap S0) (2 * (kap S' - kap S0)) A) (F0 m 100 ls [.int y1, .ref (ρ 23)]) := by
  have hT := km_TS_change_100 km59 h
  unfold m_TS_change_100 at h
  have nn : nq S S := nq_rf
  obtain ⟨S_10, hS_10, h⟩ := bnd h
  have hkn := nq_kap nn
  have hk1 := km_Row_add hS_10
  have hT2 := km_TS_change_103 km59 h
  refine x_callVvM (q := (RX6, TX6, 4)) (As := [.int y1]) (rest := []) C w (k_Row_add l D T ρ g H.size S obC23 hS_10) vX9_159 (hRK (by decide) (by decide)) obC23 (by decide) rfl rfl rfl hl.1 (Nat.le_of_ble_eq_true rfl) (hcM hm hkn hk1 hT2) dX9_change_100 (fun ρ1 H locs hag w => ?_)
  replace ha := ha.trans hag
  rw [← hag 7 (by decide)] at hl
  refine W.widen (k := kap S_10 - kap S0) (n := 2 * (kap S_10 - kap S0)) (by omega) (by omega) ?_
  exact w_TS_change_103 C hr hk kk59 km59 ha (by omega) w (lv_sub hl [0, 1, 2, 3, 4, 5, 6, 7] rfl) h
set_option maxRecDepth 100000 in
set_option maxHeartbeats 4000000 in
theorem wb_TS_change_59 {g : Nat} {S : St} {x1 : Int32} {x2 : Int64} {x4 : Int64} {x6 : Int32} {x7 : Int32} {x8 : Int32} (C : CallFix p m c cX9_change 10 s args tb RX9) (hr : meth.sig.returnType = (some .int)) (hk : meth.locks = false) {S' : St} {r : Int32} {k59 : St → Int32 → Int64 → Int64 → Int32 → Int32 → Int32 → Option (St × Int32)} (kk59 : ∀ (ρ : Nat → Nat) (S : St) (x1 : Int32) (x2 : Int64) (x4 : Int64) (x6 : Int32) (x7 : Int32) (x8 : Int32) (H : Heap) (locs : List Loc) (ls : Array Slot), Ag ρ0 ρ → kap S0 ≤ kap S → Wn Yc D T ρ S A s H locs → lv_has ls 10 [(0, .ref (ρ 7)), (1, .int x1), (2, .long x2), (4, .long x4), (6, .int x6), (7, .int x7), (8, .int x8)] → k59 S x1 x2 x4 x6 x7 x8 = some (S', r) → W p l e (rmK 5 117 (kap S' - kap S0)) s m args below meth c H locs (kap S - kap S0) (2 * (kap S - kap S0)) (MQ below (QiM D T ρ0 A S' r) args s (kap S' - kap S0) (2 * (kap S' - kap S0)) A) (F0 m 59 ls [])) (km59 : ∀ (S : St) (x1 : Int32) (x2 : Int64) (x4 : Int64) (x6 : Int32) (x7 : Int32) (x8 : Int32), k59 S x1 x2 x4 x6 x7 x8 = some (S', r) → kap S ≤ kap S') (ha : Ag ρ0 ρ) (hm : kap S0 ≤ kap S) (w : Wn Yc D T ρ S A s H locs) (hl : lv_has ls 10 [(0, .ref (ρ 7)), (1, .int x1), (2, .long x2), (4, .long x4), (6, .int x6), (7, .int x7), (8, .int x8)]) (h : b_TS_change_59 g k59 S x1 x2 x4 x6 x7 x8 = some (S', r)) : W p l e (rmK 5 117 (kap S' - kap S0)) s m args below meth c H locs (kap S - kap S0) (2 * (kap S - kap S0)) (MQ below (QiM D T ρ0 A S' r) args s (kap S' - kap S0) (2 * (kap S' - kap S0)) A) (F0 m 59 ls []) := by
  have hT := kmb_TS_change_59 km59 h
  unfold b_TS_change_59 at h
  have nn : nq S S := nq_rf
  refine lv_iload C.1 C.2.1 dX9_change_59 (lv_at hl 6 rfl) ?_
  refine lv_iload C.1 C.2.1 dX9_change_61 (lv_at hl 5 rfl) ?_
  refine lv_icmp_ge (tgt := 136) C.1 C.2.1 dX9_change_63 (by decide) (fun hc => ?_) (fun hc => ?_)
  · replace h := ift hc h
    refine lv_aload_n C.1 C.2.1 dX9_change_136 rfl (lv_at hl 0 rfl) ?_
    refine lv_iload_n C.1 C.2.1 dX9_change_137 rfl (lv_at hl 1 rfl) ?_
    refine lv_iload C.1 C.2.1 dX9_change_138 (lv_at hl 4 rfl) ?_
    obtain ⟨⟨S_7, v_8⟩, hv_8, h⟩ := bnd h
    have hkn := nq_kap nn
    have hk1 := km_TS_become hv_8
    have hT2 := km_TS_change_143 h
    refine x_callViM (q := (RX9, TX9, 6)) (As := [.int x1, .int x6]) (rest := []) C w (k_TS_become l D T ρ g H.size S hv_8) vX9_113 (hRK (by decide) (by decide)) obC7 (by decide) rfl rfl rfl hl.1 (Nat.le_of_ble_eq_true rfl) (hcM hm hkn hk1 hT2) dX9_change_140 (fun ρ1 H locs hag w => ?_)
    replace ha := ha.trans hag
    rw [← hag 7 (by decide)] at hl
    refine W.widen (k := kap S_7 - kap S0) (n := 2 * (kap S_7 - kap S0)) (by omega) (by omega) ?_
    exact w_TS_change_143 C hr hk ha (by omega) w (lv_sub hl [] rfl) h
  · replace h := iff0 hc h
    refine lv_aload_n C.1 C.2.1 dX9_change_66 rfl (lv_at hl 0 rfl) ?_
    refine x_getC C w 5 fX9_33 obC7 rfl dX9_change_67 ?_
    refine x_getC C w 18 fX9_143 obC5 rfl dX9_change_70 ?_
    refine lv_iload C.1 C.2.1 dX9_change_73 (lv_at hl 6 rfl) ?_
    obtain ⟨v_9, hv_9, h⟩ := bnd h
    refine x_callVi (q := (RX6, TX6, 4)) (As := [.int x8]) (rest := []) C w (k_Row_at l D T ρ g H.size S obC18 hv_9) vX9_182 (hRK (by decide) (by decide)) obC18 (by decide) rfl rfl rfl hl.1 (Nat.le_of_ble_eq_true rfl) (hcK hT) dX9_change_75 (fun H locs w => ?_)
    refine lv_istore (lv' := [(9, .int v_9), (0, .ref (ρ 7)), (1, .int x1), (2, .long x2), (4, .long x4), (6, .int x6), (7, .int x7), (8, .int x8)]) C.1 C.2.1 dX9_change_78 hl (by decide) rfl (fun ls hl => ?_)
    refine lv_aload_n C.1 C.2.1 dX9_change_80 rfl (lv_at hl 1 rfl) ?_
    refine x_getC C w 23 fX9_37 obC7 rfl dX9_change_81 ?_
    refine lv_iload C.1 C.2.1 dX9_change_84 (lv_at hl 0 rfl) ?_
    refine lv_i2l C.1 C.2.1 dX9_change_86 rfl ?_
    refine lv_lload_n C.1 C.2.1 dX9_change_87 rfl (lv_at hl 3 rfl) ?_
    refine x_l_ne (tgt := 98) C dX9_change_88 dX9_change_89 (by decide) (fun hc => ?_) (fun hc => ?_)
    · replace h := iff0 hc h
      refine lv_iload C.1 C.2.1 dX9_change_98 (lv_at hl 0 rfl) ?_
      have hkn := nq_kap nn
      refine W.widen (k := kap S - kap S0) (n := 2 * (kap S - kap S0)) (by omega) (by omega) ?_
      exact w_TS_change_100 C hr hk kk59 km59 ha (by omega) w (lv_sub hl [1, 2, 3, 4, 5, 6, 7, 0] rfl) h
    · replace h := ift hc h
      refine lv_lload C.1 C.2.1 dX9_change_92 (lv_at hl 4 rfl) ?_
      refine lv_l2i C.1 C.2.1 dX9_change_94 rfl ?_
      refine lv_goto (tgt := 100) C.1 C.2.1 dX9_change_95 (by decide) ?_
      have hkn := nq_kap nn
      refine W.widen (k := kap S - kap S0) (n := 2 * (kap S - kap S0)) (by omega) (by omega) ?_
      exact w_TS_change_100 C hr hk kk59 km59 ha (by omega) w (lv_sub hl [1, 2, 3, 4, 5, 6, 7, 0] rfl) h
theorem w_TS_change_59 {g : Nat} (C : CallFix p m c cX9_change 10 s args tb RX9) (hr : meth.sig.returnType = (some .int)) (hk : meth.locks = false) {S' : St} {r : Int32} (n : Nat) : ∀ (ρ : Nat → Nat) (S : St) (x1 : Int32) (x2 : Int64) (x4 : Int64) (x6 : Int32) (x7 : Int32) (x8 : Int32) (H : Heap) (locs : List Loc) (ls : Array Slot), Ag ρ0 ρ → kap S0 ≤ kap S → Wn Yc D T ρ S A s H locs → lv_has ls 10 [(0, .ref (ρ 7)), (1, .int x1), (2, .long x2), (4, .long x4), (6, .int x6), (7, .int x7), (8, .int x8)] → m_TS_change_59 g n S x1 x2 x4 x6 x7 x8 = some (S', r) → W p l e (rmK 5 117 (kap S' - kap S0)) s m args below meth c H locs (kap S - kap S0) (2 * (kap S - kap S0)) (MQ below (QiM D T ρ0 A S' r) args s (kap S' - kap S0) (2 * (kap S' - kap S0)) A) (F0 m 59 ls []) := by
  induction n with
  | zero => intro ρ S x1 x2 x4 x6 x7 x8 H locs ls ha hm w hl h; exact absurd h (fun q => by cases q)
  | succ n ih => intro ρ S x1 x2 x4 x6 x7 x8 H locs ls ha hm w hl h; exact wb_TS_change_59 C hr hk ih (km_TS_change_59 n) ha hm w hl h
set_option maxRecDepth 100000 in
set_option maxHeartbeats 4000000 in
theorem w_TS_change_0 {g : Nat} {S : St} {x1 : Int32} (C : CallFix p m c cX9_change 10 s args tb RX9) (hr : meth.sig.returnType = (some .int)) (hk : meth.locks = false) {S' : St} {r : Int32} (ha : Ag ρ0 ρ) (hm : kap S0 ≤ kap S) (w : Wn Yc D T ρ S A s H locs) (hl : lv_has ls 10 [(0, .ref (ρ 7)), (1, .int x1)]) (h : m_TS_change g S x1 = some (S', r)) : W p l e (rmK 5 117 (kap S' - kap S0)) s m args below meth c H locs (kap S - kap S0) (2 * (kap S - kap S0)) (MQ below (QiM D T ρ0 A S' r) args s (kap S' - kap S0) (2 * (kap S' - kap S0)) A) (F0 m 0 ls []) := by
  have hT := km_TS_change h
  unfold m_TS_change at h
  have nn : nq S S := nq_rf
  refine lv_aload_n C.1 C.2.1 dX9_change_0 rfl (lv_at hl 0 rfl) ?_
  refine x_getC C w 4 fX9_23 obC7 rfl dX9_change_1 ?_
  refine lv_iconst (v := 2) C.1 C.2.1 dX9_change_4 (by decide) ?_
  obtain ⟨v_1, hv_1, h⟩ := bnd h
  refine x_callVj (q := (RX1, TX1, 12)) (As := [.int (2 : Int32)]) (rest := []) C w (k_Bn_wholeAt l D T ρ g H.size S hv_1) vX9_119 (hRK (by decide) (by decide)) obC4 (by decide) rfl rfl rfl hl.1 (Nat.le_of_ble_eq_true rfl) (hcK hT) dX9_change_5 (fun H locs w => ?_)
  refine lv_lstore_n (lv' := [(2, .long v_1), (0, .ref (ρ 7)), (1, .int x1)]) C.1 C.2.1 dX9_change_8 rfl hl (by decide) rfl (fun ls hl => ?_)
  refine lv_aload_n C.1 C.2.1 dX9_change_9 rfl (lv_at hl 1 rfl) ?_
  refine x_getC C w 4 fX9_23 obC7 rfl dX9_change_10 ?_
  refine lv_iconst (v := 3) C.1 C.2.1 dX9_change_13 (by decide) ?_
  obtain ⟨v_2, hv_2, h⟩ := bnd h
  refine x_callVj (q := (RX1, TX1, 12)) (As := [.int (3 : Int32)]) (rest := []) C w (k_Bn_wholeAt l D T ρ g H.size S hv_2) vX9_119 (hRK (by decide) (by decide)) obC4 (by decide) rfl rfl rfl hl.1 (Nat.le_of_ble_eq_true rfl) (hcK hT) dX9_change_14 (fun H locs w => ?_)
  refine lv_lstore (lv' := [(4, .long v_2), (2, .long v_1), (0, .ref (ρ 7)), (1, .int x1)]) C.1 C.2.1 dX9_change_17 hl (by decide) rfl (fun ls hl => ?_)
  refine lv_lload_n C.1 C.2.1 dX9_change_19 rfl (lv_at hl 1 rfl) ?_
  obtain ⟨v_3, hv_3, h⟩ := bnd h
  refine x_callSi (As := [.long v_1]) (rest := []) C w (k_Lt_isUnit l D T ρ g H.size S hv_3) vX9_197 (hRK (by decide) (by decide)) rfl rfl hl.1 (Nat.le_of_ble_eq_true rfl) (hcK hT) dX9_change_20 (fun H locs w => ?_)
  refine lv_if_eq (tgt := 34) C.1 C.2.1 dX9_change_23 (by decide) (fun hc => ?_) (fun hc => ?_)
  · replace h := ift hc h
    refine lv_iconst (v := 3) C.1 C.2.1 dX9_change_34 (by decide) ?_
    obtain ⟨rfl, rfl⟩ := prI h
    exact x_iretM C w ha hr hk dX9_change_35 (by have := nq_kap nn; omega) (by have := nq_kap nn; omega)
  · replace h := iff0 hc h
    refine lv_lload C.1 C.2.1 dX9_change_26 (lv_at hl 0 rfl) ?_
    obtain ⟨v_4, hv_4, h⟩ := bnd h
    refine x_callSi (As := [.long v_2]) (rest := []) C w (k_Lt_isUnit l D T ρ g H.size S hv_4) vX9_197 (hRK (by decide) (by decide)) rfl rfl hl.1 (Nat.le_of_ble_eq_true rfl) (hcK hT) dX9_change_28 (fun H locs w => ?_)
    refine lv_if_ne (tgt := 36) C.1 C.2.1 dX9_change_31 (by decide) (fun hc => ?_) (fun hc => ?_)
    · replace h := iff0 hc h
      refine lv_iconst (v := 0) C.1 C.2.1 dX9_change_36 (by decide) ?_
      refine lv_istore (lv' := [(6, .int (0 : Int32)), (4, .long v_2), (2, .long v_1), (0, .ref (ρ 7)), (1, .int x1)]) C.1 C.2.1 dX9_change_37 hl (by decide) rfl (fun ls hl => ?_)
      refine lv_aload_n C.1 C.2.1 dX9_change_39 rfl (lv_at hl 3 rfl) ?_
      refine x_getC C w 5 fX9_33 obC7 rfl dX9_change_40 ?_
      refine lv_iload_n C.1 C.2.1 dX9_change_43 rfl (lv_at hl 4 rfl) ?_
      obtain ⟨v_5, hv_5, h⟩ := bnd h
      refine x_callVi (q := (RX10, TX10, 5)) (As := [.int x1]) (rest := []) C w (k_Tx_endOf l D T ρ g H.size S hv_5) vX9_149 (hRK (by decide) (by decide)) obC5 (by decide) rfl rfl rfl hl.1 (Nat.le_of_ble_eq_true rfl) (hcK hT) dX9_change_44 (fun H locs w => ?_)
      refine lv_istore (lv' := [(7, .int v_5), (6, .int (0 : Int32)), (4, .long v_2), (2, .long v_1), (0, .ref (ρ 7)), (1, .int x1)]) C.1 C.2.1 dX9_change_47 hl (by decide) rfl (fun ls hl => ?_)
      refine lv_aload_n C.1 C.2.1 dX9_change_49 rfl (lv_at hl 4 rfl) ?_
      refine x_getC C w 5 fX9_33 obC7 rfl dX9_change_50 ?_
      refine lv_iload_n C.1 C.2.1 dX9_change_53 rfl (lv_at hl 5 rfl) ?_
      obtain ⟨v_6, hv_6, h⟩ := bnd h
      refine x_callVi (q := (RX10, TX10, 5)) (As := [.int x1]) (rest := []) C w (k_Tx_startOf l D T ρ g H.size S hv_6) vX9_146 (hRK (by decide) (by decide)) obC5 (by decide) rfl rfl rfl hl.1 (Nat.le_of_ble_eq_true rfl) (hcK hT) dX9_change_54 (fun H locs w => ?_)
      refine lv_istore (lv' := [(8, .int v_6), (7, .int v_5), (6, .int (0 : Int32)), (4, .long v_2), (2, .long v_1), (0, .ref (ρ 7)), (1, .int x1)]) C.1 C.2.1 dX9_change_57 hl (by decide) rfl (fun ls hl => ?_)
      have hkn := nq_kap nn
      refine W.widen (k := kap S - kap S0) (n := 2 * (kap S - kap S0)) (by omega) (by omega) ?_
      exact w_TS_change_59 C hr hk g _ _ _ _ _ _ _ _ _ _ _ ha (by omega) w (lv_sub hl [5, 6, 4, 3, 2, 1, 0] rfl) h
    · replace h := ift hc h
      refine lv_iconst (v := 3) C.1 C.2.1 dX9_change_34 (by decide) ?_
      obtain ⟨rfl, rfl⟩ := prI h
      exact x_iretM C w ha hr hk dX9_change_35 (by have := nq_kap nn; omega) (by have := nq_kap nn; omega)
end S_TS_change
set_option maxRecDepth 100000 in
theorem k_TS_change (l : Launch) (D : va_G) (T : Cy) (ρ : Nat → Nat) (g sz : Nat) (S : St) {x1 : Int32} {S' : St} {r : Int32} (h : m_TS_change g S x1 = some (S', r)) : MiM l D T ρ yX9_change cX9_change 10 (some .int) 5 117 S S' r [.ref (ρ 7), .int x1] sz :=
  x_inR (by decide) (Nat.le_of_ble_eq_true rfl) (fun p e s m below meth c ls C hr hk w hl => W.widen (Nat.zero_le _) (Nat.zero_le _) (w_TS_change_0 C hr hk Ag.rf (Nat.le_refl _) w hl h))
