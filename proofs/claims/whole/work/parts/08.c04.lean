theorem dX11_giveTruth_0 : decode cX11_giveTruth 0 = .ok (.aload_n 0, 1) := by decide +kernel
theorem dX11_giveTruth_1 : decode cX11_giveTruth 1 = .ok (.getfield 9, 3) := by decide +kernel
theorem dX11_giveTruth_4 : decode cX11_giveTruth 4 = .ok (.iload_n 1, 1) := by decide +kernel
theorem dX11_giveTruth_5 : decode cX11_giveTruth 5 = .ok (.ifCond .eq 7, 3) := by decide +kernel
theorem dX11_giveTruth_8 : decode cX11_giveTruth 8 = .ok (.lconst 1, 1) := by decide +kernel
theorem dX11_giveTruth_9 : decode cX11_giveTruth 9 = .ok (.goto 4, 3) := by decide +kernel
theorem dX11_giveTruth_12 : decode cX11_giveTruth 12 = .ok (.lconst 0, 1) := by decide +kernel
theorem dX11_giveTruth_13 : decode cX11_giveTruth 13 = .ok (.invokevirtual 44, 3) := by decide +kernel
theorem dX11_giveTruth_16 : decode cX11_giveTruth 16 = .ok (.ireturn, 1) := by decide +kernel
def m_WS_giveTruth_13 (g : Nat) (S : St) (y1 : Int64) : Option (St × Int32) :=
(m_Bn_giveWhole g S y1).bind fun (S_1, v_2) =>
some (S_1, v_2)
def m_WS_giveTruth (g : Nat) (S : St) (x1 : Int32) : Option (St × Int32) :=
if x1 = 0 then (
  m_WS_giveTruth_13 g S (0 : Int64)
) else (
  m_WS_giveTruth_13 g S (1 : Int64)
)
section S_WS_giveTruth
variable {p : Program} {l : Launch} {e : Env} {s : State} {m : MethodId} {args : Array Value} {below : List Frame} {meth : Method} {c : Code} {H : Heap} {locs : List Loc} {ls : Array Slot} {D : va_G} {T : Cy} {ρ : Nat → Nat} {A : Nat → Prop}
set_option maxRecDepth 100000 in
set_option maxHeartbeats 4000000 in
theorem w_WS_giveTruth_13  {g : Nat} {S : St} {y1 : Int64} (C : CallFix p m c cX11_giveTruth 2 s args tb RX11) (hr : meth.sig.returnType = (some .int)) (hk : meth.locks = false) {S' : St} {r : Int32} (w : Wn Yc D T ρ S A s H locs) (hl : lv_has ls 2 []) (h : m_WS_giveTruth_13 g S y1 = some (S', r)) : W p l e (rmN 2 45) s m args below meth c H locs 0 0 (MQ below (Qi Yc D T ρ A S' r) args s 0 0 A) (F0 m 13 ls [.long y1, .ref (ρ 4)]) := by
  unfold m_WS_giveTruth_13 at h
  obtain ⟨⟨S_1, v_2⟩, hv_2, h⟩ := bnd h
  refine x_callVi (q := (RX1, TX1, 12)) (As := [.long y1]) (rest := []) C w (k_Bn_giveWhole l D T ρ g H.size S hv_2) vX11_44 ⟨by decide, by decide⟩ obC4 (by decide) rfl rfl rfl hl.1 (Nat.le_of_ble_eq_true rfl) ⟨Nat.zero_le _, Nat.zero_le _⟩ dX11_giveTruth_13 (fun H locs w => ?_)
  obtain ⟨rfl, rfl⟩ := prI h
  exact x_iret C w hr hk dX11_giveTruth_16
set_option maxRecDepth 100000 in
set_option maxHeartbeats 4000000 in
theorem w_WS_giveTruth_0  {g : Nat} {S : St} {x1 : Int32} (C : CallFix p m c cX11_giveTruth 2 s args tb RX11) (hr : meth.sig.returnType = (some .int)) (hk : meth.locks = false) {S' : St} {r : Int32} (w : Wn Yc D T ρ S A s H locs) (hl : lv_has ls 2 [(0, .ref (ρ 8)), (1, .int x1)]) (h : m_WS_giveTruth g S x1 = some (S', r)) : W p l e (rmN 2 45) s m args below meth c H locs 0 0 (MQ below (Qi Yc D T ρ A S' r) args s 0 0 A) (F0 m 0 ls []) := by
  unfold m_WS_giveTruth at h
  refine lv_aload_n C.1 C.2.1 dX11_giveTruth_0 rfl (lv_at hl 0 rfl) ?_
  refine x_getC C w 4 fX11_9 obC8 rfl dX11_giveTruth_1 ?_
  refine lv_iload_n C.1 C.2.1 dX11_giveTruth_4 rfl (lv_at hl 1 rfl) ?_
  refine lv_if_eq (tgt := 12) C.1 C.2.1 dX11_giveTruth_5 (by decide) (fun hc => ?_) (fun hc => ?_)
  · replace h := ift hc h
    refine lv_lconst (v := 0) C.1 C.2.1 dX11_giveTruth_12 (by decide) ?_
    exact w_WS_giveTruth_13 C hr hk w (lv_sub hl [] rfl) h
  · replace h := iff0 hc h
    refine lv_lconst (v := 1) C.1 C.2.1 dX11_giveTruth_8 (by decide) ?_
    refine lv_goto (tgt := 13) C.1 C.2.1 dX11_giveTruth_9 (by decide) ?_
    exact w_WS_giveTruth_13 C hr hk w (lv_sub hl [] rfl) h
end S_WS_giveTruth
set_option maxRecDepth 100000 in
theorem k_WS_giveTruth (l : Launch) (D : va_G) (T : Cy) (ρ : Nat → Nat) (g sz : Nat) (S : St) {x1 : Int32} {S' : St} {r : Int32} (h : m_WS_giveTruth g S x1 = some (S', r)) : Mi l Yc D T ρ yX11_giveTruth cX11_giveTruth 2 (some .int) 2 45 S S' r [.ref (ρ 8), .int x1] sz :=
  x_in (by decide) (Nat.le_of_ble_eq_true rfl) (fun p e s m below meth c ls C hr hk w hl => w_WS_giveTruth_0 C hr hk w hl h)

theorem dX11_giveFirst_0 : decode cX11_giveFirst 0 = .ok (.aload_n 0, 1) := by decide +kernel
theorem dX11_giveFirst_1 : decode cX11_giveFirst 1 = .ok (.getfield 9, 3) := by decide +kernel
theorem dX11_giveFirst_4 : decode cX11_giveFirst 4 = .ok (.getfield 143, 3) := by decide +kernel
theorem dX11_giveFirst_7 : decode cX11_giveFirst 7 = .ok (.aload_n 0, 1) := by decide +kernel
theorem dX11_giveFirst_8 : decode cX11_giveFirst 8 = .ok (.getfield 9, 3) := by decide +kernel
theorem dX11_giveFirst_11 : decode cX11_giveFirst 11 = .ok (.iconst 1, 1) := by decide +kernel
theorem dX11_giveFirst_12 : decode cX11_giveFirst 12 = .ok (.invokevirtual 51, 3) := by decide +kernel
theorem dX11_giveFirst_15 : decode cX11_giveFirst 15 = .ok (.aaload, 1) := by decide +kernel
theorem dX11_giveFirst_16 : decode cX11_giveFirst 16 = .ok (.astore_n 1, 1) := by decide +kernel
theorem dX11_giveFirst_17 : decode cX11_giveFirst 17 = .ok (.aload_n 0, 1) := by decide +kernel
theorem dX11_giveFirst_18 : decode cX11_giveFirst 18 = .ok (.getfield 9, 3) := by decide +kernel
theorem dX11_giveFirst_21 : decode cX11_giveFirst 21 = .ok (.getfield 143, 3) := by decide +kernel
theorem dX11_giveFirst_24 : decode cX11_giveFirst 24 = .ok (.aload_n 0, 1) := by decide +kernel
theorem dX11_giveFirst_25 : decode cX11_giveFirst 25 = .ok (.getfield 9, 3) := by decide +kernel
theorem dX11_giveFirst_28 : decode cX11_giveFirst 28 = .ok (.iconst 2, 1) := by decide +kernel
theorem dX11_giveFirst_29 : decode cX11_giveFirst 29 = .ok (.invokevirtual 51, 3) := by decide +kernel
theorem dX11_giveFirst_32 : decode cX11_giveFirst 32 = .ok (.aaload, 1) := by decide +kernel
theorem dX11_giveFirst_33 : decode cX11_giveFirst 33 = .ok (.astore_n 2, 1) := by decide +kernel
theorem dX11_giveFirst_34 : decode cX11_giveFirst 34 = .ok (.aload_n 0, 1) := by decide +kernel
theorem dX11_giveFirst_35 : decode cX11_giveFirst 35 = .ok (.getfield 9, 3) := by decide +kernel
theorem dX11_giveFirst_38 : decode cX11_giveFirst 38 = .ok (.aload_n 1, 1) := by decide +kernel
theorem dX11_giveFirst_39 : decode cX11_giveFirst 39 = .ok (.iconst 0, 1) := by decide +kernel
theorem dX11_giveFirst_40 : decode cX11_giveFirst 40 = .ok (.aload_n 1, 1) := by decide +kernel
theorem dX11_giveFirst_41 : decode cX11_giveFirst 41 = .ok (.getfield 38, 3) := by decide +kernel
theorem dX11_giveFirst_44 : decode cX11_giveFirst 44 = .ok (.aload_n 2, 1) := by decide +kernel
theorem dX11_giveFirst_45 : decode cX11_giveFirst 45 = .ok (.iconst 0, 1) := by decide +kernel
theorem dX11_giveFirst_46 : decode cX11_giveFirst 46 = .ok (.aload_n 2, 1) := by decide +kernel
theorem dX11_giveFirst_47 : decode cX11_giveFirst 47 = .ok (.getfield 38, 3) := by decide +kernel
theorem dX11_giveFirst_50 : decode cX11_giveFirst 50 = .ok (.invokevirtual 125, 3) := by decide +kernel
theorem dX11_giveFirst_53 : decode cX11_giveFirst 53 = .ok (.i2l, 1) := by decide +kernel
theorem dX11_giveFirst_54 : decode cX11_giveFirst 54 = .ok (.invokevirtual 44, 3) := by decide +kernel
theorem dX11_giveFirst_57 : decode cX11_giveFirst 57 = .ok (.ireturn, 1) := by decide +kernel
def m_WS_giveFirst (g : Nat) (S : St) : Option (St × Int32) :=
(m_Bn_builderAt g S (1 : Int32)).bind fun v_1 =>
(bR S v_1).bind fun r_2 =>
(m_Bn_builderAt g S (2 : Int32)).bind fun v_3 =>
(bR S v_3).bind fun r_4 =>
(m_Row_orderTo g S r_2 (0 : Int32) (gI S r_2 2) r_4 (0 : Int32) (gI S r_4 2)).bind fun v_5 =>
(m_Bn_giveWhole g S (v_5.toInt64)).bind fun (S_6, v_7) =>
some (S_6, v_7)
section S_WS_giveFirst
variable {p : Program} {l : Launch} {e : Env} {s : State} {m : MethodId} {args : Array Value} {below : List Frame} {meth : Method} {c : Code} {H : Heap} {locs : List Loc} {ls : Array Slot} {D : va_G} {T : Cy} {ρ : Nat → Nat} {A : Nat → Prop}
set_option maxRecDepth 100000 in
set_option maxHeartbeats 4000000 in
theorem w_WS_giveFirst_0  {g : Nat} {S : St} (C : CallFix p m c cX11_giveFirst 3 s args tb RX11) (hr : meth.sig.returnType = (some .int)) (hk : meth.locks = false) {S' : St} {r : Int32} (w : Wn Yc D T ρ S A s H locs) (hl : lv_has ls 3 [(0, .ref (ρ 8))]) (h : m_WS_giveFirst g S = some (S', r)) : W p l e (rmN 2 51) s m args below meth c H locs 0 0 (MQ below (Qi Yc D T ρ A S' r) args s 0 0 A) (F0 m 0 ls []) := by
  unfold m_WS_giveFirst at h
  refine lv_aload_n C.1 C.2.1 dX11_giveFirst_0 rfl (lv_at hl 0 rfl) ?_
  refine x_getC C w 4 fX11_9 obC8 rfl dX11_giveFirst_1 ?_
  refine x_getC C w 76 fX11_143 obC4 rfl dX11_giveFirst_4 ?_
  refine lv_aload_n C.1 C.2.1 dX11_giveFirst_7 rfl (lv_at hl 0 rfl) ?_
  refine x_getC C w 4 fX11_9 obC8 rfl dX11_giveFirst_8 ?_
  refine lv_iconst (v := 1) C.1 C.2.1 dX11_giveFirst_11 (by decide) ?_
  obtain ⟨v_1, hv_1, h⟩ := bnd h
  refine x_callVi (q := (RX1, TX1, 12)) (As := [.int (1 : Int32)]) (rest := [.ref (ρ 76)]) C w (k_Bn_builderAt l D T ρ g H.size S hv_1) vX11_51 ⟨by decide, by decide⟩ obC4 (by decide) rfl rfl rfl hl.1 (Nat.le_of_ble_eq_true rfl) ⟨Nat.zero_le _, Nat.zero_le _⟩ dX11_giveFirst_12 (fun H locs w => ?_)
  obtain ⟨r_2, hr_2, h⟩ := bnd h
  refine x_bald C w hr_2 dX11_giveFirst_15 ?_
  refine lv_astore_n (lv' := [(1, .ref (ρ r_2)), (0, .ref (ρ 8))]) C.1 C.2.1 dX11_giveFirst_16 rfl hl (by decide) rfl (fun ls hl => ?_)
  refine lv_aload_n C.1 C.2.1 dX11_giveFirst_17 rfl (lv_at hl 1 rfl) ?_
  refine x_getC C w 4 fX11_9 obC8 rfl dX11_giveFirst_18 ?_
  refine x_getC C w 76 fX11_143 obC4 rfl dX11_giveFirst_21 ?_
  refine lv_aload_n C.1 C.2.1 dX11_giveFirst_24 rfl (lv_at hl 1 rfl) ?_
  refine x_getC C w 4 fX11_9 obC8 rfl dX11_giveFirst_25 ?_
  refine lv_iconst (v := 2) C.1 C.2.1 dX11_giveFirst_28 (by decide) ?_
  obtain ⟨v_3, hv_3, h⟩ := bnd h
  refine x_callVi (q := (RX1, TX1, 12)) (As := [.int (2 : Int32)]) (rest := [.ref (ρ 76)]) C w (k_Bn_builderAt l D T ρ g H.size S hv_3) vX11_51 ⟨by decide, by decide⟩ obC4 (by decide) rfl rfl rfl hl.1 (Nat.le_of_ble_eq_true rfl) ⟨Nat.zero_le _, Nat.zero_le _⟩ dX11_giveFirst_29 (fun H locs w => ?_)
  obtain ⟨r_4, hr_4, h⟩ := bnd h
  refine x_bald C w hr_4 dX11_giveFirst_32 ?_
  refine lv_astore_n (lv' := [(2, .ref (ρ r_4)), (1, .ref (ρ r_2)), (0, .ref (ρ 8))]) C.1 C.2.1 dX11_giveFirst_33 rfl hl (by decide) rfl (fun ls hl => ?_)
  refine lv_aload_n C.1 C.2.1 dX11_giveFirst_34 rfl (lv_at hl 2 rfl) ?_
  refine x_getC C w 4 fX11_9 obC8 rfl dX11_giveFirst_35 ?_
  refine lv_aload_n C.1 C.2.1 dX11_giveFirst_38 rfl (lv_at hl 1 rfl) ?_
  refine lv_iconst (v := 0) C.1 C.2.1 dX11_giveFirst_39 (by decide) ?_
  refine lv_aload_n C.1 C.2.1 dX11_giveFirst_40 rfl (lv_at hl 1 rfl) ?_
  refine x_getI C w fX11_38 (bR_ob hr_2) dX11_giveFirst_41 ?_
  refine lv_aload_n C.1 C.2.1 dX11_giveFirst_44 rfl (lv_at hl 0 rfl) ?_
  refine lv_iconst (v := 0) C.1 C.2.1 dX11_giveFirst_45 (by decide) ?_
  refine lv_aload_n C.1 C.2.1 dX11_giveFirst_46 rfl (lv_at hl 0 rfl) ?_
  refine x_getI C w fX11_38 (bR_ob hr_4) dX11_giveFirst_47 ?_
  obtain ⟨v_5, hv_5, h⟩ := bnd h
  refine x_callVi (q := (RX6, TX6, 4)) (As := [.int (0 : Int32), .int (gI S r_2 2), .ref (ρ r_4), .int (0 : Int32), .int (gI S r_4 2)]) (rest := [.ref (ρ 4)]) C w (k_Row_orderTo l D T ρ g H.size S (bR_ob hr_2) (bR_ob hr_4) hv_5) vX11_125 ⟨by decide, by decide⟩ (bR_ob hr_2) (by decide) rfl rfl rfl hl.1 (Nat.le_of_ble_eq_true rfl) ⟨Nat.zero_le _, Nat.zero_le _⟩ dX11_giveFirst_50 (fun H locs w => ?_)
  refine lv_i2l C.1 C.2.1 dX11_giveFirst_53 rfl ?_
  obtain ⟨⟨S_6, v_7⟩, hv_7, h⟩ := bnd h
  refine x_callVi (q := (RX1, TX1, 12)) (As := [.long (v_5.toInt64)]) (rest := []) C w (k_Bn_giveWhole l D T ρ g H.size S hv_7) vX11_44 ⟨by decide, by decide⟩ obC4 (by decide) rfl rfl rfl hl.1 (Nat.le_of_ble_eq_true rfl) ⟨Nat.zero_le _, Nat.zero_le _⟩ dX11_giveFirst_54 (fun H locs w => ?_)
  obtain ⟨rfl, rfl⟩ := prI h
  exact x_iret C w hr hk dX11_giveFirst_57
end S_WS_giveFirst
set_option maxRecDepth 100000 in
theorem k_WS_giveFirst (l : Launch) (D : va_G) (T : Cy) (ρ : Nat → Nat) (g sz : Nat) (S : St) {S' : St} {r : Int32} (h : m_WS_giveFirst g S = some (S', r)) : Mi l Yc D T ρ yX11_giveFirst cX11_giveFirst 3 (some .int) 2 51 S S' r [.ref (ρ 8)] sz :=
  x_in (by decide) (Nat.le_of_ble_eq_true rfl) (fun p e s m below meth c ls C hr hk w hl => w_WS_giveFirst_0 C hr hk w hl h)

theorem dX11_parse_0 : decode cX11_parse 0 = .ok (.aload_n 0, 1) := by decide +kernel
theorem dX11_parse_1 : decode cX11_parse 1 = .ok (.getfield 9, 3) := by decide +kernel
theorem dX11_parse_4 : decode cX11_parse 4 = .ok (.iconst 1, 1) := by decide +kernel
theorem dX11_parse_5 : decode cX11_parse 5 = .ok (.invokevirtual 72, 3) := by decide +kernel
theorem dX11_parse_8 : decode cX11_parse 8 = .ok (.istore_n 3, 1) := by decide +kernel
theorem dX11_parse_9 : decode cX11_parse 9 = .ok (.aload_n 0, 1) := by decide +kernel
theorem dX11_parse_10 : decode cX11_parse 10 = .ok (.getfield 9, 3) := by decide +kernel
theorem dX11_parse_13 : decode cX11_parse 13 = .ok (.iconst 2, 1) := by decide +kernel
theorem dX11_parse_14 : decode cX11_parse 14 = .ok (.invokevirtual 68, 3) := by decide +kernel
theorem dX11_parse_17 : decode cX11_parse 17 = .ok (.lstore 4, 2) := by decide +kernel
theorem dX11_parse_19 : decode cX11_parse 19 = .ok (.iload_n 3, 1) := by decide +kernel
theorem dX11_parse_20 : decode cX11_parse 20 = .ok (.iconst (-1), 1) := by decide +kernel
theorem dX11_parse_21 : decode cX11_parse 21 = .ok (.if_icmp .eq 21, 3) := by decide +kernel
theorem dX11_parse_24 : decode cX11_parse 24 = .ok (.lload 4, 2) := by decide +kernel
theorem dX11_parse_26 : decode cX11_parse 26 = .ok (.ldc2_w 147, 3) := by decide +kernel
theorem dX11_parse_29 : decode cX11_parse 29 = .ok (.lcmp, 1) := by decide +kernel
theorem dX11_parse_30 : decode cX11_parse 30 = .ok (.ifCond .lt 12, 3) := by decide +kernel
theorem dX11_parse_33 : decode cX11_parse 33 = .ok (.lload 4, 2) := by decide +kernel
theorem dX11_parse_35 : decode cX11_parse 35 = .ok (.ldc2_w 149, 3) := by decide +kernel
theorem dX11_parse_38 : decode cX11_parse 38 = .ok (.lcmp, 1) := by decide +kernel
theorem dX11_parse_39 : decode cX11_parse 39 = .ok (.ifCond .le 5, 3) := by decide +kernel
theorem dX11_parse_42 : decode cX11_parse 42 = .ok (.iconst 2, 1) := by decide +kernel
theorem dX11_parse_43 : decode cX11_parse 43 = .ok (.ireturn, 1) := by decide +kernel
theorem dX11_parse_44 : decode cX11_parse 44 = .ok (.aload_n 0, 1) := by decide +kernel
theorem dX11_parse_45 : decode cX11_parse 45 = .ok (.getfield 21, 3) := by decide +kernel
theorem dX11_parse_48 : decode cX11_parse 48 = .ok (.iload_n 3, 1) := by decide +kernel
theorem dX11_parse_49 : decode cX11_parse 49 = .ok (.invokevirtual 119, 3) := by decide +kernel
theorem dX11_parse_52 : decode cX11_parse 52 = .ok (.istore 6, 2) := by decide +kernel
theorem dX11_parse_54 : decode cX11_parse 54 = .ok (.aload_n 0, 1) := by decide +kernel
theorem dX11_parse_55 : decode cX11_parse 55 = .ok (.getfield 21, 3) := by decide +kernel
theorem dX11_parse_58 : decode cX11_parse 58 = .ok (.iload_n 3, 1) := by decide +kernel
theorem dX11_parse_59 : decode cX11_parse 59 = .ok (.iconst 0, 1) := by decide +kernel
theorem dX11_parse_60 : decode cX11_parse 60 = .ok (.invokevirtual 151, 3) := by decide +kernel
theorem dX11_parse_63 : decode cX11_parse 63 = .ok (.istore 7, 2) := by decide +kernel
theorem dX11_parse_65 : decode cX11_parse 65 = .ok (.iload 7, 2) := by decide +kernel
theorem dX11_parse_67 : decode cX11_parse 67 = .ok (.bipush 43, 2) := by decide +kernel
theorem dX11_parse_69 : decode cX11_parse 69 = .ok (.if_icmp .eq 10, 3) := by decide +kernel
theorem dX11_parse_72 : decode cX11_parse 72 = .ok (.iload 7, 2) := by decide +kernel
theorem dX11_parse_74 : decode cX11_parse 74 = .ok (.bipush 45, 2) := by decide +kernel
theorem dX11_parse_76 : decode cX11_parse 76 = .ok (.if_icmp .ne 6, 3) := by decide +kernel
theorem dX11_parse_79 : decode cX11_parse 79 = .ok (.iinc 6 1, 3) := by decide +kernel
theorem dX11_parse_82 : decode cX11_parse 82 = .ok (.aload_n 0, 1) := by decide +kernel
theorem dX11_parse_83 : decode cX11_parse 83 = .ok (.getfield 21, 3) := by decide +kernel
theorem dX11_parse_86 : decode cX11_parse 86 = .ok (.getfield 116, 3) := by decide +kernel
theorem dX11_parse_89 : decode cX11_parse 89 = .ok (.iload 6, 2) := by decide +kernel
theorem dX11_parse_91 : decode cX11_parse 91 = .ok (.aload_n 0, 1) := by decide +kernel
theorem dX11_parse_92 : decode cX11_parse 92 = .ok (.getfield 21, 3) := by decide +kernel
theorem dX11_parse_95 : decode cX11_parse 95 = .ok (.iload_n 3, 1) := by decide +kernel
theorem dX11_parse_96 : decode cX11_parse 96 = .ok (.invokevirtual 122, 3) := by decide +kernel
theorem dX11_parse_99 : decode cX11_parse 99 = .ok (.lload 4, 2) := by decide +kernel
theorem dX11_parse_101 : decode cX11_parse 101 = .ok (.l2i, 1) := by decide +kernel
theorem dX11_parse_102 : decode cX11_parse 102 = .ok (.invokestatic 154, 3) := by decide +kernel
theorem dX11_parse_105 : decode cX11_parse 105 = .ok (.lstore 8, 2) := by decide +kernel
theorem dX11_parse_107 : decode cX11_parse 107 = .ok (.lload 8, 2) := by decide +kernel
theorem dX11_parse_109 : decode cX11_parse 109 = .ok (.lconst 0, 1) := by decide +kernel
theorem dX11_parse_110 : decode cX11_parse 110 = .ok (.lcmp, 1) := by decide +kernel
theorem dX11_parse_111 : decode cX11_parse 111 = .ok (.ifCond .gt 24, 3) := by decide +kernel
theorem dX11_parse_114 : decode cX11_parse 114 = .ok (.lload 8, 2) := by decide +kernel
theorem dX11_parse_116 : decode cX11_parse 116 = .ok (.lload_n 1, 1) := by decide +kernel
theorem dX11_parse_117 : decode cX11_parse 117 = .ok (.lcmp, 1) := by decide +kernel
theorem dX11_parse_118 : decode cX11_parse 118 = .ok (.ifCond .lt 17, 3) := by decide +kernel
theorem dX11_parse_121 : decode cX11_parse 121 = .ok (.iload 7, 2) := by decide +kernel
theorem dX11_parse_123 : decode cX11_parse 123 = .ok (.bipush 45, 2) := by decide +kernel
theorem dX11_parse_125 : decode cX11_parse 125 = .ok (.if_icmp .eq 12, 3) := by decide +kernel
theorem dX11_parse_128 : decode cX11_parse 128 = .ok (.lload 8, 2) := by decide +kernel
theorem dX11_parse_130 : decode cX11_parse 130 = .ok (.lload_n 1, 1) := by decide +kernel
theorem dX11_parse_131 : decode cX11_parse 131 = .ok (.lcmp, 1) := by decide +kernel
theorem dX11_parse_132 : decode cX11_parse 132 = .ok (.ifCond .ne 5, 3) := by decide +kernel
theorem dX11_parse_135 : decode cX11_parse 135 = .ok (.iconst 2, 1) := by decide +kernel
theorem dX11_parse_136 : decode cX11_parse 136 = .ok (.ireturn, 1) := by decide +kernel
theorem dX11_parse_137 : decode cX11_parse 137 = .ok (.aload_n 0, 1) := by decide +kernel
theorem dX11_parse_138 : decode cX11_parse 138 = .ok (.getfield 9, 3) := by decide +kernel
theorem dX11_parse_141 : decode cX11_parse 141 = .ok (.iload 7, 2) := by decide +kernel
theorem dX11_parse_143 : decode cX11_parse 143 = .ok (.bipush 45, 2) := by decide +kernel
theorem dX11_parse_145 : decode cX11_parse 145 = .ok (.if_icmp .ne 8, 3) := by decide +kernel
theorem dX11_parse_148 : decode cX11_parse 148 = .ok (.lload 8, 2) := by decide +kernel
theorem dX11_parse_150 : decode cX11_parse 150 = .ok (.goto 6, 3) := by decide +kernel
theorem dX11_parse_153 : decode cX11_parse 153 = .ok (.lload 8, 2) := by decide +kernel
theorem dX11_parse_155 : decode cX11_parse 155 = .ok (.lneg, 1) := by decide +kernel
theorem dX11_parse_156 : decode cX11_parse 156 = .ok (.invokevirtual 44, 3) := by decide +kernel
theorem dX11_parse_159 : decode cX11_parse 159 = .ok (.ireturn, 1) := by decide +kernel
def m_WS_parse_156 (g : Nat) (S : St) (y1 : Int64) : Option (St × Int32) :=
(m_Bn_giveWhole g S y1).bind fun (S_8, v_9) =>
some (S_8, v_9)
def m_WS_parse_137 (g : Nat) (S : St) (x7 : Int32) (x8 : Int64) : Option (St × Int32) :=
if x7 = (45 : Int32) then (
  m_WS_parse_156 g S x8
) else (
  m_WS_parse_156 g S (-x8)
)
def m_WS_parse_82 (g : Nat) (S : St) (x1 : Int64) (x3 : Int32) (x4 : Int64) (x6 : Int32) (x7 : Int32) : Option (St × Int32) :=
(m_Tx_endOf g S x3).bind fun v_6 =>
(m_Lt_minusTold g S 18 x6 v_6 (x4.toInt32)).bind fun v_7 =>
if (0 : Int64) < v_7 then (
  some (S, (2 : Int32))
) else (
  if v_7 < x1 then (
    some (S, (2 : Int32))
  ) else (
    if x7 = (45 : Int32) then (
      m_WS_parse_137 g S x7 v_7
    ) else (
      if v_7 = x1 then (
        some (S, (2 : Int32))
      ) else (
        m_WS_parse_137 g S x7 v_7
      )
    )
  )
)
def m_WS_parse_79 (g : Nat) (S : St) (x1 : Int64) (x3 : Int32) (x4 : Int64) (x6 : Int32) (x7 : Int32) : Option (St × Int32) :=
lt (x6 + (1 : Int32)) fun x6_5 =>
m_WS_parse_82 g S x1 x3 x4 x6_5 x7
def m_WS_parse (g : Nat) (S : St) (x1 : Int64) : Option (St × Int32) :=
(m_Bn_textAt g S (1 : Int32)).bind fun v_1 =>
(m_Bn_wholeAt g S (2 : Int32)).bind fun v_2 =>
if v_1 = (-1 : Int32) then (
  some (S, (2 : Int32))
) else (
  if v_2 < (2 : Int64) then (
    some (S, (2 : Int32))
  ) else (
    if (36 : Int64) < v_2 then (
      some (S, (2 : Int32))
    ) else (
      (m_Tx_startOf g S v_1).bind fun v_3 =>
      (m_Tx_unitOf g S v_1 (0 : Int32)).bind fun v_4 =>
      if v_4 = (43 : Int32) then (
        m_WS_parse_79 g S x1 v_1 v_2 v_3 v_4
      ) else (
        if v_4 = (45 : Int32) then (
          m_WS_parse_79 g S x1 v_1 v_2 v_3 v_4
        ) else (
          m_WS_parse_82 g S x1 v_1 v_2 v_3 v_4
        )
      )
    )
  )
)
section S_WS_parse
variable {p : Program} {l : Launch} {e : Env} {s : State} {m : MethodId} {args : Array Value} {below : List Frame} {meth : Method} {c : Code} {H : Heap} {locs : List Loc} {ls : Array Slot} {D : va_G} {T : Cy} {ρ : Nat → Nat} {A : Nat → Prop}
set_option maxRecDepth 100000 in
set_option maxHeartbeats 4000000 in
theorem w_WS_parse_156  {g : Nat} {S : St} {y1 : Int64} (C : CallFix p m c cX11_parse 10 s args tb RX11) (hr : meth.sig.returnType = (some .int)) (hk : meth.locks = false) {S' : St} {r : Int32} (w : Wn Yc D T ρ S A s H locs) (hl : lv_has ls 10 []) (h : m_WS_parse_156 g S y1 = some (S', r)) : W p l e (rmN 3 64) s m args below meth c H locs 0 0 (MQ below (Qi Yc D T ρ A S' r) args s 0 0 A) (F0 m 156 ls [.long y1, .ref (ρ 4)]) := by
  unfold m_WS_parse_156 at h
  obtain ⟨⟨S_8, v_9⟩, hv_9, h⟩ := bnd h
  refine x_callVi (q := (RX1, TX1, 12)) (As := [.long y1]) (rest := []) C w (k_Bn_giveWhole l D T ρ g H.size S hv_9) vX11_44 ⟨by decide, by decide⟩ obC4 (by decide) rfl rfl rfl hl.1 (Nat.le_of_ble_eq_true rfl) ⟨Nat.zero_le _, Nat.zero_le _⟩ dX11_parse_156 (fun H locs w => ?_)
  obtain ⟨rfl, rfl⟩ := prI h
  exact x_iret C w hr hk dX11_parse_159
set_option maxRecDepth 100000 in
set_option maxHeartbeats 4000000 in
theorem w_WS_parse_137  {g : Nat} {S : St} {x7 : Int32} {x8 : Int64} (C : CallFix p m c cX11_parse 10 s args tb RX11) (hr : meth.sig.returnType = (some .int)) (hk : meth.locks = false) {S' : St} {r : Int32} (w : Wn Yc D T ρ S A s H locs) (hl : lv_has ls 10 [(0, .ref (ρ 8)), (7, .int x7), (8, .long x8)]) (h : m_WS_parse_137 g S x7 x8 = some (S', r)) : W p l e (rmN 3 64) s m args below meth c H locs 0 0 (MQ below (Qi Yc D T ρ A S' r) args s 0 0 A) (F0 m 137 ls []) := by
  unfold m_WS_parse_137 at h
  refine lv_aload_n C.1 C.2.1 dX11_parse_137 rfl (lv_at hl 0 rfl) ?_
  refine x_getC C w 4 fX11_9 obC8 rfl dX11_parse_138 ?_
  refine lv_iload C.1 C.2.1 dX11_parse_141 (lv_at hl 1 rfl) ?_
  refine lv_bipush (v := 45) C.1 C.2.1 dX11_parse_143 (by decide) ?_
  refine lv_icmp_ne (tgt := 153) C.1 C.2.1 dX11_parse_145 (by decide) (fun hc => ?_) (fun hc => ?_)
  · replace h := iff0 hc h
    refine lv_lload C.1 C.2.1 dX11_parse_153 (lv_at hl 2 rfl) ?_
    refine lv_lneg C.1 C.2.1 dX11_parse_155 ?_
    exact w_WS_parse_156 C hr hk w (lv_sub hl [] rfl) h
  · replace h := ift hc h
    refine lv_lload C.1 C.2.1 dX11_parse_148 (lv_at hl 2 rfl) ?_
    refine lv_goto (tgt := 156) C.1 C.2.1 dX11_parse_150 (by decide) ?_
    exact w_WS_parse_156 C hr hk w (lv_sub hl [] rfl) h
set_option maxRecDepth 100000 in
set_option maxHeartbeats 4000000 in
theorem w_WS_parse_82  {g : Nat} {S : St} {x1 : Int64} {x3 : Int32} {x4 : Int64} {x6 : Int32} {x7 : Int32} (C : CallFix p m c cX11_parse 10 s args tb RX11) (hr : meth.sig.returnType = (some .int)) (hk : meth.locks = false) {S' : St} {r : Int32} (w : Wn Yc D T ρ S A s H locs) (hl : lv_has ls 10 [(0, .ref (ρ 8)), (1, .long x1), (3, .int x3), (4, .long x4), (6, .int x6), (7, .int x7)]) (h : m_WS_parse_82 g S x1 x3 x4 x6 x7 = some (S', r)) : W p l e (rmN 3 64) s m args below meth c H locs 0 0 (MQ below (Qi Yc D T ρ A S' r) args s 0 0 A) (F0 m 82 ls []) := by
  unfold m_WS_parse_82 at h
  refine lv_aload_n C.1 C.2.1 dX11_parse_82 rfl (lv_at hl 0 rfl) ?_
  refine x_getC C w 5 fX11_21 obC8 rfl dX11_parse_83 ?_
  refine x_getC C w 18 fX11_116 obC5 rfl dX11_parse_86 ?_
  refine lv_iload C.1 C.2.1 dX11_parse_89 (lv_at hl 4 rfl) ?_
  refine lv_aload_n C.1 C.2.1 dX11_parse_91 rfl (lv_at hl 0 rfl) ?_
  refine x_getC C w 5 fX11_21 obC8 rfl dX11_parse_92 ?_
  refine lv_iload_n C.1 C.2.1 dX11_parse_95 rfl (lv_at hl 2 rfl) ?_
  obtain ⟨v_6, hv_6, h⟩ := bnd h
  refine x_callVi (q := (RX10, TX10, 5)) (As := [.int x3]) (rest := [.int x6, .ref (ρ 18)]) C w (k_Tx_endOf l D T ρ g H.size S hv_6) vX11_122 ⟨by decide, by decide⟩ obC5 (by decide) rfl rfl rfl hl.1 (Nat.le_of_ble_eq_true rfl) ⟨Nat.zero_le _, Nat.zero_le _⟩ dX11_parse_96 (fun H locs w => ?_)
  refine lv_lload C.1 C.2.1 dX11_parse_99 (lv_at hl 3 rfl) ?_
  refine lv_l2i C.1 C.2.1 dX11_parse_101 rfl ?_
  obtain ⟨v_7, hv_7, h⟩ := bnd h
  refine x_callSj (As := [.ref (ρ 18), .int x6, .int v_6, .int (x4.toInt32)]) (rest := []) C w (k_Lt_minusTold l D T ρ g H.size S obC18 hv_7) vX11_154 ⟨by decide, by decide⟩ rfl rfl hl.1 (Nat.le_of_ble_eq_true rfl) ⟨Nat.zero_le _, Nat.zero_le _⟩ dX11_parse_102 (fun H locs w => ?_)
  refine lv_lstore (lv' := [(8, .long v_7), (0, .ref (ρ 8)), (1, .long x1), (3, .int x3), (4, .long x4), (6, .int x6), (7, .int x7)]) C.1 C.2.1 dX11_parse_105 hl (by decide) rfl (fun ls hl => ?_)
  refine lv_lload C.1 C.2.1 dX11_parse_107 (lv_at hl 0 rfl) ?_
  refine lv_lconst (v := 0) C.1 C.2.1 dX11_parse_109 (by decide) ?_
  refine x_l_gt (tgt := 135) C dX11_parse_110 dX11_parse_111 (by decide) (fun hc => ?_) (fun hc => ?_)
  · replace h := ift hc h
    refine lv_iconst (v := 2) C.1 C.2.1 dX11_parse_135 (by decide) ?_
    obtain ⟨rfl, rfl⟩ := prI h
    exact x_iret C w hr hk dX11_parse_136
  · replace h := iff0 hc h
    refine lv_lload C.1 C.2.1 dX11_parse_114 (lv_at hl 0 rfl) ?_
    refine lv_lload_n C.1 C.2.1 dX11_parse_116 rfl (lv_at hl 2 rfl) ?_
    refine x_l_lt (tgt := 135) C dX11_parse_117 dX11_parse_118 (by decide) (fun hc => ?_) (fun hc => ?_)
    · replace h := ift hc h
      refine lv_iconst (v := 2) C.1 C.2.1 dX11_parse_135 (by decide) ?_
      obtain ⟨rfl, rfl⟩ := prI h
      exact x_iret C w hr hk dX11_parse_136
    · replace h := iff0 hc h
      refine lv_iload C.1 C.2.1 dX11_parse_121 (lv_at hl 6 rfl) ?_
      refine lv_bipush (v := 45) C.1 C.2.1 dX11_parse_123 (by decide) ?_
      refine lv_icmp_eq (tgt := 137) C.1 C.2.1 dX11_parse_125 (by decide) (fun hc => ?_) (fun hc => ?_)
      · replace h := ift hc h
        exact w_WS_parse_137 C hr hk w (lv_sub hl [1, 6, 0] rfl) h
      · replace h := iff0 hc h
        refine lv_lload C.1 C.2.1 dX11_parse_128 (lv_at hl 0 rfl) ?_
        refine lv_lload_n C.1 C.2.1 dX11_parse_130 rfl (lv_at hl 2 rfl) ?_
        refine x_l_ne (tgt := 137) C dX11_parse_131 dX11_parse_132 (by decide) (fun hc => ?_) (fun hc => ?_)
        · replace h := iff0 hc h
          exact w_WS_parse_137 C hr hk w (lv_sub hl [1, 6, 0] rfl) h
        · replace h := ift hc h
          refine lv_iconst (v := 2) C.1 C.2.1 dX11_parse_135 (by decide) ?_
          obtain ⟨rfl, rfl⟩ := prI h
          exact x_iret C w hr hk dX11_parse_136
set_option maxRecDepth 100000 in
set_option maxHeartbeats 4000000 in
theorem w_WS_parse_79  {g : Nat} {S : St} {x1 : Int64} {x3 : Int32} {x4 : Int64} {x6 : Int32} {x7 : Int32} (C : CallFix p m c cX11_parse 10 s args tb RX11) (hr : meth.sig.returnType = (some .int)) (hk : meth.locks = false) {S' : St} {r : Int32} (w : Wn Yc D T ρ S A s H locs) (hl : lv_has ls 10 [(0, .ref (ρ 8)), (1, .long x1), (3, .int x3), (4, .long x4), (6, .int x6), (7, .int x7)]) (h : m_WS_parse_79 g S x1 x3 x4 x6 x7 = some (S', r)) : W p l e (rmN 3 64) s m args below meth c H locs 0 0 (MQ below (Qi Yc D T ρ A S' r) args s 0 0 A) (F0 m 79 ls []) := by
  unfold m_WS_parse_79 at h
  obtain ⟨x6_5, ex6_5, h⟩ := lt_e h
  refine lv_iinc (v := x6_5) (lv' := [(6, .int x6_5), (0, .ref (ρ 8)), (1, .long x1), (3, .int x3), (4, .long x4), (7, .int x7)]) C.1 C.2.1 dX11_parse_79 hl (k := 4) rfl (by rw [ex6_5]; rfl) (by decide) rfl (fun ls hl => ?_)
  exact w_WS_parse_82 C hr hk w (lv_sub hl [1, 2, 3, 4, 0, 5] rfl) h
set_option maxRecDepth 100000 in
set_option maxHeartbeats 4000000 in
theorem w_WS_parse_0  {g : Nat} {S : St} {x1 : Int64} (C : CallFix p m c cX11_parse 10 s args tb RX11) (hr : meth.sig.returnType = (some .int)) (hk : meth.locks = false) {S' : St} {r : Int32} (w : Wn Yc D T ρ S A s H locs) (hl : lv_has ls 10 [(0, .ref (ρ 8)), (1, .long x1)]) (h : m_WS_parse g S x1 = some (S', r)) : W p l e (rmN 3 64) s m args below meth c H locs 0 0 (MQ below (Qi Yc D T ρ A S' r) args s 0 0 A) (F0 m 0 ls []) := by
  unfold m_WS_parse at h
  refine lv_aload_n C.1 C.2.1 dX11_parse_0 rfl (lv_at hl 0 rfl) ?_
  refine x_getC C w 4 fX11_9 obC8 rfl dX11_parse_1 ?_
  refine lv_iconst (v := 1) C.1 C.2.1 dX11_parse_4 (by decide) ?_
  obtain ⟨v_1, hv_1, h⟩ := bnd h
  refine x_callVi (q := (RX1, TX1, 12)) (As := [.int (1 : Int32)]) (rest := []) C w (k_Bn_textAt l D T ρ g H.size S hv_1) vX11_72 ⟨by decide, by decide⟩ obC4 (by decide) rfl rfl rfl hl.1 (Nat.le_of_ble_eq_true rfl) ⟨Nat.zero_le _, Nat.zero_le _⟩ dX11_parse_5 (fun H locs w => ?_)
  refine lv_istore_n (lv' := [(3, .int v_1), (0, .ref (ρ 8)), (1, .long x1)]) C.1 C.2.1 dX11_parse_8 rfl hl (by decide) rfl (fun ls hl => ?_)
  refine lv_aload_n C.1 C.2.1 dX11_parse_9 rfl (lv_at hl 1 rfl) ?_
  refine x_getC C w 4 fX11_9 obC8 rfl dX11_parse_10 ?_
  refine lv_iconst (v := 2) C.1 C.2.1 dX11_parse_13 (by decide) ?_
  obtain ⟨v_2, hv_2, h⟩ := bnd h
  refine x_callVj (q := (RX1, TX1, 12)) (As := [.int (2 : Int32)]) (rest := []) C w (k_Bn_wholeAt l D T ρ g H.size S hv_2) vX11_68 ⟨by decide, by decide⟩ obC4 (by decide) rfl rfl rfl hl.1 (Nat.le_of_ble_eq_true rfl) ⟨Nat.zero_le _, Nat.zero_le _⟩ dX11_parse_14 (fun H locs w => ?_)
  refine lv_lstore (lv' := [(4, .long v_2), (3, .int v_1), (0, .ref (ρ 8)), (1, .long x1)]) C.1 C.2.1 dX11_parse_17 hl (by decide) rfl (fun ls hl => ?_)
  refine lv_iload_n C.1 C.2.1 dX11_parse_19 rfl (lv_at hl 1 rfl) ?_
  refine lv_iconst (v := (-1)) C.1 C.2.1 dX11_parse_20 (by decide) ?_
  refine lv_icmp_eq (tgt := 42) C.1 C.2.1 dX11_parse_21 (by decide) (fun hc => ?_) (fun hc => ?_)
  · replace h := ift hc h
    refine lv_iconst (v := 2) C.1 C.2.1 dX11_parse_42 (by decide) ?_
    obtain ⟨rfl, rfl⟩ := prI h
    exact x_iret C w hr hk dX11_parse_43
  · replace h := iff0 hc h
    refine lv_lload C.1 C.2.1 dX11_parse_24 (lv_at hl 0 rfl) ?_
    refine lv_ldc2 C.1 C.2.1 C.2.2.2.1 (C.2.2.2.2 _ nX11_147) dX11_parse_26 ?_
    refine x_l_lt (tgt := 42) C dX11_parse_29 dX11_parse_30 (by decide) (fun hc => ?_) (fun hc => ?_)
    · replace h := ift hc h
      refine lv_iconst (v := 2) C.1 C.2.1 dX11_parse_42 (by decide) ?_
      obtain ⟨rfl, rfl⟩ := prI h
      exact x_iret C w hr hk dX11_parse_43
    · replace h := iff0 hc h
      refine lv_lload C.1 C.2.1 dX11_parse_33 (lv_at hl 0 rfl) ?_
      refine lv_ldc2 C.1 C.2.1 C.2.2.2.1 (C.2.2.2.2 _ nX11_149) dX11_parse_35 ?_
      refine x_l_le (tgt := 44) C dX11_parse_38 dX11_parse_39 (by decide) (fun hc => ?_) (fun hc => ?_)
      · replace h := iff0 hc h
        refine lv_aload_n C.1 C.2.1 dX11_parse_44 rfl (lv_at hl 2 rfl) ?_
        refine x_getC C w 5 fX11_21 obC8 rfl dX11_parse_45 ?_
        refine lv_iload_n C.1 C.2.1 dX11_parse_48 rfl (lv_at hl 1 rfl) ?_
        obtain ⟨v_3, hv_3, h⟩ := bnd h
        refine x_callVi (q := (RX10, TX10, 5)) (As := [.int v_1]) (rest := []) C w (k_Tx_startOf l D T ρ g H.size S hv_3) vX11_119 ⟨by decide, by decide⟩ obC5 (by decide) rfl rfl rfl hl.1 (Nat.le_of_ble_eq_true rfl) ⟨Nat.zero_le _, Nat.zero_le _⟩ dX11_parse_49 (fun H locs w => ?_)
        refine lv_istore (lv' := [(6, .int v_3), (4, .long v_2), (3, .int v_1), (0, .ref (ρ 8)), (1, .long x1)]) C.1 C.2.1 dX11_parse_52 hl (by decide) rfl (fun ls hl => ?_)
        refine lv_aload_n C.1 C.2.1 dX11_parse_54 rfl (lv_at hl 3 rfl) ?_
        refine x_getC C w 5 fX11_21 obC8 rfl dX11_parse_55 ?_
        refine lv_iload_n C.1 C.2.1 dX11_parse_58 rfl (lv_at hl 2 rfl) ?_
        refine lv_iconst (v := 0) C.1 C.2.1 dX11_parse_59 (by decide) ?_
        obtain ⟨v_4, hv_4, h⟩ := bnd h
        refine x_callVi (q := (RX10, TX10, 5)) (As := [.int v_1, .int (0 : Int32)]) (rest := []) C w (k_Tx_unitOf l D T ρ g H.size S hv_4) vX11_151 ⟨by decide, by decide⟩ obC5 (by decide) rfl rfl rfl hl.1 (Nat.le_of_ble_eq_true rfl) ⟨Nat.zero_le _, Nat.zero_le _⟩ dX11_parse_60 (fun H locs w => ?_)
        refine lv_istore (lv' := [(7, .int v_4), (6, .int v_3), (4, .long v_2), (3, .int v_1), (0, .ref (ρ 8)), (1, .long x1)]) C.1 C.2.1 dX11_parse_63 hl (by decide) rfl (fun ls hl => ?_)
        refine lv_iload C.1 C.2.1 dX11_parse_65 (lv_at hl 0 rfl) ?_
        refine lv_bipush (v := 43) C.1 C.2.1 dX11_parse_67 (by decide) ?_
        refine lv_icmp_eq (tgt := 79) C.1 C.2.1 dX11_parse_69 (by decide) (fun hc => ?_) (fun hc => ?_)
        · replace h := ift hc h
          exact w_WS_parse_79 C hr hk w (lv_sub hl [4, 5, 3, 2, 1, 0] rfl) h
        · replace h := iff0 hc h
          refine lv_iload C.1 C.2.1 dX11_parse_72 (lv_at hl 0 rfl) ?_
          refine lv_bipush (v := 45) C.1 C.2.1 dX11_parse_74 (by decide) ?_
          refine lv_icmp_ne (tgt := 82) C.1 C.2.1 dX11_parse_76 (by decide) (fun hc => ?_) (fun hc => ?_)
          · replace h := iff0 hc h
            exact w_WS_parse_82 C hr hk w (lv_sub hl [4, 5, 3, 2, 1, 0] rfl) h
          · replace h := ift hc h
            exact w_WS_parse_79 C hr hk w (lv_sub hl [4, 5, 3, 2, 1, 0] rfl) h
      · replace h := ift hc h
        refine lv_iconst (v := 2) C.1 C.2.1 dX11_parse_42 (by decide) ?_
        obtain ⟨rfl, rfl⟩ := prI h
        exact x_iret C w hr hk dX11_parse_43
end S_WS_parse
set_option maxRecDepth 100000 in
theorem k_WS_parse (l : Launch) (D : va_G) (T : Cy) (ρ : Nat → Nat) (g sz : Nat) (S : St) {x1 : Int64} {S' : St} {r : Int32} (h : m_WS_parse g S x1 = some (S', r)) : Mi l Yc D T ρ yX11_parse cX11_parse 10 (some .int) 3 64 S S' r [.ref (ρ 8), .long x1] sz :=
  x_in (by decide) (Nat.le_of_ble_eq_true rfl) (fun p e s m below meth c ls C hr hk w hl => w_WS_parse_0 C hr hk w hl h)

theorem dX11_giveUnit_0 : decode cX11_giveUnit 0 = .ok (.aload_n 0, 1) := by decide +kernel
theorem dX11_giveUnit_1 : decode cX11_giveUnit 1 = .ok (.getfield 21, 3) := by decide +kernel
theorem dX11_giveUnit_4 : decode cX11_giveUnit 4 = .ok (.iload_n 1, 1) := by decide +kernel
theorem dX11_giveUnit_5 : decode cX11_giveUnit 5 = .ok (.invokevirtual 80, 3) := by decide +kernel
theorem dX11_giveUnit_8 : decode cX11_giveUnit 8 = .ok (.istore_n 2, 1) := by decide +kernel
theorem dX11_giveUnit_9 : decode cX11_giveUnit 9 = .ok (.aload_n 0, 1) := by decide +kernel
theorem dX11_giveUnit_10 : decode cX11_giveUnit 10 = .ok (.getfield 9, 3) := by decide +kernel
theorem dX11_giveUnit_13 : decode cX11_giveUnit 13 = .ok (.iconst 2, 1) := by decide +kernel
theorem dX11_giveUnit_14 : decode cX11_giveUnit 14 = .ok (.iload_n 2, 1) := by decide +kernel
theorem dX11_giveUnit_15 : decode cX11_giveUnit 15 = .ok (.invokevirtual 136, 3) := by decide +kernel
theorem dX11_giveUnit_18 : decode cX11_giveUnit 18 = .ok (.istore_n 3, 1) := by decide +kernel
theorem dX11_giveUnit_19 : decode cX11_giveUnit 19 = .ok (.iload_n 3, 1) := by decide +kernel
theorem dX11_giveUnit_20 : decode cX11_giveUnit 20 = .ok (.ifCond .lt 8, 3) := by decide +kernel
theorem dX11_giveUnit_23 : decode cX11_giveUnit 23 = .ok (.iload_n 3, 1) := by decide +kernel
theorem dX11_giveUnit_24 : decode cX11_giveUnit 24 = .ok (.iload_n 2, 1) := by decide +kernel
theorem dX11_giveUnit_25 : decode cX11_giveUnit 25 = .ok (.if_icmp .lt 7, 3) := by decide +kernel
theorem dX11_giveUnit_28 : decode cX11_giveUnit 28 = .ok (.iconst 1, 1) := by decide +kernel
theorem dX11_giveUnit_29 : decode cX11_giveUnit 29 = .ok (.goto 20, 3) := by decide +kernel
theorem dX11_giveUnit_32 : decode cX11_giveUnit 32 = .ok (.aload_n 0, 1) := by decide +kernel
theorem dX11_giveUnit_33 : decode cX11_giveUnit 33 = .ok (.getfield 9, 3) := by decide +kernel
theorem dX11_giveUnit_36 : decode cX11_giveUnit 36 = .ok (.aload_n 0, 1) := by decide +kernel
theorem dX11_giveUnit_37 : decode cX11_giveUnit 37 = .ok (.getfield 21, 3) := by decide +kernel
theorem dX11_giveUnit_40 : decode cX11_giveUnit 40 = .ok (.iload_n 1, 1) := by decide +kernel
theorem dX11_giveUnit_41 : decode cX11_giveUnit 41 = .ok (.iload_n 3, 1) := by decide +kernel
theorem dX11_giveUnit_42 : decode cX11_giveUnit 42 = .ok (.invokevirtual 151, 3) := by decide +kernel
theorem dX11_giveUnit_45 : decode cX11_giveUnit 45 = .ok (.i2l, 1) := by decide +kernel
theorem dX11_giveUnit_46 : decode cX11_giveUnit 46 = .ok (.invokevirtual 44, 3) := by decide +kernel
theorem dX11_giveUnit_49 : decode cX11_giveUnit 49 = .ok (.ireturn, 1) := by decide +kernel
def m_WS_giveUnit (g : Nat) (S : St) (x1 : Int32) : Option (St × Int32) :=
(m_Tx_sizeOf g S x1).bind fun v_1 =>
(m_Bn_placeAt g S (2 : Int32) v_1).bind fun v_2 =>
if v_2 < 0 then (
  some (S, (1 : Int32))
) else (
  if v_2 < v_1 then (
    (m_Tx_unitOf g S x1 v_2).bind fun v_3 =>
    (m_Bn_giveWhole g S (v_3.toInt64)).bind fun (S_4, v_5) =>
    some (S_4, v_5)
  ) else (
    some (S, (1 : Int32))
  )
)
section S_WS_giveUnit
variable {p : Program} {l : Launch} {e : Env} {s : State} {m : MethodId} {args : Array Value} {below : List Frame} {meth : Method} {c : Code} {H : Heap} {locs : List Loc} {ls : Array Slot} {D : va_G} {T : Cy} {ρ : Nat → Nat} {A : Nat → Prop}
set_option maxRecDepth 100000 in
set_option maxHeartbeats 4000000 in
theorem w_WS_giveUnit_0  {g : Nat} {S : St} {x1 : Int32} (C : CallFix p m c cX11_giveUnit 4 s args tb RX11) (hr : meth.sig.returnType = (some .int)) (hk : meth.locks = false) {S' : St} {r : Int32} (w : Wn Yc D T ρ S A s H locs) (hl : lv_has ls 4 [(0, .ref (ρ 8)), (1, .int x1)]) (h : m_WS_giveUnit g S x1 = some (S', r)) : W p l e (rmN 3 66) s m args below meth c H locs 0 0 (MQ below (Qi Yc D T ρ A S' r) args s 0 0 A) (F0 m 0 ls []) := by
  unfold m_WS_giveUnit at h
  refine lv_aload_n C.1 C.2.1 dX11_giveUnit_0 rfl (lv_at hl 0 rfl) ?_
  refine x_getC C w 5 fX11_21 obC8 rfl dX11_giveUnit_1 ?_
  refine lv_iload_n C.1 C.2.1 dX11_giveUnit_4 rfl (lv_at hl 1 rfl) ?_
  obtain ⟨v_1, hv_1, h⟩ := bnd h
  refine x_callVi (q := (RX10, TX10, 5)) (As := [.int x1]) (rest := []) C w (k_Tx_sizeOf l D T ρ g H.size S hv_1) vX11_80 ⟨by decide, by decide⟩ obC5 (by decide) rfl rfl rfl hl.1 (Nat.le_of_ble_eq_true rfl) ⟨Nat.zero_le _, Nat.zero_le _⟩ dX11_giveUnit_5 (fun H locs w => ?_)
  refine lv_istore_n (lv' := [(2, .int v_1), (0, .ref (ρ 8)), (1, .int x1)]) C.1 C.2.1 dX11_giveUnit_8 rfl hl (by decide) rfl (fun ls hl => ?_)
  refine lv_aload_n C.1 C.2.1 dX11_giveUnit_9 rfl (lv_at hl 1 rfl) ?_
  refine x_getC C w 4 fX11_9 obC8 rfl dX11_giveUnit_10 ?_
  refine lv_iconst (v := 2) C.1 C.2.1 dX11_giveUnit_13 (by decide) ?_
  refine lv_iload_n C.1 C.2.1 dX11_giveUnit_14 rfl (lv_at hl 0 rfl) ?_
  obtain ⟨v_2, hv_2, h⟩ := bnd h
  refine x_callVi (q := (RX1, TX1, 12)) (As := [.int (2 : Int32), .int v_1]) (rest := []) C w (k_Bn_placeAt l D T ρ g H.size S hv_2) vX11_136 ⟨by decide, by decide⟩ obC4 (by decide) rfl rfl rfl hl.1 (Nat.le_of_ble_eq_true rfl) ⟨Nat.zero_le _, Nat.zero_le _⟩ dX11_giveUnit_15 (fun H locs w => ?_)
  refine lv_istore_n (lv' := [(3, .int v_2), (2, .int v_1), (0, .ref (ρ 8)), (1, .int x1)]) C.1 C.2.1 dX11_giveUnit_18 rfl hl (by decide) rfl (fun ls hl => ?_)
  refine lv_iload_n C.1 C.2.1 dX11_giveUnit_19 rfl (lv_at hl 0 rfl) ?_
  refine lv_if_lt (tgt := 28) C.1 C.2.1 dX11_giveUnit_20 (by decide) (fun hc => ?_) (fun hc => ?_)
  · replace h := ift hc h
    refine lv_iconst (v := 1) C.1 C.2.1 dX11_giveUnit_28 (by decide) ?_
    refine lv_goto (tgt := 49) C.1 C.2.1 dX11_giveUnit_29 (by decide) ?_
    obtain ⟨rfl, rfl⟩ := prI h
    exact x_iret C w hr hk dX11_giveUnit_49
  · replace h := iff0 hc h
    refine lv_iload_n C.1 C.2.1 dX11_giveUnit_23 rfl (lv_at hl 0 rfl) ?_
    refine lv_iload_n C.1 C.2.1 dX11_giveUnit_24 rfl (lv_at hl 1 rfl) ?_
    refine lv_icmp_lt (tgt := 32) C.1 C.2.1 dX11_giveUnit_25 (by decide) (fun hc => ?_) (fun hc => ?_)
    · replace h := ift hc h
      refine lv_aload_n C.1 C.2.1 dX11_giveUnit_32 rfl (lv_at hl 2 rfl) ?_
      refine x_getC C w 4 fX11_9 obC8 rfl dX11_giveUnit_33 ?_
      refine lv_aload_n C.1 C.2.1 dX11_giveUnit_36 rfl (lv_at hl 2 rfl) ?_
      refine x_getC C w 5 fX11_21 obC8 rfl dX11_giveUnit_37 ?_
      refine lv_iload_n C.1 C.2.1 dX11_giveUnit_40 rfl (lv_at hl 3 rfl) ?_
      refine lv_iload_n C.1 C.2.1 dX11_giveUnit_41 rfl (lv_at hl 0 rfl) ?_
      obtain ⟨v_3, hv_3, h⟩ := bnd h
      refine x_callVi (q := (RX10, TX10, 5)) (As := [.int x1, .int v_2]) (rest := [.ref (ρ 4)]) C w (k_Tx_unitOf l D T ρ g H.size S hv_3) vX11_151 ⟨by decide, by decide⟩ obC5 (by decide) rfl rfl rfl hl.1 (Nat.le_of_ble_eq_true rfl) ⟨Nat.zero_le _, Nat.zero_le _⟩ dX11_giveUnit_42 (fun H locs w => ?_)
      refine lv_i2l C.1 C.2.1 dX11_giveUnit_45 rfl ?_
      obtain ⟨⟨S_4, v_5⟩, hv_5, h⟩ := bnd h
      refine x_callVi (q := (RX1, TX1, 12)) (As := [.long (v_3.toInt64)]) (rest := []) C w (k_Bn_giveWhole l D T ρ g H.size S hv_5) vX11_44 ⟨by decide, by decide⟩ obC4 (by decide) rfl rfl rfl hl.1 (Nat.le_of_ble_eq_true rfl) ⟨Nat.zero_le _, Nat.zero_le _⟩ dX11_giveUnit_46 (fun H locs w => ?_)
      obtain ⟨rfl, rfl⟩ := prI h
      exact x_iret C w hr hk dX11_giveUnit_49
    · replace h := iff0 hc h
      refine lv_iconst (v := 1) C.1 C.2.1 dX11_giveUnit_28 (by decide) ?_
      refine lv_goto (tgt := 49) C.1 C.2.1 dX11_giveUnit_29 (by decide) ?_
      obtain ⟨rfl, rfl⟩ := prI h
      exact x_iret C w hr hk dX11_giveUnit_49
end S_WS_giveUnit
set_option maxRecDepth 100000 in
theorem k_WS_giveUnit (l : Launch) (D : va_G) (T : Cy) (ρ : Nat → Nat) (g sz : Nat) (S : St) {x1 : Int32} {S' : St} {r : Int32} (h : m_WS_giveUnit g S x1 = some (S', r)) : Mi l Yc D T ρ yX11_giveUnit cX11_giveUnit 4 (some .int) 3 66 S S' r [.ref (ρ 8), .int x1] sz :=
  x_in (by decide) (Nat.le_of_ble_eq_true rfl) (fun p e s m below meth c ls C hr hk w hl => w_WS_giveUnit_0 C hr hk w hl h)

theorem dX11_givePoint_0 : decode cX11_givePoint 0 = .ok (.aload_n 0, 1) := by decide +kernel
theorem dX11_givePoint_1 : decode cX11_givePoint 1 = .ok (.getfield 21, 3) := by decide +kernel
theorem dX11_givePoint_4 : decode cX11_givePoint 4 = .ok (.iload_n 1, 1) := by decide +kernel
theorem dX11_givePoint_5 : decode cX11_givePoint 5 = .ok (.invokevirtual 80, 3) := by decide +kernel
theorem dX11_givePoint_8 : decode cX11_givePoint 8 = .ok (.istore_n 2, 1) := by decide +kernel
theorem dX11_givePoint_9 : decode cX11_givePoint 9 = .ok (.aload_n 0, 1) := by decide +kernel
theorem dX11_givePoint_10 : decode cX11_givePoint 10 = .ok (.getfield 9, 3) := by decide +kernel
theorem dX11_givePoint_13 : decode cX11_givePoint 13 = .ok (.iconst 2, 1) := by decide +kernel
theorem dX11_givePoint_14 : decode cX11_givePoint 14 = .ok (.iload_n 2, 1) := by decide +kernel
theorem dX11_givePoint_15 : decode cX11_givePoint 15 = .ok (.invokevirtual 136, 3) := by decide +kernel
theorem dX11_givePoint_18 : decode cX11_givePoint 18 = .ok (.istore_n 3, 1) := by decide +kernel
theorem dX11_givePoint_19 : decode cX11_givePoint 19 = .ok (.iload_n 3, 1) := by decide +kernel
theorem dX11_givePoint_20 : decode cX11_givePoint 20 = .ok (.ifCond .lt 8, 3) := by decide +kernel
theorem dX11_givePoint_23 : decode cX11_givePoint 23 = .ok (.iload_n 3, 1) := by decide +kernel
theorem dX11_givePoint_24 : decode cX11_givePoint 24 = .ok (.iload_n 2, 1) := by decide +kernel
theorem dX11_givePoint_25 : decode cX11_givePoint 25 = .ok (.if_icmp .lt 5, 3) := by decide +kernel
theorem dX11_givePoint_28 : decode cX11_givePoint 28 = .ok (.iconst 1, 1) := by decide +kernel
theorem dX11_givePoint_29 : decode cX11_givePoint 29 = .ok (.ireturn, 1) := by decide +kernel
theorem dX11_givePoint_30 : decode cX11_givePoint 30 = .ok (.aload_n 0, 1) := by decide +kernel
theorem dX11_givePoint_31 : decode cX11_givePoint 31 = .ok (.getfield 21, 3) := by decide +kernel
theorem dX11_givePoint_34 : decode cX11_givePoint 34 = .ok (.iload_n 1, 1) := by decide +kernel
theorem dX11_givePoint_35 : decode cX11_givePoint 35 = .ok (.invokevirtual 119, 3) := by decide +kernel
theorem dX11_givePoint_38 : decode cX11_givePoint 38 = .ok (.iload_n 3, 1) := by decide +kernel
theorem dX11_givePoint_39 : decode cX11_givePoint 39 = .ok (.iadd, 1) := by decide +kernel
theorem dX11_givePoint_40 : decode cX11_givePoint 40 = .ok (.istore 4, 2) := by decide +kernel
theorem dX11_givePoint_42 : decode cX11_givePoint 42 = .ok (.aload_n 0, 1) := by decide +kernel
theorem dX11_givePoint_43 : decode cX11_givePoint 43 = .ok (.getfield 21, 3) := by decide +kernel
theorem dX11_givePoint_46 : decode cX11_givePoint 46 = .ok (.getfield 116, 3) := by decide +kernel
theorem dX11_givePoint_49 : decode cX11_givePoint 49 = .ok (.iload 4, 2) := by decide +kernel
theorem dX11_givePoint_51 : decode cX11_givePoint 51 = .ok (.aload_n 0, 1) := by decide +kernel
theorem dX11_givePoint_52 : decode cX11_givePoint 52 = .ok (.getfield 21, 3) := by decide +kernel
theorem dX11_givePoint_55 : decode cX11_givePoint 55 = .ok (.iload_n 1, 1) := by decide +kernel
theorem dX11_givePoint_56 : decode cX11_givePoint 56 = .ok (.invokevirtual 122, 3) := by decide +kernel
theorem dX11_givePoint_59 : decode cX11_givePoint 59 = .ok (.invokevirtual 172, 3) := by decide +kernel
theorem dX11_givePoint_62 : decode cX11_givePoint 62 = .ok (.istore 5, 2) := by decide +kernel
theorem dX11_givePoint_64 : decode cX11_givePoint 64 = .ok (.aload_n 0, 1) := by decide +kernel
theorem dX11_givePoint_65 : decode cX11_givePoint 65 = .ok (.getfield 9, 3) := by decide +kernel
theorem dX11_givePoint_68 : decode cX11_givePoint 68 = .ok (.iload 5, 2) := by decide +kernel
theorem dX11_givePoint_70 : decode cX11_givePoint 70 = .ok (.ifCond .eq 19, 3) := by decide +kernel
theorem dX11_givePoint_73 : decode cX11_givePoint 73 = .ok (.aload_n 0, 1) := by decide +kernel
theorem dX11_givePoint_74 : decode cX11_givePoint 74 = .ok (.getfield 21, 3) := by decide +kernel
theorem dX11_givePoint_77 : decode cX11_givePoint 77 = .ok (.getfield 116, 3) := by decide +kernel
theorem dX11_givePoint_80 : decode cX11_givePoint 80 = .ok (.iload 4, 2) := by decide +kernel
theorem dX11_givePoint_82 : decode cX11_givePoint 82 = .ok (.invokevirtual 175, 3) := by decide +kernel
theorem dX11_givePoint_85 : decode cX11_givePoint 85 = .ok (.i2l, 1) := by decide +kernel
theorem dX11_givePoint_86 : decode cX11_givePoint 86 = .ok (.goto 16, 3) := by decide +kernel
theorem dX11_givePoint_89 : decode cX11_givePoint 89 = .ok (.aload_n 0, 1) := by decide +kernel
theorem dX11_givePoint_90 : decode cX11_givePoint 90 = .ok (.getfield 21, 3) := by decide +kernel
theorem dX11_givePoint_93 : decode cX11_givePoint 93 = .ok (.getfield 116, 3) := by decide +kernel
theorem dX11_givePoint_96 : decode cX11_givePoint 96 = .ok (.iload 4, 2) := by decide +kernel
theorem dX11_givePoint_98 : decode cX11_givePoint 98 = .ok (.invokevirtual 178, 3) := by decide +kernel
theorem dX11_givePoint_101 : decode cX11_givePoint 101 = .ok (.i2l, 1) := by decide +kernel
theorem dX11_givePoint_102 : decode cX11_givePoint 102 = .ok (.invokevirtual 44, 3) := by decide +kernel
theorem dX11_givePoint_105 : decode cX11_givePoint 105 = .ok (.ireturn, 1) := by decide +kernel
def m_WS_givePoint_102 (g : Nat) (S : St) (y1 : Int64) : Option (St × Int32) :=
(m_Bn_giveWhole g S y1).bind fun (S_8, v_9) =>
some (S_8, v_9)
def m_WS_givePoint (g : Nat) (S : St) (x1 : Int32) : Option (St × Int32) :=
(m_Tx_sizeOf g S x1).bind fun v_1 =>
(m_Bn_placeAt g S (2 : Int32) v_1).bind fun v_2 =>
if v_2 < 0 then (
  some (S, (1 : Int32))
) else (
  if v_2 < v_1 then (
    (m_Tx_startOf g S x1).bind fun v_3 =>
    lt (v_3 + v_2) fun x4_4 =>
    (m_Tx_endOf g S x1).bind fun v_5 =>
    (m_Row_hasPair g S 18 x4_4 v_5).bind fun v_6 =>
    if v_6 = 0 then (
      (m_Row_at g S 18 x4_4).bind fun v_7 =>
      m_WS_givePoint_102 g S (v_7.toInt64)
    ) else (
      (m_Row_pairAt g S 18 x4_4).bind fun v_8 =>
      m_WS_givePoint_102 g S (v_8.toInt64)
    )
  ) else (
    some (S, (1 : Int32))
  )
)
section S_WS_givePoint
variable {p : Program} {l : Launch} {e : Env} {s : State} {m : MethodId} {args : Array Value} {below : List Frame} {meth : Method} {c : Code} {H : Heap} {locs : List Loc} {ls : Array Slot} {D : va_G} {T : Cy} {ρ : Nat → Nat} {A : Nat → Prop}
set_option maxRecDepth 100000 in
set_option maxHeartbeats 4000000 in
theorem w_WS_givePoint_102  {g : Nat} {S : St} {y1 : Int64} (C : CallFix p m c cX11_givePoint 6 s args tb RX11) (hr : meth.sig.returnType = (some .int)) (hk : meth.locks = false) {S' : St} {r : Int32} (w : Wn Yc D T ρ S A s H locs) (hl : lv_has ls 6 []) (h : m_WS_givePoint_102 g S y1 = some (S', r)) : W p l e (rmN 3 66) s m args below meth c H locs 0 0 (MQ below (Qi Yc D T ρ A S' r) args s 0 0 A) (F0 m 102 ls [.long y1, .ref (ρ 4)]) := by
  unfold m_WS_givePoint_102 at h
  obtain ⟨⟨S_8, v_9⟩, hv_9, h⟩ := bnd h
  refine x_callVi (q := (RX1, TX1, 12)) (As := [.long y1]) (rest := []) C w (k_Bn_giveWhole l D T ρ g H.size S hv_9) vX11_44 ⟨by decide, by decide⟩ obC4 (by decide) rfl rfl rfl hl.1 (Nat.le_of_ble_eq_true rfl) ⟨Nat.zero_le _, Nat.zero_le _⟩ dX11_givePoint_102 (fun H locs w => ?_)
  obtain ⟨rfl, rfl⟩ := prI h
  exact x_iret C w hr hk dX11_givePoint_105
set_option maxRecDepth 100000 in
set_option maxHeartbeats 4000000 in
theorem w_WS_givePoint_0  {g : Nat} {S : St} {x1 : Int32} (C : CallFix p m c cX11_givePoint 6 s args tb RX11) (hr : meth.sig.returnType = (some .int)) (hk : meth.locks = false) {S' : St} {r : Int32} (w : Wn Yc D T ρ S A s H locs) (hl : lv_has ls 6 [(0, .ref (ρ 8)), (1, .int x1)]) (h : m_WS_givePoint g S x1 = some (S', r)) : W p l e (rmN 3 66) s m args below meth c H locs 0 0 (MQ below (Qi Yc D T ρ A S' r) args s 0 0 A) (F0 m 0 ls []) := by
  unfold m_WS_givePoint at h
  refine lv_aload_n C.1 C.2.1 dX11_givePoint_0 rfl (lv_at hl 0 rfl) ?_
  refine x_getC C w 5 fX11_21 obC8 rfl dX11_givePoint_1 ?_
  refine lv_iload_n C.1 C.2.1 dX11_givePoint_4 rfl (lv_at hl 1 rfl) ?_
  obtain ⟨v_1, hv_1, h⟩ := bnd h
  refine x_callVi (q := (RX10, TX10, 5)) (As := [.int x1]) (rest := []) C w (k_Tx_sizeOf l D T ρ g H.size S hv_1) vX11_80 ⟨by decide, by decide⟩ obC5 (by decide) rfl rfl rfl hl.1 (Nat.le_of_ble_eq_true rfl) ⟨Nat.zero_le _, Nat.zero_le _⟩ dX11_givePoint_5 (fun H locs w => ?_)
  refine lv_istore_n (lv' := [(2, .int v_1), (0, .ref (ρ 8)), (1, .int x1)]) C.1 C.2.1 dX11_givePoint_8 rfl hl (by decide) rfl (fun ls hl => ?_)
  refine lv_aload_n C.1 C.2.1 dX11_givePoint_9 rfl (lv_at hl 1 rfl) ?_
  refine x_getC C w 4 fX11_9 obC8 rfl dX11_givePoint_10 ?_
  refine lv_iconst (v := 2) C.1 C.2.1 dX11_givePoint_13 (by decide) ?_
  refine lv_iload_n C.1 C.2.1 dX11_givePoint_14 rfl (lv_at hl 0 rfl) ?_
  obtain ⟨v_2, hv_2, h⟩ := bnd h
  refine x_callVi (q := (RX1, TX1, 12)) (As := [.int (2 : Int32), .int v_1]) (rest := []) C w (k_Bn_placeAt l D T ρ g H.size S hv_2) vX11_136 ⟨by decide, by decide⟩ obC4 (by decide) rfl rfl rfl hl.1 (Nat.le_of_ble_eq_true rfl) ⟨Nat.zero_le _, Nat.zero_le _⟩ dX11_givePoint_15 (fun H locs w => ?_)
  refine lv_istore_n (lv' := [(3, .int v_2), (2, .int v_1), (0, .ref (ρ 8)), (1, .int x1)]) C.1 C.2.1 dX11_givePoint_18 rfl hl (by decide) rfl (fun ls hl => ?_)
  refine lv_iload_n C.1 C.2.1 dX11_givePoint_19 rfl (lv_at hl 0 rfl) ?_
  refine lv_if_lt (tgt := 28) C.1 C.2.1 dX11_givePoint_20 (by decide) (fun hc => ?_) (fun hc => ?_)
  · replace h := ift hc h
    refine lv_iconst (v := 1) C.1 C.2.1 dX11_givePoint_28 (by decide) ?_
    obtain ⟨rfl, rfl⟩ := prI h
    exact x_iret C w hr hk dX11_givePoint_29
  · replace h := iff0 hc h
    refine lv_iload_n C.1 C.2.1 dX11_givePoint_23 rfl (lv_at hl 0 rfl) ?_
    refine lv_iload_n C.1 C.2.1 dX11_givePoint_24 rfl (lv_at hl 1 rfl) ?_
    refine lv_icmp_lt (tgt := 30) C.1 C.2.1 dX11_givePoint_25 (by decide) (fun hc => ?_) (fun hc => ?_)
    · replace h := ift hc h
      refine lv_aload_n C.1 C.2.1 dX11_givePoint_30 rfl (lv_at hl 2 rfl) ?_
      refine x_getC C w 5 fX11_21 obC8 rfl dX11_givePoint_31 ?_
      refine lv_iload_n C.1 C.2.1 dX11_givePoint_34 rfl (lv_at hl 3 rfl) ?_
      obtain ⟨v_3, hv_3, h⟩ := bnd h
      refine x_callVi (q := (RX10, TX10, 5)) (As := [.int x1]) (rest := []) C w (k_Tx_startOf l D T ρ g H.size S hv_3) vX11_119 ⟨by decide, by decide⟩ obC5 (by decide) rfl rfl rfl hl.1 (Nat.le_of_ble_eq_true rfl) ⟨Nat.zero_le _, Nat.zero_le _⟩ dX11_givePoint_35 (fun H locs w => ?_)
      refine lv_iload_n C.1 C.2.1 dX11_givePoint_38 rfl (lv_at hl 0 rfl) ?_
      refine lv_iadd C.1 C.2.1 dX11_givePoint_39 ?_
      obtain ⟨x4_4, ex4_4, h⟩ := lt_e h
      refine x_nm ex4_4 ?_
      refine lv_istore (lv' := [(4, .int x4_4), (3, .int v_2), (2, .int v_1), (0, .ref (ρ 8)), (1, .int x1)]) C.1 C.2.1 dX11_givePoint_40 hl (by decide) rfl (fun ls hl => ?_)
      refine lv_aload_n C.1 C.2.1 dX11_givePoint_42 rfl (lv_at hl 3 rfl) ?_
      refine x_getC C w 5 fX11_21 obC8 rfl dX11_givePoint_43 ?_
      refine x_getC C w 18 fX11_116 obC5 rfl dX11_givePoint_46 ?_
      refine lv_iload C.1 C.2.1 dX11_givePoint_49 (lv_at hl 0 rfl) ?_
      refine lv_aload_n C.1 C.2.1 dX11_givePoint_51 rfl (lv_at hl 3 rfl) ?_
      refine x_getC C w 5 fX11_21 obC8 rfl dX11_givePoint_52 ?_
      refine lv_iload_n C.1 C.2.1 dX11_givePoint_55 rfl (lv_at hl 4 rfl) ?_
      obtain ⟨v_5, hv_5, h⟩ := bnd h
      refine x_callVi (q := (RX10, TX10, 5)) (As := [.int x1]) (rest := [.int x4_4, .ref (ρ 18)]) C w (k_Tx_endOf l D T ρ g H.size S hv_5) vX11_122 ⟨by decide, by decide⟩ obC5 (by decide) rfl rfl rfl hl.1 (Nat.le_of_ble_eq_true rfl) ⟨Nat.zero_le _, Nat.zero_le _⟩ dX11_givePoint_56 (fun H locs w => ?_)
      obtain ⟨v_6, hv_6, h⟩ := bnd h
      refine x_callVi (q := (RX6, TX6, 4)) (As := [.int x4_4, .int v_5]) (rest := []) C w (k_Row_hasPair l D T ρ g H.size S obC18 hv_6) vX11_172 ⟨by decide, by decide⟩ obC18 (by decide) rfl rfl rfl hl.1 (Nat.le_of_ble_eq_true rfl) ⟨Nat.zero_le _, Nat.zero_le _⟩ dX11_givePoint_59 (fun H locs w => ?_)
      refine lv_istore (lv' := [(5, .int v_6), (4, .int x4_4), (3, .int v_2), (2, .int v_1), (0, .ref (ρ 8)), (1, .int x1)]) C.1 C.2.1 dX11_givePoint_62 hl (by decide) rfl (fun ls hl => ?_)
      refine lv_aload_n C.1 C.2.1 dX11_givePoint_64 rfl (lv_at hl 4 rfl) ?_
      refine x_getC C w 4 fX11_9 obC8 rfl dX11_givePoint_65 ?_
      refine lv_iload C.1 C.2.1 dX11_givePoint_68 (lv_at hl 0 rfl) ?_
      refine lv_if_eq (tgt := 89) C.1 C.2.1 dX11_givePoint_70 (by decide) (fun hc => ?_) (fun hc => ?_)
      · replace h := ift hc h
        refine lv_aload_n C.1 C.2.1 dX11_givePoint_89 rfl (lv_at hl 4 rfl) ?_
        refine x_getC C w 5 fX11_21 obC8 rfl dX11_givePoint_90 ?_
        refine x_getC C w 18 fX11_116 obC5 rfl dX11_givePoint_93 ?_
        refine lv_iload C.1 C.2.1 dX11_givePoint_96 (lv_at hl 1 rfl) ?_
        obtain ⟨v_7, hv_7, h⟩ := bnd h
        refine x_callVi (q := (RX6, TX6, 4)) (As := [.int x4_4]) (rest := [.ref (ρ 4)]) C w (k_Row_at l D T ρ g H.size S obC18 hv_7) vX11_178 ⟨by decide, by decide⟩ obC18 (by decide) rfl rfl rfl hl.1 (Nat.le_of_ble_eq_true rfl) ⟨Nat.zero_le _, Nat.zero_le _⟩ dX11_givePoint_98 (fun H locs w => ?_)
        refine lv_i2l C.1 C.2.1 dX11_givePoint_101 rfl ?_
        exact w_WS_givePoint_102 C hr hk w (lv_sub hl [] rfl) h
      · replace h := iff0 hc h
        refine lv_aload_n C.1 C.2.1 dX11_givePoint_73 rfl (lv_at hl 4 rfl) ?_
        refine x_getC C w 5 fX11_21 obC8 rfl dX11_givePoint_74 ?_
        refine x_getC C w 18 fX11_116 obC5 rfl dX11_givePoint_77 ?_
        refine lv_iload C.1 C.2.1 dX11_givePoint_80 (lv_at hl 1 rfl) ?_
        obtain ⟨v_8, hv_8, h⟩ := bnd h
        refine x_callVi (q := (RX6, TX6, 4)) (As := [.int x4_4]) (rest := [.ref (ρ 4)]) C w (k_Row_pairAt l D T ρ g H.size S obC18 hv_8) vX11_175 ⟨by decide, by decide⟩ obC18 (by decide) rfl rfl rfl hl.1 (Nat.le_of_ble_eq_true rfl) ⟨Nat.zero_le _, Nat.zero_le _⟩ dX11_givePoint_82 (fun H locs w => ?_)
        refine lv_i2l C.1 C.2.1 dX11_givePoint_85 rfl ?_
        refine lv_goto (tgt := 102) C.1 C.2.1 dX11_givePoint_86 (by decide) ?_
        exact w_WS_givePoint_102 C hr hk w (lv_sub hl [] rfl) h
    · replace h := iff0 hc h
      refine lv_iconst (v := 1) C.1 C.2.1 dX11_givePoint_28 (by decide) ?_
      obtain ⟨rfl, rfl⟩ := prI h
      exact x_iret C w hr hk dX11_givePoint_29
end S_WS_givePoint
set_option maxRecDepth 100000 in
theorem k_WS_givePoint (l : Launch) (D : va_G) (T : Cy) (ρ : Nat → Nat) (g sz : Nat) (S : St) {x1 : Int32} {S' : St} {r : Int32} (h : m_WS_givePoint g S x1 = some (S', r)) : Mi l Yc D T ρ yX11_givePoint cX11_givePoint 6 (some .int) 3 66 S S' r [.ref (ρ 8), .int x1] sz :=
  x_in (by decide) (Nat.le_of_ble_eq_true rfl) (fun p e s m below meth c ls C hr hk w hl => w_WS_givePoint_0 C hr hk w hl h)

theorem dX11_givePointBefore_0 : decode cX11_givePointBefore 0 = .ok (.aload_n 0, 1) := by decide +kernel
theorem dX11_givePointBefore_1 : decode cX11_givePointBefore 1 = .ok (.getfield 21, 3) := by decide +kernel
theorem dX11_givePointBefore_4 : decode cX11_givePointBefore 4 = .ok (.iload_n 1, 1) := by decide +kernel
theorem dX11_givePointBefore_5 : decode cX11_givePointBefore 5 = .ok (.invokevirtual 80, 3) := by decide +kernel
theorem dX11_givePointBefore_8 : decode cX11_givePointBefore 8 = .ok (.istore_n 2, 1) := by decide +kernel
theorem dX11_givePointBefore_9 : decode cX11_givePointBefore 9 = .ok (.aload_n 0, 1) := by decide +kernel
theorem dX11_givePointBefore_10 : decode cX11_givePointBefore 10 = .ok (.getfield 9, 3) := by decide +kernel
theorem dX11_givePointBefore_13 : decode cX11_givePointBefore 13 = .ok (.iconst 2, 1) := by decide +kernel
theorem dX11_givePointBefore_14 : decode cX11_givePointBefore 14 = .ok (.iload_n 2, 1) := by decide +kernel
theorem dX11_givePointBefore_15 : decode cX11_givePointBefore 15 = .ok (.invokevirtual 136, 3) := by decide +kernel
theorem dX11_givePointBefore_18 : decode cX11_givePointBefore 18 = .ok (.istore_n 3, 1) := by decide +kernel
theorem dX11_givePointBefore_19 : decode cX11_givePointBefore 19 = .ok (.iload_n 3, 1) := by decide +kernel
theorem dX11_givePointBefore_20 : decode cX11_givePointBefore 20 = .ok (.iconst 1, 1) := by decide +kernel
theorem dX11_givePointBefore_21 : decode cX11_givePointBefore 21 = .ok (.if_icmp .lt 8, 3) := by decide +kernel
theorem dX11_givePointBefore_24 : decode cX11_givePointBefore 24 = .ok (.iload_n 3, 1) := by decide +kernel
theorem dX11_givePointBefore_25 : decode cX11_givePointBefore 25 = .ok (.iload_n 2, 1) := by decide +kernel
theorem dX11_givePointBefore_26 : decode cX11_givePointBefore 26 = .ok (.if_icmp .le 5, 3) := by decide +kernel
theorem dX11_givePointBefore_29 : decode cX11_givePointBefore 29 = .ok (.iconst 1, 1) := by decide +kernel
theorem dX11_givePointBefore_30 : decode cX11_givePointBefore 30 = .ok (.ireturn, 1) := by decide +kernel
theorem dX11_givePointBefore_31 : decode cX11_givePointBefore 31 = .ok (.aload_n 0, 1) := by decide +kernel
theorem dX11_givePointBefore_32 : decode cX11_givePointBefore 32 = .ok (.getfield 21, 3) := by decide +kernel
theorem dX11_givePointBefore_35 : decode cX11_givePointBefore 35 = .ok (.iload_n 1, 1) := by decide +kernel
theorem dX11_givePointBefore_36 : decode cX11_givePointBefore 36 = .ok (.invokevirtual 119, 3) := by decide +kernel
theorem dX11_givePointBefore_39 : decode cX11_givePointBefore 39 = .ok (.iload_n 3, 1) := by decide +kernel
theorem dX11_givePointBefore_40 : decode cX11_givePointBefore 40 = .ok (.iadd, 1) := by decide +kernel
theorem dX11_givePointBefore_41 : decode cX11_givePointBefore 41 = .ok (.istore 4, 2) := by decide +kernel
theorem dX11_givePointBefore_43 : decode cX11_givePointBefore 43 = .ok (.iload_n 3, 1) := by decide +kernel
theorem dX11_givePointBefore_44 : decode cX11_givePointBefore 44 = .ok (.iconst 1, 1) := by decide +kernel
theorem dX11_givePointBefore_45 : decode cX11_givePointBefore 45 = .ok (.if_icmp .le 26, 3) := by decide +kernel
theorem dX11_givePointBefore_48 : decode cX11_givePointBefore 48 = .ok (.aload_n 0, 1) := by decide +kernel
theorem dX11_givePointBefore_49 : decode cX11_givePointBefore 49 = .ok (.getfield 21, 3) := by decide +kernel
theorem dX11_givePointBefore_52 : decode cX11_givePointBefore 52 = .ok (.getfield 116, 3) := by decide +kernel
theorem dX11_givePointBefore_55 : decode cX11_givePointBefore 55 = .ok (.iload 4, 2) := by decide +kernel
theorem dX11_givePointBefore_57 : decode cX11_givePointBefore 57 = .ok (.iconst 2, 1) := by decide +kernel
theorem dX11_givePointBefore_58 : decode cX11_givePointBefore 58 = .ok (.isub, 1) := by decide +kernel
theorem dX11_givePointBefore_59 : decode cX11_givePointBefore 59 = .ok (.iload 4, 2) := by decide +kernel
theorem dX11_givePointBefore_61 : decode cX11_givePointBefore 61 = .ok (.invokevirtual 172, 3) := by decide +kernel
theorem dX11_givePointBefore_64 : decode cX11_givePointBefore 64 = .ok (.ifCond .eq 7, 3) := by decide +kernel
theorem dX11_givePointBefore_67 : decode cX11_givePointBefore 67 = .ok (.iconst 1, 1) := by decide +kernel
theorem dX11_givePointBefore_68 : decode cX11_givePointBefore 68 = .ok (.goto 4, 3) := by decide +kernel
theorem dX11_givePointBefore_71 : decode cX11_givePointBefore 71 = .ok (.iconst 0, 1) := by decide +kernel
theorem dX11_givePointBefore_72 : decode cX11_givePointBefore 72 = .ok (.istore 5, 2) := by decide +kernel
theorem dX11_givePointBefore_74 : decode cX11_givePointBefore 74 = .ok (.aload_n 0, 1) := by decide +kernel
theorem dX11_givePointBefore_75 : decode cX11_givePointBefore 75 = .ok (.getfield 9, 3) := by decide +kernel
theorem dX11_givePointBefore_78 : decode cX11_givePointBefore 78 = .ok (.iload 5, 2) := by decide +kernel
theorem dX11_givePointBefore_80 : decode cX11_givePointBefore 80 = .ok (.ifCond .eq 21, 3) := by decide +kernel
theorem dX11_givePointBefore_83 : decode cX11_givePointBefore 83 = .ok (.aload_n 0, 1) := by decide +kernel
theorem dX11_givePointBefore_84 : decode cX11_givePointBefore 84 = .ok (.getfield 21, 3) := by decide +kernel
theorem dX11_givePointBefore_87 : decode cX11_givePointBefore 87 = .ok (.getfield 116, 3) := by decide +kernel
theorem dX11_givePointBefore_90 : decode cX11_givePointBefore 90 = .ok (.iload 4, 2) := by decide +kernel
theorem dX11_givePointBefore_92 : decode cX11_givePointBefore 92 = .ok (.iconst 2, 1) := by decide +kernel
theorem dX11_givePointBefore_93 : decode cX11_givePointBefore 93 = .ok (.isub, 1) := by decide +kernel
theorem dX11_givePointBefore_94 : decode cX11_givePointBefore 94 = .ok (.invokevirtual 175, 3) := by decide +kernel
theorem dX11_givePointBefore_97 : decode cX11_givePointBefore 97 = .ok (.i2l, 1) := by decide +kernel
theorem dX11_givePointBefore_98 : decode cX11_givePointBefore 98 = .ok (.goto 18, 3) := by decide +kernel
theorem dX11_givePointBefore_101 : decode cX11_givePointBefore 101 = .ok (.aload_n 0, 1) := by decide +kernel
theorem dX11_givePointBefore_102 : decode cX11_givePointBefore 102 = .ok (.getfield 21, 3) := by decide +kernel
theorem dX11_givePointBefore_105 : decode cX11_givePointBefore 105 = .ok (.getfield 116, 3) := by decide +kernel
theorem dX11_givePointBefore_108 : decode cX11_givePointBefore 108 = .ok (.iload 4, 2) := by decide +kernel
theorem dX11_givePointBefore_110 : decode cX11_givePointBefore 110 = .ok (.iconst 1, 1) := by decide +kernel
theorem dX11_givePointBefore_111 : decode cX11_givePointBefore 111 = .ok (.isub, 1) := by decide +kernel
theorem dX11_givePointBefore_112 : decode cX11_givePointBefore 112 = .ok (.invokevirtual 178, 3) := by decide +kernel
theorem dX11_givePointBefore_115 : decode cX11_givePointBefore 115 = .ok (.i2l, 1) := by decide +kernel
theorem dX11_givePointBefore_116 : decode cX11_givePointBefore 116 = .ok (.invokevirtual 44, 3) := by decide +kernel
theorem dX11_givePointBefore_119 : decode cX11_givePointBefore 119 = .ok (.ireturn, 1) := by decide +kernel
def m_WS_givePointBefore_116 (g : Nat) (S : St) (y1 : Int64) : Option (St × Int32) :=
(m_Bn_giveWhole g S y1).bind fun (S_6, v_7) =>
some (S_6, v_7)
def m_WS_givePointBefore_72 (g : Nat) (S : St) (x4 : Int32) (y0 : Int32) : Option (St × Int32) :=
if y0 = 0 then (
  (m_Row_at g S 18 (x4 - (1 : Int32))).bind fun v_5 =>
  m_WS_givePointBefore_116 g S (v_5.toInt64)
) else (
  (m_Row_pairAt g S 18 (x4 - (2 : Int32))).bind fun v_6 =>
  m_WS_givePointBefore_116 g S (v_6.toInt64)
)
def m_WS_givePointBefore_71 (g : Nat) (S : St) (x4 : Int32) : Option (St × Int32) :=
m_WS_givePointBefore_72 g S x4 (0 : Int32)
def m_WS_givePointBefore (g : Nat) (S : St) (x1 : Int32) : Option (St × Int32) :=
(m_Tx_sizeOf g S x1).bind fun v_1 =>
(m_Bn_placeAt g S (2 : Int32) v_1).bind fun v_2 =>
if v_2 < (1 : Int32) then (
  some (S, (1 : Int32))
) else (
  if v_2 ≤ v_1 then (
    (m_Tx_startOf g S x1).bind fun v_3 =>
    lt (v_3 + v_2) fun x4_4 =>
    if v_2 ≤ (1 : Int32) then (
      m_WS_givePointBefore_71 g S x4_4
    ) else (
      (m_Row_hasPair g S 18 (x4_4 - (2 : Int32)) x4_4).bind fun v_5 =>
      if v_5 = 0 then (
        m_WS_givePointBefore_71 g S x4_4
      ) else (
        m_WS_givePointBefore_72 g S x4_4 (1 : Int32)
      )
    )
  ) else (
    some (S, (1 : Int32))
  )
)
section S_WS_givePointBefore
variable {p : Program} {l : Launch} {e : Env} {s : State} {m : MethodId} {args : Array Value} {below : List Frame} {meth : Method} {c : Code} {H : Heap} {locs : List Loc} {ls : Array Slot} {D : va_G} {T : Cy} {ρ : Nat → Nat} {A : Nat → Prop}
set_option maxRecDepth 100000 in
set_option maxHeartbeats 4000000 in
theorem w_WS_givePointBefore_116  {g : Nat} {S : St} {y1 : Int64} (C : CallFix p m c cX11_givePointBefore 6 s args tb RX11) (hr : meth.sig.returnType = (some .int)) (hk : meth.locks = false) {S' : St} {r : Int32} (w : Wn Yc D T ρ S A s H locs) (hl : lv_has ls 6 []) (h : m_WS_givePointBefore_116 g S y1 = some (S', r)) : W p l e (rmN 3 66) s m args below meth c H locs 0 0 (MQ below (Qi Yc D T ρ A S' r) args s 0 0 A) (F0 m 116 ls [.long y1, .ref (ρ 4)]) := by
  unfold m_WS_givePointBefore_116 at h
  obtain ⟨⟨S_6, v_7⟩, hv_7, h⟩ := bnd h
  refine x_callVi (q := (RX1, TX1, 12)) (As := [.long y1]) (rest := []) C w (k_Bn_giveWhole l D T ρ g H.size S hv_7) vX11_44 ⟨by decide, by decide⟩ obC4 (by decide) rfl rfl rfl hl.1 (Nat.le_of_ble_eq_true rfl) ⟨Nat.zero_le _, Nat.zero_le _⟩ dX11_givePointBefore_116 (fun H locs w => ?_)
  obtain ⟨rfl, rfl⟩ := prI h
  exact x_iret C w hr hk dX11_givePointBefore_119
set_option maxRecDepth 100000 in
set_option maxHeartbeats 4000000 in
theorem w_WS_givePointBefore_72  {g : Nat} {S : St} {x4 : Int32} {y0 : Int32} (C : CallFix p m c cX11_givePointBefore 6 s args tb RX11) (hr : meth.sig.returnType = (some .int)) (hk : meth.locks = false) {S' : St} {r : Int32} (w : Wn Yc D T ρ S A s H locs) (hl : lv_has ls 6 [(0, .ref (ρ 8)), (4, .int x4)]) (h : m_WS_givePointBefore_72 g S x4 y0 = some (S', r)) : W p l e (rmN 3 66) s m args below meth c H locs 0 0 (MQ below (Qi Yc D T ρ A S' r) args s 0 0 A) (F0 m 72 ls [.int y0]) := by
  unfold m_WS_givePointBefore_72 at h
  refine lv_istore (lv' := [(5, .int y0), (0, .ref (ρ 8)), (4, .int x4)]) C.1 C.2.1 dX11_givePointBefore_72 hl (by decide) rfl (fun ls hl => ?_)
  refine lv_aload_n C.1 C.2.1 dX11_givePointBefore_74 rfl (lv_at hl 1 rfl) ?_
  refine x_getC C w 4 fX11_9 obC8 rfl dX11_givePointBefore_75 ?_
  refine lv_iload C.1 C.2.1 dX11_givePointBefore_78 (lv_at hl 0 rfl) ?_
  refine lv_if_eq (tgt := 101) C.1 C.2.1 dX11_givePointBefore_80 (by decide) (fun hc => ?_) (fun hc => ?_)
  · replace h := ift hc h
    refine lv_aload_n C.1 C.2.1 dX11_givePointBefore_101 rfl (lv_at hl 1 rfl) ?_
    refine x_getC C w 5 fX11_21 obC8 rfl dX11_givePointBefore_102 ?_
    refine x_getC C w 18 fX11_116 obC5 rfl dX11_givePointBefore_105 ?_
    refine lv_iload C.1 C.2.1 dX11_givePointBefore_108 (lv_at hl 2 rfl) ?_
    refine lv_iconst (v := 1) C.1 C.2.1 dX11_givePointBefore_110 (by decide) ?_
    refine lv_isub C.1 C.2.1 dX11_givePointBefore_111 ?_
    obtain ⟨v_5, hv_5, h⟩ := bnd h
    refine x_callVi (q := (RX6, TX6, 4)) (As := [.int (x4 - (1 : Int32))]) (rest := [.ref (ρ 4)]) C w (k_Row_at l D T ρ g H.size S obC18 hv_5) vX11_178 ⟨by decide, by decide⟩ obC18 (by decide) rfl rfl rfl hl.1 (Nat.le_of_ble_eq_true rfl) ⟨Nat.zero_le _, Nat.zero_le _⟩ dX11_givePointBefore_112 (fun H locs w => ?_)
    refine lv_i2l C.1 C.2.1 dX11_givePointBefore_115 rfl ?_
    exact w_WS_givePointBefore_116 C hr hk w (lv_sub hl [] rfl) h
  · replace h := iff0 hc h
    refine lv_aload_n C.1 C.2.1 dX11_givePointBefore_83 rfl (lv_at hl 1 rfl) ?_
    refine x_getC C w 5 fX11_21 obC8 rfl dX11_givePointBefore_84 ?_
    refine x_getC C w 18 fX11_116 obC5 rfl dX11_givePointBefore_87 ?_
    refine lv_iload C.1 C.2.1 dX11_givePointBefore_90 (lv_at hl 2 rfl) ?_
    refine lv_iconst (v := 2) C.1 C.2.1 dX11_givePointBefore_92 (by decide) ?_
    refine lv_isub C.1 C.2.1 dX11_givePointBefore_93 ?_
    obtain ⟨v_6, hv_6, h⟩ := bnd h
    refine x_callVi (q := (RX6, TX6, 4)) (As := [.int (x4 - (2 : Int32))]) (rest := [.ref (ρ 4)]) C w (k_Row_pairAt l D T ρ g H.size S obC18 hv_6) vX11_175 ⟨by decide, by decide⟩ obC18 (by decide) rfl rfl rfl hl.1 (Nat.le_of_ble_eq_true rfl) ⟨Nat.zero_le _, Nat.zero_le _⟩ dX11_givePointBefore_94 (fun H locs w => ?_)
    refine lv_i2l C.1 C.2.1 dX11_givePointBefore_97 rfl ?_
    refine lv_goto (tgt := 116) C.1 C.2.1 dX11_givePointBefore_98 (by decide) ?_
    exact w_WS_givePointBefore_116 C hr hk w (lv_sub hl [] rfl) h
set_option maxRecDepth 100000 in
set_option maxHeartbeats 4000000 in
theorem w_WS_givePointBefore_71  {g : Nat} {S : St} {x4 : Int32} (C : CallFix p m c cX11_givePointBefore 6 s args tb RX11) (hr : meth.sig.returnType = (some .int)) (hk : meth.locks = false) {S' : St} {r : Int32} (w : Wn Yc D T ρ S A s H locs) (hl : lv_has ls 6 [(0, .ref (ρ 8)), (4, .int x4)]) (h : m_WS_givePointBefore_71 g S x4 = some (S', r)) : W p l e (rmN 3 66) s m args below meth c H locs 0 0 (MQ below (Qi Yc D T ρ A S' r) args s 0 0 A) (F0 m 71 ls []) := by
  unfold m_WS_givePointBefore_71 at h
  refine lv_iconst (v := 0) C.1 C.2.1 dX11_givePointBefore_71 (by decide) ?_
  exact w_WS_givePointBefore_72 C hr hk w (lv_sub hl [0, 1] rfl) h
set_option maxRecDepth 100000 in
set_option maxHeartbeats 4000000 in
theorem w_WS_givePointBefore_0  {g : Nat} {S : St} {x1 : Int32} (C : CallFix p m c cX11_givePointBefore 6 s args tb RX11) (hr : meth.sig.returnType = (some .int)) (hk : meth.locks = false) {S' : St} {r : Int32} (w : Wn Yc D T ρ S A s H locs) (hl : lv_has ls 6 [(0, .ref (ρ 8)), (1, .int x1)]) (h : m_WS_givePointBefore g S x1 = some (S', r)) : W p l e (rmN 3 66) s m args below meth c H locs 0 0 (MQ below (Qi Yc D T ρ A S' r) args s 0 0 A) (F0 m 0 ls []) := by
  unfold m_WS_givePointBefore at h
  refine lv_aload_n C.1 C.2.1 dX11_givePointBefore_0 rfl (lv_at hl 0 rfl) ?_
  refine x_getC C w 5 fX11_21 obC8 rfl dX11_givePointBefore_1 ?_
  refine lv_iload_n C.1 C.2.1 dX11_givePointBefore_4 rfl (lv_at hl 1 rfl) ?_
  obtain ⟨v_1, hv_1, h⟩ := bnd h
  refine x_callVi (q := (RX10, TX10, 5)) (As := [.int x1]) (rest := []) C w (k_Tx_sizeOf l D T ρ g H.size S hv_1) vX11_80 ⟨by decide, by decide⟩ obC5 (by decide) rfl rfl rfl hl.1 (Nat.le_of_ble_eq_true rfl) ⟨Nat.zero_le _, Nat.zero_le _⟩ dX11_givePointBefore_5 (fun H locs w => ?_)
  refine lv_istore_n (lv' := [(2, .int v_1), (0, .ref (ρ 8)), (1, .int x1)]) C.1 C.2.1 dX11_givePointBefore_8 rfl hl (by decide) rfl (fun ls hl => ?_)
  refine lv_aload_n C.1 C.2.1 dX11_givePointBefore_9 rfl (lv_at hl 1 rfl) ?_
  refine x_getC C w 4 fX11_9 obC8 rfl dX11_givePointBefore_10 ?_
  refine lv_iconst (v := 2) C.1 C.2.1 dX11_givePointBefore_13 (by decide) ?_
  refine lv_iload_n C.1 C.2.1 dX11_givePointBefore_14 rfl (lv_at hl 0 rfl) ?_
  obtain ⟨v_2, hv_2, h⟩ := bnd h
  refine x_callVi (q := (RX1, TX1, 12)) (As := [.int (2 : Int32), .int v_1]) (rest := []) C w (k_Bn_placeAt l D T ρ g H.size S hv_2) vX11_136 ⟨by decide, by decide⟩ obC4 (by decide) rfl rfl rfl hl.1 (Nat.le_of_ble_eq_true rfl) ⟨Nat.zero_le _, Nat.zero_le _⟩ dX11_givePointBefore_15 (fun H locs w => ?_)
  refine lv_istore_n (lv' := [(3, .int v_2), (2, .int v_1), (0, .ref (ρ 8)), (1, .int x1)]) C.1 C.2.1 dX11_givePointBefore_18 rfl hl (by decide) rfl (fun ls hl => ?_)
  refine lv_iload_n C.1 C.2.1 dX11_givePointBefore_19 rfl (lv_at hl 0 rfl) ?_
  refine lv_iconst (v := 1) C.1 C.2.1 dX11_givePointBefore_20 (by decide) ?_
  refine lv_icmp_lt (tgt := 29) C.1 C.2.1 dX11_givePointBefore_21 (by decide) (fun hc => ?_) (fun hc => ?_)
  · replace h := ift hc h
    refine lv_iconst (v := 1) C.1 C.2.1 dX11_givePointBefore_29 (by decide) ?_
    obtain ⟨rfl, rfl⟩ := prI h
    exact x_iret C w hr hk dX11_givePointBefore_30
  · replace h := iff0 hc h
    refine lv_iload_n C.1 C.2.1 dX11_givePointBefore_24 rfl (lv_at hl 0 rfl) ?_
    refine lv_iload_n C.1 C.2.1 dX11_givePointBefore_25 rfl (lv_at hl 1 rfl) ?_
    refine lv_icmp_le (tgt := 31) C.1 C.2.1 dX11_givePointBefore_26 (by decide) (fun hc => ?_) (fun hc => ?_)
    · replace h := ift hc h
      refine lv_aload_n C.1 C.2.1 dX11_givePointBefore_31 rfl (lv_at hl 2 rfl) ?_
      refine x_getC C w 5 fX11_21 obC8 rfl dX11_givePointBefore_32 ?_
      refine lv_iload_n C.1 C.2.1 dX11_givePointBefore_35 rfl (lv_at hl 3 rfl) ?_
      obtain ⟨v_3, hv_3, h⟩ := bnd h
      refine x_callVi (q := (RX10, TX10, 5)) (As := [.int x1]) (rest := []) C w (k_Tx_startOf l D T ρ g H.size S hv_3) vX11_119 ⟨by decide, by decide⟩ obC5 (by decide) rfl rfl rfl hl.1 (Nat.le_of_ble_eq_true rfl) ⟨Nat.zero_le _, Nat.zero_le _⟩ dX11_givePointBefore_36 (fun H locs w => ?_)
      refine lv_iload_n C.1 C.2.1 dX11_givePointBefore_39 rfl (lv_at hl 0 rfl) ?_
      refine lv_iadd C.1 C.2.1 dX11_givePointBefore_40 ?_
      obtain ⟨x4_4, ex4_4, h⟩ := lt_e h
      refine x_nm ex4_4 ?_
      refine lv_istore (lv' := [(4, .int x4_4), (3, .int v_2), (2, .int v_1), (0, .ref (ρ 8)), (1, .int x1)]) C.1 C.2.1 dX11_givePointBefore_41 hl (by decide) rfl (fun ls hl => ?_)
      refine lv_iload_n C.1 C.2.1 dX11_givePointBefore_43 rfl (lv_at hl 1 rfl) ?_
      refine lv_iconst (v := 1) C.1 C.2.1 dX11_givePointBefore_44 (by decide) ?_
      refine lv_icmp_le (tgt := 71) C.1 C.2.1 dX11_givePointBefore_45 (by decide) (fun hc => ?_) (fun hc => ?_)
      · replace h := ift hc h
        exact w_WS_givePointBefore_71 C hr hk w (lv_sub hl [3, 0] rfl) h
      · replace h := iff0 hc h
        refine lv_aload_n C.1 C.2.1 dX11_givePointBefore_48 rfl (lv_at hl 3 rfl) ?_
        refine x_getC C w 5 fX11_21 obC8 rfl dX11_givePointBefore_49 ?_
        refine x_getC C w 18 fX11_116 obC5 rfl dX11_givePointBefore_52 ?_
        refine lv_iload C.1 C.2.1 dX11_givePointBefore_55 (lv_at hl 0 rfl) ?_
        refine lv_iconst (v := 2) C.1 C.2.1 dX11_givePointBefore_57 (by decide) ?_
        refine lv_isub C.1 C.2.1 dX11_givePointBefore_58 ?_
        refine lv_iload C.1 C.2.1 dX11_givePointBefore_59 (lv_at hl 0 rfl) ?_
        obtain ⟨v_5, hv_5, h⟩ := bnd h
        refine x_callVi (q := (RX6, TX6, 4)) (As := [.int (x4_4 - (2 : Int32)), .int x4_4]) (rest := []) C w (k_Row_hasPair l D T ρ g H.size S obC18 hv_5) vX11_172 ⟨by decide, by decide⟩ obC18 (by decide) rfl rfl rfl hl.1 (Nat.le_of_ble_eq_true rfl) ⟨Nat.zero_le _, Nat.zero_le _⟩ dX11_givePointBefore_61 (fun H locs w => ?_)
        refine lv_if_eq (tgt := 71) C.1 C.2.1 dX11_givePointBefore_64 (by decide) (fun hc => ?_) (fun hc => ?_)
        · replace h := ift hc h
          exact w_WS_givePointBefore_71 C hr hk w (lv_sub hl [3, 0] rfl) h
        · replace h := iff0 hc h
          refine lv_iconst (v := 1) C.1 C.2.1 dX11_givePointBefore_67 (by decide) ?_
          refine lv_goto (tgt := 72) C.1 C.2.1 dX11_givePointBefore_68 (by decide) ?_
          exact w_WS_givePointBefore_72 C hr hk w (lv_sub hl [3, 0] rfl) h
    · replace h := iff0 hc h
      refine lv_iconst (v := 1) C.1 C.2.1 dX11_givePointBefore_29 (by decide) ?_
      obtain ⟨rfl, rfl⟩ := prI h
      exact x_iret C w hr hk dX11_givePointBefore_30
end S_WS_givePointBefore
set_option maxRecDepth 100000 in
theorem k_WS_givePointBefore (l : Launch) (D : va_G) (T : Cy) (ρ : Nat → Nat) (g sz : Nat) (S : St) {x1 : Int32} {S' : St} {r : Int32} (h : m_WS_givePointBefore g S x1 = some (S', r)) : Mi l Yc D T ρ yX11_givePointBefore cX11_givePointBefore 6 (some .int) 3 66 S S' r [.ref (ρ 8), .int x1] sz :=
  x_in (by decide) (Nat.le_of_ble_eq_true rfl) (fun p e s m below meth c ls C hr hk w hl => w_WS_givePointBefore_0 C hr hk w hl h)

theorem dX11_countPoints_0 : decode cX11_countPoints 0 = .ok (.aload_n 0, 1) := by decide +kernel
theorem dX11_countPoints_1 : decode cX11_countPoints 1 = .ok (.getfield 21, 3) := by decide +kernel
theorem dX11_countPoints_4 : decode cX11_countPoints 4 = .ok (.iload_n 1, 1) := by decide +kernel
theorem dX11_countPoints_5 : decode cX11_countPoints 5 = .ok (.invokevirtual 80, 3) := by decide +kernel
theorem dX11_countPoints_8 : decode cX11_countPoints 8 = .ok (.istore_n 2, 1) := by decide +kernel
theorem dX11_countPoints_9 : decode cX11_countPoints 9 = .ok (.aload_n 0, 1) := by decide +kernel
theorem dX11_countPoints_10 : decode cX11_countPoints 10 = .ok (.getfield 9, 3) := by decide +kernel
theorem dX11_countPoints_13 : decode cX11_countPoints 13 = .ok (.iconst 2, 1) := by decide +kernel
theorem dX11_countPoints_14 : decode cX11_countPoints 14 = .ok (.iload_n 2, 1) := by decide +kernel
theorem dX11_countPoints_15 : decode cX11_countPoints 15 = .ok (.invokevirtual 136, 3) := by decide +kernel
theorem dX11_countPoints_18 : decode cX11_countPoints 18 = .ok (.istore_n 3, 1) := by decide +kernel
theorem dX11_countPoints_19 : decode cX11_countPoints 19 = .ok (.aload_n 0, 1) := by decide +kernel
theorem dX11_countPoints_20 : decode cX11_countPoints 20 = .ok (.getfield 9, 3) := by decide +kernel
theorem dX11_countPoints_23 : decode cX11_countPoints 23 = .ok (.iconst 3, 1) := by decide +kernel
theorem dX11_countPoints_24 : decode cX11_countPoints 24 = .ok (.iload_n 2, 1) := by decide +kernel
theorem dX11_countPoints_25 : decode cX11_countPoints 25 = .ok (.invokevirtual 136, 3) := by decide +kernel
theorem dX11_countPoints_28 : decode cX11_countPoints 28 = .ok (.istore 4, 2) := by decide +kernel
theorem dX11_countPoints_30 : decode cX11_countPoints 30 = .ok (.iload_n 3, 1) := by decide +kernel
theorem dX11_countPoints_31 : decode cX11_countPoints 31 = .ok (.ifCond .lt 15, 3) := by decide +kernel
theorem dX11_countPoints_34 : decode cX11_countPoints 34 = .ok (.iload_n 3, 1) := by decide +kernel
theorem dX11_countPoints_35 : decode cX11_countPoints 35 = .ok (.iload 4, 2) := by decide +kernel
theorem dX11_countPoints_37 : decode cX11_countPoints 37 = .ok (.if_icmp .gt 9, 3) := by decide +kernel
theorem dX11_countPoints_40 : decode cX11_countPoints 40 = .ok (.iload 4, 2) := by decide +kernel
theorem dX11_countPoints_42 : decode cX11_countPoints 42 = .ok (.iload_n 2, 1) := by decide +kernel
theorem dX11_countPoints_43 : decode cX11_countPoints 43 = .ok (.if_icmp .le 5, 3) := by decide +kernel
theorem dX11_countPoints_46 : decode cX11_countPoints 46 = .ok (.iconst 1, 1) := by decide +kernel
theorem dX11_countPoints_47 : decode cX11_countPoints 47 = .ok (.ireturn, 1) := by decide +kernel
theorem dX11_countPoints_48 : decode cX11_countPoints 48 = .ok (.aload_n 0, 1) := by decide +kernel
theorem dX11_countPoints_49 : decode cX11_countPoints 49 = .ok (.getfield 21, 3) := by decide +kernel
theorem dX11_countPoints_52 : decode cX11_countPoints 52 = .ok (.iload_n 1, 1) := by decide +kernel
theorem dX11_countPoints_53 : decode cX11_countPoints 53 = .ok (.invokevirtual 119, 3) := by decide +kernel
theorem dX11_countPoints_56 : decode cX11_countPoints 56 = .ok (.istore 5, 2) := by decide +kernel
theorem dX11_countPoints_58 : decode cX11_countPoints 58 = .ok (.iconst 0, 1) := by decide +kernel
theorem dX11_countPoints_59 : decode cX11_countPoints 59 = .ok (.istore 6, 2) := by decide +kernel
theorem dX11_countPoints_61 : decode cX11_countPoints 61 = .ok (.iload_n 3, 1) := by decide +kernel
theorem dX11_countPoints_62 : decode cX11_countPoints 62 = .ok (.istore 7, 2) := by decide +kernel
theorem dX11_countPoints_64 : decode cX11_countPoints 64 = .ok (.iload 7, 2) := by decide +kernel
theorem dX11_countPoints_66 : decode cX11_countPoints 66 = .ok (.iload 4, 2) := by decide +kernel
theorem dX11_countPoints_68 : decode cX11_countPoints 68 = .ok (.if_icmp .ge 38, 3) := by decide +kernel
theorem dX11_countPoints_71 : decode cX11_countPoints 71 = .ok (.aload_n 0, 1) := by decide +kernel
theorem dX11_countPoints_72 : decode cX11_countPoints 72 = .ok (.getfield 21, 3) := by decide +kernel
theorem dX11_countPoints_75 : decode cX11_countPoints 75 = .ok (.getfield 116, 3) := by decide +kernel
theorem dX11_countPoints_78 : decode cX11_countPoints 78 = .ok (.iload 5, 2) := by decide +kernel
theorem dX11_countPoints_80 : decode cX11_countPoints 80 = .ok (.iload 7, 2) := by decide +kernel
theorem dX11_countPoints_82 : decode cX11_countPoints 82 = .ok (.iadd, 1) := by decide +kernel
theorem dX11_countPoints_83 : decode cX11_countPoints 83 = .ok (.iload 5, 2) := by decide +kernel
theorem dX11_countPoints_85 : decode cX11_countPoints 85 = .ok (.iload 4, 2) := by decide +kernel
theorem dX11_countPoints_87 : decode cX11_countPoints 87 = .ok (.iadd, 1) := by decide +kernel
theorem dX11_countPoints_88 : decode cX11_countPoints 88 = .ok (.invokevirtual 172, 3) := by decide +kernel
theorem dX11_countPoints_91 : decode cX11_countPoints 91 = .ok (.ifCond .eq 6, 3) := by decide +kernel
theorem dX11_countPoints_94 : decode cX11_countPoints 94 = .ok (.iinc 7 1, 3) := by decide +kernel
theorem dX11_countPoints_97 : decode cX11_countPoints 97 = .ok (.iinc 6 1, 3) := by decide +kernel
theorem dX11_countPoints_100 : decode cX11_countPoints 100 = .ok (.iinc 7 1, 3) := by decide +kernel
theorem dX11_countPoints_103 : decode cX11_countPoints 103 = .ok (.goto (-39), 3) := by decide +kernel
theorem dX11_countPoints_106 : decode cX11_countPoints 106 = .ok (.aload_n 0, 1) := by decide +kernel
theorem dX11_countPoints_107 : decode cX11_countPoints 107 = .ok (.getfield 9, 3) := by decide +kernel
theorem dX11_countPoints_110 : decode cX11_countPoints 110 = .ok (.iload 6, 2) := by decide +kernel
theorem dX11_countPoints_112 : decode cX11_countPoints 112 = .ok (.i2l, 1) := by decide +kernel
theorem dX11_countPoints_113 : decode cX11_countPoints 113 = .ok (.invokevirtual 44, 3) := by decide +kernel
theorem dX11_countPoints_116 : decode cX11_countPoints 116 = .ok (.ireturn, 1) := by decide +kernel
def b_WS_countPoints_64 (g : Nat) (k64 : St → Int32 → Int32 → Int32 → Int32 → Option (St × Int32)) (S : St) (x4 : Int32) (x5 : Int32) (x6 : Int32) (x7 : Int32) : Option (St × Int32) :=
if x4 ≤ x7 then (
  (m_Bn_giveWhole g S (x6.toInt64)).bind fun (S_5, v_6) =>
  some (S_5, v_6)
) else (
  (m_Row_hasPair g S 18 (x5 + x7) (x5 + x4)).bind fun v_7 =>
  if v_7 = 0 then (
    lt (x6 + (1 : Int32)) fun x6_8 =>
    lt (x7 + (1 : Int32)) fun x7_9 =>
    k64 S x4 x5 x6_8 x7_9
  ) else (
    lt (x7 + (1 : Int32)) fun x7_10 =>
    lt (x6 + (1 : Int32)) fun x6_11 =>
    lt (x7_10 + (1 : Int32)) fun x7_12 =>
    k64 S x4 x5 x6_11 x7_12
  )
)
def m_WS_countPoints_64 (g : Nat) : Nat → St → Int32 → Int32 → Int32 → Int32 → Option (St × Int32)
  | 0, _, _, _, _, _ => none
  | n + 1, S, x4, x5, x6, x7 => b_WS_countPoints_64 g (m_WS_countPoints_64 g n) S x4 x5 x6 x7
def m_WS_countPoints (g : Nat) (S : St) (x1 : Int32) : Option (St × Int32) :=
(m_Tx_sizeOf g S x1).bind fun v_1 =>
(m_Bn_placeAt g S (2 : Int32) v_1).bind fun v_2 =>
(m_Bn_placeAt g S (3 : Int32) v_1).bind fun v_3 =>
if v_2 < 0 then (
  some (S, (1 : Int32))
) else (
  if v_3 < v_2 then (
    some (S, (1 : Int32))
  ) else (
    if v_3 ≤ v_1 then (
      (m_Tx_startOf g S x1).bind fun v_4 =>
      m_WS_countPoints_64 g g S v_3 v_4 (0 : Int32) v_2
    ) else (
      some (S, (1 : Int32))
    )
  )
)
section S_WS_countPoints
variable {p : Program} {l : Launch} {e : Env} {s : State} {m : MethodId} {args : Array Value} {below : List Frame} {meth : Method} {c : Code} {H : Heap} {locs : List Loc} {ls : Array Slot} {D : va_G} {T : Cy} {ρ : Nat → Nat} {A : Nat → Prop}
set_option maxRecDepth 100000 in
set_option maxHeartbeats 4000000 in
theorem wb_WS_countPoints_64  {g : Nat} {S : St} {x4 : Int32} {x5 : Int32} {x6 : Int32} {x7 : Int32} (C : CallFix p m c cX11_countPoints 8 s args tb RX11) (hr : meth.sig.returnType = (some .int)) (hk : meth.locks = false) {S' : St} {r : Int32} {k64 : St → Int32 → Int32 → Int32 → Int32 → Option (St × Int32)} (kk64 : ∀ (S : St) (x4 : Int32) (x5 : Int32) (x6 : Int32) (x7 : Int32) (H : Heap) (locs : List Loc) (ls : Array Slot), Wn Yc D T ρ S A s H locs → lv_has ls 8 [(0, .ref (ρ 8)), (4, .int x4), (5, .int x5), (6, .int x6), (7, .int x7)] → k64 S x4 x5 x6 x7 = some (S', r) → W p l e (rmN 3 66) s m args below meth c H locs 0 0 (MQ below (Qi Yc D T ρ A S' r) args s 0 0 A) (F0 m 64 ls [])) (w : Wn Yc D T ρ S A s H locs) (hl : lv_has ls 8 [(0, .ref (ρ 8)), (4, .int x4), (5, .int x5), (6, .int x6), (7, .int x7)]) (h : b_WS_countPoints_64 g k64 S x4 x5 x6 x7 = some (S', r)) : W p l e (rmN 3 66) s m args below meth c H locs 0 0 (MQ below (Qi Yc D T ρ A S' r) args s 0 0 A) (F0 m 64 ls []) := by
  unfold b_WS_countPoints_64 at h
  refine lv_iload C.1 C.2.1 dX11_countPoints_64 (lv_at hl 4 rfl) ?_
  refine lv_iload C.1 C.2.1 dX11_countPoints_66 (lv_at hl 1 rfl) ?_
  refine lv_icmp_ge (tgt := 106) C.1 C.2.1 dX11_countPoints_68 (by decide) (fun hc => ?_) (fun hc => ?_)
  · replace h := ift hc h
    refine lv_aload_n C.1 C.2.1 dX11_countPoints_106 rfl (lv_at hl 0 rfl) ?_
    refine x_getC C w 4 fX11_9 obC8 rfl dX11_countPoints_107 ?_
    refine lv_iload C.1 C.2.1 dX11_countPoints_110 (lv_at hl 3 rfl) ?_
    refine lv_i2l C.1 C.2.1 dX11_countPoints_112 rfl ?_
    obtain ⟨⟨S_5, v_6⟩, hv_6, h⟩ := bnd h
    refine x_callVi (q := (RX1, TX1, 12)) (As := [.long (x6.toInt64)]) (rest := []) C w (k_Bn_giveWhole l D T ρ g H.size S hv_6) vX11_44 ⟨by decide, by decide⟩ obC4 (by decide) rfl rfl rfl hl.1 (Nat.le_of_ble_eq_true rfl) ⟨Nat.zero_le _, Nat.zero_le _⟩ dX11_countPoints_113 (fun H locs w => ?_)
    obtain ⟨rfl, rfl⟩ := prI h
    exact x_iret C w hr hk dX11_countPoints_116
  · replace h := iff0 hc h
    refine lv_aload_n C.1 C.2.1 dX11_countPoints_71 rfl (lv_at hl 0 rfl) ?_
    refine x_getC C w 5 fX11_21 obC8 rfl dX11_countPoints_72 ?_
    refine x_getC C w 18 fX11_116 obC5 rfl dX11_countPoints_75 ?_
    refine lv_iload C.1 C.2.1 dX11_countPoints_78 (lv_at hl 2 rfl) ?_
    refine lv_iload C.1 C.2.1 dX11_countPoints_80 (lv_at hl 4 rfl) ?_
    refine lv_iadd C.1 C.2.1 dX11_countPoints_82 ?_
    refine lv_iload C.1 C.2.1 dX11_countPoints_83 (lv_at hl 2 rfl) ?_
    refine lv_iload C.1 C.2.1 dX11_countPoints_85 (lv_at hl 1 rfl) ?_
    refine lv_iadd C.1 C.2.1 dX11_countPoints_87 ?_
    obtain ⟨v_7, hv_7, h⟩ := bnd h
    refine x_callVi (q := (RX6, TX6, 4)) (As := [.int (x5 + x7), .int (x5 + x4)]) (rest := []) C w (k_Row_hasPair l D T ρ g H.size S obC18 hv_7) vX11_172 ⟨by decide, by decide⟩ obC18 (by decide) rfl rfl rfl hl.1 (Nat.le_of_ble_eq_true rfl) ⟨Nat.zero_le _, Nat.zero_le _⟩ dX11_countPoints_88 (fun H locs w => ?_)
    refine lv_if_eq (tgt := 97) C.1 C.2.1 dX11_countPoints_91 (by decide) (fun hc => ?_) (fun hc => ?_)
    · replace h := ift hc h
      obtain ⟨x6_8, ex6_8, h⟩ := lt_e h
      refine lv_iinc (v := x6_8) (lv' := [(6, .int x6_8), (0, .ref (ρ 8)), (4, .int x4), (5, .int x5), (7, .int x7)]) C.1 C.2.1 dX11_countPoints_97 hl (k := 3) rfl (by rw [ex6_8]; rfl) (by decide) rfl (fun ls hl => ?_)
      obtain ⟨x7_9, ex7_9, h⟩ := lt_e h
      refine lv_iinc (v := x7_9) (lv' := [(7, .int x7_9), (6, .int x6_8), (0, .ref (ρ 8)), (4, .int x4), (5, .int x5)]) C.1 C.2.1 dX11_countPoints_100 hl (k := 4) rfl (by rw [ex7_9]; rfl) (by decide) rfl (fun ls hl => ?_)
      refine lv_goto (tgt := 64) C.1 C.2.1 dX11_countPoints_103 (by decide) ?_
      exact kk64 _ _ _ _ _ _ _ _ w (lv_sub hl [2, 3, 4, 1, 0] rfl) h
    · replace h := iff0 hc h
      obtain ⟨x7_10, ex7_10, h⟩ := lt_e h
      refine lv_iinc (v := x7_10) (lv' := [(7, .int x7_10), (0, .ref (ρ 8)), (4, .int x4), (5, .int x5), (6, .int x6)]) C.1 C.2.1 dX11_countPoints_94 hl (k := 4) rfl (by rw [ex7_10]; rfl) (by decide) rfl (fun ls hl => ?_)
      obtain ⟨x6_11, ex6_11, h⟩ := lt_e h
      refine lv_iinc (v := x6_11) (lv' := [(6, .int x6_11), (7, .int x7_10), (0, .ref (ρ 8)), (4, .int x4), (5, .int x5)]) C.1 C.2.1 dX11_countPoints_97 hl (k := 4) rfl (by rw [ex6_11]; rfl) (by decide) rfl (fun ls hl => ?_)
      obtain ⟨x7_12, ex7_12, h⟩ := lt_e h
      refine lv_iinc (v := x7_12) (lv' := [(7, .int x7_12), (6, .int x6_11), (0, .ref (ρ 8)), (4, .int x4), (5, .int x5)]) C.1 C.2.1 dX11_countPoints_100 hl (k := 1) rfl (by rw [ex7_12]; rfl) (by decide) rfl (fun ls hl => ?_)
      refine lv_goto (tgt := 64) C.1 C.2.1 dX11_countPoints_103 (by decide) ?_
      exact kk64 _ _ _ _ _ _ _ _ w (lv_sub hl [2, 3, 4, 1, 0] rfl) h
theorem w_WS_countPoints_64 {g : Nat} (C : CallFix p m c cX11_countPoints 8 s args tb RX11) (hr : meth.sig.returnType = (some .int)) (hk : meth.locks = false) {S' : St} {r : Int32} (n : Nat) : ∀ (S : St) (x4 : Int32) (x5 : Int32) (x6 : Int32) (x7 : Int32) (H : Heap) (locs : List Loc) (ls : Array Slot), Wn Yc D T ρ S A s H locs → lv_has ls 8 [(0, .ref (ρ 8)), (4, .int x4), (5, .int x5), (6, .int x6), (7, .int x7)] → m_WS_countPoints_64 g n S x4 x5 x6 x7 = some (S', r) → W p l e (rmN 3 66) s m args below meth c H locs 0 0 (MQ below (Qi Yc D T ρ A S' r) args s 0 0 A) (F0 m 64 ls []) := by
  induction n with
  | zero => intro S x4 x5 x6 x7 H locs ls w hl h; exact absurd h (fun q => by cases q)
  | succ n ih => intro S x4 x5 x6 x7 H locs ls w hl h; exact wb_WS_countPoints_64 C hr hk ih w hl h
set_option maxRecDepth 100000 in
set_option maxHeartbeats 4000000 in
theorem w_WS_countPoints_0  {g : Nat} {S : St} {x1 : Int32} (C : CallFix p m c cX11_countPoints 8 s args tb RX11) (hr : meth.sig.returnType = (some .int)) (hk : meth.locks = false) {S' : St} {r : Int32} (w : Wn Yc D T ρ S A s H locs) (hl : lv_has ls 8 [(0, .ref (ρ 8)), (1, .int x1)]) (h : m_WS_countPoints g S x1 = some (S', r)) : W p l e (rmN 3 66) s m args below meth c H locs 0 0 (MQ below (Qi Yc D T ρ A S' r) args s 0 0 A) (F0 m 0 ls []) := by
  unfold m_WS_countPoints at h
  refine lv_aload_n C.1 C.2.1 dX11_countPoints_0 rfl (lv_at hl 0 rfl) ?_
  refine x_getC C w 5 fX11_21 obC8 rfl dX11_countPoints_1 ?_
  refine lv_iload_n C.1 C.2.1 dX11_countPoints_4 rfl (lv_at hl 1 rfl) ?_
  obtain ⟨v_1, hv_1, h⟩ := bnd h
  refine x_callVi (q := (RX10, TX10, 5)) (As := [.int x1]) (rest := []) C w (k_Tx_sizeOf l D T ρ g H.size S hv_1) vX11_80 ⟨by decide, by decide⟩ obC5 (by decide) rfl rfl rfl hl.1 (Nat.le_of_ble_eq_true rfl) ⟨Nat.zero_le _, Nat.zero_le _⟩ dX11_countPoints_5 (fun H locs w => ?_)
  refine lv_istore_n (lv' := [(2, .int v_1), (0, .ref (ρ 8)), (1, .int x1)]) C.1 C.2.1 dX11_countPoints_8 rfl hl (by decide) rfl (fun ls hl => ?_)
  refine lv_aload_n C.1 C.2.1 dX11_countPoints_9 rfl (lv_at hl 1 rfl) ?_
  refine x_getC C w 4 fX11_9 obC8 rfl dX11_countPoints_10 ?_
  refine lv_iconst (v := 2) C.1 C.2.1 dX11_countPoints_13 (by decide) ?_
  refine lv_iload_n C.1 C.2.1 dX11_countPoints_14 rfl (lv_at hl 0 rfl) ?_
  obtain ⟨v_2, hv_2, h⟩ := bnd h
  refine x_callVi (q := (RX1, TX1, 12)) (As := [.int (2 : Int32), .int v_1]) (rest := []) C w (k_Bn_placeAt l D T ρ g H.size S hv_2) vX11_136 ⟨by decide, by decide⟩ obC4 (by decide) rfl rfl rfl hl.1 (Nat.le_of_ble_eq_true rfl) ⟨Nat.zero_le _, Nat.zero_le _⟩ dX11_countPoints_15 (fun H locs w => ?_)
  refine lv_istore_n (lv' := [(3, .int v_2), (2, .int v_1), (0, .ref (ρ 8)), (1, .int x1)]) C.1 C.2.1 dX11_countPoints_18 rfl hl (by decide) rfl (fun ls hl => ?_)
  refine lv_aload_n C.1 C.2.1 dX11_countPoints_19 rfl (lv_at hl 2 rfl) ?_
  refine x_getC C w 4 fX11_9 obC8 rfl dX11_countPoints_20 ?_
  refine lv_iconst (v := 3) C.1 C.2.1 dX11_countPoints_23 (by decide) ?_
  refine lv_iload_n C.1 C.2.1 dX11_countPoints_24 rfl (lv_at hl 1 rfl) ?_
  obtain ⟨v_3, hv_3, h⟩ := bnd h
  refine x_callVi (q := (RX1, TX1, 12)) (As := [.int (3 : Int32), .int v_1]) (rest := []) C w (k_Bn_placeAt l D T ρ g H.size S hv_3) vX11_136 ⟨by decide, by decide⟩ obC4 (by decide) rfl rfl rfl hl.1 (Nat.le_of_ble_eq_true rfl) ⟨Nat.zero_le _, Nat.zero_le _⟩ dX11_countPoints_25 (fun H locs w => ?_)
  refine lv_istore (lv' := [(4, .int v_3), (3, .int v_2), (2, .int v_1), (0, .ref (ρ 8)), (1, .int x1)]) C.1 C.2.1 dX11_countPoints_28 hl (by decide) rfl (fun ls hl => ?_)
  refine lv_iload_n C.1 C.2.1 dX11_countPoints_30 rfl (lv_at hl 1 rfl) ?_
  refine lv_if_lt (tgt := 46) C.1 C.2.1 dX11_countPoints_31 (by decide) (fun hc => ?_) (fun hc => ?_)
  · replace h := ift hc h
    refine lv_iconst (v := 1) C.1 C.2.1 dX11_countPoints_46 (by decide) ?_
    obtain ⟨rfl, rfl⟩ := prI h
    exact x_iret C w hr hk dX11_countPoints_47
  · replace h := iff0 hc h
    refine lv_iload_n C.1 C.2.1 dX11_countPoints_34 rfl (lv_at hl 1 rfl) ?_
    refine lv_iload C.1 C.2.1 dX11_countPoints_35 (lv_at hl 0 rfl) ?_
    refine lv_icmp_gt (tgt := 46) C.1 C.2.1 dX11_countPoints_37 (by decide) (fun hc => ?_) (fun hc => ?_)
    · replace h := ift hc h
      refine lv_iconst (v := 1) C.1 C.2.1 dX11_countPoints_46 (by decide) ?_
      obtain ⟨rfl, rfl⟩ := prI h
      exact x_iret C w hr hk dX11_countPoints_47
    · replace h := iff0 hc h
      refine lv_iload C.1 C.2.1 dX11_countPoints_40 (lv_at hl 0 rfl) ?_
      refine lv_iload_n C.1 C.2.1 dX11_countPoints_42 rfl (lv_at hl 2 rfl) ?_
      refine lv_icmp_le (tgt := 48) C.1 C.2.1 dX11_countPoints_43 (by decide) (fun hc => ?_) (fun hc => ?_)
      · replace h := ift hc h
        refine lv_aload_n C.1 C.2.1 dX11_countPoints_48 rfl (lv_at hl 3 rfl) ?_
        refine x_getC C w 5 fX11_21 obC8 rfl dX11_countPoints_49 ?_
        refine lv_iload_n C.1 C.2.1 dX11_countPoints_52 rfl (lv_at hl 4 rfl) ?_
        obtain ⟨v_4, hv_4, h⟩ := bnd h
        refine x_callVi (q := (RX10, TX10, 5)) (As := [.int x1]) (rest := []) C w (k_Tx_startOf l D T ρ g H.size S hv_4) vX11_119 ⟨by decide, by decide⟩ obC5 (by decide) rfl rfl rfl hl.1 (Nat.le_of_ble_eq_true rfl) ⟨Nat.zero_le _, Nat.zero_le _⟩ dX11_countPoints_53 (fun H locs w => ?_)
        refine lv_istore (lv' := [(5, .int v_4), (4, .int v_3), (3, .int v_2), (2, .int v_1), (0, .ref (ρ 8)), (1, .int x1)]) C.1 C.2.1 dX11_countPoints_56 hl (by decide) rfl (fun ls hl => ?_)
        refine lv_iconst (v := 0) C.1 C.2.1 dX11_countPoints_58 (by decide) ?_
        refine lv_istore (lv' := [(6, .int (0 : Int32)), (5, .int v_4), (4, .int v_3), (3, .int v_2), (2, .int v_1), (0, .ref (ρ 8)), (1, .int x1)]) C.1 C.2.1 dX11_countPoints_59 hl (by decide) rfl (fun ls hl => ?_)
        refine lv_iload_n C.1 C.2.1 dX11_countPoints_61 rfl (lv_at hl 3 rfl) ?_
        refine lv_istore (lv' := [(7, .int v_2), (6, .int (0 : Int32)), (5, .int v_4), (4, .int v_3), (3, .int v_2), (2, .int v_1), (0, .ref (ρ 8)), (1, .int x1)]) C.1 C.2.1 dX11_countPoints_62 hl (by decide) rfl (fun ls hl => ?_)
        exact w_WS_countPoints_64 C hr hk g _ _ _ _ _ _ _ _ w (lv_sub hl [6, 3, 2, 1, 0] rfl) h
      · replace h := iff0 hc h
        refine lv_iconst (v := 1) C.1 C.2.1 dX11_countPoints_46 (by decide) ?_
        obtain ⟨rfl, rfl⟩ := prI h
        exact x_iret C w hr hk dX11_countPoints_47
end S_WS_countPoints
set_option maxRecDepth 100000 in
theorem k_WS_countPoints (l : Launch) (D : va_G) (T : Cy) (ρ : Nat → Nat) (g sz : Nat) (S : St) {x1 : Int32} {S' : St} {r : Int32} (h : m_WS_countPoints g S x1 = some (S', r)) : Mi l Yc D T ρ yX11_countPoints cX11_countPoints 8 (some .int) 3 66 S S' r [.ref (ρ 8), .int x1] sz :=
  x_in (by decide) (Nat.le_of_ble_eq_true rfl) (fun p e s m below meth c ls C hr hk w hl => w_WS_countPoints_0 C hr hk w hl h)

theorem dX11_offset_0 : decode cX11_offset 0 = .ok (.aload_n 0, 1) := by decide +kernel
theorem dX11_offset_1 : decode cX11_offset 1 = .ok (.getfield 21, 3) := by decide +kernel
theorem dX11_offset_4 : decode cX11_offset 4 = .ok (.iload_n 1, 1) := by decide +kernel
theorem dX11_offset_5 : decode cX11_offset 5 = .ok (.invokevirtual 80, 3) := by decide +kernel
theorem dX11_offset_8 : decode cX11_offset 8 = .ok (.istore_n 2, 1) := by decide +kernel
theorem dX11_offset_9 : decode cX11_offset 9 = .ok (.aload_n 0, 1) := by decide +kernel
theorem dX11_offset_10 : decode cX11_offset 10 = .ok (.getfield 21, 3) := by decide +kernel
theorem dX11_offset_13 : decode cX11_offset 13 = .ok (.iload_n 1, 1) := by decide +kernel
theorem dX11_offset_14 : decode cX11_offset 14 = .ok (.invokevirtual 119, 3) := by decide +kernel
theorem dX11_offset_17 : decode cX11_offset 17 = .ok (.istore_n 3, 1) := by decide +kernel
theorem dX11_offset_18 : decode cX11_offset 18 = .ok (.aload_n 0, 1) := by decide +kernel
theorem dX11_offset_19 : decode cX11_offset 19 = .ok (.getfield 9, 3) := by decide +kernel
theorem dX11_offset_22 : decode cX11_offset 22 = .ok (.iconst 2, 1) := by decide +kernel
theorem dX11_offset_23 : decode cX11_offset 23 = .ok (.iload_n 2, 1) := by decide +kernel
theorem dX11_offset_24 : decode cX11_offset 24 = .ok (.invokevirtual 136, 3) := by decide +kernel
theorem dX11_offset_27 : decode cX11_offset 27 = .ok (.istore 4, 2) := by decide +kernel
theorem dX11_offset_29 : decode cX11_offset 29 = .ok (.aload_n 0, 1) := by decide +kernel
theorem dX11_offset_30 : decode cX11_offset 30 = .ok (.getfield 9, 3) := by decide +kernel
theorem dX11_offset_33 : decode cX11_offset 33 = .ok (.iconst 3, 1) := by decide +kernel
theorem dX11_offset_34 : decode cX11_offset 34 = .ok (.invokevirtual 68, 3) := by decide +kernel
theorem dX11_offset_37 : decode cX11_offset 37 = .ok (.lstore 5, 2) := by decide +kernel
theorem dX11_offset_39 : decode cX11_offset 39 = .ok (.iload 4, 2) := by decide +kernel
theorem dX11_offset_41 : decode cX11_offset 41 = .ok (.ifCond .lt 26, 3) := by decide +kernel
theorem dX11_offset_44 : decode cX11_offset 44 = .ok (.iload 4, 2) := by decide +kernel
theorem dX11_offset_46 : decode cX11_offset 46 = .ok (.iload_n 2, 1) := by decide +kernel
theorem dX11_offset_47 : decode cX11_offset 47 = .ok (.if_icmp .gt 20, 3) := by decide +kernel
theorem dX11_offset_50 : decode cX11_offset 50 = .ok (.lload 5, 2) := by decide +kernel
theorem dX11_offset_52 : decode cX11_offset 52 = .ok (.iload_n 2, 1) := by decide +kernel
theorem dX11_offset_53 : decode cX11_offset 53 = .ok (.i2l, 1) := by decide +kernel
theorem dX11_offset_54 : decode cX11_offset 54 = .ok (.lcmp, 1) := by decide +kernel
theorem dX11_offset_55 : decode cX11_offset 55 = .ok (.ifCond .gt 12, 3) := by decide +kernel
theorem dX11_offset_58 : decode cX11_offset 58 = .ok (.lload 5, 2) := by decide +kernel
theorem dX11_offset_60 : decode cX11_offset 60 = .ok (.iload_n 2, 1) := by decide +kernel
theorem dX11_offset_61 : decode cX11_offset 61 = .ok (.ineg, 1) := by decide +kernel
theorem dX11_offset_62 : decode cX11_offset 62 = .ok (.i2l, 1) := by decide +kernel
theorem dX11_offset_63 : decode cX11_offset 63 = .ok (.lcmp, 1) := by decide +kernel
theorem dX11_offset_64 : decode cX11_offset 64 = .ok (.ifCond .ge 5, 3) := by decide +kernel
theorem dX11_offset_67 : decode cX11_offset 67 = .ok (.iconst 1, 1) := by decide +kernel
theorem dX11_offset_68 : decode cX11_offset 68 = .ok (.ireturn, 1) := by decide +kernel
theorem dX11_offset_69 : decode cX11_offset 69 = .ok (.iconst 0, 1) := by decide +kernel
theorem dX11_offset_70 : decode cX11_offset 70 = .ok (.istore 7, 2) := by decide +kernel
theorem dX11_offset_72 : decode cX11_offset 72 = .ok (.iload 7, 2) := by decide +kernel
theorem dX11_offset_74 : decode cX11_offset 74 = .ok (.i2l, 1) := by decide +kernel
theorem dX11_offset_75 : decode cX11_offset 75 = .ok (.lload 5, 2) := by decide +kernel
theorem dX11_offset_77 : decode cX11_offset 77 = .ok (.lcmp, 1) := by decide +kernel
theorem dX11_offset_78 : decode cX11_offset 78 = .ok (.ifCond .ge 39, 3) := by decide +kernel
theorem dX11_offset_81 : decode cX11_offset 81 = .ok (.iload 4, 2) := by decide +kernel
theorem dX11_offset_83 : decode cX11_offset 83 = .ok (.aload_n 0, 1) := by decide +kernel
theorem dX11_offset_84 : decode cX11_offset 84 = .ok (.getfield 21, 3) := by decide +kernel
theorem dX11_offset_87 : decode cX11_offset 87 = .ok (.getfield 116, 3) := by decide +kernel
theorem dX11_offset_90 : decode cX11_offset 90 = .ok (.iload_n 3, 1) := by decide +kernel
theorem dX11_offset_91 : decode cX11_offset 91 = .ok (.iload 4, 2) := by decide +kernel
theorem dX11_offset_93 : decode cX11_offset 93 = .ok (.iadd, 1) := by decide +kernel
theorem dX11_offset_94 : decode cX11_offset 94 = .ok (.iload_n 3, 1) := by decide +kernel
theorem dX11_offset_95 : decode cX11_offset 95 = .ok (.iload_n 2, 1) := by decide +kernel
theorem dX11_offset_96 : decode cX11_offset 96 = .ok (.iadd, 1) := by decide +kernel
theorem dX11_offset_97 : decode cX11_offset 97 = .ok (.invokevirtual 172, 3) := by decide +kernel
theorem dX11_offset_100 : decode cX11_offset 100 = .ok (.ifCond .eq 7, 3) := by decide +kernel
theorem dX11_offset_103 : decode cX11_offset 103 = .ok (.iconst 2, 1) := by decide +kernel
theorem dX11_offset_104 : decode cX11_offset 104 = .ok (.goto 4, 3) := by decide +kernel
theorem dX11_offset_107 : decode cX11_offset 107 = .ok (.iconst 1, 1) := by decide +kernel
theorem dX11_offset_108 : decode cX11_offset 108 = .ok (.iadd, 1) := by decide +kernel
theorem dX11_offset_109 : decode cX11_offset 109 = .ok (.istore 4, 2) := by decide +kernel
theorem dX11_offset_111 : decode cX11_offset 111 = .ok (.iinc 7 1, 3) := by decide +kernel
theorem dX11_offset_114 : decode cX11_offset 114 = .ok (.goto (-42), 3) := by decide +kernel
theorem dX11_offset_117 : decode cX11_offset 117 = .ok (.iconst 0, 1) := by decide +kernel
theorem dX11_offset_118 : decode cX11_offset 118 = .ok (.istore 7, 2) := by decide +kernel
theorem dX11_offset_120 : decode cX11_offset 120 = .ok (.iload 7, 2) := by decide +kernel
theorem dX11_offset_122 : decode cX11_offset 122 = .ok (.i2l, 1) := by decide +kernel
theorem dX11_offset_123 : decode cX11_offset 123 = .ok (.lload 5, 2) := by decide +kernel
theorem dX11_offset_125 : decode cX11_offset 125 = .ok (.lcmp, 1) := by decide +kernel
theorem dX11_offset_126 : decode cX11_offset 126 = .ok (.ifCond .le 60, 3) := by decide +kernel
theorem dX11_offset_129 : decode cX11_offset 129 = .ok (.iload 4, 2) := by decide +kernel
theorem dX11_offset_131 : decode cX11_offset 131 = .ok (.iconst 1, 1) := by decide +kernel
theorem dX11_offset_132 : decode cX11_offset 132 = .ok (.if_icmp .le 30, 3) := by decide +kernel
theorem dX11_offset_135 : decode cX11_offset 135 = .ok (.aload_n 0, 1) := by decide +kernel
theorem dX11_offset_136 : decode cX11_offset 136 = .ok (.getfield 21, 3) := by decide +kernel
theorem dX11_offset_139 : decode cX11_offset 139 = .ok (.getfield 116, 3) := by decide +kernel
theorem dX11_offset_142 : decode cX11_offset 142 = .ok (.iload_n 3, 1) := by decide +kernel
theorem dX11_offset_143 : decode cX11_offset 143 = .ok (.iload 4, 2) := by decide +kernel
theorem dX11_offset_145 : decode cX11_offset 145 = .ok (.iadd, 1) := by decide +kernel
theorem dX11_offset_146 : decode cX11_offset 146 = .ok (.iconst 2, 1) := by decide +kernel
theorem dX11_offset_147 : decode cX11_offset 147 = .ok (.isub, 1) := by decide +kernel
theorem dX11_offset_148 : decode cX11_offset 148 = .ok (.iload_n 3, 1) := by decide +kernel
theorem dX11_offset_149 : decode cX11_offset 149 = .ok (.iload 4, 2) := by decide +kernel
theorem dX11_offset_151 : decode cX11_offset 151 = .ok (.iadd, 1) := by decide +kernel
theorem dX11_offset_152 : decode cX11_offset 152 = .ok (.invokevirtual 172, 3) := by decide +kernel
theorem dX11_offset_155 : decode cX11_offset 155 = .ok (.ifCond .eq 7, 3) := by decide +kernel
theorem dX11_offset_158 : decode cX11_offset 158 = .ok (.iconst 1, 1) := by decide +kernel
theorem dX11_offset_159 : decode cX11_offset 159 = .ok (.goto 4, 3) := by decide +kernel
theorem dX11_offset_162 : decode cX11_offset 162 = .ok (.iconst 0, 1) := by decide +kernel
theorem dX11_offset_163 : decode cX11_offset 163 = .ok (.istore 8, 2) := by decide +kernel
theorem dX11_offset_165 : decode cX11_offset 165 = .ok (.iload 4, 2) := by decide +kernel
theorem dX11_offset_167 : decode cX11_offset 167 = .ok (.iload 8, 2) := by decide +kernel
theorem dX11_offset_169 : decode cX11_offset 169 = .ok (.ifCond .eq 7, 3) := by decide +kernel
theorem dX11_offset_172 : decode cX11_offset 172 = .ok (.iconst 2, 1) := by decide +kernel
theorem dX11_offset_173 : decode cX11_offset 173 = .ok (.goto 4, 3) := by decide +kernel
theorem dX11_offset_176 : decode cX11_offset 176 = .ok (.iconst 1, 1) := by decide +kernel
theorem dX11_offset_177 : decode cX11_offset 177 = .ok (.isub, 1) := by decide +kernel
theorem dX11_offset_178 : decode cX11_offset 178 = .ok (.istore 4, 2) := by decide +kernel
theorem dX11_offset_180 : decode cX11_offset 180 = .ok (.iinc 7 (-1), 3) := by decide +kernel
theorem dX11_offset_183 : decode cX11_offset 183 = .ok (.goto (-63), 3) := by decide +kernel
theorem dX11_offset_186 : decode cX11_offset 186 = .ok (.iload 4, 2) := by decide +kernel
theorem dX11_offset_188 : decode cX11_offset 188 = .ok (.ifCond .lt 9, 3) := by decide +kernel
theorem dX11_offset_191 : decode cX11_offset 191 = .ok (.iload 4, 2) := by decide +kernel
theorem dX11_offset_193 : decode cX11_offset 193 = .ok (.iload_n 2, 1) := by decide +kernel
theorem dX11_offset_194 : decode cX11_offset 194 = .ok (.if_icmp .le 7, 3) := by decide +kernel
theorem dX11_offset_197 : decode cX11_offset 197 = .ok (.iconst 1, 1) := by decide +kernel
theorem dX11_offset_198 : decode cX11_offset 198 = .ok (.goto 13, 3) := by decide +kernel
theorem dX11_offset_201 : decode cX11_offset 201 = .ok (.aload_n 0, 1) := by decide +kernel
theorem dX11_offset_202 : decode cX11_offset 202 = .ok (.getfield 9, 3) := by decide +kernel
theorem dX11_offset_205 : decode cX11_offset 205 = .ok (.iload 4, 2) := by decide +kernel
theorem dX11_offset_207 : decode cX11_offset 207 = .ok (.i2l, 1) := by decide +kernel
theorem dX11_offset_208 : decode cX11_offset 208 = .ok (.invokevirtual 44, 3) := by decide +kernel
theorem dX11_offset_211 : decode cX11_offset 211 = .ok (.ireturn, 1) := by decide +kernel
def m_WS_offset_163 (g : Nat) (k120 : St → Int32 → Int32 → Int32 → Int64 → Int32 → Option (St × Int32)) (S : St) (x2 : Int32) (x3 : Int32) (x4 : Int32) (x5 : Int64) (x7 : Int32) (y0 : Int32) : Option (St × Int32) :=
if y0 = 0 then (
  lt (x4 - (1 : Int32)) fun x4_7 =>
  lt (x7 + (-1 : Int32)) fun x7_8 =>
  k120 S x2 x3 x4_7 x5 x7_8
) else (
  lt (x4 - (2 : Int32)) fun x4_9 =>
  lt (x7 + (-1 : Int32)) fun x7_10 =>
  k120 S x2 x3 x4_9 x5 x7_10
)
def m_WS_offset_162 (g : Nat) (k120 : St → Int32 → Int32 → Int32 → Int64 → Int32 → Option (St × Int32)) (S : St) (x2 : Int32) (x3 : Int32) (x4 : Int32) (x5 : Int64) (x7 : Int32) : Option (St × Int32) :=
m_WS_offset_163 g k120 S x2 x3 x4 x5 x7 (0 : Int32)
def b_WS_offset_120 (g : Nat) (k120 : St → Int32 → Int32 → Int32 → Int64 → Int32 → Option (St × Int32)) (S : St) (x2 : Int32) (x3 : Int32) (x4 : Int32) (x5 : Int64) (x7 : Int32) : Option (St × Int32) :=
if x5 < (x7.toInt64) then (
  if x4 ≤ (1 : Int32) then (
    m_WS_offset_162 g k120 S x2 x3 x4 x5 x7
  ) else (
    (m_Row_hasPair g S 18 ((x3 + x4) - (2 : Int32)) (x3 + x4)).bind fun v_7 =>
    if v_7 = 0 then (
      m_WS_offset_162 g k120 S x2 x3 x4 x5 x7
    ) else (
      m_WS_offset_163 g k120 S x2 x3 x4 x5 x7 (1 : Int32)
    )
  )
) else (
  if x4 < 0 then (
    some (S, (1 : Int32))
  ) else (
    if x4 ≤ x2 then (
      (m_Bn_giveWhole g S (x4.toInt64)).bind fun (S_5, v_6) =>
      some (S_5, v_6)
    ) else (
      some (S, (1 : Int32))
    )
  )
)
def m_WS_offset_120 (g : Nat) : Nat → St → Int32 → Int32 → Int32 → Int64 → Int32 → Option (St × Int32)
  | 0, _, _, _, _, _, _ => none
  | n + 1, S, x2, x3, x4, x5, x7 => b_WS_offset_120 g (m_WS_offset_120 g n) S x2 x3 x4 x5 x7
def b_WS_offset_72 (g : Nat) (k72 : St → Int32 → Int32 → Int32 → Int64 → Int32 → Option (St × Int32)) (S : St) (x2 : Int32) (x3 : Int32) (x4 : Int32) (x5 : Int64) (x7 : Int32) : Option (St × Int32) :=
if (x7.toInt64) < x5 then (
  (m_Row_hasPair g S 18 (x3 + x4) (x3 + x2)).bind fun v_5 =>
  if v_5 = 0 then (
    lt (x4 + (1 : Int32)) fun x4_6 =>
    lt (x7 + (1 : Int32)) fun x7_7 =>
    k72 S x2 x3 x4_6 x5 x7_7
  ) else (
    lt (x4 + (2 : Int32)) fun x4_8 =>
    lt (x7 + (1 : Int32)) fun x7_9 =>
    k72 S x2 x3 x4_8 x5 x7_9
  )
) else (
  m_WS_offset_120 g g S x2 x3 x4 x5 (0 : Int32)
)
def m_WS_offset_72 (g : Nat) : Nat → St → Int32 → Int32 → Int32 → Int64 → Int32 → Option (St × Int32)
  | 0, _, _, _, _, _, _ => none
  | n + 1, S, x2, x3, x4, x5, x7 => b_WS_offset_72 g (m_WS_offset_72 g n) S x2 x3 x4 x5 x7
def m_WS_offset (g : Nat) (S : St) (x1 : Int32) : Option (St × Int32) :=
(m_Tx_sizeOf g S x1).bind fun v_1 =>
(m_Tx_startOf g S x1).bind fun v_2 =>
(m_Bn_placeAt g S (2 : Int32) v_1).bind fun v_3 =>
(m_Bn_wholeAt g S (3 : Int32)).bind fun v_4 =>
if v_3 < 0 then (
  some (S, (1 : Int32))
) else (
  if v_1 < v_3 then (
    some (S, (1 : Int32))
  ) else (
    if (v_1.toInt64) < v_4 then (
      some (S, (1 : Int32))
    ) else (
      if v_4 < ((-v_1).toInt64) then (
        some (S, (1 : Int32))
      ) else (
        m_WS_offset_72 g g S v_1 v_2 v_3 v_4 (0 : Int32)
      )
    )
  )
)
section S_WS_offset
variable {p : Program} {l : Launch} {e : Env} {s : State} {m : MethodId} {args : Array Value} {below : List Frame} {meth : Method} {c : Code} {H : Heap} {locs : List Loc} {ls : Array Slot} {D : va_G} {T : Cy} {ρ : Nat → Nat} {A : Nat → Prop}
set_option maxRecDepth 100000 in
set_option maxHeartbeats 4000000 in
theorem w_WS_offset_163  {g : Nat} {S : St} {x2 : Int32} {x3 : Int32} {x4 : Int32} {x5 : Int64} {x7 : Int32} {y0 : Int32} (C : CallFix p m c cX11_offset 9 s args tb RX11) (hr : meth.sig.returnType = (some .int)) (hk : meth.locks = false) {S' : St} {r : Int32} {k120 : St → Int32 → Int32 → Int32 → Int64 → Int32 → Option (St × Int32)} (kk120 : ∀ (S : St) (x2 : Int32) (x3 : Int32) (x4 : Int32) (x5 : Int64) (x7 : Int32) (H : Heap) (locs : List Loc) (ls : Array Slot), Wn Yc D T ρ S A s H locs → lv_has ls 9 [(0, .ref (ρ 8)), (2, .int x2), (3, .int x3), (4, .int x4), (5, .long x5), (7, .int x7)] → k120 S x2 x3 x4 x5 x7 = some (S', r) → W p l e (rmN 3 66) s m args below meth c H locs 0 0 (MQ below (Qi Yc D T ρ A S' r) args s 0 0 A) (F0 m 120 ls [])) (w : Wn Yc D T ρ S A s H locs) (hl : lv_has ls 9 [(0, .ref (ρ 8)), (2, .int x2), (3, .int x3), (4, .int x4), (5, .long x5), (7, .int x7)]) (h : m_WS_offset_163 g k120 S x2 x3 x4 x5 x7 y0 = some (S', r)) : W p l e (rmN 3 66) s m args below meth c H locs 0 0 (MQ below (Qi Yc D T ρ A S' r) args s 0 0 A) (F0 m 163 ls [.int y0]) := by
  unfold m_WS_offset_163 at h
  refine lv_istore (lv' := [(8, .int y0), (0, .ref (ρ 8)), (2, .int x2), (3, .int x3), (4, .int x4), (5, .long x5), (7, .int x7)]) C.1 C.2.1 dX11_offset_163 hl (by decide) rfl (fun ls hl => ?_)
  refine lv_iload C.1 C.2.1 dX11_offset_165 (lv_at hl 4 rfl) ?_
  refine lv_iload C.1 C.2.1 dX11_offset_167 (lv_at hl 0 rfl) ?_
  refine lv_if_eq (tgt := 176) C.1 C.2.1 dX11_offset_169 (by decide) (fun hc => ?_) (fun hc => ?_)
  · replace h := ift hc h
    refine lv_iconst (v := 1) C.1 C.2.1 dX11_offset_176 (by decide) ?_
    refine lv_isub C.1 C.2.1 dX11_offset_177 ?_
    obtain ⟨x4_7, ex4_7, h⟩ := lt_e h
    refine x_nm ex4_7 ?_
    refine lv_istore (lv' := [(4, .int x4_7), (8, .int y0), (0, .ref (ρ 8)), (2, .int x2), (3, .int x3), (5, .long x5), (7, .int x7)]) C.1 C.2.1 dX11_offset_178 hl (by decide) rfl (fun ls hl => ?_)
    obtain ⟨x7_8, ex7_8, h⟩ := lt_e h
    refine lv_iinc (v := x7_8) (lv' := [(7, .int x7_8), (4, .int x4_7), (8, .int y0), (0, .ref (ρ 8)), (2, .int x2), (3, .int x3), (5, .long x5)]) C.1 C.2.1 dX11_offset_180 hl (k := 6) rfl (by rw [ex7_8]; rfl) (by decide) rfl (fun ls hl => ?_)
    refine lv_goto (tgt := 120) C.1 C.2.1 dX11_offset_183 (by decide) ?_
    exact kk120 _ _ _ _ _ _ _ _ _ w (lv_sub hl [3, 4, 5, 1, 6, 0] rfl) h
  · replace h := iff0 hc h
    refine lv_iconst (v := 2) C.1 C.2.1 dX11_offset_172 (by decide) ?_
    refine lv_goto (tgt := 177) C.1 C.2.1 dX11_offset_173 (by decide) ?_
    refine lv_isub C.1 C.2.1 dX11_offset_177 ?_
    obtain ⟨x4_9, ex4_9, h⟩ := lt_e h
    refine x_nm ex4_9 ?_
    refine lv_istore (lv' := [(4, .int x4_9), (8, .int y0), (0, .ref (ρ 8)), (2, .int x2), (3, .int x3), (5, .long x5), (7, .int x7)]) C.1 C.2.1 dX11_offset_178 hl (by decide) rfl (fun ls hl => ?_)
    obtain ⟨x7_10, ex7_10, h⟩ := lt_e h
    refine lv_iinc (v := x7_10) (lv' := [(7, .int x7_10), (4, .int x4_9), (8, .int y0), (0, .ref (ρ 8)), (2, .int x2), (3, .int x3), (5, .long x5)]) C.1 C.2.1 dX11_offset_180 hl (k := 6) rfl (by rw [ex7_10]; rfl) (by decide) rfl (fun ls hl => ?_)
    refine lv_goto (tgt := 120) C.1 C.2.1 dX11_offset_183 (by decide) ?_
    exact kk120 _ _ _ _ _ _ _ _ _ w (lv_sub hl [3, 4, 5, 1, 6, 0] rfl) h
set_option maxRecDepth 100000 in
set_option maxHeartbeats 4000000 in
theorem w_WS_offset_162  {g : Nat} {S : St} {x2 : Int32} {x3 : Int32} {x4 : Int32} {x5 : Int64} {x7 : Int32} (C : CallFix p m c cX11_offset 9 s args tb RX11) (hr : meth.sig.returnType = (some .int)) (hk : meth.locks = false) {S' : St} {r : Int32} {k120 : St → Int32 → Int32 → Int32 → Int64 → Int32 → Option (St × Int32)} (kk120 : ∀ (S : St) (x2 : Int32) (x3 : Int32) (x4 : Int32) (x5 : Int64) (x7 : Int32) (H : Heap) (locs : List Loc) (ls : Array Slot), Wn Yc D T ρ S A s H locs → lv_has ls 9 [(0, .ref (ρ 8)), (2, .int x2), (3, .int x3), (4, .int x4), (5, .long x5), (7, .int x7)] → k120 S x2 x3 x4 x5 x7 = some (S', r) → W p l e (rmN 3 66) s m args below meth c H locs 0 0 (MQ below (Qi Yc D T ρ A S' r) args s 0 0 A) (F0 m 120 ls [])) (w : Wn Yc D T ρ S A s H locs) (hl : lv_has ls 9 [(0, .ref (ρ 8)), (2, .int x2), (3, .int x3), (4, .int x4), (5, .long x5), (7, .int x7)]) (h : m_WS_offset_162 g k120 S x2 x3 x4 x5 x7 = some (S', r)) : W p l e (rmN 3 66) s m args below meth c H locs 0 0 (MQ below (Qi Yc D T ρ A S' r) args s 0 0 A) (F0 m 162 ls []) := by
  unfold m_WS_offset_162 at h
  refine lv_iconst (v := 0) C.1 C.2.1 dX11_offset_162 (by decide) ?_
  exact w_WS_offset_163 C hr hk kk120 w (lv_sub hl [0, 1, 2, 3, 4, 5] rfl) h
set_option maxRecDepth 100000 in
set_option maxHeartbeats 4000000 in
theorem wb_WS_offset_120  {g : Nat} {S : St} {x2 : Int32} {x3 : Int32} {x4 : Int32} {x5 : Int64} {x7 : Int32} (C : CallFix p m c cX11_offset 9 s args tb RX11) (hr : meth.sig.returnType = (some .int)) (hk : meth.locks = false) {S' : St} {r : Int32} {k120 : St → Int32 → Int32 → Int32 → Int64 → Int32 → Option (St × Int32)} (kk120 : ∀ (S : St) (x2 : Int32) (x3 : Int32) (x4 : Int32) (x5 : Int64) (x7 : Int32) (H : Heap) (locs : List Loc) (ls : Array Slot), Wn Yc D T ρ S A s H locs → lv_has ls 9 [(0, .ref (ρ 8)), (2, .int x2), (3, .int x3), (4, .int x4), (5, .long x5), (7, .int x7)] → k120 S x2 x3 x4 x5 x7 = some (S', r) → W p l e (rmN 3 66) s m args below meth c H locs 0 0 (MQ below (Qi Yc D T ρ A S' r) args s 0 0 A) (F0 m 120 ls [])) (w : Wn Yc D T ρ S A s H locs) (hl : lv_has ls 9 [(0, .ref (ρ 8)), (2, .int x2), (3, .int x3), (4, .int x4), (5, .long x5), (7, .int x7)]) (h : b_WS_offset_120 g k120 S x2 x3 x4 x5 x7 = some (S', r)) : W p l e (rmN 3 66) s m args below meth c H locs 0 0 (MQ below (Qi Yc D T ρ A S' r) args s 0 0 A) (F0 m 120 ls []) := by
  unfold b_WS_offset_120 at h
  refine lv_iload C.1 C.2.1 dX11_offset_120 (lv_at hl 5 rfl) ?_
  refine lv_i2l C.1 C.2.1 dX11_offset_122 rfl ?_
  refine lv_lload C.1 C.2.1 dX11_offset_123 (lv_at hl 4 rfl) ?_
  refine x_l_le (tgt := 186) C dX11_offset_125 dX11_offset_126 (by decide) (fun hc => ?_) (fun hc => ?_)
  · replace h := iff0 hc h
    refine lv_iload C.1 C.2.1 dX11_offset_186 (lv_at hl 3 rfl) ?_
    refine lv_if_lt (tgt := 197) C.1 C.2.1 dX11_offset_188 (by decide) (fun hc => ?_) (fun hc => ?_)
    · replace h := ift hc h
      refine lv_iconst (v := 1) C.1 C.2.1 dX11_offset_197 (by decide) ?_
      refine lv_goto (tgt := 211) C.1 C.2.1 dX11_offset_198 (by decide) ?_
      obtain ⟨rfl, rfl⟩ := prI h
      exact x_iret C w hr hk dX11_offset_211
    · replace h := iff0 hc h
      refine lv_iload C.1 C.2.1 dX11_offset_191 (lv_at hl 3 rfl) ?_
      refine lv_iload_n C.1 C.2.1 dX11_offset_193 rfl (lv_at hl 1 rfl) ?_
      refine lv_icmp_le (tgt := 201) C.1 C.2.1 dX11_offset_194 (by decide) (fun hc => ?_) (fun hc => ?_)
      · replace h := ift hc h
        refine lv_aload_n C.1 C.2.1 dX11_offset_201 rfl (lv_at hl 0 rfl) ?_
        refine x_getC C w 4 fX11_9 obC8 rfl dX11_offset_202 ?_
        refine lv_iload C.1 C.2.1 dX11_offset_205 (lv_at hl 3 rfl) ?_
        refine lv_i2l C.1 C.2.1 dX11_offset_207 rfl ?_
        obtain ⟨⟨S_5, v_6⟩, hv_6, h⟩ := bnd h
        refine x_callVi (q := (RX1, TX1, 12)) (As := [.long (x4.toInt64)]) (rest := []) C w (k_Bn_giveWhole l D T ρ g H.size S hv_6) vX11_44 ⟨by decide, by decide⟩ obC4 (by decide) rfl rfl rfl hl.1 (Nat.le_of_ble_eq_true rfl) ⟨Nat.zero_le _, Nat.zero_le _⟩ dX11_offset_208 (fun H locs w => ?_)
        obtain ⟨rfl, rfl⟩ := prI h
        exact x_iret C w hr hk dX11_offset_211
      · replace h := iff0 hc h
        refine lv_iconst (v := 1) C.1 C.2.1 dX11_offset_197 (by decide) ?_
        refine lv_goto (tgt := 211) C.1 C.2.1 dX11_offset_198 (by decide) ?_
        obtain ⟨rfl, rfl⟩ := prI h
        exact x_iret C w hr hk dX11_offset_211
  · replace h := ift hc h
    refine lv_iload C.1 C.2.1 dX11_offset_129 (lv_at hl 3 rfl) ?_
    refine lv_iconst (v := 1) C.1 C.2.1 dX11_offset_131 (by decide) ?_
    refine lv_icmp_le (tgt := 162) C.1 C.2.1 dX11_offset_132 (by decide) (fun hc => ?_) (fun hc => ?_)
    · replace h := ift hc h
      exact w_WS_offset_162 C hr hk kk120 w (lv_sub hl [0, 1, 2, 3, 4, 5] rfl) h
    · replace h := iff0 hc h
      refine lv_aload_n C.1 C.2.1 dX11_offset_135 rfl (lv_at hl 0 rfl) ?_
      refine x_getC C w 5 fX11_21 obC8 rfl dX11_offset_136 ?_
      refine x_getC C w 18 fX11_116 obC5 rfl dX11_offset_139 ?_
      refine lv_iload_n C.1 C.2.1 dX11_offset_142 rfl (lv_at hl 2 rfl) ?_
      refine lv_iload C.1 C.2.1 dX11_offset_143 (lv_at hl 3 rfl) ?_
      refine lv_iadd C.1 C.2.1 dX11_offset_145 ?_
      refine lv_iconst (v := 2) C.1 C.2.1 dX11_offset_146 (by decide) ?_
      refine lv_isub C.1 C.2.1 dX11_offset_147 ?_
      refine lv_iload_n C.1 C.2.1 dX11_offset_148 rfl (lv_at hl 2 rfl) ?_
      refine lv_iload C.1 C.2.1 dX11_offset_149 (lv_at hl 3 rfl) ?_
      refine lv_iadd C.1 C.2.1 dX11_offset_151 ?_
      obtain ⟨v_7, hv_7, h⟩ := bnd h
      refine x_callVi (q := (RX6, TX6, 4)) (As := [.int ((x3 + x4) - (2 : Int32)), .int (x3 + x4)]) (rest := []) C w (k_Row_hasPair l D T ρ g H.size S obC18 hv_7) vX11_172 ⟨by decide, by decide⟩ obC18 (by decide) rfl rfl rfl hl.1 (Nat.le_of_ble_eq_true rfl) ⟨Nat.zero_le _, Nat.zero_le _⟩ dX11_offset_152 (fun H locs w => ?_)
      refine lv_if_eq (tgt := 162) C.1 C.2.1 dX11_offset_155 (by decide) (fun hc => ?_) (fun hc => ?_)
      · replace h := ift hc h
        exact w_WS_offset_162 C hr hk kk120 w (lv_sub hl [0, 1, 2, 3, 4, 5] rfl) h
      · replace h := iff0 hc h
        refine lv_iconst (v := 1) C.1 C.2.1 dX11_offset_158 (by decide) ?_
        refine lv_goto (tgt := 163) C.1 C.2.1 dX11_offset_159 (by decide) ?_
        exact w_WS_offset_163 C hr hk kk120 w (lv_sub hl [0, 1, 2, 3, 4, 5] rfl) h
theorem w_WS_offset_120 {g : Nat} (C : CallFix p m c cX11_offset 9 s args tb RX11) (hr : meth.sig.returnType = (some .int)) (hk : meth.locks = false) {S' : St} {r : Int32} (n : Nat) : ∀ (S : St) (x2 : Int32) (x3 : Int32) (x4 : Int32) (x5 : Int64) (x7 : Int32) (H : Heap) (locs : List Loc) (ls : Array Slot), Wn Yc D T ρ S A s H locs → lv_has ls 9 [(0, .ref (ρ 8)), (2, .int x2), (3, .int x3), (4, .int x4), (5, .long x5), (7, .int x7)] → m_WS_offset_120 g n S x2 x3 x4 x5 x7 = some (S', r) → W p l e (rmN 3 66) s m args below meth c H locs 0 0 (MQ below (Qi Yc D T ρ A S' r) args s 0 0 A) (F0 m 120 ls []) := by
  induction n with
  | zero => intro S x2 x3 x4 x5 x7 H locs ls w hl h; exact absurd h (fun q => by cases q)
  | succ n ih => intro S x2 x3 x4 x5 x7 H locs ls w hl h; exact wb_WS_offset_120 C hr hk ih w hl h
set_option maxRecDepth 100000 in
set_option maxHeartbeats 4000000 in
theorem wb_WS_offset_72  {g : Nat} {S : St} {x2 : Int32} {x3 : Int32} {x4 : Int32} {x5 : Int64} {x7 : Int32} (C : CallFix p m c cX11_offset 9 s args tb RX11) (hr : meth.sig.returnType = (some .int)) (hk : meth.locks = false) {S' : St} {r : Int32} {k72 : St → Int32 → Int32 → Int32 → Int64 → Int32 → Option (St × Int32)} (kk72 : ∀ (S : St) (x2 : Int32) (x3 : Int32) (x4 : Int32) (x5 : Int64) (x7 : Int32) (H : Heap) (locs : List Loc) (ls : Array Slot), Wn Yc D T ρ S A s H locs → lv_has ls 9 [(0, .ref (ρ 8)), (2, .int x2), (3, .int x3), (4, .int x4), (5, .long x5), (7, .int x7)] → k72 S x2 x3 x4 x5 x7 = some (S', r) → W p l e (rmN 3 66) s m args below meth c H locs 0 0 (MQ below (Qi Yc D T ρ A S' r) args s 0 0 A) (F0 m 72 ls [])) (w : Wn Yc D T ρ S A s H locs) (hl : lv_has ls 9 [(0, .ref (ρ 8)), (2, .int x2), (3, .int x3), (4, .int x4), (5, .long x5), (7, .int x7)]) (h : b_WS_offset_72 g k72 S x2 x3 x4 x5 x7 = some (S', r)) : W p l e (rmN 3 66) s m args below meth c H locs 0 0 (MQ below (Qi Yc D T ρ A S' r) args s 0 0 A) (F0 m 72 ls []) := by
  unfold b_WS_offset_72 at h
  refine lv_iload C.1 C.2.1 dX11_offset_72 (lv_at hl 5 rfl) ?_
  refine lv_i2l C.1 C.2.1 dX11_offset_74 rfl ?_
  refine lv_lload C.1 C.2.1 dX11_offset_75 (lv_at hl 4 rfl) ?_
  refine x_l_ge (tgt := 117) C dX11_offset_77 dX11_offset_78 (by decide) (fun hc => ?_) (fun hc => ?_)
  · replace h := iff0 hc h
    refine lv_iconst (v := 0) C.1 C.2.1 dX11_offset_117 (by decide) ?_
    refine lv_istore (lv' := [(7, .int (0 : Int32)), (0, .ref (ρ 8)), (2, .int x2), (3, .int x3), (4, .int x4), (5, .long x5)]) C.1 C.2.1 dX11_offset_118 hl (by decide) rfl (fun ls hl => ?_)
    exact w_WS_offset_120 C hr hk g _ _ _ _ _ _ _ _ _ w (lv_sub hl [1, 2, 3, 4, 5, 0] rfl) h
  · replace h := ift hc h
    refine lv_iload C.1 C.2.1 dX11_offset_81 (lv_at hl 3 rfl) ?_
    refine lv_aload_n C.1 C.2.1 dX11_offset_83 rfl (lv_at hl 0 rfl) ?_
    refine x_getC C w 5 fX11_21 obC8 rfl dX11_offset_84 ?_
    refine x_getC C w 18 fX11_116 obC5 rfl dX11_offset_87 ?_
    refine lv_iload_n C.1 C.2.1 dX11_offset_90 rfl (lv_at hl 2 rfl) ?_
    refine lv_iload C.1 C.2.1 dX11_offset_91 (lv_at hl 3 rfl) ?_
    refine lv_iadd C.1 C.2.1 dX11_offset_93 ?_
    refine lv_iload_n C.1 C.2.1 dX11_offset_94 rfl (lv_at hl 2 rfl) ?_
    refine lv_iload_n C.1 C.2.1 dX11_offset_95 rfl (lv_at hl 1 rfl) ?_
    refine lv_iadd C.1 C.2.1 dX11_offset_96 ?_
    obtain ⟨v_5, hv_5, h⟩ := bnd h
    refine x_callVi (q := (RX6, TX6, 4)) (As := [.int (x3 + x4), .int (x3 + x2)]) (rest := [.int x4]) C w (k_Row_hasPair l D T ρ g H.size S obC18 hv_5) vX11_172 ⟨by decide, by decide⟩ obC18 (by decide) rfl rfl rfl hl.1 (Nat.le_of_ble_eq_true rfl) ⟨Nat.zero_le _, Nat.zero_le _⟩ dX11_offset_97 (fun H locs w => ?_)
    refine lv_if_eq (tgt := 107) C.1 C.2.1 dX11_offset_100 (by decide) (fun hc => ?_) (fun hc => ?_)
    · replace h := ift hc h
      refine lv_iconst (v := 1) C.1 C.2.1 dX11_offset_107 (by decide) ?_
      refine lv_iadd C.1 C.2.1 dX11_offset_108 ?_
      obtain ⟨x4_6, ex4_6, h⟩ := lt_e h
      refine x_nm ex4_6 ?_
      refine lv_istore (lv' := [(4, .int x4_6), (0, .ref (ρ 8)), (2, .int x2), (3, .int x3), (5, .long x5), (7, .int x7)]) C.1 C.2.1 dX11_offset_109 hl (by decide) rfl (fun ls hl => ?_)
      obtain ⟨x7_7, ex7_7, h⟩ := lt_e h
      refine lv_iinc (v := x7_7) (lv' := [(7, .int x7_7), (4, .int x4_6), (0, .ref (ρ 8)), (2, .int x2), (3, .int x3), (5, .long x5)]) C.1 C.2.1 dX11_offset_111 hl (k := 5) rfl (by rw [ex7_7]; rfl) (by decide) rfl (fun ls hl => ?_)
      refine lv_goto (tgt := 72) C.1 C.2.1 dX11_offset_114 (by decide) ?_
      exact kk72 _ _ _ _ _ _ _ _ _ w (lv_sub hl [2, 3, 4, 1, 5, 0] rfl) h
    · replace h := iff0 hc h
      refine lv_iconst (v := 2) C.1 C.2.1 dX11_offset_103 (by decide) ?_
      refine lv_goto (tgt := 108) C.1 C.2.1 dX11_offset_104 (by decide) ?_
      refine lv_iadd C.1 C.2.1 dX11_offset_108 ?_
      obtain ⟨x4_8, ex4_8, h⟩ := lt_e h
      refine x_nm ex4_8 ?_
      refine lv_istore (lv' := [(4, .int x4_8), (0, .ref (ρ 8)), (2, .int x2), (3, .int x3), (5, .long x5), (7, .int x7)]) C.1 C.2.1 dX11_offset_109 hl (by decide) rfl (fun ls hl => ?_)
      obtain ⟨x7_9, ex7_9, h⟩ := lt_e h
      refine lv_iinc (v := x7_9) (lv' := [(7, .int x7_9), (4, .int x4_8), (0, .ref (ρ 8)), (2, .int x2), (3, .int x3), (5, .long x5)]) C.1 C.2.1 dX11_offset_111 hl (k := 5) rfl (by rw [ex7_9]; rfl) (by decide) rfl (fun ls hl => ?_)
      refine lv_goto (tgt := 72) C.1 C.2.1 dX11_offset_114 (by decide) ?_
      exact kk72 _ _ _ _ _ _ _ _ _ w (lv_sub hl [2, 3, 4, 1, 5, 0] rfl) h
theorem w_WS_offset_72 {g : Nat} (C : CallFix p m c cX11_offset 9 s args tb RX11) (hr : meth.sig.returnType = (some .int)) (hk : meth.locks = false) {S' : St} {r : Int32} (n : Nat) : ∀ (S : St) (x2 : Int32) (x3 : Int32) (x4 : Int32) (x5 : Int64) (x7 : Int32) (H : Heap) (locs : List Loc) (ls : Array Slot), Wn Yc D T ρ S A s H locs → lv_has ls 9 [(0, .ref (ρ 8)), (2, .int x2), (3, .int x3), (4, .int x4), (5, .long x5), (7, .int x7)] → m_WS_offset_72 g n S x2 x3 x4 x5 x7 = some (S', r) → W p l e (rmN 3 66) s m args below meth c H locs 0 0 (MQ below (Qi Yc D T ρ A S' r) args s 0 0 A) (F0 m 72 ls []) := by
  induction n with
  | zero => intro S x2 x3 x4 x5 x7 H locs ls w hl h; exact absurd h (fun q => by cases q)
  | succ n ih => intro S x2 x3 x4 x5 x7 H locs ls w hl h; exact wb_WS_offset_72 C hr hk ih w hl h
set_option maxRecDepth 100000 in
set_option maxHeartbeats 4000000 in
theorem w_WS_offset_0  {g : Nat} {S : St} {x1 : Int32} (C : CallFix p m c cX11_offset 9 s args tb RX11) (hr : meth.sig.returnType = (some .int)) (hk : meth.locks = false) {S' : St} {r : Int32} (w : Wn Yc D T ρ S A s H locs) (hl : lv_has ls 9 [(0, .ref (ρ 8)), (1, .int x1)]) (h : m_WS_offset g S x1 = some (S', r)) : W p l e (rmN 3 66) s m args below meth c H locs 0 0 (MQ below (Qi Yc D T ρ A S' r) args s 0 0 A) (F0 m 0 ls []) := by
  unfold m_WS_offset at h
  refine lv_aload_n C.1 C.2.1 dX11_offset_0 rfl (lv_at hl 0 rfl) ?_
  refine x_getC C w 5 fX11_21 obC8 rfl dX11_offset_1 ?_
  refine lv_iload_n C.1 C.2.1 dX11_offset_4 rfl (lv_at hl 1 rfl) ?_
  obtain ⟨v_1, hv_1, h⟩ := bnd h
  refine x_callVi (q := (RX10, TX10, 5)) (As := [.int x1]) (rest := []) C w (k_Tx_sizeOf l D T ρ g H.size S hv_1) vX11_80 ⟨by decide, by decide⟩ obC5 (by decide) rfl rfl rfl hl.1 (Nat.le_of_ble_eq_true rfl) ⟨Nat.zero_le _, Nat.zero_le _⟩ dX11_offset_5 (fun H locs w => ?_)
  refine lv_istore_n (lv' := [(2, .int v_1), (0, .ref (ρ 8)), (1, .int x1)]) C.1 C.2.1 dX11_offset_8 rfl hl (by decide) rfl (fun ls hl => ?_)
  refine lv_aload_n C.1 C.2.1 dX11_offset_9 rfl (lv_at hl 1 rfl) ?_
  refine x_getC C w 5 fX11_21 obC8 rfl dX11_offset_10 ?_
  refine lv_iload_n C.1 C.2.1 dX11_offset_13 rfl (lv_at hl 2 rfl) ?_
  obtain ⟨v_2, hv_2, h⟩ := bnd h
  refine x_callVi (q := (RX10, TX10, 5)) (As := [.int x1]) (rest := []) C w (k_Tx_startOf l D T ρ g H.size S hv_2) vX11_119 ⟨by decide, by decide⟩ obC5 (by decide) rfl rfl rfl hl.1 (Nat.le_of_ble_eq_true rfl) ⟨Nat.zero_le _, Nat.zero_le _⟩ dX11_offset_14 (fun H locs w => ?_)
  refine lv_istore_n (lv' := [(3, .int v_2), (2, .int v_1), (0, .ref (ρ 8)), (1, .int x1)]) C.1 C.2.1 dX11_offset_17 rfl hl (by decide) rfl (fun ls hl => ?_)
  refine lv_aload_n C.1 C.2.1 dX11_offset_18 rfl (lv_at hl 2 rfl) ?_
  refine x_getC C w 4 fX11_9 obC8 rfl dX11_offset_19 ?_
  refine lv_iconst (v := 2) C.1 C.2.1 dX11_offset_22 (by decide) ?_
  refine lv_iload_n C.1 C.2.1 dX11_offset_23 rfl (lv_at hl 1 rfl) ?_
  obtain ⟨v_3, hv_3, h⟩ := bnd h
  refine x_callVi (q := (RX1, TX1, 12)) (As := [.int (2 : Int32), .int v_1]) (rest := []) C w (k_Bn_placeAt l D T ρ g H.size S hv_3) vX11_136 ⟨by decide, by decide⟩ obC4 (by decide) rfl rfl rfl hl.1 (Nat.le_of_ble_eq_true rfl) ⟨Nat.zero_le _, Nat.zero_le _⟩ dX11_offset_24 (fun H locs w => ?_)
  refine lv_istore (lv' := [(4, .int v_3), (3, .int v_2), (2, .int v_1), (0, .ref (ρ 8)), (1, .int x1)]) C.1 C.2.1 dX11_offset_27 hl (by decide) rfl (fun ls hl => ?_)
  refine lv_aload_n C.1 C.2.1 dX11_offset_29 rfl (lv_at hl 3 rfl) ?_
  refine x_getC C w 4 fX11_9 obC8 rfl dX11_offset_30 ?_
  refine lv_iconst (v := 3) C.1 C.2.1 dX11_offset_33 (by decide) ?_
  obtain ⟨v_4, hv_4, h⟩ := bnd h
  refine x_callVj (q := (RX1, TX1, 12)) (As := [.int (3 : Int32)]) (rest := []) C w (k_Bn_wholeAt l D T ρ g H.size S hv_4) vX11_68 ⟨by decide, by decide⟩ obC4 (by decide) rfl rfl rfl hl.1 (Nat.le_of_ble_eq_true rfl) ⟨Nat.zero_le _, Nat.zero_le _⟩ dX11_offset_34 (fun H locs w => ?_)
  refine lv_lstore (lv' := [(5, .long v_4), (4, .int v_3), (3, .int v_2), (2, .int v_1), (0, .ref (ρ 8)), (1, .int x1)]) C.1 C.2.1 dX11_offset_37 hl (by decide) rfl (fun ls hl => ?_)
  refine lv_iload C.1 C.2.1 dX11_offset_39 (lv_at hl 1 rfl) ?_
  refine lv_if_lt (tgt := 67) C.1 C.2.1 dX11_offset_41 (by decide) (fun hc => ?_) (fun hc => ?_)
  · replace h := ift hc h
    refine lv_iconst (v := 1) C.1 C.2.1 dX11_offset_67 (by decide) ?_
    obtain ⟨rfl, rfl⟩ := prI h
    exact x_iret C w hr hk dX11_offset_68
  · replace h := iff0 hc h
    refine lv_iload C.1 C.2.1 dX11_offset_44 (lv_at hl 1 rfl) ?_
    refine lv_iload_n C.1 C.2.1 dX11_offset_46 rfl (lv_at hl 3 rfl) ?_
    refine lv_icmp_gt (tgt := 67) C.1 C.2.1 dX11_offset_47 (by decide) (fun hc => ?_) (fun hc => ?_)
    · replace h := ift hc h
      refine lv_iconst (v := 1) C.1 C.2.1 dX11_offset_67 (by decide) ?_
      obtain ⟨rfl, rfl⟩ := prI h
      exact x_iret C w hr hk dX11_offset_68
    · replace h := iff0 hc h
      refine lv_lload C.1 C.2.1 dX11_offset_50 (lv_at hl 0 rfl) ?_
      refine lv_iload_n C.1 C.2.1 dX11_offset_52 rfl (lv_at hl 3 rfl) ?_
      refine lv_i2l C.1 C.2.1 dX11_offset_53 rfl ?_
      refine x_l_gt (tgt := 67) C dX11_offset_54 dX11_offset_55 (by decide) (fun hc => ?_) (fun hc => ?_)
      · replace h := ift hc h
        refine lv_iconst (v := 1) C.1 C.2.1 dX11_offset_67 (by decide) ?_
        obtain ⟨rfl, rfl⟩ := prI h
        exact x_iret C w hr hk dX11_offset_68
      · replace h := iff0 hc h
        refine lv_lload C.1 C.2.1 dX11_offset_58 (lv_at hl 0 rfl) ?_
        refine lv_iload_n C.1 C.2.1 dX11_offset_60 rfl (lv_at hl 3 rfl) ?_
        refine lv_ineg C.1 C.2.1 dX11_offset_61 ?_
        refine lv_i2l C.1 C.2.1 dX11_offset_62 rfl ?_
        refine x_l_ge (tgt := 69) C dX11_offset_63 dX11_offset_64 (by decide) (fun hc => ?_) (fun hc => ?_)
        · replace h := iff0 hc h
          refine lv_iconst (v := 0) C.1 C.2.1 dX11_offset_69 (by decide) ?_
          refine lv_istore (lv' := [(7, .int (0 : Int32)), (5, .long v_4), (4, .int v_3), (3, .int v_2), (2, .int v_1), (0, .ref (ρ 8)), (1, .int x1)]) C.1 C.2.1 dX11_offset_70 hl (by decide) rfl (fun ls hl => ?_)
          exact w_WS_offset_72 C hr hk g _ _ _ _ _ _ _ _ _ w (lv_sub hl [5, 4, 3, 2, 1, 0] rfl) h
        · replace h := ift hc h
          refine lv_iconst (v := 1) C.1 C.2.1 dX11_offset_67 (by decide) ?_
          obtain ⟨rfl, rfl⟩ := prI h
          exact x_iret C w hr hk dX11_offset_68
end S_WS_offset
set_option maxRecDepth 100000 in
theorem k_WS_offset (l : Launch) (D : va_G) (T : Cy) (ρ : Nat → Nat) (g sz : Nat) (S : St) {x1 : Int32} {S' : St} {r : Int32} (h : m_WS_offset g S x1 = some (S', r)) : Mi l Yc D T ρ yX11_offset cX11_offset 9 (some .int) 3 66 S S' r [.ref (ρ 8), .int x1] sz :=
  x_in (by decide) (Nat.le_of_ble_eq_true rfl) (fun p e s m below meth c ls C hr hk w hl => w_WS_offset_0 C hr hk w hl h)

theorem dX11_find_0 : decode cX11_find 0 = .ok (.aload_n 0, 1) := by decide +kernel
theorem dX11_find_1 : decode cX11_find 1 = .ok (.getfield 21, 3) := by decide +kernel
theorem dX11_find_4 : decode cX11_find 4 = .ok (.iload_n 1, 1) := by decide +kernel
theorem dX11_find_5 : decode cX11_find 5 = .ok (.invokevirtual 80, 3) := by decide +kernel
theorem dX11_find_8 : decode cX11_find 8 = .ok (.istore_n 3, 1) := by decide +kernel
theorem dX11_find_9 : decode cX11_find 9 = .ok (.iconst 0, 1) := by decide +kernel
theorem dX11_find_10 : decode cX11_find 10 = .ok (.aload_n 0, 1) := by decide +kernel
theorem dX11_find_11 : decode cX11_find 11 = .ok (.getfield 9, 3) := by decide +kernel
theorem dX11_find_14 : decode cX11_find 14 = .ok (.iconst 3, 1) := by decide +kernel
theorem dX11_find_15 : decode cX11_find 15 = .ok (.iload_n 3, 1) := by decide +kernel
theorem dX11_find_16 : decode cX11_find 16 = .ok (.invokevirtual 136, 3) := by decide +kernel
theorem dX11_find_19 : decode cX11_find 19 = .ok (.invokestatic 181, 3) := by decide +kernel
theorem dX11_find_22 : decode cX11_find 22 = .ok (.istore 4, 2) := by decide +kernel
theorem dX11_find_24 : decode cX11_find 24 = .ok (.aload_n 0, 1) := by decide +kernel
theorem dX11_find_25 : decode cX11_find 25 = .ok (.getfield 21, 3) := by decide +kernel
theorem dX11_find_28 : decode cX11_find 28 = .ok (.iload_n 2, 1) := by decide +kernel
theorem dX11_find_29 : decode cX11_find 29 = .ok (.invokevirtual 80, 3) := by decide +kernel
theorem dX11_find_32 : decode cX11_find 32 = .ok (.ifCond .ne 18, 3) := by decide +kernel
theorem dX11_find_35 : decode cX11_find 35 = .ok (.aload_n 0, 1) := by decide +kernel
theorem dX11_find_36 : decode cX11_find 36 = .ok (.getfield 9, 3) := by decide +kernel
theorem dX11_find_39 : decode cX11_find 39 = .ok (.iload 4, 2) := by decide +kernel
theorem dX11_find_41 : decode cX11_find 41 = .ok (.iload_n 3, 1) := by decide +kernel
theorem dX11_find_42 : decode cX11_find 42 = .ok (.invokestatic 186, 3) := by decide +kernel
theorem dX11_find_45 : decode cX11_find 45 = .ok (.i2l, 1) := by decide +kernel
theorem dX11_find_46 : decode cX11_find 46 = .ok (.invokevirtual 44, 3) := by decide +kernel
theorem dX11_find_49 : decode cX11_find 49 = .ok (.ireturn, 1) := by decide +kernel
theorem dX11_find_50 : decode cX11_find 50 = .ok (.iload 4, 2) := by decide +kernel
theorem dX11_find_52 : decode cX11_find 52 = .ok (.istore 5, 2) := by decide +kernel
theorem dX11_find_54 : decode cX11_find 54 = .ok (.iload 5, 2) := by decide +kernel
theorem dX11_find_56 : decode cX11_find 56 = .ok (.iload_n 3, 1) := by decide +kernel
theorem dX11_find_57 : decode cX11_find 57 = .ok (.if_icmp .ge 34, 3) := by decide +kernel
theorem dX11_find_60 : decode cX11_find 60 = .ok (.aload_n 0, 1) := by decide +kernel
theorem dX11_find_61 : decode cX11_find 61 = .ok (.getfield 21, 3) := by decide +kernel
theorem dX11_find_64 : decode cX11_find 64 = .ok (.iload_n 2, 1) := by decide +kernel
theorem dX11_find_65 : decode cX11_find 65 = .ok (.iload 5, 2) := by decide +kernel
theorem dX11_find_67 : decode cX11_find 67 = .ok (.iload_n 1, 1) := by decide +kernel
theorem dX11_find_68 : decode cX11_find 68 = .ok (.invokevirtual 139, 3) := by decide +kernel
theorem dX11_find_71 : decode cX11_find 71 = .ok (.ifCond .eq 14, 3) := by decide +kernel
theorem dX11_find_74 : decode cX11_find 74 = .ok (.aload_n 0, 1) := by decide +kernel
theorem dX11_find_75 : decode cX11_find 75 = .ok (.getfield 9, 3) := by decide +kernel
theorem dX11_find_78 : decode cX11_find 78 = .ok (.iload 5, 2) := by decide +kernel
theorem dX11_find_80 : decode cX11_find 80 = .ok (.i2l, 1) := by decide +kernel
theorem dX11_find_81 : decode cX11_find 81 = .ok (.invokevirtual 44, 3) := by decide +kernel
theorem dX11_find_84 : decode cX11_find 84 = .ok (.ireturn, 1) := by decide +kernel
theorem dX11_find_85 : decode cX11_find 85 = .ok (.iinc 5 1, 3) := by decide +kernel
theorem dX11_find_88 : decode cX11_find 88 = .ok (.goto (-34), 3) := by decide +kernel
theorem dX11_find_91 : decode cX11_find 91 = .ok (.aload_n 0, 1) := by decide +kernel
theorem dX11_find_92 : decode cX11_find 92 = .ok (.getfield 9, 3) := by decide +kernel
theorem dX11_find_95 : decode cX11_find 95 = .ok (.ldc2_w 189, 3) := by decide +kernel
theorem dX11_find_98 : decode cX11_find 98 = .ok (.invokevirtual 44, 3) := by decide +kernel
theorem dX11_find_101 : decode cX11_find 101 = .ok (.ireturn, 1) := by decide +kernel
def b_WS_find_54 (g : Nat) (k54 : St → Int32 → Int32 → Int32 → Int32 → Option (St × Int32)) (S : St) (x1 : Int32) (x2 : Int32) (x3 : Int32) (x5 : Int32) : Option (St × Int32) :=
if x3 ≤ x5 then (
  (m_Bn_giveWhole g S (-1 : Int64)).bind fun (S_5, v_6) =>
  some (S_5, v_6)
) else (
  (m_Tx_stands g S x2 x5 x1).bind fun v_7 =>
  if v_7 = 0 then (
    lt (x5 + (1 : Int32)) fun x5_8 =>
    k54 S x1 x2 x3 x5_8
  ) else (
    (m_Bn_giveWhole g S (x5.toInt64)).bind fun (S_9, v_10) =>
    some (S_9, v_10)
  )
)
def m_WS_find_54 (g : Nat) : Nat → St → Int32 → Int32 → Int32 → Int32 → Option (St × Int32)
  | 0, _, _, _, _, _ => none
  | n + 1, S, x1, x2, x3, x5 => b_WS_find_54 g (m_WS_find_54 g n) S x1 x2 x3 x5
def m_WS_find (g : Nat) (S : St) (x1 : Int32) (x2 : Int32) : Option (St × Int32) :=
(m_Tx_sizeOf g S x1).bind fun v_1 =>
(m_Bn_placeAt g S (3 : Int32) v_1).bind fun v_2 =>
lt (maxI (0 : Int32) v_2) fun x4_3 =>
(m_Tx_sizeOf g S x2).bind fun v_4 =>
if v_4 = 0 then (
  (m_Bn_giveWhole g S ((minI x4_3 v_1).toInt64)).bind fun (S_5, v_6) =>
  some (S_5, v_6)
) else (
  m_WS_find_54 g g S x1 x2 v_1 x4_3
)
section S_WS_find
variable {p : Program} {l : Launch} {e : Env} {s : State} {m : MethodId} {args : Array Value} {below : List Frame} {meth : Method} {c : Code} {H : Heap} {locs : List Loc} {ls : Array Slot} {D : va_G} {T : Cy} {ρ : Nat → Nat} {A : Nat → Prop}
set_option maxRecDepth 100000 in
set_option maxHeartbeats 4000000 in
theorem wb_WS_find_54  {g : Nat} {S : St} {x1 : Int32} {x2 : Int32} {x3 : Int32} {x5 : Int32} (C : CallFix p m c cX11_find 6 s args tb RX11) (hr : meth.sig.returnType = (some .int)) (hk : meth.locks = false) {S' : St} {r : Int32} {k54 : St → Int32 → Int32 → Int32 → Int32 → Option (St × Int32)} (kk54 : ∀ (S : St) (x1 : Int32) (x2 : Int32) (x3 : Int32) (x5 : Int32) (H : Heap) (locs : List Loc) (ls : Array Slot), Wn Yc D T ρ S A s H locs → lv_has ls 6 [(0, .ref (ρ 8)), (1, .int x1), (2, .int x2), (3, .int x3), (5, .int x5)] → k54 S x1 x2 x3 x5 = some (S', r) → W p l e (rmN 3 66) s m args below meth c H locs 0 0 (MQ below (Qi Yc D T ρ A S' r) args s 0 0 A) (F0 m 54 ls [])) (w : Wn Yc D T ρ S A s H locs) (hl : lv_has ls 6 [(0, .ref (ρ 8)), (1, .int x1), (2, .int x2), (3, .int x3), (5, .int x5)]) (h : b_WS_find_54 g k54 S x1 x2 x3 x5 = some (S', r)) : W p l e (rmN 3 66) s m args below meth c H locs 0 0 (MQ below (Qi Yc D T ρ A S' r) args s 0 0 A) (F0 m 54 ls []) := by
  unfold b_WS_find_54 at h
  refine lv_iload C.1 C.2.1 dX11_find_54 (lv_at hl 4 rfl) ?_
  refine lv_iload_n C.1 C.2.1 dX11_find_56 rfl (lv_at hl 3 rfl) ?_
  refine lv_icmp_ge (tgt := 91) C.1 C.2.1 dX11_find_57 (by decide) (fun hc => ?_) (fun hc => ?_)
  · replace h := ift hc h
    refine lv_aload_n C.1 C.2.1 dX11_find_91 rfl (lv_at hl 0 rfl) ?_
    refine x_getC C w 4 fX11_9 obC8 rfl dX11_find_92 ?_
    refine lv_ldc2 C.1 C.2.1 C.2.2.2.1 (C.2.2.2.2 _ nX11_189) dX11_find_95 ?_
    obtain ⟨⟨S_5, v_6⟩, hv_6, h⟩ := bnd h
    refine x_callVi (q := (RX1, TX1, 12)) (As := [.long (-1 : Int64)]) (rest := []) C w (k_Bn_giveWhole l D T ρ g H.size S hv_6) vX11_44 ⟨by decide, by decide⟩ obC4 (by decide) rfl rfl rfl hl.1 (Nat.le_of_ble_eq_true rfl) ⟨Nat.zero_le _, Nat.zero_le _⟩ dX11_find_98 (fun H locs w => ?_)
    obtain ⟨rfl, rfl⟩ := prI h
    exact x_iret C w hr hk dX11_find_101
  · replace h := iff0 hc h
    refine lv_aload_n C.1 C.2.1 dX11_find_60 rfl (lv_at hl 0 rfl) ?_
    refine x_getC C w 5 fX11_21 obC8 rfl dX11_find_61 ?_
    refine lv_iload_n C.1 C.2.1 dX11_find_64 rfl (lv_at hl 2 rfl) ?_
    refine lv_iload C.1 C.2.1 dX11_find_65 (lv_at hl 4 rfl) ?_
    refine lv_iload_n C.1 C.2.1 dX11_find_67 rfl (lv_at hl 1 rfl) ?_
    obtain ⟨v_7, hv_7, h⟩ := bnd h
    refine x_callVi (q := (RX10, TX10, 5)) (As := [.int x2, .int x5, .int x1]) (rest := []) C w (k_Tx_stands l D T ρ g H.size S hv_7) vX11_139 ⟨by decide, by decide⟩ obC5 (by decide) rfl rfl rfl hl.1 (Nat.le_of_ble_eq_true rfl) ⟨Nat.zero_le _, Nat.zero_le _⟩ dX11_find_68 (fun H locs w => ?_)
    refine lv_if_eq (tgt := 85) C.1 C.2.1 dX11_find_71 (by decide) (fun hc => ?_) (fun hc => ?_)
    · replace h := ift hc h
      obtain ⟨x5_8, ex5_8, h⟩ := lt_e h
      refine lv_iinc (v := x5_8) (lv' := [(5, .int x5_8), (0, .ref (ρ 8)), (1, .int x1), (2, .int x2), (3, .int x3)]) C.1 C.2.1 dX11_find_85 hl (k := 4) rfl (by rw [ex5_8]; rfl) (by decide) rfl (fun ls hl => ?_)
      refine lv_goto (tgt := 54) C.1 C.2.1 dX11_find_88 (by decide) ?_
      exact kk54 _ _ _ _ _ _ _ _ w (lv_sub hl [1, 2, 3, 4, 0] rfl) h
    · replace h := iff0 hc h
      refine lv_aload_n C.1 C.2.1 dX11_find_74 rfl (lv_at hl 0 rfl) ?_
      refine x_getC C w 4 fX11_9 obC8 rfl dX11_find_75 ?_
      refine lv_iload C.1 C.2.1 dX11_find_78 (lv_at hl 4 rfl) ?_
      refine lv_i2l C.1 C.2.1 dX11_find_80 rfl ?_
      obtain ⟨⟨S_9, v_10⟩, hv_10, h⟩ := bnd h
      refine x_callVi (q := (RX1, TX1, 12)) (As := [.long (x5.toInt64)]) (rest := []) C w (k_Bn_giveWhole l D T ρ g H.size S hv_10) vX11_44 ⟨by decide, by decide⟩ obC4 (by decide) rfl rfl rfl hl.1 (Nat.le_of_ble_eq_true rfl) ⟨Nat.zero_le _, Nat.zero_le _⟩ dX11_find_81 (fun H locs w => ?_)
      obtain ⟨rfl, rfl⟩ := prI h
      exact x_iret C w hr hk dX11_find_84
theorem w_WS_find_54 {g : Nat} (C : CallFix p m c cX11_find 6 s args tb RX11) (hr : meth.sig.returnType = (some .int)) (hk : meth.locks = false) {S' : St} {r : Int32} (n : Nat) : ∀ (S : St) (x1 : Int32) (x2 : Int32) (x3 : Int32) (x5 : Int32) (H : Heap) (locs : List Loc) (ls : Array Slot), Wn Yc D T ρ S A s H locs → lv_has ls 6 [(0, .ref (ρ 8)), (1, .int x1), (2, .int x2), (3, .int x3), (5, .int x5)] → m_WS_find_54 g n S x1 x2 x3 x5 = some (S', r) → W p l e (rmN 3 66) s m args below meth c H locs 0 0 (MQ below (Qi Yc D T ρ A S' r) args s 0 0 A) (F0 m 54 ls []) := by
  induction n with
  | zero => intro S x1 x2 x3 x5 H locs ls w hl h; exact absurd h (fun q => by cases q)
  | succ n ih => intro S x1 x2 x3 x5 H locs ls w hl h; exact wb_WS_find_54 C hr hk ih w hl h
set_option maxRecDepth 100000 in
set_option maxHeartbeats 4000000 in
theorem w_WS_find_0  {g : Nat} {S : St} {x1 : Int32} {x2 : Int32} (C : CallFix p m c cX11_find 6 s args tb RX11) (hr : meth.sig.returnType = (some .int)) (hk : meth.locks = false) {S' : St} {r : Int32} (w : Wn Yc D T ρ S A s H locs) (hl : lv_has ls 6 [(0, .ref (ρ 8)), (1, .int x1), (2, .int x2)]) (h : m_WS_find g S x1 x2 = some (S', r)) : W p l e (rmN 3 66) s m args below meth c H locs 0 0 (MQ below (Qi Yc D T ρ A S' r) args s 0 0 A) (F0 m 0 ls []) := by
  unfold m_WS_find at h
  refine lv_aload_n C.1 C.2.1 dX11_find_0 rfl (lv_at hl 0 rfl) ?_
  refine x_getC C w 5 fX11_21 obC8 rfl dX11_find_1 ?_
  refine lv_iload_n C.1 C.2.1 dX11_find_4 rfl (lv_at hl 1 rfl) ?_
  obtain ⟨v_1, hv_1, h⟩ := bnd h
  refine x_callVi (q := (RX10, TX10, 5)) (As := [.int x1]) (rest := []) C w (k_Tx_sizeOf l D T ρ g H.size S hv_1) vX11_80 ⟨by decide, by decide⟩ obC5 (by decide) rfl rfl rfl hl.1 (Nat.le_of_ble_eq_true rfl) ⟨Nat.zero_le _, Nat.zero_le _⟩ dX11_find_5 (fun H locs w => ?_)
  refine lv_istore_n (lv' := [(3, .int v_1), (0, .ref (ρ 8)), (1, .int x1), (2, .int x2)]) C.1 C.2.1 dX11_find_8 rfl hl (by decide) rfl (fun ls hl => ?_)
  refine lv_iconst (v := 0) C.1 C.2.1 dX11_find_9 (by decide) ?_
  refine lv_aload_n C.1 C.2.1 dX11_find_10 rfl (lv_at hl 1 rfl) ?_
  refine x_getC C w 4 fX11_9 obC8 rfl dX11_find_11 ?_
  refine lv_iconst (v := 3) C.1 C.2.1 dX11_find_14 (by decide) ?_
  refine lv_iload_n C.1 C.2.1 dX11_find_15 rfl (lv_at hl 0 rfl) ?_
  obtain ⟨v_2, hv_2, h⟩ := bnd h
  refine x_callVi (q := (RX1, TX1, 12)) (As := [.int (3 : Int32), .int v_1]) (rest := [.int (0 : Int32)]) C w (k_Bn_placeAt l D T ρ g H.size S hv_2) vX11_136 ⟨by decide, by decide⟩ obC4 (by decide) rfl rfl rfl hl.1 (Nat.le_of_ble_eq_true rfl) ⟨Nat.zero_le _, Nat.zero_le _⟩ dX11_find_16 (fun H locs w => ?_)
  refine x_maxI C hl.1 vX11_181.1 ⟨by decide, by decide⟩ (Nat.le_of_ble_eq_true rfl) ⟨Nat.zero_le _, Nat.zero_le _⟩ dX11_find_19 ?_
  obtain ⟨x4_3, ex4_3, h⟩ := lt_e h
  refine x_nm ex4_3 ?_
  refine lv_istore (lv' := [(4, .int x4_3), (3, .int v_1), (0, .ref (ρ 8)), (1, .int x1), (2, .int x2)]) C.1 C.2.1 dX11_find_22 hl (by decide) rfl (fun ls hl => ?_)
  refine lv_aload_n C.1 C.2.1 dX11_find_24 rfl (lv_at hl 2 rfl) ?_
  refine x_getC C w 5 fX11_21 obC8 rfl dX11_find_25 ?_
  refine lv_iload_n C.1 C.2.1 dX11_find_28 rfl (lv_at hl 4 rfl) ?_
  obtain ⟨v_4, hv_4, h⟩ := bnd h
  refine x_callVi (q := (RX10, TX10, 5)) (As := [.int x2]) (rest := []) C w (k_Tx_sizeOf l D T ρ g H.size S hv_4) vX11_80 ⟨by decide, by decide⟩ obC5 (by decide) rfl rfl rfl hl.1 (Nat.le_of_ble_eq_true rfl) ⟨Nat.zero_le _, Nat.zero_le _⟩ dX11_find_29 (fun H locs w => ?_)
  refine lv_if_ne (tgt := 50) C.1 C.2.1 dX11_find_32 (by decide) (fun hc => ?_) (fun hc => ?_)
  · replace h := iff0 hc h
    refine lv_iload C.1 C.2.1 dX11_find_50 (lv_at hl 0 rfl) ?_
    refine lv_istore (lv' := [(5, .int x4_3), (4, .int x4_3), (3, .int v_1), (0, .ref (ρ 8)), (1, .int x1), (2, .int x2)]) C.1 C.2.1 dX11_find_52 hl (by decide) rfl (fun ls hl => ?_)
    exact w_WS_find_54 C hr hk g _ _ _ _ _ _ _ _ w (lv_sub hl [3, 4, 5, 2, 0] rfl) h
  · replace h := ift hc h
    refine lv_aload_n C.1 C.2.1 dX11_find_35 rfl (lv_at hl 2 rfl) ?_
    refine x_getC C w 4 fX11_9 obC8 rfl dX11_find_36 ?_
    refine lv_iload C.1 C.2.1 dX11_find_39 (lv_at hl 0 rfl) ?_
    refine lv_iload_n C.1 C.2.1 dX11_find_41 rfl (lv_at hl 1 rfl) ?_
    refine x_minI C hl.1 vX11_186.1 ⟨by decide, by decide⟩ (Nat.le_of_ble_eq_true rfl) ⟨Nat.zero_le _, Nat.zero_le _⟩ dX11_find_42 ?_
    refine lv_i2l C.1 C.2.1 dX11_find_45 rfl ?_
    obtain ⟨⟨S_5, v_6⟩, hv_6, h⟩ := bnd h
    refine x_callVi (q := (RX1, TX1, 12)) (As := [.long ((minI x4_3 v_1).toInt64)]) (rest := []) C w (k_Bn_giveWhole l D T ρ g H.size S hv_6) vX11_44 ⟨by decide, by decide⟩ obC4 (by decide) rfl rfl rfl hl.1 (Nat.le_of_ble_eq_true rfl) ⟨Nat.zero_le _, Nat.zero_le _⟩ dX11_find_46 (fun H locs w => ?_)
    obtain ⟨rfl, rfl⟩ := prI h
    exact x_iret C w hr hk dX11_find_49
end S_WS_find
set_option maxRecDepth 100000 in
theorem k_WS_find (l : Launch) (D : va_G) (T : Cy) (ρ : Nat → Nat) (g sz : Nat) (S : St) {x1 : Int32} {x2 : Int32} {S' : St} {r : Int32} (h : m_WS_find g S x1 x2 = some (S', r)) : Mi l Yc D T ρ yX11_find cX11_find 6 (some .int) 3 66 S S' r [.ref (ρ 8), .int x1, .int x2] sz :=
  x_in (by decide) (Nat.le_of_ble_eq_true rfl) (fun p e s m below meth c ls C hr hk w hl => w_WS_find_0 C hr hk w hl h)

theorem dX11_findLast_0 : decode cX11_findLast 0 = .ok (.aload_n 0, 1) := by decide +kernel
theorem dX11_findLast_1 : decode cX11_findLast 1 = .ok (.getfield 9, 3) := by decide +kernel
theorem dX11_findLast_4 : decode cX11_findLast 4 = .ok (.iconst 3, 1) := by decide +kernel
theorem dX11_findLast_5 : decode cX11_findLast 5 = .ok (.aload_n 0, 1) := by decide +kernel
theorem dX11_findLast_6 : decode cX11_findLast 6 = .ok (.getfield 21, 3) := by decide +kernel
theorem dX11_findLast_9 : decode cX11_findLast 9 = .ok (.iload_n 1, 1) := by decide +kernel
theorem dX11_findLast_10 : decode cX11_findLast 10 = .ok (.invokevirtual 80, 3) := by decide +kernel
theorem dX11_findLast_13 : decode cX11_findLast 13 = .ok (.invokevirtual 136, 3) := by decide +kernel
theorem dX11_findLast_16 : decode cX11_findLast 16 = .ok (.istore_n 3, 1) := by decide +kernel
theorem dX11_findLast_17 : decode cX11_findLast 17 = .ok (.iload_n 3, 1) := by decide +kernel
theorem dX11_findLast_18 : decode cX11_findLast 18 = .ok (.ifCond .lt 32, 3) := by decide +kernel
theorem dX11_findLast_21 : decode cX11_findLast 21 = .ok (.aload_n 0, 1) := by decide +kernel
theorem dX11_findLast_22 : decode cX11_findLast 22 = .ok (.getfield 21, 3) := by decide +kernel
theorem dX11_findLast_25 : decode cX11_findLast 25 = .ok (.iload_n 2, 1) := by decide +kernel
theorem dX11_findLast_26 : decode cX11_findLast 26 = .ok (.iload_n 3, 1) := by decide +kernel
theorem dX11_findLast_27 : decode cX11_findLast 27 = .ok (.iload_n 1, 1) := by decide +kernel
theorem dX11_findLast_28 : decode cX11_findLast 28 = .ok (.invokevirtual 139, 3) := by decide +kernel
theorem dX11_findLast_31 : decode cX11_findLast 31 = .ok (.ifCond .eq 13, 3) := by decide +kernel
theorem dX11_findLast_34 : decode cX11_findLast 34 = .ok (.aload_n 0, 1) := by decide +kernel
theorem dX11_findLast_35 : decode cX11_findLast 35 = .ok (.getfield 9, 3) := by decide +kernel
theorem dX11_findLast_38 : decode cX11_findLast 38 = .ok (.iload_n 3, 1) := by decide +kernel
theorem dX11_findLast_39 : decode cX11_findLast 39 = .ok (.i2l, 1) := by decide +kernel
theorem dX11_findLast_40 : decode cX11_findLast 40 = .ok (.invokevirtual 44, 3) := by decide +kernel
theorem dX11_findLast_43 : decode cX11_findLast 43 = .ok (.ireturn, 1) := by decide +kernel
theorem dX11_findLast_44 : decode cX11_findLast 44 = .ok (.iinc 3 (-1), 3) := by decide +kernel
theorem dX11_findLast_47 : decode cX11_findLast 47 = .ok (.goto (-30), 3) := by decide +kernel
theorem dX11_findLast_50 : decode cX11_findLast 50 = .ok (.aload_n 0, 1) := by decide +kernel
theorem dX11_findLast_51 : decode cX11_findLast 51 = .ok (.getfield 9, 3) := by decide +kernel
theorem dX11_findLast_54 : decode cX11_findLast 54 = .ok (.ldc2_w 189, 3) := by decide +kernel
theorem dX11_findLast_57 : decode cX11_findLast 57 = .ok (.invokevirtual 44, 3) := by decide +kernel
theorem dX11_findLast_60 : decode cX11_findLast 60 = .ok (.ireturn, 1) := by decide +kernel
def b_WS_findLast_17 (g : Nat) (k17 : St → Int32 → Int32 → Int32 → Option (St × Int32)) (S : St) (x1 : Int32) (x2 : Int32) (x3 : Int32) : Option (St × Int32) :=
if x3 < 0 then (
  (m_Bn_giveWhole g S (-1 : Int64)).bind fun (S_3, v_4) =>
  some (S_3, v_4)
) else (
  (m_Tx_stands g S x2 x3 x1).bind fun v_5 =>
  if v_5 = 0 then (
    lt (x3 + (-1 : Int32)) fun x3_6 =>
    k17 S x1 x2 x3_6
  ) else (
    (m_Bn_giveWhole g S (x3.toInt64)).bind fun (S_7, v_8) =>
    some (S_7, v_8)
  )
)
def m_WS_findLast_17 (g : Nat) : Nat → St → Int32 → Int32 → Int32 → Option (St × Int32)
  | 0, _, _, _, _ => none
  | n + 1, S, x1, x2, x3 => b_WS_findLast_17 g (m_WS_findLast_17 g n) S x1 x2 x3
def m_WS_findLast (g : Nat) (S : St) (x1 : Int32) (x2 : Int32) : Option (St × Int32) :=
(m_Tx_sizeOf g S x1).bind fun v_1 =>
(m_Bn_placeAt g S (3 : Int32) v_1).bind fun v_2 =>
m_WS_findLast_17 g g S x1 x2 v_2
section S_WS_findLast
variable {p : Program} {l : Launch} {e : Env} {s : State} {m : MethodId} {args : Array Value} {below : List Frame} {meth : Method} {c : Code} {H : Heap} {locs : List Loc} {ls : Array Slot} {D : va_G} {T : Cy} {ρ : Nat → Nat} {A : Nat → Prop}
set_option maxRecDepth 100000 in
set_option maxHeartbeats 4000000 in
theorem wb_WS_findLast_17  {g : Nat} {S : St} {x1 : Int32} {x2 : Int32} {x3 : Int32} (C : CallFix p m c cX11_findLast 4 s args tb RX11) (hr : meth.sig.returnType = (some .int)) (hk : meth.locks = false) {S' : St} {r : Int32} {k17 : St → Int32 → Int32 → Int32 → Option (St × Int32)} (kk17 : ∀ (S : St) (x1 : Int32) (x2 : Int32) (x3 : Int32) (H : Heap) (locs : List Loc) (ls : Array Slot), Wn Yc D T ρ S A s H locs → lv_has ls 4 [(0, .ref (ρ 8)), (1, .int x1), (2, .int x2), (3, .int x3)] → k17 S x1 x2 x3 = some (S', r) → W p l e (rmN 3 66) s m args below meth c H locs 0 0 (MQ below (Qi Yc D T ρ A S' r) args s 0 0 A) (F0 m 17 ls [])) (w : Wn Yc D T ρ S A s H locs) (hl : lv_has ls 4 [(0, .ref (ρ 8)), (1, .int x1), (2, .int x2), (3, .int x3)]) (h : b_WS_findLast_17 g k17 S x1 x2 x3 = some (S', r)) : W p l e (rmN 3 66) s m args below meth c H locs 0 0 (MQ below (Qi Yc D T ρ A S' r) args s 0 0 A) (F0 m 17 ls []) := by
  unfold b_WS_findLast_17 at h
  refine lv_iload_n C.1 C.2.1 dX11_findLast_17 rfl (lv_at hl 3 rfl) ?_
  refine lv_if_lt (tgt := 50) C.1 C.2.1 dX11_findLast_18 (by decide) (fun hc => ?_) (fun hc => ?_)
  · replace h := ift hc h
    refine lv_aload_n C.1 C.2.1 dX11_findLast_50 rfl (lv_at hl 0 rfl) ?_
    refine x_getC C w 4 fX11_9 obC8 rfl dX11_findLast_51 ?_
    refine lv_ldc2 C.1 C.2.1 C.2.2.2.1 (C.2.2.2.2 _ nX11_189) dX11_findLast_54 ?_
    obtain ⟨⟨S_3, v_4⟩, hv_4, h⟩ := bnd h
    refine x_callVi (q := (RX1, TX1, 12)) (As := [.long (-1 : Int64)]) (rest := []) C w (k_Bn_giveWhole l D T ρ g H.size S hv_4) vX11_44 ⟨by decide, by decide⟩ obC4 (by decide) rfl rfl rfl hl.1 (Nat.le_of_ble_eq_true rfl) ⟨Nat.zero_le _, Nat.zero_le _⟩ dX11_findLast_57 (fun H locs w => ?_)
    obtain ⟨rfl, rfl⟩ := prI h
    exact x_iret C w hr hk dX11_findLast_60
  · replace h := iff0 hc h
    refine lv_aload_n C.1 C.2.1 dX11_findLast_21 rfl (lv_at hl 0 rfl) ?_
    refine x_getC C w 5 fX11_21 obC8 rfl dX11_findLast_22 ?_
    refine lv_iload_n C.1 C.2.1 dX11_findLast_25 rfl (lv_at hl 2 rfl) ?_
    refine lv_iload_n C.1 C.2.1 dX11_findLast_26 rfl (lv_at hl 3 rfl) ?_
    refine lv_iload_n C.1 C.2.1 dX11_findLast_27 rfl (lv_at hl 1 rfl) ?_
    obtain ⟨v_5, hv_5, h⟩ := bnd h
    refine x_callVi (q := (RX10, TX10, 5)) (As := [.int x2, .int x3, .int x1]) (rest := []) C w (k_Tx_stands l D T ρ g H.size S hv_5) vX11_139 ⟨by decide, by decide⟩ obC5 (by decide) rfl rfl rfl hl.1 (Nat.le_of_ble_eq_true rfl) ⟨Nat.zero_le _, Nat.zero_le _⟩ dX11_findLast_28 (fun H locs w => ?_)
    refine lv_if_eq (tgt := 44) C.1 C.2.1 dX11_findLast_31 (by decide) (fun hc => ?_) (fun hc => ?_)
    · replace h := ift hc h
      obtain ⟨x3_6, ex3_6, h⟩ := lt_e h
      refine lv_iinc (v := x3_6) (lv' := [(3, .int x3_6), (0, .ref (ρ 8)), (1, .int x1), (2, .int x2)]) C.1 C.2.1 dX11_findLast_44 hl (k := 3) rfl (by rw [ex3_6]; rfl) (by decide) rfl (fun ls hl => ?_)
      refine lv_goto (tgt := 17) C.1 C.2.1 dX11_findLast_47 (by decide) ?_
      exact kk17 _ _ _ _ _ _ _ w (lv_sub hl [1, 2, 3, 0] rfl) h
    · replace h := iff0 hc h
      refine lv_aload_n C.1 C.2.1 dX11_findLast_34 rfl (lv_at hl 0 rfl) ?_
      refine x_getC C w 4 fX11_9 obC8 rfl dX11_findLast_35 ?_
      refine lv_iload_n C.1 C.2.1 dX11_findLast_38 rfl (lv_at hl 3 rfl) ?_
      refine lv_i2l C.1 C.2.1 dX11_findLast_39 rfl ?_
      obtain ⟨⟨S_7, v_8⟩, hv_8, h⟩ := bnd h
      refine x_callVi (q := (RX1, TX1, 12)) (As := [.long (x3.toInt64)]) (rest := []) C w (k_Bn_giveWhole l D T ρ g H.size S hv_8) vX11_44 ⟨by decide, by decide⟩ obC4 (by decide) rfl rfl rfl hl.1 (Nat.le_of_ble_eq_true rfl) ⟨Nat.zero_le _, Nat.zero_le _⟩ dX11_findLast_40 (fun H locs w => ?_)
      obtain ⟨rfl, rfl⟩ := prI h
      exact x_iret C w hr hk dX11_findLast_43
theorem w_WS_findLast_17 {g : Nat} (C : CallFix p m c cX11_findLast 4 s args tb RX11) (hr : meth.sig.returnType = (some .int)) (hk : meth.locks = false) {S' : St} {r : Int32} (n : Nat) : ∀ (S : St) (x1 : Int32) (x2 : Int32) (x3 : Int32) (H : Heap) (locs : List Loc) (ls : Array Slot), Wn Yc D T ρ S A s H locs → lv_has ls 4 [(0, .ref (ρ 8)), (1, .int x1), (2, .int x2), (3, .int x3)] → m_WS_findLast_17 g n S x1 x2 x3 = some (S', r) → W p l e (rmN 3 66) s m args below meth c H locs 0 0 (MQ below (Qi Yc D T ρ A S' r) args s 0 0 A) (F0 m 17 ls []) := by
  induction n with
  | zero => intro S x1 x2 x3 H locs ls w hl h; exact absurd h (fun q => by cases q)
  | succ n ih => intro S x1 x2 x3 H locs ls w hl h; exact wb_WS_findLast_17 C hr hk ih w hl h
set_option maxRecDepth 100000 in
set_option maxHeartbeats 4000000 in
theorem w_WS_findLast_0  {g : Nat} {S : St} {x1 : Int32} {x2 : Int32} (C : CallFix p m c cX11_findLast 4 s args tb RX11) (hr : meth.sig.returnType = (some .int)) (hk : meth.locks = false) {S' : St} {r : Int32} (w : Wn Yc D T ρ S A s H locs) (hl : lv_has ls 4 [(0, .ref (ρ 8)), (1, .int x1), (2, .int x2)]) (h : m_WS_findLast g S x1 x2 = some (S', r)) : W p l e (rmN 3 66) s m args below meth c H locs 0 0 (MQ below (Qi Yc D T ρ A S' r) args s 0 0 A) (F0 m 0 ls []) := by
  unfold m_WS_findLast at h
  refine lv_aload_n C.1 C.2.1 dX11_findLast_0 rfl (lv_at hl 0 rfl) ?_
  refine x_getC C w 4 fX11_9 obC8 rfl dX11_findLast_1 ?_
  refine lv_iconst (v := 3) C.1 C.2.1 dX11_findLast_4 (by decide) ?_
  refine lv_aload_n C.1 C.2.1 dX11_findLast_5 rfl (lv_at hl 0 rfl) ?_
  refine x_getC C w 5 fX11_21 obC8 rfl dX11_findLast_6 ?_
  refine lv_iload_n C.1 C.2.1 dX11_findLast_9 rfl (lv_at hl 1 rfl) ?_
  obtain ⟨v_1, hv_1, h⟩ := bnd h
  refine x_callVi (q := (RX10, TX10, 5)) (As := [.int x1]) (rest := [.int (3 : Int32), .ref (ρ 4)]) C w (k_Tx_sizeOf l D T ρ g H.size S hv_1) vX11_80 ⟨by decide, by decide⟩ obC5 (by decide) rfl rfl rfl hl.1 (Nat.le_of_ble_eq_true rfl) ⟨Nat.zero_le _, Nat.zero_le _⟩ dX11_findLast_10 (fun H locs w => ?_)
  obtain ⟨v_2, hv_2, h⟩ := bnd h
  refine x_callVi (q := (RX1, TX1, 12)) (As := [.int (3 : Int32), .int v_1]) (rest := []) C w (k_Bn_placeAt l D T ρ g H.size S hv_2) vX11_136 ⟨by decide, by decide⟩ obC4 (by decide) rfl rfl rfl hl.1 (Nat.le_of_ble_eq_true rfl) ⟨Nat.zero_le _, Nat.zero_le _⟩ dX11_findLast_13 (fun H locs w => ?_)
  refine lv_istore_n (lv' := [(3, .int v_2), (0, .ref (ρ 8)), (1, .int x1), (2, .int x2)]) C.1 C.2.1 dX11_findLast_16 rfl hl (by decide) rfl (fun ls hl => ?_)
  exact w_WS_findLast_17 C hr hk g _ _ _ _ _ _ _ w (lv_sub hl [1, 2, 3, 0] rfl) h
end S_WS_findLast
set_option maxRecDepth 100000 in
theorem k_WS_findLast (l : Launch) (D : va_G) (T : Cy) (ρ : Nat → Nat) (g sz : Nat) (S : St) {x1 : Int32} {x2 : Int32} {S' : St} {r : Int32} (h : m_WS_findLast g S x1 x2 = some (S', r)) : Mi l Yc D T ρ yX11_findLast cX11_findLast 4 (some .int) 3 66 S S' r [.ref (ρ 8), .int x1, .int x2] sz :=
  x_in (by decide) (Nat.le_of_ble_eq_true rfl) (fun p e s m below meth c ls C hr hk w hl => w_WS_findLast_0 C hr hk w hl h)

theorem dX11_seek_0 : decode cX11_seek 0 = .ok (.aload_n 0, 1) := by decide +kernel
theorem dX11_seek_1 : decode cX11_seek 1 = .ok (.getfield 9, 3) := by decide +kernel
theorem dX11_seek_4 : decode cX11_seek 4 = .ok (.iconst 2, 1) := by decide +kernel
theorem dX11_seek_5 : decode cX11_seek 5 = .ok (.invokevirtual 68, 3) := by decide +kernel
theorem dX11_seek_8 : decode cX11_seek 8 = .ok (.lstore_n 2, 1) := by decide +kernel
theorem dX11_seek_9 : decode cX11_seek 9 = .ok (.aload_n 0, 1) := by decide +kernel
theorem dX11_seek_10 : decode cX11_seek 10 = .ok (.getfield 21, 3) := by decide +kernel
theorem dX11_seek_13 : decode cX11_seek 13 = .ok (.iload_n 1, 1) := by decide +kernel
theorem dX11_seek_14 : decode cX11_seek 14 = .ok (.invokevirtual 80, 3) := by decide +kernel
theorem dX11_seek_17 : decode cX11_seek 17 = .ok (.istore 4, 2) := by decide +kernel
theorem dX11_seek_19 : decode cX11_seek 19 = .ok (.aload_n 0, 1) := by decide +kernel
theorem dX11_seek_20 : decode cX11_seek 20 = .ok (.getfield 21, 3) := by decide +kernel
theorem dX11_seek_23 : decode cX11_seek 23 = .ok (.iload_n 1, 1) := by decide +kernel
theorem dX11_seek_24 : decode cX11_seek 24 = .ok (.invokevirtual 119, 3) := by decide +kernel
theorem dX11_seek_27 : decode cX11_seek 27 = .ok (.istore 5, 2) := by decide +kernel
theorem dX11_seek_29 : decode cX11_seek 29 = .ok (.iconst 0, 1) := by decide +kernel
theorem dX11_seek_30 : decode cX11_seek 30 = .ok (.aload_n 0, 1) := by decide +kernel
theorem dX11_seek_31 : decode cX11_seek 31 = .ok (.getfield 9, 3) := by decide +kernel
theorem dX11_seek_34 : decode cX11_seek 34 = .ok (.iconst 3, 1) := by decide +kernel
theorem dX11_seek_35 : decode cX11_seek 35 = .ok (.iload 4, 2) := by decide +kernel
theorem dX11_seek_37 : decode cX11_seek 37 = .ok (.invokevirtual 136, 3) := by decide +kernel
theorem dX11_seek_40 : decode cX11_seek 40 = .ok (.invokestatic 181, 3) := by decide +kernel
theorem dX11_seek_43 : decode cX11_seek 43 = .ok (.istore 6, 2) := by decide +kernel
theorem dX11_seek_45 : decode cX11_seek 45 = .ok (.iload 6, 2) := by decide +kernel
theorem dX11_seek_47 : decode cX11_seek 47 = .ok (.iload 4, 2) := by decide +kernel
theorem dX11_seek_49 : decode cX11_seek 49 = .ok (.if_icmp .ge 84, 3) := by decide +kernel
theorem dX11_seek_52 : decode cX11_seek 52 = .ok (.aload_n 0, 1) := by decide +kernel
theorem dX11_seek_53 : decode cX11_seek 53 = .ok (.getfield 21, 3) := by decide +kernel
theorem dX11_seek_56 : decode cX11_seek 56 = .ok (.getfield 116, 3) := by decide +kernel
theorem dX11_seek_59 : decode cX11_seek 59 = .ok (.iload 5, 2) := by decide +kernel
theorem dX11_seek_61 : decode cX11_seek 61 = .ok (.iload 6, 2) := by decide +kernel
theorem dX11_seek_63 : decode cX11_seek 63 = .ok (.iadd, 1) := by decide +kernel
theorem dX11_seek_64 : decode cX11_seek 64 = .ok (.iload 5, 2) := by decide +kernel
theorem dX11_seek_66 : decode cX11_seek 66 = .ok (.iload 4, 2) := by decide +kernel
theorem dX11_seek_68 : decode cX11_seek 68 = .ok (.iadd, 1) := by decide +kernel
theorem dX11_seek_69 : decode cX11_seek 69 = .ok (.invokevirtual 172, 3) := by decide +kernel
theorem dX11_seek_72 : decode cX11_seek 72 = .ok (.istore 7, 2) := by decide +kernel
theorem dX11_seek_74 : decode cX11_seek 74 = .ok (.aload_n 0, 1) := by decide +kernel
theorem dX11_seek_75 : decode cX11_seek 75 = .ok (.getfield 21, 3) := by decide +kernel
theorem dX11_seek_78 : decode cX11_seek 78 = .ok (.iload_n 1, 1) := by decide +kernel
theorem dX11_seek_79 : decode cX11_seek 79 = .ok (.iload 6, 2) := by decide +kernel
theorem dX11_seek_81 : decode cX11_seek 81 = .ok (.invokevirtual 151, 3) := by decide +kernel
theorem dX11_seek_84 : decode cX11_seek 84 = .ok (.i2l, 1) := by decide +kernel
theorem dX11_seek_85 : decode cX11_seek 85 = .ok (.lload_n 2, 1) := by decide +kernel
theorem dX11_seek_86 : decode cX11_seek 86 = .ok (.lcmp, 1) := by decide +kernel
theorem dX11_seek_87 : decode cX11_seek 87 = .ok (.ifCond .eq 29, 3) := by decide +kernel
theorem dX11_seek_90 : decode cX11_seek 90 = .ok (.iload 7, 2) := by decide +kernel
theorem dX11_seek_92 : decode cX11_seek 92 = .ok (.ifCond .eq 35, 3) := by decide +kernel
theorem dX11_seek_95 : decode cX11_seek 95 = .ok (.aload_n 0, 1) := by decide +kernel
theorem dX11_seek_96 : decode cX11_seek 96 = .ok (.getfield 21, 3) := by decide +kernel
theorem dX11_seek_99 : decode cX11_seek 99 = .ok (.getfield 116, 3) := by decide +kernel
theorem dX11_seek_102 : decode cX11_seek 102 = .ok (.iload 5, 2) := by decide +kernel
theorem dX11_seek_104 : decode cX11_seek 104 = .ok (.iload 6, 2) := by decide +kernel
theorem dX11_seek_106 : decode cX11_seek 106 = .ok (.iadd, 1) := by decide +kernel
theorem dX11_seek_107 : decode cX11_seek 107 = .ok (.invokevirtual 175, 3) := by decide +kernel
theorem dX11_seek_110 : decode cX11_seek 110 = .ok (.i2l, 1) := by decide +kernel
theorem dX11_seek_111 : decode cX11_seek 111 = .ok (.lload_n 2, 1) := by decide +kernel
theorem dX11_seek_112 : decode cX11_seek 112 = .ok (.lcmp, 1) := by decide +kernel
theorem dX11_seek_113 : decode cX11_seek 113 = .ok (.ifCond .ne 14, 3) := by decide +kernel
theorem dX11_seek_116 : decode cX11_seek 116 = .ok (.aload_n 0, 1) := by decide +kernel
theorem dX11_seek_117 : decode cX11_seek 117 = .ok (.getfield 9, 3) := by decide +kernel
theorem dX11_seek_120 : decode cX11_seek 120 = .ok (.iload 6, 2) := by decide +kernel
theorem dX11_seek_122 : decode cX11_seek 122 = .ok (.i2l, 1) := by decide +kernel
theorem dX11_seek_123 : decode cX11_seek 123 = .ok (.invokevirtual 44, 3) := by decide +kernel
theorem dX11_seek_126 : decode cX11_seek 126 = .ok (.ireturn, 1) := by decide +kernel
theorem dX11_seek_127 : decode cX11_seek 127 = .ok (.iinc 6 1, 3) := by decide +kernel
theorem dX11_seek_130 : decode cX11_seek 130 = .ok (.goto (-85), 3) := by decide +kernel
theorem dX11_seek_133 : decode cX11_seek 133 = .ok (.aload_n 0, 1) := by decide +kernel
theorem dX11_seek_134 : decode cX11_seek 134 = .ok (.getfield 9, 3) := by decide +kernel
theorem dX11_seek_137 : decode cX11_seek 137 = .ok (.ldc2_w 189, 3) := by decide +kernel
theorem dX11_seek_140 : decode cX11_seek 140 = .ok (.invokevirtual 44, 3) := by decide +kernel
theorem dX11_seek_143 : decode cX11_seek 143 = .ok (.ireturn, 1) := by decide +kernel
def m_WS_seek_116 (g : Nat) (S : St) (x6 : Int32) : Option (St × Int32) :=
(m_Bn_giveWhole g S (x6.toInt64)).bind fun (S_10, v_11) =>
some (S_10, v_11)
def b_WS_seek_45 (g : Nat) (k45 : St → Int32 → Int64 → Int32 → Int32 → Int32 → Option (St × Int32)) (S : St) (x1 : Int32) (x2 : Int64) (x4 : Int32) (x5 : Int32) (x6 : Int32) : Option (St × Int32) :=
if x4 ≤ x6 then (
  (m_Bn_giveWhole g S (-1 : Int64)).bind fun (S_6, v_7) =>
  some (S_6, v_7)
) else (
  (m_Row_hasPair g S 18 (x5 + x6) (x5 + x4)).bind fun v_8 =>
  (m_Tx_unitOf g S x1 x6).bind fun v_9 =>
  if (v_9.toInt64) = x2 then (
    m_WS_seek_116 g S x6
  ) else (
    if v_8 = 0 then (
      lt (x6 + (1 : Int32)) fun x6_10 =>
      k45 S x1 x2 x4 x5 x6_10
    ) else (
      (m_Row_pairAt g S 18 (x5 + x6)).bind fun v_11 =>
      if (v_11.toInt64) = x2 then (
        m_WS_seek_116 g S x6
      ) else (
        lt (x6 + (1 : Int32)) fun x6_12 =>
        k45 S x1 x2 x4 x5 x6_12
      )
    )
  )
)
def m_WS_seek_45 (g : Nat) : Nat → St → Int32 → Int64 → Int32 → Int32 → Int32 → Option (St × Int32)
  | 0, _, _, _, _, _, _ => none
  | n + 1, S, x1, x2, x4, x5, x6 => b_WS_seek_45 g (m_WS_seek_45 g n) S x1 x2 x4 x5 x6
def m_WS_seek (g : Nat) (S : St) (x1 : Int32) : Option (St × Int32) :=
(m_Bn_wholeAt g S (2 : Int32)).bind fun v_1 =>
(m_Tx_sizeOf g S x1).bind fun v_2 =>
(m_Tx_startOf g S x1).bind fun v_3 =>
(m_Bn_placeAt g S (3 : Int32) v_2).bind fun v_4 =>
lt (maxI (0 : Int32) v_4) fun x6_5 =>
m_WS_seek_45 g g S x1 v_1 v_2 v_3 x6_5
section S_WS_seek
variable {p : Program} {l : Launch} {e : Env} {s : State} {m : MethodId} {args : Array Value} {below : List Frame} {meth : Method} {c : Code} {H : Heap} {locs : List Loc} {ls : Array Slot} {D : va_G} {T : Cy} {ρ : Nat → Nat} {A : Nat → Prop}
set_option maxRecDepth 100000 in
set_option maxHeartbeats 4000000 in
theorem w_WS_seek_116  {g : Nat} {S : St} {x6 : Int32} (C : CallFix p m c cX11_seek 8 s args tb RX11) (hr : meth.sig.returnType = (some .int)) (hk : meth.locks = false) {S' : St} {r : Int32} (w : Wn Yc D T ρ S A s H locs) (hl : lv_has ls 8 [(0, .ref (ρ 8)), (6, .int x6)]) (h : m_WS_seek_116 g S x6 = some (S', r)) : W p l e (rmN 3 66) s m args below meth c H locs 0 0 (MQ below (Qi Yc D T ρ A S' r) args s 0 0 A) (F0 m 116 ls []) := by
  unfold m_WS_seek_116 at h
  refine lv_aload_n C.1 C.2.1 dX11_seek_116 rfl (lv_at hl 0 rfl) ?_
  refine x_getC C w 4 fX11_9 obC8 rfl dX11_seek_117 ?_
  refine lv_iload C.1 C.2.1 dX11_seek_120 (lv_at hl 1 rfl) ?_
  refine lv_i2l C.1 C.2.1 dX11_seek_122 rfl ?_
  obtain ⟨⟨S_10, v_11⟩, hv_11, h⟩ := bnd h
  refine x_callVi (q := (RX1, TX1, 12)) (As := [.long (x6.toInt64)]) (rest := []) C w (k_Bn_giveWhole l D T ρ g H.size S hv_11) vX11_44 ⟨by decide, by decide⟩ obC4 (by decide) rfl rfl rfl hl.1 (Nat.le_of_ble_eq_true rfl) ⟨Nat.zero_le _, Nat.zero_le _⟩ dX11_seek_123 (fun H locs w => ?_)
  obtain ⟨rfl, rfl⟩ := prI h
  exact x_iret C w hr hk dX11_seek_126
set_option maxRecDepth 100000 in
set_option maxHeartbeats 4000000 in
theorem wb_WS_seek_45  {g : Nat} {S : St} {x1 : Int32} {x2 : Int64} {x4 : Int32} {x5 : Int32} {x6 : Int32} (C : CallFix p m c cX11_seek 8 s args tb RX11) (hr : meth.sig.returnType = (some .int)) (hk : meth.locks = false) {S' : St} {r : Int32} {k45 : St → Int32 → Int64 → Int32 → Int32 → Int32 → Option (St × Int32)} (kk45 : ∀ (S : St) (x1 : Int32) (x2 : Int64) (x4 : Int32) (x5 : Int32) (x6 : Int32) (H : Heap) (locs : List Loc) (ls : Array Slot), Wn Yc D T ρ S A s H locs → lv_has ls 8 [(0, .ref (ρ 8)), (1, .int x1), (2, .long x2), (4, .int x4), (5, .int x5), (6, .int x6)] → k45 S x1 x2 x4 x5 x6 = some (S', r) → W p l e (rmN 3 66) s m args below meth c H locs 0 0 (MQ below (Qi Yc D T ρ A S' r) args s 0 0 A) (F0 m 45 ls [])) (w : Wn Yc D T ρ S A s H locs) (hl : lv_has ls 8 [(0, .ref (ρ 8)), (1, .int x1), (2, .long x2), (4, .int x4), (5, .int x5), (6, .int x6)]) (h : b_WS_seek_45 g k45 S x1 x2 x4 x5 x6 = some (S', r)) : W p l e (rmN 3 66) s m args below meth c H locs 0 0 (MQ below (Qi Yc D T ρ A S' r) args s 0 0 A) (F0 m 45 ls []) := by
  unfold b_WS_seek_45 at h
  refine lv_iload C.1 C.2.1 dX11_seek_45 (lv_at hl 5 rfl) ?_
  refine lv_iload C.1 C.2.1 dX11_seek_47 (lv_at hl 3 rfl) ?_
  refine lv_icmp_ge (tgt := 133) C.1 C.2.1 dX11_seek_49 (by decide) (fun hc => ?_) (fun hc => ?_)
  · replace h := ift hc h
    refine lv_aload_n C.1 C.2.1 dX11_seek_133 rfl (lv_at hl 0 rfl) ?_
    refine x_getC C w 4 fX11_9 obC8 rfl dX11_seek_134 ?_
    refine lv_ldc2 C.1 C.2.1 C.2.2.2.1 (C.2.2.2.2 _ nX11_189) dX11_seek_137 ?_
    obtain ⟨⟨S_6, v_7⟩, hv_7, h⟩ := bnd h
    refine x_callVi (q := (RX1, TX1, 12)) (As := [.long (-1 : Int64)]) (rest := []) C w (k_Bn_giveWhole l D T ρ g H.size S hv_7) vX11_44 ⟨by decide, by decide⟩ obC4 (by decide) rfl rfl rfl hl.1 (Nat.le_of_ble_eq_true rfl) ⟨Nat.zero_le _, Nat.zero_le _⟩ dX11_seek_140 (fun H locs w => ?_)
    obtain ⟨rfl, rfl⟩ := prI h
    exact x_iret C w hr hk dX11_seek_143
  · replace h := iff0 hc h
    refine lv_aload_n C.1 C.2.1 dX11_seek_52 rfl (lv_at hl 0 rfl) ?_
    refine x_getC C w 5 fX11_21 obC8 rfl dX11_seek_53 ?_
    refine x_getC C w 18 fX11_116 obC5 rfl dX11_seek_56 ?_
    refine lv_iload C.1 C.2.1 dX11_seek_59 (lv_at hl 4 rfl) ?_
    refine lv_iload C.1 C.2.1 dX11_seek_61 (lv_at hl 5 rfl) ?_
    refine lv_iadd C.1 C.2.1 dX11_seek_63 ?_
    refine lv_iload C.1 C.2.1 dX11_seek_64 (lv_at hl 4 rfl) ?_
    refine lv_iload C.1 C.2.1 dX11_seek_66 (lv_at hl 3 rfl) ?_
    refine lv_iadd C.1 C.2.1 dX11_seek_68 ?_
    obtain ⟨v_8, hv_8, h⟩ := bnd h
    refine x_callVi (q := (RX6, TX6, 4)) (As := [.int (x5 + x6), .int (x5 + x4)]) (rest := []) C w (k_Row_hasPair l D T ρ g H.size S obC18 hv_8) vX11_172 ⟨by decide, by decide⟩ obC18 (by decide) rfl rfl rfl hl.1 (Nat.le_of_ble_eq_true rfl) ⟨Nat.zero_le _, Nat.zero_le _⟩ dX11_seek_69 (fun H locs w => ?_)
    refine lv_istore (lv' := [(7, .int v_8), (0, .ref (ρ 8)), (1, .int x1), (2, .long x2), (4, .int x4), (5, .int x5), (6, .int x6)]) C.1 C.2.1 dX11_seek_72 hl (by decide) rfl (fun ls hl => ?_)
    refine lv_aload_n C.1 C.2.1 dX11_seek_74 rfl (lv_at hl 1 rfl) ?_
    refine x_getC C w 5 fX11_21 obC8 rfl dX11_seek_75 ?_
    refine lv_iload_n C.1 C.2.1 dX11_seek_78 rfl (lv_at hl 2 rfl) ?_
    refine lv_iload C.1 C.2.1 dX11_seek_79 (lv_at hl 6 rfl) ?_
    obtain ⟨v_9, hv_9, h⟩ := bnd h
    refine x_callVi (q := (RX10, TX10, 5)) (As := [.int x1, .int x6]) (rest := []) C w (k_Tx_unitOf l D T ρ g H.size S hv_9) vX11_151 ⟨by decide, by decide⟩ obC5 (by decide) rfl rfl rfl hl.1 (Nat.le_of_ble_eq_true rfl) ⟨Nat.zero_le _, Nat.zero_le _⟩ dX11_seek_81 (fun H locs w => ?_)
    refine lv_i2l C.1 C.2.1 dX11_seek_84 rfl ?_
    refine lv_lload_n C.1 C.2.1 dX11_seek_85 rfl (lv_at hl 3 rfl) ?_
    refine x_l_eq (tgt := 116) C dX11_seek_86 dX11_seek_87 (by decide) (fun hc => ?_) (fun hc => ?_)
    · replace h := ift hc h
      exact w_WS_seek_116 C hr hk w (lv_sub hl [1, 6] rfl) h
    · replace h := iff0 hc h
      refine lv_iload C.1 C.2.1 dX11_seek_90 (lv_at hl 0 rfl) ?_
      refine lv_if_eq (tgt := 127) C.1 C.2.1 dX11_seek_92 (by decide) (fun hc => ?_) (fun hc => ?_)
      · replace h := ift hc h
        obtain ⟨x6_10, ex6_10, h⟩ := lt_e h
        refine lv_iinc (v := x6_10) (lv' := [(6, .int x6_10), (7, .int v_8), (0, .ref (ρ 8)), (1, .int x1), (2, .long x2), (4, .int x4), (5, .int x5)]) C.1 C.2.1 dX11_seek_127 hl (k := 6) rfl (by rw [ex6_10]; rfl) (by decide) rfl (fun ls hl => ?_)
        refine lv_goto (tgt := 45) C.1 C.2.1 dX11_seek_130 (by decide) ?_
        exact kk45 _ _ _ _ _ _ _ _ _ w (lv_sub hl [2, 3, 4, 5, 6, 0] rfl) h
      · replace h := iff0 hc h
        refine lv_aload_n C.1 C.2.1 dX11_seek_95 rfl (lv_at hl 1 rfl) ?_
        refine x_getC C w 5 fX11_21 obC8 rfl dX11_seek_96 ?_
        refine x_getC C w 18 fX11_116 obC5 rfl dX11_seek_99 ?_
        refine lv_iload C.1 C.2.1 dX11_seek_102 (lv_at hl 5 rfl) ?_
        refine lv_iload C.1 C.2.1 dX11_seek_104 (lv_at hl 6 rfl) ?_
        refine lv_iadd C.1 C.2.1 dX11_seek_106 ?_
        obtain ⟨v_11, hv_11, h⟩ := bnd h
        refine x_callVi (q := (RX6, TX6, 4)) (As := [.int (x5 + x6)]) (rest := []) C w (k_Row_pairAt l D T ρ g H.size S obC18 hv_11) vX11_175 ⟨by decide, by decide⟩ obC18 (by decide) rfl rfl rfl hl.1 (Nat.le_of_ble_eq_true rfl) ⟨Nat.zero_le _, Nat.zero_le _⟩ dX11_seek_107 (fun H locs w => ?_)
        refine lv_i2l C.1 C.2.1 dX11_seek_110 rfl ?_
        refine lv_lload_n C.1 C.2.1 dX11_seek_111 rfl (lv_at hl 3 rfl) ?_
        refine x_l_ne (tgt := 127) C dX11_seek_112 dX11_seek_113 (by decide) (fun hc => ?_) (fun hc => ?_)
        · replace h := iff0 hc h
          obtain ⟨x6_12, ex6_12, h⟩ := lt_e h
          refine lv_iinc (v := x6_12) (lv' := [(6, .int x6_12), (7, .int v_8), (0, .ref (ρ 8)), (1, .int x1), (2, .long x2), (4, .int x4), (5, .int x5)]) C.1 C.2.1 dX11_seek_127 hl (k := 6) rfl (by rw [ex6_12]; rfl) (by decide) rfl (fun ls hl => ?_)
          refine lv_goto (tgt := 45) C.1 C.2.1 dX11_seek_130 (by decide) ?_
          exact kk45 _ _ _ _ _ _ _ _ _ w (lv_sub hl [2, 3, 4, 5, 6, 0] rfl) h
        · replace h := ift hc h
          exact w_WS_seek_116 C hr hk w (lv_sub hl [1, 6] rfl) h
theorem w_WS_seek_45 {g : Nat} (C : CallFix p m c cX11_seek 8 s args tb RX11) (hr : meth.sig.returnType = (some .int)) (hk : meth.locks = false) {S' : St} {r : Int32} (n : Nat) : ∀ (S : St) (x1 : Int32) (x2 : Int64) (x4 : Int32) (x5 : Int32) (x6 : Int32) (H : Heap) (locs : List Loc) (ls : Array Slot), Wn Yc D T ρ S A s H locs → lv_has ls 8 [(0, .ref (ρ 8)), (1, .int x1), (2, .long x2), (4, .int x4), (5, .int x5), (6, .int x6)] → m_WS_seek_45 g n S x1 x2 x4 x5 x6 = some (S', r) → W p l e (rmN 3 66) s m args below meth c H locs 0 0 (MQ below (Qi Yc D T ρ A S' r) args s 0 0 A) (F0 m 45 ls []) := by
  induction n with
  | zero => intro S x1 x2 x4 x5 x6 H locs ls w hl h; exact absurd h (fun q => by cases q)
  | succ n ih => intro S x1 x2 x4 x5 x6 H locs ls w hl h; exact wb_WS_seek_45 C hr hk ih w hl h
set_option maxRecDepth 100000 in
set_option maxHeartbeats 4000000 in
theorem w_WS_seek_0  {g : Nat} {S : St} {x1 : Int32} (C : CallFix p m c cX11_seek 8 s args tb RX11) (hr : meth.sig.returnType = (some .int)) (hk : meth.locks = false) {S' : St} {r : Int32} (w : Wn Yc D T ρ S A s H locs) (hl : lv_has ls 8 [(0, .ref (ρ 8)), (1, .int x1)]) (h : m_WS_seek g S x1 = some (S', r)) : W p l e (rmN 3 66) s m args below meth c H locs 0 0 (MQ below (Qi Yc D T ρ A S' r) args s 0 0 A) (F0 m 0 ls []) := by
  unfold m_WS_seek at h
  refine lv_aload_n C.1 C.2.1 dX11_seek_0 rfl (lv_at hl 0 rfl) ?_
  refine x_getC C w 4 fX11_9 obC8 rfl dX11_seek_1 ?_
  refine lv_iconst (v := 2) C.1 C.2.1 dX11_seek_4 (by decide) ?_
  obtain ⟨v_1, hv_1, h⟩ := bnd h
  refine x_callVj (q := (RX1, TX1, 12)) (As := [.int (2 : Int32)]) (rest := []) C w (k_Bn_wholeAt l D T ρ g H.size S hv_1) vX11_68 ⟨by decide, by decide⟩ obC4 (by decide) rfl rfl rfl hl.1 (Nat.le_of_ble_eq_true rfl) ⟨Nat.zero_le _, Nat.zero_le _⟩ dX11_seek_5 (fun H locs w => ?_)
  refine lv_lstore_n (lv' := [(2, .long v_1), (0, .ref (ρ 8)), (1, .int x1)]) C.1 C.2.1 dX11_seek_8 rfl hl (by decide) rfl (fun ls hl => ?_)
  refine lv_aload_n C.1 C.2.1 dX11_seek_9 rfl (lv_at hl 1 rfl) ?_
  refine x_getC C w 5 fX11_21 obC8 rfl dX11_seek_10 ?_
  refine lv_iload_n C.1 C.2.1 dX11_seek_13 rfl (lv_at hl 2 rfl) ?_
  obtain ⟨v_2, hv_2, h⟩ := bnd h
  refine x_callVi (q := (RX10, TX10, 5)) (As := [.int x1]) (rest := []) C w (k_Tx_sizeOf l D T ρ g H.size S hv_2) vX11_80 ⟨by decide, by decide⟩ obC5 (by decide) rfl rfl rfl hl.1 (Nat.le_of_ble_eq_true rfl) ⟨Nat.zero_le _, Nat.zero_le _⟩ dX11_seek_14 (fun H locs w => ?_)
  refine lv_istore (lv' := [(4, .int v_2), (2, .long v_1), (0, .ref (ρ 8)), (1, .int x1)]) C.1 C.2.1 dX11_seek_17 hl (by decide) rfl (fun ls hl => ?_)
  refine lv_aload_n C.1 C.2.1 dX11_seek_19 rfl (lv_at hl 2 rfl) ?_
  refine x_getC C w 5 fX11_21 obC8 rfl dX11_seek_20 ?_
  refine lv_iload_n C.1 C.2.1 dX11_seek_23 rfl (lv_at hl 3 rfl) ?_
  obtain ⟨v_3, hv_3, h⟩ := bnd h
  refine x_callVi (q := (RX10, TX10, 5)) (As := [.int x1]) (rest := []) C w (k_Tx_startOf l D T ρ g H.size S hv_3) vX11_119 ⟨by decide, by decide⟩ obC5 (by decide) rfl rfl rfl hl.1 (Nat.le_of_ble_eq_true rfl) ⟨Nat.zero_le _, Nat.zero_le _⟩ dX11_seek_24 (fun H locs w => ?_)
  refine lv_istore (lv' := [(5, .int v_3), (4, .int v_2), (2, .long v_1), (0, .ref (ρ 8)), (1, .int x1)]) C.1 C.2.1 dX11_seek_27 hl (by decide) rfl (fun ls hl => ?_)
  refine lv_iconst (v := 0) C.1 C.2.1 dX11_seek_29 (by decide) ?_
  refine lv_aload_n C.1 C.2.1 dX11_seek_30 rfl (lv_at hl 3 rfl) ?_
  refine x_getC C w 4 fX11_9 obC8 rfl dX11_seek_31 ?_
  refine lv_iconst (v := 3) C.1 C.2.1 dX11_seek_34 (by decide) ?_
  refine lv_iload C.1 C.2.1 dX11_seek_35 (lv_at hl 1 rfl) ?_
  obtain ⟨v_4, hv_4, h⟩ := bnd h
  refine x_callVi (q := (RX1, TX1, 12)) (As := [.int (3 : Int32), .int v_2]) (rest := [.int (0 : Int32)]) C w (k_Bn_placeAt l D T ρ g H.size S hv_4) vX11_136 ⟨by decide, by decide⟩ obC4 (by decide) rfl rfl rfl hl.1 (Nat.le_of_ble_eq_true rfl) ⟨Nat.zero_le _, Nat.zero_le _⟩ dX11_seek_37 (fun H locs w => ?_)
  refine x_maxI C hl.1 vX11_181.1 ⟨by decide, by decide⟩ (Nat.le_of_ble_eq_true rfl) ⟨Nat.zero_le _, Nat.zero_le _⟩ dX11_seek_40 ?_
  obtain ⟨x6_5, ex6_5, h⟩ := lt_e h
  refine x_nm ex6_5 ?_
  refine lv_istore (lv' := [(6, .int x6_5), (5, .int v_3), (4, .int v_2), (2, .long v_1), (0, .ref (ρ 8)), (1, .int x1)]) C.1 C.2.1 dX11_seek_43 hl (by decide) rfl (fun ls hl => ?_)
  exact w_WS_seek_45 C hr hk g _ _ _ _ _ _ _ _ _ w (lv_sub hl [4, 5, 3, 2, 1, 0] rfl) h
end S_WS_seek
set_option maxRecDepth 100000 in
theorem k_WS_seek (l : Launch) (D : va_G) (T : Cy) (ρ : Nat → Nat) (g sz : Nat) (S : St) {x1 : Int32} {S' : St} {r : Int32} (h : m_WS_seek g S x1 = some (S', r)) : Mi l Yc D T ρ yX11_seek cX11_seek 8 (some .int) 3 66 S S' r [.ref (ρ 8), .int x1] sz :=
  x_in (by decide) (Nat.le_of_ble_eq_true rfl) (fun p e s m below meth c ls C hr hk w hl => w_WS_seek_0 C hr hk w hl h)

theorem dX12_cut_0 : decode cX12_cut 0 = .ok (.iload_n 1, 1) := by decide +kernel
theorem dX12_cut_1 : decode cX12_cut 1 = .ok (.ifCond .lt 14, 3) := by decide +kernel
theorem dX12_cut_4 : decode cX12_cut 4 = .ok (.iload_n 1, 1) := by decide +kernel
theorem dX12_cut_5 : decode cX12_cut 5 = .ok (.aload_n 0, 1) := by decide +kernel
theorem dX12_cut_6 : decode cX12_cut 6 = .ok (.getfield 14, 3) := by decide +kernel
theorem dX12_cut_9 : decode cX12_cut 9 = .ok (.getfield 59, 3) := by decide +kernel
theorem dX12_cut_12 : decode cX12_cut 12 = .ok (.if_icmp .le 5, 3) := by decide +kernel
theorem dX12_cut_15 : decode cX12_cut 15 = .ok (.iconst (-1), 1) := by decide +kernel
theorem dX12_cut_16 : decode cX12_cut 16 = .ok (.ireturn, 1) := by decide +kernel
theorem dX12_cut_17 : decode cX12_cut 17 = .ok (.aload_n 0, 1) := by decide +kernel
theorem dX12_cut_18 : decode cX12_cut 18 = .ok (.getfield 14, 3) := by decide +kernel
theorem dX12_cut_21 : decode cX12_cut 21 = .ok (.aload_n 0, 1) := by decide +kernel
theorem dX12_cut_22 : decode cX12_cut 22 = .ok (.getfield 14, 3) := by decide +kernel
theorem dX12_cut_25 : decode cX12_cut 25 = .ok (.getfield 59, 3) := by decide +kernel
theorem dX12_cut_28 : decode cX12_cut 28 = .ok (.iload_n 1, 1) := by decide +kernel
theorem dX12_cut_29 : decode cX12_cut 29 = .ok (.isub, 1) := by decide +kernel
theorem dX12_cut_30 : decode cX12_cut 30 = .ok (.invokevirtual 69, 3) := by decide +kernel
theorem dX12_cut_33 : decode cX12_cut 33 = .ok (.aload_n 0, 1) := by decide +kernel
theorem dX12_cut_34 : decode cX12_cut 34 = .ok (.getfield 14, 3) := by decide +kernel
theorem dX12_cut_37 : decode cX12_cut 37 = .ok (.getfield 59, 3) := by decide +kernel
theorem dX12_cut_40 : decode cX12_cut 40 = .ok (.ireturn, 1) := by decide +kernel
def m_TL_cut (g : Nat) (S : St) (x1 : Int32) : Option (St × Int32) :=
if x1 < 0 then (
  some (S, (-1 : Int32))
) else (
  if x1 ≤ (gI S 10 2) then (
    (m_Row_shorten g S 10 ((gI S 10 2) - x1)).bind fun S_1 =>
    some (S_1, gI S_1 10 2)
  ) else (
    some (S, (-1 : Int32))
  )
)
section S_TL_cut
variable {p : Program} {l : Launch} {e : Env} {s : State} {m : MethodId} {args : Array Value} {below : List Frame} {meth : Method} {c : Code} {H : Heap} {locs : List Loc} {ls : Array Slot} {D : va_G} {T : Cy} {ρ : Nat → Nat} {A : Nat → Prop}
set_option maxRecDepth 100000 in
set_option maxHeartbeats 4000000 in
theorem w_TL_cut_0  {g : Nat} {S : St} {x1 : Int32} (C : CallFix p m c cX12_cut 2 s args tb RX12) (hr : meth.sig.returnType = (some .int)) (hk : meth.locks = false) {S' : St} {r : Int32} (w : Wn Yc D T ρ S A s H locs) (hl : lv_has ls 2 [(0, .ref (ρ 0)), (1, .int x1)]) (h : m_TL_cut g S x1 = some (S', r)) : W p l e (rmN 1 21) s m args below meth c H locs 0 0 (MQ below (Qi Yc D T ρ A S' r) args s 0 0 A) (F0 m 0 ls []) := by
  unfold m_TL_cut at h
  refine lv_iload_n C.1 C.2.1 dX12_cut_0 rfl (lv_at hl 1 rfl) ?_
  refine lv_if_lt (tgt := 15) C.1 C.2.1 dX12_cut_1 (by decide) (fun hc => ?_) (fun hc => ?_)
  · replace h := ift hc h
    refine lv_iconst (v := (-1)) C.1 C.2.1 dX12_cut_15 (by decide) ?_
    obtain ⟨rfl, rfl⟩ := prI h
    exact x_iret C w hr hk dX12_cut_16
  · replace h := iff0 hc h
    refine lv_iload_n C.1 C.2.1 dX12_cut_4 rfl (lv_at hl 1 rfl) ?_
    refine lv_aload_n C.1 C.2.1 dX12_cut_5 rfl (lv_at hl 0 rfl) ?_
    refine x_getC C w 10 fX12_14 obC0 rfl dX12_cut_6 ?_
    refine x_getI C w fX12_59 obC10 dX12_cut_9 ?_
    refine lv_icmp_le (tgt := 17) C.1 C.2.1 dX12_cut_12 (by decide) (fun hc => ?_) (fun hc => ?_)
    · replace h := ift hc h
      refine lv_aload_n C.1 C.2.1 dX12_cut_17 rfl (lv_at hl 0 rfl) ?_
      refine x_getC C w 10 fX12_14 obC0 rfl dX12_cut_18 ?_
      refine lv_aload_n C.1 C.2.1 dX12_cut_21 rfl (lv_at hl 0 rfl) ?_
      refine x_getC C w 10 fX12_14 obC0 rfl dX12_cut_22 ?_
      refine x_getI C w fX12_59 obC10 dX12_cut_25 ?_
      refine lv_iload_n C.1 C.2.1 dX12_cut_28 rfl (lv_at hl 1 rfl) ?_
      refine lv_isub C.1 C.2.1 dX12_cut_29 ?_
      obtain ⟨S_1, hS_1, h⟩ := bnd h
      refine x_callVv (q := (RX6, TX6, 4)) (As := [.int ((gI S 10 2) - x1)]) (rest := []) C w (k_Row_shorten l D T ρ g H.size S obC10 hS_1) vX12_69 ⟨by decide, by decide⟩ obC10 (by decide) rfl rfl rfl hl.1 (Nat.le_of_ble_eq_true rfl) ⟨Nat.zero_le _, Nat.zero_le _⟩ dX12_cut_30 (fun H locs w => ?_)
      refine lv_aload_n C.1 C.2.1 dX12_cut_33 rfl (lv_at hl 0 rfl) ?_
      refine x_getC C w 10 fX12_14 obC0 rfl dX12_cut_34 ?_
      refine x_getI C w fX12_59 obC10 dX12_cut_37 ?_
      obtain ⟨rfl, rfl⟩ := prI h
      exact x_iret C w hr hk dX12_cut_40
    · replace h := iff0 hc h
      refine lv_iconst (v := (-1)) C.1 C.2.1 dX12_cut_15 (by decide) ?_
      obtain ⟨rfl, rfl⟩ := prI h
      exact x_iret C w hr hk dX12_cut_16
end S_TL_cut
set_option maxRecDepth 100000 in
theorem k_TL_cut (l : Launch) (D : va_G) (T : Cy) (ρ : Nat → Nat) (g sz : Nat) (S : St) {x1 : Int32} {S' : St} {r : Int32} (h : m_TL_cut g S x1 = some (S', r)) : Mi l Yc D T ρ yX12_cut cX12_cut 2 (some .int) 1 21 S S' r [.ref (ρ 0), .int x1] sz :=
  x_in (by decide) (Nat.le_of_ble_eq_true rfl) (fun p e s m below meth c ls C hr hk w hl => w_TL_cut_0 C hr hk w hl h)

theorem dX12_ended_0 : decode cX12_ended 0 = .ok (.iload_n 1, 1) := by decide +kernel
theorem dX12_ended_1 : decode cX12_ended 1 = .ok (.ifCond .lt 8, 3) := by decide +kernel
theorem dX12_ended_4 : decode cX12_ended 4 = .ok (.iload_n 1, 1) := by decide +kernel
theorem dX12_ended_5 : decode cX12_ended 5 = .ok (.iconst 3, 1) := by decide +kernel
theorem dX12_ended_6 : decode cX12_ended 6 = .ok (.if_icmp .le 7, 3) := by decide +kernel
theorem dX12_ended_9 : decode cX12_ended 9 = .ok (.iconst (-1), 1) := by decide +kernel
theorem dX12_ended_10 : decode cX12_ended 10 = .ok (.goto 12, 3) := by decide +kernel
theorem dX12_ended_13 : decode cX12_ended 13 = .ok (.aload_n 0, 1) := by decide +kernel
theorem dX12_ended_14 : decode cX12_ended 14 = .ok (.getfield 55, 3) := by decide +kernel
theorem dX12_ended_17 : decode cX12_ended 17 = .ok (.getfield 101, 3) := by decide +kernel
theorem dX12_ended_20 : decode cX12_ended 20 = .ok (.iload_n 1, 1) := by decide +kernel
theorem dX12_ended_21 : decode cX12_ended 21 = .ok (.iaload, 1) := by decide +kernel
theorem dX12_ended_22 : decode cX12_ended 22 = .ok (.ireturn, 1) := by decide +kernel
def m_TL_ended (g : Nat) (S : St) (x1 : Int32) : Option Int32 :=
if x1 < 0 then (
  some (-1 : Int32)
) else (
  if x1 ≤ (3 : Int32) then (
    (aI S 79 x1).bind fun v_1 =>
    some v_1
  ) else (
    some (-1 : Int32)
  )
)
section S_TL_ended
variable {p : Program} {l : Launch} {e : Env} {s : State} {m : MethodId} {args : Array Value} {below : List Frame} {meth : Method} {c : Code} {H : Heap} {locs : List Loc} {ls : Array Slot} {D : va_G} {T : Cy} {ρ : Nat → Nat} {A : Nat → Prop}
set_option maxRecDepth 100000 in
set_option maxHeartbeats 4000000 in
theorem w_TL_ended_0  {g : Nat} {S : St} {x1 : Int32} (C : CallFix p m c cX12_ended 2 s args tb RX12) (hr : meth.sig.returnType = (some .int)) (hk : meth.locks = false) {r : Int32} (w : Wn Yc D T ρ S A s H locs) (hl : lv_has ls 2 [(0, .ref (ρ 0)), (1, .int x1)]) (h : m_TL_ended g S x1 = some r) : W p l e (rmN 0 0) s m args below meth c H locs 0 0 (MQ below (Qi Yc D T ρ A S r) args s 0 0 A) (F0 m 0 ls []) := by
  unfold m_TL_ended at h
  refine lv_iload_n C.1 C.2.1 dX12_ended_0 rfl (lv_at hl 1 rfl) ?_
  refine lv_if_lt (tgt := 9) C.1 C.2.1 dX12_ended_1 (by decide) (fun hc => ?_) (fun hc => ?_)
  · replace h := ift hc h
    refine lv_iconst (v := (-1)) C.1 C.2.1 dX12_ended_9 (by decide) ?_
    refine lv_goto (tgt := 22) C.1 C.2.1 dX12_ended_10 (by decide) ?_
    obtain rfl := som h
    exact x_iret C w hr hk dX12_ended_22
  · replace h := iff0 hc h
    refine lv_iload_n C.1 C.2.1 dX12_ended_4 rfl (lv_at hl 1 rfl) ?_
    refine lv_iconst (v := 3) C.1 C.2.1 dX12_ended_5 (by decide) ?_
    refine lv_icmp_le (tgt := 13) C.1 C.2.1 dX12_ended_6 (by decide) (fun hc => ?_) (fun hc => ?_)
    · replace h := ift hc h
      refine lv_aload_n C.1 C.2.1 dX12_ended_13 rfl (lv_at hl 0 rfl) ?_
      refine x_getC C w 6 fX12_55 obC0 rfl dX12_ended_14 ?_
      refine x_getC C w 79 fX12_101 obC6 rfl dX12_ended_17 ?_
      refine lv_iload_n C.1 C.2.1 dX12_ended_20 rfl (lv_at hl 1 rfl) ?_
      obtain ⟨v_1, hv_1, h⟩ := bnd h
      refine x_iald C w obC79 hv_1 dX12_ended_21 ?_
      obtain rfl := som h
      exact x_iret C w hr hk dX12_ended_22
    · replace h := iff0 hc h
      refine lv_iconst (v := (-1)) C.1 C.2.1 dX12_ended_9 (by decide) ?_
      refine lv_goto (tgt := 22) C.1 C.2.1 dX12_ended_10 (by decide) ?_
      obtain rfl := som h
      exact x_iret C w hr hk dX12_ended_22
end S_TL_ended
set_option maxRecDepth 100000 in
theorem k_TL_ended (l : Launch) (D : va_G) (T : Cy) (ρ : Nat → Nat) (g sz : Nat) (S : St) {x1 : Int32} {r : Int32} (h : m_TL_ended g S x1 = some r) : Mi l Yc D T ρ yX12_ended cX12_ended 2 (some .int) 0 0 S S r [.ref (ρ 0), .int x1] sz :=
  x_in (by decide) (Nat.le_of_ble_eq_true rfl) (fun p e s m below meth c ls C hr hk w hl => w_TL_ended_0 C hr hk w hl h)

theorem dX12_done_0 : decode cX12_done 0 = .ok (.iload_n 1, 1) := by decide +kernel
theorem dX12_done_1 : decode cX12_done 1 = .ok (.ifCond .lt 9, 3) := by decide +kernel
theorem dX12_done_4 : decode cX12_done 4 = .ok (.iload_n 1, 1) := by decide +kernel
theorem dX12_done_5 : decode cX12_done 5 = .ok (.bipush 56, 2) := by decide +kernel
theorem dX12_done_7 : decode cX12_done 7 = .ok (.if_icmp .lt 7, 3) := by decide +kernel
theorem dX12_done_10 : decode cX12_done 10 = .ok (.iconst (-1), 1) := by decide +kernel
theorem dX12_done_11 : decode cX12_done 11 = .ok (.goto 12, 3) := by decide +kernel
theorem dX12_done_14 : decode cX12_done 14 = .ok (.aload_n 0, 1) := by decide +kernel
theorem dX12_done_15 : decode cX12_done 15 = .ok (.getfield 55, 3) := by decide +kernel
theorem dX12_done_18 : decode cX12_done 18 = .ok (.getfield 105, 3) := by decide +kernel
theorem dX12_done_21 : decode cX12_done 21 = .ok (.iload_n 1, 1) := by decide +kernel
theorem dX12_done_22 : decode cX12_done 22 = .ok (.iaload, 1) := by decide +kernel
theorem dX12_done_23 : decode cX12_done 23 = .ok (.ireturn, 1) := by decide +kernel
def m_TL_done (g : Nat) (S : St) (x1 : Int32) : Option Int32 :=
if x1 < 0 then (
  some (-1 : Int32)
) else (
  if x1 < (56 : Int32) then (
    (aI S 80 x1).bind fun v_1 =>
    some v_1
  ) else (
    some (-1 : Int32)
  )
)
section S_TL_done
variable {p : Program} {l : Launch} {e : Env} {s : State} {m : MethodId} {args : Array Value} {below : List Frame} {meth : Method} {c : Code} {H : Heap} {locs : List Loc} {ls : Array Slot} {D : va_G} {T : Cy} {ρ : Nat → Nat} {A : Nat → Prop}
set_option maxRecDepth 100000 in
set_option maxHeartbeats 4000000 in
theorem w_TL_done_0  {g : Nat} {S : St} {x1 : Int32} (C : CallFix p m c cX12_done 2 s args tb RX12) (hr : meth.sig.returnType = (some .int)) (hk : meth.locks = false) {r : Int32} (w : Wn Yc D T ρ S A s H locs) (hl : lv_has ls 2 [(0, .ref (ρ 0)), (1, .int x1)]) (h : m_TL_done g S x1 = some r) : W p l e (rmN 0 0) s m args below meth c H locs 0 0 (MQ below (Qi Yc D T ρ A S r) args s 0 0 A) (F0 m 0 ls []) := by
  unfold m_TL_done at h
  refine lv_iload_n C.1 C.2.1 dX12_done_0 rfl (lv_at hl 1 rfl) ?_
  refine lv_if_lt (tgt := 10) C.1 C.2.1 dX12_done_1 (by decide) (fun hc => ?_) (fun hc => ?_)
  · replace h := ift hc h
    refine lv_iconst (v := (-1)) C.1 C.2.1 dX12_done_10 (by decide) ?_
    refine lv_goto (tgt := 23) C.1 C.2.1 dX12_done_11 (by decide) ?_
    obtain rfl := som h
    exact x_iret C w hr hk dX12_done_23
  · replace h := iff0 hc h
    refine lv_iload_n C.1 C.2.1 dX12_done_4 rfl (lv_at hl 1 rfl) ?_
    refine lv_bipush (v := 56) C.1 C.2.1 dX12_done_5 (by decide) ?_
    refine lv_icmp_lt (tgt := 14) C.1 C.2.1 dX12_done_7 (by decide) (fun hc => ?_) (fun hc => ?_)
    · replace h := ift hc h
      refine lv_aload_n C.1 C.2.1 dX12_done_14 rfl (lv_at hl 0 rfl) ?_
      refine x_getC C w 6 fX12_55 obC0 rfl dX12_done_15 ?_
      refine x_getC C w 80 fX12_105 obC6 rfl dX12_done_18 ?_
      refine lv_iload_n C.1 C.2.1 dX12_done_21 rfl (lv_at hl 1 rfl) ?_
      obtain ⟨v_1, hv_1, h⟩ := bnd h
      refine x_iald C w obC80 hv_1 dX12_done_22 ?_
      obtain rfl := som h
      exact x_iret C w hr hk dX12_done_23
    · replace h := iff0 hc h
      refine lv_iconst (v := (-1)) C.1 C.2.1 dX12_done_10 (by decide) ?_
      refine lv_goto (tgt := 23) C.1 C.2.1 dX12_done_11 (by decide) ?_
      obtain rfl := som h
      exact x_iret C w hr hk dX12_done_23
end S_TL_done
set_option maxRecDepth 100000 in
theorem k_TL_done (l : Launch) (D : va_G) (T : Cy) (ρ : Nat → Nat) (g sz : Nat) (S : St) {x1 : Int32} {r : Int32} (h : m_TL_done g S x1 = some r) : Mi l Yc D T ρ yX12_done cX12_done 2 (some .int) 0 0 S S r [.ref (ρ 0), .int x1] sz :=
  x_in (by decide) (Nat.le_of_ble_eq_true rfl) (fun p e s m below meth c ls C hr hk w hl => w_TL_done_0 C hr hk w hl h)

theorem dX12_step_0 : decode cX12_step 0 = .ok (.iload_n 1, 1) := by decide +kernel
theorem dX12_step_1 : decode cX12_step 1 = .ok (.ifCond .lt 14, 3) := by decide +kernel
theorem dX12_step_4 : decode cX12_step 4 = .ok (.iload_n 1, 1) := by decide +kernel
theorem dX12_step_5 : decode cX12_step 5 = .ok (.aload_n 0, 1) := by decide +kernel
theorem dX12_step_6 : decode cX12_step 6 = .ok (.getfield 21, 3) := by decide +kernel
theorem dX12_step_9 : decode cX12_step 9 = .ok (.getfield 95, 3) := by decide +kernel
theorem dX12_step_12 : decode cX12_step 12 = .ok (.if_icmp .lt 5, 3) := by decide +kernel
theorem dX12_step_15 : decode cX12_step 15 = .ok (.iconst (-1), 1) := by decide +kernel
theorem dX12_step_16 : decode cX12_step 16 = .ok (.ireturn, 1) := by decide +kernel
theorem dX12_step_17 : decode cX12_step 17 = .ok (.iload_n 2, 1) := by decide +kernel
theorem dX12_step_18 : decode cX12_step 18 = .ok (.ifCond .ne 13, 3) := by decide +kernel
theorem dX12_step_21 : decode cX12_step 21 = .ok (.aload_n 0, 1) := by decide +kernel
theorem dX12_step_22 : decode cX12_step 22 = .ok (.getfield 21, 3) := by decide +kernel
theorem dX12_step_25 : decode cX12_step 25 = .ok (.getfield 108, 3) := by decide +kernel
theorem dX12_step_28 : decode cX12_step 28 = .ok (.iload_n 1, 1) := by decide +kernel
theorem dX12_step_29 : decode cX12_step 29 = .ok (.iaload, 1) := by decide +kernel
theorem dX12_step_30 : decode cX12_step 30 = .ok (.ireturn, 1) := by decide +kernel
theorem dX12_step_31 : decode cX12_step 31 = .ok (.iload_n 2, 1) := by decide +kernel
theorem dX12_step_32 : decode cX12_step 32 = .ok (.iconst 1, 1) := by decide +kernel
theorem dX12_step_33 : decode cX12_step 33 = .ok (.if_icmp .ne 27, 3) := by decide +kernel
theorem dX12_step_36 : decode cX12_step 36 = .ok (.aload_n 0, 1) := by decide +kernel
theorem dX12_step_37 : decode cX12_step 37 = .ok (.getfield 21, 3) := by decide +kernel
theorem dX12_step_40 : decode cX12_step 40 = .ok (.getfield 111, 3) := by decide +kernel
theorem dX12_step_43 : decode cX12_step 43 = .ok (.iload_n 1, 1) := by decide +kernel
theorem dX12_step_44 : decode cX12_step 44 = .ok (.iconst 1, 1) := by decide +kernel
theorem dX12_step_45 : decode cX12_step 45 = .ok (.iadd, 1) := by decide +kernel
theorem dX12_step_46 : decode cX12_step 46 = .ok (.iaload, 1) := by decide +kernel
theorem dX12_step_47 : decode cX12_step 47 = .ok (.aload_n 0, 1) := by decide +kernel
theorem dX12_step_48 : decode cX12_step 48 = .ok (.getfield 21, 3) := by decide +kernel
theorem dX12_step_51 : decode cX12_step 51 = .ok (.getfield 111, 3) := by decide +kernel
theorem dX12_step_54 : decode cX12_step 54 = .ok (.iload_n 1, 1) := by decide +kernel
theorem dX12_step_55 : decode cX12_step 55 = .ok (.iaload, 1) := by decide +kernel
theorem dX12_step_56 : decode cX12_step 56 = .ok (.isub, 1) := by decide +kernel
theorem dX12_step_57 : decode cX12_step 57 = .ok (.goto 4, 3) := by decide +kernel
theorem dX12_step_60 : decode cX12_step 60 = .ok (.iconst (-1), 1) := by decide +kernel
theorem dX12_step_61 : decode cX12_step 61 = .ok (.ireturn, 1) := by decide +kernel
def m_TL_step (g : Nat) (S : St) (x1 : Int32) (x2 : Int32) : Option Int32 :=
if x1 < 0 then (
  some (-1 : Int32)
) else (
  if gR S 0 4 = 1 ∨ gR S 0 4 = 2 then
  lt (gR S 0 4) fun p_2 =>
  if x1 < (gI S p_2 8) then (
    if x2 = 0 then (
      if gR S 0 4 = 1 ∨ gR S 0 4 = 2 then
      lt (gR S 0 4) fun p_10 =>
      (aI S (50 + 8 * p_10 + 0) x1).bind fun v_11 =>
      some v_11
      else none
    ) else (
      if x2 = (1 : Int32) then (
        if gR S 0 4 = 1 ∨ gR S 0 4 = 2 then
        lt (gR S 0 4) fun p_4 =>
        (aI S (50 + 8 * p_4 + 1) (x1 + (1 : Int32))).bind fun v_5 =>
        if gR S 0 4 = 1 ∨ gR S 0 4 = 2 then
        lt (gR S 0 4) fun p_7 =>
        (aI S (50 + 8 * p_7 + 1) x1).bind fun v_8 =>
        some (v_5 - v_8)
        else none
        else none
      ) else (
        some (-1 : Int32)
      )
    )
  ) else (
    some (-1 : Int32)
  )
  else none
)
section S_TL_step
variable {p : Program} {l : Launch} {e : Env} {s : State} {m : MethodId} {args : Array Value} {below : List Frame} {meth : Method} {c : Code} {H : Heap} {locs : List Loc} {ls : Array Slot} {D : va_G} {T : Cy} {ρ : Nat → Nat} {A : Nat → Prop}
set_option maxRecDepth 100000 in
set_option maxHeartbeats 4000000 in
theorem w_TL_step_0  {g : Nat} {S : St} {x1 : Int32} {x2 : Int32} (C : CallFix p m c cX12_step 3 s args tb RX12) (hr : meth.sig.returnType = (some .int)) (hk : meth.locks = false) {r : Int32} (w : Wn Yc D T ρ S A s H locs) (hl : lv_has ls 3 [(0, .ref (ρ 0)), (1, .int x1), (2, .int x2)]) (h : m_TL_step g S x1 x2 = some r) : W p l e (rmN 0 0) s m args below meth c H locs 0 0 (MQ below (Qi Yc D T ρ A S r) args s 0 0 A) (F0 m 0 ls []) := by
  unfold m_TL_step at h
  refine lv_iload_n C.1 C.2.1 dX12_step_0 rfl (lv_at hl 1 rfl) ?_
  refine lv_if_lt (tgt := 15) C.1 C.2.1 dX12_step_1 (by decide) (fun hc => ?_) (fun hc => ?_)
  · replace h := ift hc h
    refine lv_iconst (v := (-1)) C.1 C.2.1 dX12_step_15 (by decide) ?_
    obtain rfl := som h
    exact x_iret C w hr hk dX12_step_16
  · replace h := iff0 hc h
    refine lv_iload_n C.1 C.2.1 dX12_step_4 rfl (lv_at hl 1 rfl) ?_
    refine lv_aload_n C.1 C.2.1 dX12_step_5 rfl (lv_at hl 0 rfl) ?_
    by_cases hz_1 : gR S 0 4 = 1 ∨ gR S 0 4 = 2
    case neg => exact absurd (iff0 hz_1 h) (fun q => by cases q)
    replace h := ift hz_1 h
    obtain ⟨p_2, ep_2, h⟩ := lt_e h
    have ho_p_2 : Ob Yc p_2 2 := obPg (by rw [ep_2]; exact hz_1)
    refine x_getR C w fX12_21 obC0 dX12_step_6 ?_
    refine x_nmR ep_2 ?_
    refine x_getI C w fX12_95 ho_p_2 dX12_step_9 ?_
    refine lv_icmp_lt (tgt := 17) C.1 C.2.1 dX12_step_12 (by decide) (fun hc => ?_) (fun hc => ?_)
    · replace h := ift hc h
      refine lv_iload_n C.1 C.2.1 dX12_step_17 rfl (lv_at hl 2 rfl) ?_
      refine lv_if_ne (tgt := 31) C.1 C.2.1 dX12_step_18 (by decide) (fun hc => ?_) (fun hc => ?_)
      · replace h := iff0 hc h
        refine lv_iload_n C.1 C.2.1 dX12_step_31 rfl (lv_at hl 2 rfl) ?_
        refine lv_iconst (v := 1) C.1 C.2.1 dX12_step_32 (by decide) ?_
        refine lv_icmp_ne (tgt := 60) C.1 C.2.1 dX12_step_33 (by decide) (fun hc => ?_) (fun hc => ?_)
        · replace h := iff0 hc h
          refine lv_iconst (v := (-1)) C.1 C.2.1 dX12_step_60 (by decide) ?_
          obtain rfl := som h
          exact x_iret C w hr hk dX12_step_61
        · replace h := ift hc h
          refine lv_aload_n C.1 C.2.1 dX12_step_36 rfl (lv_at hl 0 rfl) ?_
          by_cases hz_3 : gR S 0 4 = 1 ∨ gR S 0 4 = 2
          case neg => exact absurd (iff0 hz_3 h) (fun q => by cases q)
          replace h := ift hz_3 h
          obtain ⟨p_4, ep_4, h⟩ := lt_e h
          have ho_p_4 : Ob Yc p_4 2 := obPg (by rw [ep_4]; exact hz_3)
          refine x_getR C w fX12_21 obC0 dX12_step_37 ?_
          refine x_nmR ep_4 ?_
          refine x_getC C w (50 + 8 * p_4 + 1) fX12_111 ho_p_4 (crP1 ho_p_4) dX12_step_40 ?_
          refine lv_iload_n C.1 C.2.1 dX12_step_43 rfl (lv_at hl 1 rfl) ?_
          refine lv_iconst (v := 1) C.1 C.2.1 dX12_step_44 (by decide) ?_
          refine lv_iadd C.1 C.2.1 dX12_step_45 ?_
          obtain ⟨v_5, hv_5, h⟩ := bnd h
          refine x_iald C w (obP1 ho_p_4) hv_5 dX12_step_46 ?_
          refine lv_aload_n C.1 C.2.1 dX12_step_47 rfl (lv_at hl 0 rfl) ?_
          by_cases hz_6 : gR S 0 4 = 1 ∨ gR S 0 4 = 2
          case neg => exact absurd (iff0 hz_6 h) (fun q => by cases q)
          replace h := ift hz_6 h
          obtain ⟨p_7, ep_7, h⟩ := lt_e h
          have ho_p_7 : Ob Yc p_7 2 := obPg (by rw [ep_7]; exact hz_6)
          refine x_getR C w fX12_21 obC0 dX12_step_48 ?_
          refine x_nmR ep_7 ?_
          refine x_getC C w (50 + 8 * p_7 + 1) fX12_111 ho_p_7 (crP1 ho_p_7) dX12_step_51 ?_
          refine lv_iload_n C.1 C.2.1 dX12_step_54 rfl (lv_at hl 1 rfl) ?_
          obtain ⟨v_8, hv_8, h⟩ := bnd h
          refine x_iald C w (obP1 ho_p_7) hv_8 dX12_step_55 ?_
          refine lv_isub C.1 C.2.1 dX12_step_56 ?_
          refine lv_goto (tgt := 61) C.1 C.2.1 dX12_step_57 (by decide) ?_
          obtain rfl := som h
          exact x_iret C w hr hk dX12_step_61
      · replace h := ift hc h
        refine lv_aload_n C.1 C.2.1 dX12_step_21 rfl (lv_at hl 0 rfl) ?_
        by_cases hz_9 : gR S 0 4 = 1 ∨ gR S 0 4 = 2
        case neg => exact absurd (iff0 hz_9 h) (fun q => by cases q)
        replace h := ift hz_9 h
        obtain ⟨p_10, ep_10, h⟩ := lt_e h
        have ho_p_10 : Ob Yc p_10 2 := obPg (by rw [ep_10]; exact hz_9)
        refine x_getR C w fX12_21 obC0 dX12_step_22 ?_
        refine x_nmR ep_10 ?_
        refine x_getC C w (50 + 8 * p_10 + 0) fX12_108 ho_p_10 (crP0 ho_p_10) dX12_step_25 ?_
        refine lv_iload_n C.1 C.2.1 dX12_step_28 rfl (lv_at hl 1 rfl) ?_
        obtain ⟨v_11, hv_11, h⟩ := bnd h
        refine x_iald C w (obP0 ho_p_10) hv_11 dX12_step_29 ?_
        obtain rfl := som h
        exact x_iret C w hr hk dX12_step_30
    · replace h := iff0 hc h
      refine lv_iconst (v := (-1)) C.1 C.2.1 dX12_step_15 (by decide) ?_
      obtain rfl := som h
      exact x_iret C w hr hk dX12_step_16
end S_TL_step
set_option maxRecDepth 100000 in
theorem k_TL_step (l : Launch) (D : va_G) (T : Cy) (ρ : Nat → Nat) (g sz : Nat) (S : St) {x1 : Int32} {x2 : Int32} {r : Int32} (h : m_TL_step g S x1 x2 = some r) : Mi l Yc D T ρ yX12_step cX12_step 3 (some .int) 0 0 S S r [.ref (ρ 0), .int x1, .int x2] sz :=
  x_in (by decide) (Nat.le_of_ble_eq_true rfl) (fun p e s m below meth c ls C hr hk w hl => w_TL_step_0 C hr hk w hl h)
