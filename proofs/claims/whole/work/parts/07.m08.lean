theorem dX13_pointSize_0 : decode cX13_pointSize 0 = .ok (.aload_n 0, 1) := by decide +kernel
theorem dX13_pointSize_1 : decode cX13_pointSize 1 = .ok (.iload_n 1, 1) := by decide +kernel
theorem dX13_pointSize_2 : decode cX13_pointSize 2 = .ok (.iload_n 2, 1) := by decide +kernel
theorem dX13_pointSize_3 : decode cX13_pointSize 3 = .ok (.invokevirtual 470, 3) := by decide +kernel
theorem dX13_pointSize_6 : decode cX13_pointSize 6 = .ok (.invokestatic 507, 3) := by decide +kernel
theorem dX13_pointSize_9 : decode cX13_pointSize 9 = .ok (.ifCond .eq 28, 3) := by decide +kernel
theorem dX13_pointSize_12 : decode cX13_pointSize 12 = .ok (.iload_n 2, 1) := by decide +kernel
theorem dX13_pointSize_13 : decode cX13_pointSize 13 = .ok (.iconst 1, 1) := by decide +kernel
theorem dX13_pointSize_14 : decode cX13_pointSize 14 = .ok (.iadd, 1) := by decide +kernel
theorem dX13_pointSize_15 : decode cX13_pointSize 15 = .ok (.iload_n 3, 1) := by decide +kernel
theorem dX13_pointSize_16 : decode cX13_pointSize 16 = .ok (.if_icmp .ge 21, 3) := by decide +kernel
theorem dX13_pointSize_19 : decode cX13_pointSize 19 = .ok (.aload_n 0, 1) := by decide +kernel
theorem dX13_pointSize_20 : decode cX13_pointSize 20 = .ok (.iload_n 1, 1) := by decide +kernel
theorem dX13_pointSize_21 : decode cX13_pointSize 21 = .ok (.iload_n 2, 1) := by decide +kernel
theorem dX13_pointSize_22 : decode cX13_pointSize 22 = .ok (.iconst 1, 1) := by decide +kernel
theorem dX13_pointSize_23 : decode cX13_pointSize 23 = .ok (.iadd, 1) := by decide +kernel
theorem dX13_pointSize_24 : decode cX13_pointSize 24 = .ok (.invokevirtual 470, 3) := by decide +kernel
theorem dX13_pointSize_27 : decode cX13_pointSize 27 = .ok (.invokestatic 510, 3) := by decide +kernel
theorem dX13_pointSize_30 : decode cX13_pointSize 30 = .ok (.ifCond .eq 7, 3) := by decide +kernel
theorem dX13_pointSize_33 : decode cX13_pointSize 33 = .ok (.iconst 2, 1) := by decide +kernel
theorem dX13_pointSize_34 : decode cX13_pointSize 34 = .ok (.goto 4, 3) := by decide +kernel
theorem dX13_pointSize_37 : decode cX13_pointSize 37 = .ok (.iconst 1, 1) := by decide +kernel
theorem dX13_pointSize_38 : decode cX13_pointSize 38 = .ok (.ireturn, 1) := by decide +kernel
def m_pointSize (g : Nat) (S : St) (x1 : Int32) (x2 : Int32) (x3 : Int32) : Option Int32 :=
(m_unitAt g S x1 x2).bind fun v_1 =>
(m_isHigh g v_1).bind fun v_2 =>
if v_2 = 0 then (
  some (1 : Int32)
) else (
  if x3 ≤ (x2 + (1 : Int32)) then (
    some (1 : Int32)
  ) else (
    (m_unitAt g S x1 (x2 + (1 : Int32))).bind fun v_3 =>
    (m_isLow g v_3).bind fun v_4 =>
    if v_4 = 0 then (
      some (1 : Int32)
    ) else (
      some (2 : Int32)
    )
  )
)
section S_pointSize
variable {p : Program} {l : Launch} {e : Env} {s : State} {m : MethodId} {args : Array Value} {below : List Frame} {meth : Method} {c : Code} {H : Heap} {locs : List Loc} {ls : Array Slot} {D : va_G} {T : Cy} {ρ : Nat → Nat} {A : Nat → Prop}
set_option maxRecDepth 100000 in
set_option maxHeartbeats 4000000 in
theorem w_pointSize_0  {g : Nat} {S : St} {x1 : Int32} {x2 : Int32} {x3 : Int32} (C : CallFix p m c cX13_pointSize 4 s args tb RX13) (hr : meth.sig.returnType = (some .int)) (hk : meth.locks = false) {r : Int32} (w : Wn Ym D T ρ S A s H locs) (hl : lv_has ls 4 [(0, .ref (ρ 0)), (1, .int x1), (2, .int x2), (3, .int x3)]) (h : m_pointSize g S x1 x2 x3 = some r) : W p l e (rmN 1 22) s m args below meth c H locs 0 0 (MQ below (Qi Ym D T ρ A S r) args s 0 0 A) (F0 m 0 ls []) := by
  unfold m_pointSize at h
  refine lv_aload_n C.1 C.2.1 dX13_pointSize_0 rfl (lv_at hl 0 rfl) ?_
  refine lv_iload_n C.1 C.2.1 dX13_pointSize_1 rfl (lv_at hl 1 rfl) ?_
  refine lv_iload_n C.1 C.2.1 dX13_pointSize_2 rfl (lv_at hl 2 rfl) ?_
  obtain ⟨v_1, hv_1, h⟩ := bnd h
  refine x_callVi (q := (RX13, TX13, 68)) (As := [.int x1, .int x2]) (rest := []) C w (k_unitAt l D T ρ g H.size S hv_1) vM470 ⟨by decide, by decide⟩ obM (by decide) rfl rfl rfl hl.1 (Nat.le_of_ble_eq_true rfl) ⟨Nat.zero_le _, Nat.zero_le _⟩ dX13_pointSize_3 (fun H locs w => ?_)
  obtain ⟨v_2, hv_2, h⟩ := bnd h
  refine x_callSi (As := [.int v_1]) (rest := []) C w (k_isHigh l D T ρ g H.size S hv_2) vM507 ⟨by decide, by decide⟩ rfl rfl hl.1 (Nat.le_of_ble_eq_true rfl) ⟨Nat.zero_le _, Nat.zero_le _⟩ dX13_pointSize_6 (fun H locs w => ?_)
  refine lv_if_eq (tgt := 37) C.1 C.2.1 dX13_pointSize_9 (by decide) (fun hc => ?_) (fun hc => ?_)
  · replace h := ift hc h
    refine lv_iconst (v := 1) C.1 C.2.1 dX13_pointSize_37 (by decide) ?_
    obtain rfl := som h
    exact x_iret C w hr hk dX13_pointSize_38
  · replace h := iff0 hc h
    refine lv_iload_n C.1 C.2.1 dX13_pointSize_12 rfl (lv_at hl 2 rfl) ?_
    refine lv_iconst (v := 1) C.1 C.2.1 dX13_pointSize_13 (by decide) ?_
    refine lv_iadd C.1 C.2.1 dX13_pointSize_14 ?_
    refine lv_iload_n C.1 C.2.1 dX13_pointSize_15 rfl (lv_at hl 3 rfl) ?_
    refine lv_icmp_ge (tgt := 37) C.1 C.2.1 dX13_pointSize_16 (by decide) (fun hc => ?_) (fun hc => ?_)
    · replace h := ift hc h
      refine lv_iconst (v := 1) C.1 C.2.1 dX13_pointSize_37 (by decide) ?_
      obtain rfl := som h
      exact x_iret C w hr hk dX13_pointSize_38
    · replace h := iff0 hc h
      refine lv_aload_n C.1 C.2.1 dX13_pointSize_19 rfl (lv_at hl 0 rfl) ?_
      refine lv_iload_n C.1 C.2.1 dX13_pointSize_20 rfl (lv_at hl 1 rfl) ?_
      refine lv_iload_n C.1 C.2.1 dX13_pointSize_21 rfl (lv_at hl 2 rfl) ?_
      refine lv_iconst (v := 1) C.1 C.2.1 dX13_pointSize_22 (by decide) ?_
      refine lv_iadd C.1 C.2.1 dX13_pointSize_23 ?_
      obtain ⟨v_3, hv_3, h⟩ := bnd h
      refine x_callVi (q := (RX13, TX13, 68)) (As := [.int x1, .int (x2 + (1 : Int32))]) (rest := []) C w (k_unitAt l D T ρ g H.size S hv_3) vM470 ⟨by decide, by decide⟩ obM (by decide) rfl rfl rfl hl.1 (Nat.le_of_ble_eq_true rfl) ⟨Nat.zero_le _, Nat.zero_le _⟩ dX13_pointSize_24 (fun H locs w => ?_)
      obtain ⟨v_4, hv_4, h⟩ := bnd h
      refine x_callSi (As := [.int v_3]) (rest := []) C w (k_isLow l D T ρ g H.size S hv_4) vM510 ⟨by decide, by decide⟩ rfl rfl hl.1 (Nat.le_of_ble_eq_true rfl) ⟨Nat.zero_le _, Nat.zero_le _⟩ dX13_pointSize_27 (fun H locs w => ?_)
      refine lv_if_eq (tgt := 37) C.1 C.2.1 dX13_pointSize_30 (by decide) (fun hc => ?_) (fun hc => ?_)
      · replace h := ift hc h
        refine lv_iconst (v := 1) C.1 C.2.1 dX13_pointSize_37 (by decide) ?_
        obtain rfl := som h
        exact x_iret C w hr hk dX13_pointSize_38
      · replace h := iff0 hc h
        refine lv_iconst (v := 2) C.1 C.2.1 dX13_pointSize_33 (by decide) ?_
        refine lv_goto (tgt := 38) C.1 C.2.1 dX13_pointSize_34 (by decide) ?_
        obtain rfl := som h
        exact x_iret C w hr hk dX13_pointSize_38
end S_pointSize
set_option maxRecDepth 100000 in
theorem k_pointSize (l : Launch) (D : va_G) (T : Cy) (ρ : Nat → Nat) (g sz : Nat) (S : St) {x1 : Int32} {x2 : Int32} {x3 : Int32} {r : Int32} (h : m_pointSize g S x1 x2 x3 = some r) : Mi l Ym D T ρ yX13_pointSize cX13_pointSize 4 (some .int) 1 22 S S r [.ref (ρ 0), .int x1, .int x2, .int x3] sz :=
  x_in (by decide) (Nat.le_of_ble_eq_true rfl) (fun p e s m below meth c ls C hr hk w hl => w_pointSize_0 C hr hk w hl h)

theorem dX13_sizeBefore_0 : decode cX13_sizeBefore 0 = .ok (.iload_n 2, 1) := by decide +kernel
theorem dX13_sizeBefore_1 : decode cX13_sizeBefore 1 = .ok (.iconst 1, 1) := by decide +kernel
theorem dX13_sizeBefore_2 : decode cX13_sizeBefore 2 = .ok (.if_icmp .le 35, 3) := by decide +kernel
theorem dX13_sizeBefore_5 : decode cX13_sizeBefore 5 = .ok (.aload_n 0, 1) := by decide +kernel
theorem dX13_sizeBefore_6 : decode cX13_sizeBefore 6 = .ok (.iload_n 1, 1) := by decide +kernel
theorem dX13_sizeBefore_7 : decode cX13_sizeBefore 7 = .ok (.iload_n 2, 1) := by decide +kernel
theorem dX13_sizeBefore_8 : decode cX13_sizeBefore 8 = .ok (.iconst 1, 1) := by decide +kernel
theorem dX13_sizeBefore_9 : decode cX13_sizeBefore 9 = .ok (.isub, 1) := by decide +kernel
theorem dX13_sizeBefore_10 : decode cX13_sizeBefore 10 = .ok (.invokevirtual 470, 3) := by decide +kernel
theorem dX13_sizeBefore_13 : decode cX13_sizeBefore 13 = .ok (.invokestatic 510, 3) := by decide +kernel
theorem dX13_sizeBefore_16 : decode cX13_sizeBefore 16 = .ok (.ifCond .eq 21, 3) := by decide +kernel
theorem dX13_sizeBefore_19 : decode cX13_sizeBefore 19 = .ok (.aload_n 0, 1) := by decide +kernel
theorem dX13_sizeBefore_20 : decode cX13_sizeBefore 20 = .ok (.iload_n 1, 1) := by decide +kernel
theorem dX13_sizeBefore_21 : decode cX13_sizeBefore 21 = .ok (.iload_n 2, 1) := by decide +kernel
theorem dX13_sizeBefore_22 : decode cX13_sizeBefore 22 = .ok (.iconst 2, 1) := by decide +kernel
theorem dX13_sizeBefore_23 : decode cX13_sizeBefore 23 = .ok (.isub, 1) := by decide +kernel
theorem dX13_sizeBefore_24 : decode cX13_sizeBefore 24 = .ok (.invokevirtual 470, 3) := by decide +kernel
theorem dX13_sizeBefore_27 : decode cX13_sizeBefore 27 = .ok (.invokestatic 507, 3) := by decide +kernel
theorem dX13_sizeBefore_30 : decode cX13_sizeBefore 30 = .ok (.ifCond .eq 7, 3) := by decide +kernel
theorem dX13_sizeBefore_33 : decode cX13_sizeBefore 33 = .ok (.iconst 2, 1) := by decide +kernel
theorem dX13_sizeBefore_34 : decode cX13_sizeBefore 34 = .ok (.goto 4, 3) := by decide +kernel
theorem dX13_sizeBefore_37 : decode cX13_sizeBefore 37 = .ok (.iconst 1, 1) := by decide +kernel
theorem dX13_sizeBefore_38 : decode cX13_sizeBefore 38 = .ok (.ireturn, 1) := by decide +kernel
def m_sizeBefore (g : Nat) (S : St) (x1 : Int32) (x2 : Int32) : Option Int32 :=
if x2 ≤ (1 : Int32) then (
  some (1 : Int32)
) else (
  (m_unitAt g S x1 (x2 - (1 : Int32))).bind fun v_1 =>
  (m_isLow g v_1).bind fun v_2 =>
  if v_2 = 0 then (
    some (1 : Int32)
  ) else (
    (m_unitAt g S x1 (x2 - (2 : Int32))).bind fun v_3 =>
    (m_isHigh g v_3).bind fun v_4 =>
    if v_4 = 0 then (
      some (1 : Int32)
    ) else (
      some (2 : Int32)
    )
  )
)
section S_sizeBefore
variable {p : Program} {l : Launch} {e : Env} {s : State} {m : MethodId} {args : Array Value} {below : List Frame} {meth : Method} {c : Code} {H : Heap} {locs : List Loc} {ls : Array Slot} {D : va_G} {T : Cy} {ρ : Nat → Nat} {A : Nat → Prop}
set_option maxRecDepth 100000 in
set_option maxHeartbeats 4000000 in
theorem w_sizeBefore_0  {g : Nat} {S : St} {x1 : Int32} {x2 : Int32} (C : CallFix p m c cX13_sizeBefore 3 s args tb RX13) (hr : meth.sig.returnType = (some .int)) (hk : meth.locks = false) {r : Int32} (w : Wn Ym D T ρ S A s H locs) (hl : lv_has ls 3 [(0, .ref (ρ 0)), (1, .int x1), (2, .int x2)]) (h : m_sizeBefore g S x1 x2 = some r) : W p l e (rmN 1 22) s m args below meth c H locs 0 0 (MQ below (Qi Ym D T ρ A S r) args s 0 0 A) (F0 m 0 ls []) := by
  unfold m_sizeBefore at h
  refine lv_iload_n C.1 C.2.1 dX13_sizeBefore_0 rfl (lv_at hl 2 rfl) ?_
  refine lv_iconst (v := 1) C.1 C.2.1 dX13_sizeBefore_1 (by decide) ?_
  refine lv_icmp_le (tgt := 37) C.1 C.2.1 dX13_sizeBefore_2 (by decide) (fun hc => ?_) (fun hc => ?_)
  · replace h := ift hc h
    refine lv_iconst (v := 1) C.1 C.2.1 dX13_sizeBefore_37 (by decide) ?_
    obtain rfl := som h
    exact x_iret C w hr hk dX13_sizeBefore_38
  · replace h := iff0 hc h
    refine lv_aload_n C.1 C.2.1 dX13_sizeBefore_5 rfl (lv_at hl 0 rfl) ?_
    refine lv_iload_n C.1 C.2.1 dX13_sizeBefore_6 rfl (lv_at hl 1 rfl) ?_
    refine lv_iload_n C.1 C.2.1 dX13_sizeBefore_7 rfl (lv_at hl 2 rfl) ?_
    refine lv_iconst (v := 1) C.1 C.2.1 dX13_sizeBefore_8 (by decide) ?_
    refine lv_isub C.1 C.2.1 dX13_sizeBefore_9 ?_
    obtain ⟨v_1, hv_1, h⟩ := bnd h
    refine x_callVi (q := (RX13, TX13, 68)) (As := [.int x1, .int (x2 - (1 : Int32))]) (rest := []) C w (k_unitAt l D T ρ g H.size S hv_1) vM470 ⟨by decide, by decide⟩ obM (by decide) rfl rfl rfl hl.1 (Nat.le_of_ble_eq_true rfl) ⟨Nat.zero_le _, Nat.zero_le _⟩ dX13_sizeBefore_10 (fun H locs w => ?_)
    obtain ⟨v_2, hv_2, h⟩ := bnd h
    refine x_callSi (As := [.int v_1]) (rest := []) C w (k_isLow l D T ρ g H.size S hv_2) vM510 ⟨by decide, by decide⟩ rfl rfl hl.1 (Nat.le_of_ble_eq_true rfl) ⟨Nat.zero_le _, Nat.zero_le _⟩ dX13_sizeBefore_13 (fun H locs w => ?_)
    refine lv_if_eq (tgt := 37) C.1 C.2.1 dX13_sizeBefore_16 (by decide) (fun hc => ?_) (fun hc => ?_)
    · replace h := ift hc h
      refine lv_iconst (v := 1) C.1 C.2.1 dX13_sizeBefore_37 (by decide) ?_
      obtain rfl := som h
      exact x_iret C w hr hk dX13_sizeBefore_38
    · replace h := iff0 hc h
      refine lv_aload_n C.1 C.2.1 dX13_sizeBefore_19 rfl (lv_at hl 0 rfl) ?_
      refine lv_iload_n C.1 C.2.1 dX13_sizeBefore_20 rfl (lv_at hl 1 rfl) ?_
      refine lv_iload_n C.1 C.2.1 dX13_sizeBefore_21 rfl (lv_at hl 2 rfl) ?_
      refine lv_iconst (v := 2) C.1 C.2.1 dX13_sizeBefore_22 (by decide) ?_
      refine lv_isub C.1 C.2.1 dX13_sizeBefore_23 ?_
      obtain ⟨v_3, hv_3, h⟩ := bnd h
      refine x_callVi (q := (RX13, TX13, 68)) (As := [.int x1, .int (x2 - (2 : Int32))]) (rest := []) C w (k_unitAt l D T ρ g H.size S hv_3) vM470 ⟨by decide, by decide⟩ obM (by decide) rfl rfl rfl hl.1 (Nat.le_of_ble_eq_true rfl) ⟨Nat.zero_le _, Nat.zero_le _⟩ dX13_sizeBefore_24 (fun H locs w => ?_)
      obtain ⟨v_4, hv_4, h⟩ := bnd h
      refine x_callSi (As := [.int v_3]) (rest := []) C w (k_isHigh l D T ρ g H.size S hv_4) vM507 ⟨by decide, by decide⟩ rfl rfl hl.1 (Nat.le_of_ble_eq_true rfl) ⟨Nat.zero_le _, Nat.zero_le _⟩ dX13_sizeBefore_27 (fun H locs w => ?_)
      refine lv_if_eq (tgt := 37) C.1 C.2.1 dX13_sizeBefore_30 (by decide) (fun hc => ?_) (fun hc => ?_)
      · replace h := ift hc h
        refine lv_iconst (v := 1) C.1 C.2.1 dX13_sizeBefore_37 (by decide) ?_
        obtain rfl := som h
        exact x_iret C w hr hk dX13_sizeBefore_38
      · replace h := iff0 hc h
        refine lv_iconst (v := 2) C.1 C.2.1 dX13_sizeBefore_33 (by decide) ?_
        refine lv_goto (tgt := 38) C.1 C.2.1 dX13_sizeBefore_34 (by decide) ?_
        obtain rfl := som h
        exact x_iret C w hr hk dX13_sizeBefore_38
end S_sizeBefore
set_option maxRecDepth 100000 in
theorem k_sizeBefore (l : Launch) (D : va_G) (T : Cy) (ρ : Nat → Nat) (g sz : Nat) (S : St) {x1 : Int32} {x2 : Int32} {r : Int32} (h : m_sizeBefore g S x1 x2 = some r) : Mi l Ym D T ρ yX13_sizeBefore cX13_sizeBefore 3 (some .int) 1 22 S S r [.ref (ρ 0), .int x1, .int x2] sz :=
  x_in (by decide) (Nat.le_of_ble_eq_true rfl) (fun p e s m below meth c ls C hr hk w hl => w_sizeBefore_0 C hr hk w hl h)

theorem dX13_offset_0 : decode cX13_offset 0 = .ok (.iload_n 2, 1) := by decide +kernel
theorem dX13_offset_1 : decode cX13_offset 1 = .ok (.istore 5, 2) := by decide +kernel
theorem dX13_offset_3 : decode cX13_offset 3 = .ok (.lload_n 3, 1) := by decide +kernel
theorem dX13_offset_4 : decode cX13_offset 4 = .ok (.lstore 6, 2) := by decide +kernel
theorem dX13_offset_6 : decode cX13_offset 6 = .ok (.lload 6, 2) := by decide +kernel
theorem dX13_offset_8 : decode cX13_offset 8 = .ok (.lconst 0, 1) := by decide +kernel
theorem dX13_offset_9 : decode cX13_offset 9 = .ok (.lcmp, 1) := by decide +kernel
theorem dX13_offset_10 : decode cX13_offset 10 = .ok (.ifCond .le 41, 3) := by decide +kernel
theorem dX13_offset_13 : decode cX13_offset 13 = .ok (.iload 5, 2) := by decide +kernel
theorem dX13_offset_15 : decode cX13_offset 15 = .ok (.aload_n 0, 1) := by decide +kernel
theorem dX13_offset_16 : decode cX13_offset 16 = .ok (.getfield 193, 3) := by decide +kernel
theorem dX13_offset_19 : decode cX13_offset 19 = .ok (.iload_n 1, 1) := by decide +kernel
theorem dX13_offset_20 : decode cX13_offset 20 = .ok (.iaload, 1) := by decide +kernel
theorem dX13_offset_21 : decode cX13_offset 21 = .ok (.if_icmp .ge 30, 3) := by decide +kernel
theorem dX13_offset_24 : decode cX13_offset 24 = .ok (.iload 5, 2) := by decide +kernel
theorem dX13_offset_26 : decode cX13_offset 26 = .ok (.aload_n 0, 1) := by decide +kernel
theorem dX13_offset_27 : decode cX13_offset 27 = .ok (.iload_n 1, 1) := by decide +kernel
theorem dX13_offset_28 : decode cX13_offset 28 = .ok (.iload 5, 2) := by decide +kernel
theorem dX13_offset_30 : decode cX13_offset 30 = .ok (.aload_n 0, 1) := by decide +kernel
theorem dX13_offset_31 : decode cX13_offset 31 = .ok (.getfield 193, 3) := by decide +kernel
theorem dX13_offset_34 : decode cX13_offset 34 = .ok (.iload_n 1, 1) := by decide +kernel
theorem dX13_offset_35 : decode cX13_offset 35 = .ok (.iaload, 1) := by decide +kernel
theorem dX13_offset_36 : decode cX13_offset 36 = .ok (.invokevirtual 589, 3) := by decide +kernel
theorem dX13_offset_39 : decode cX13_offset 39 = .ok (.iadd, 1) := by decide +kernel
theorem dX13_offset_40 : decode cX13_offset 40 = .ok (.istore 5, 2) := by decide +kernel
theorem dX13_offset_42 : decode cX13_offset 42 = .ok (.lload 6, 2) := by decide +kernel
theorem dX13_offset_44 : decode cX13_offset 44 = .ok (.lconst 1, 1) := by decide +kernel
theorem dX13_offset_45 : decode cX13_offset 45 = .ok (.lsub, 1) := by decide +kernel
theorem dX13_offset_46 : decode cX13_offset 46 = .ok (.lstore 6, 2) := by decide +kernel
theorem dX13_offset_48 : decode cX13_offset 48 = .ok (.goto (-42), 3) := by decide +kernel
theorem dX13_offset_51 : decode cX13_offset 51 = .ok (.lload 6, 2) := by decide +kernel
theorem dX13_offset_53 : decode cX13_offset 53 = .ok (.lconst 0, 1) := by decide +kernel
theorem dX13_offset_54 : decode cX13_offset 54 = .ok (.lcmp, 1) := by decide +kernel
theorem dX13_offset_55 : decode cX13_offset 55 = .ok (.ifCond .ge 29, 3) := by decide +kernel
theorem dX13_offset_58 : decode cX13_offset 58 = .ok (.iload 5, 2) := by decide +kernel
theorem dX13_offset_60 : decode cX13_offset 60 = .ok (.ifCond .le 24, 3) := by decide +kernel
theorem dX13_offset_63 : decode cX13_offset 63 = .ok (.iload 5, 2) := by decide +kernel
theorem dX13_offset_65 : decode cX13_offset 65 = .ok (.aload_n 0, 1) := by decide +kernel
theorem dX13_offset_66 : decode cX13_offset 66 = .ok (.iload_n 1, 1) := by decide +kernel
theorem dX13_offset_67 : decode cX13_offset 67 = .ok (.iload 5, 2) := by decide +kernel
theorem dX13_offset_69 : decode cX13_offset 69 = .ok (.invokevirtual 595, 3) := by decide +kernel
theorem dX13_offset_72 : decode cX13_offset 72 = .ok (.isub, 1) := by decide +kernel
theorem dX13_offset_73 : decode cX13_offset 73 = .ok (.istore 5, 2) := by decide +kernel
theorem dX13_offset_75 : decode cX13_offset 75 = .ok (.lload 6, 2) := by decide +kernel
theorem dX13_offset_77 : decode cX13_offset 77 = .ok (.lconst 1, 1) := by decide +kernel
theorem dX13_offset_78 : decode cX13_offset 78 = .ok (.ladd, 1) := by decide +kernel
theorem dX13_offset_79 : decode cX13_offset 79 = .ok (.lstore 6, 2) := by decide +kernel
theorem dX13_offset_81 : decode cX13_offset 81 = .ok (.goto (-30), 3) := by decide +kernel
theorem dX13_offset_84 : decode cX13_offset 84 = .ok (.aload_n 0, 1) := by decide +kernel
theorem dX13_offset_85 : decode cX13_offset 85 = .ok (.lload 6, 2) := by decide +kernel
theorem dX13_offset_87 : decode cX13_offset 87 = .ok (.lconst 0, 1) := by decide +kernel
theorem dX13_offset_88 : decode cX13_offset 88 = .ok (.lcmp, 1) := by decide +kernel
theorem dX13_offset_89 : decode cX13_offset 89 = .ok (.ifCond .eq 7, 3) := by decide +kernel
theorem dX13_offset_92 : decode cX13_offset 92 = .ok (.iconst 1, 1) := by decide +kernel
theorem dX13_offset_93 : decode cX13_offset 93 = .ok (.goto 4, 3) := by decide +kernel
theorem dX13_offset_96 : decode cX13_offset 96 = .ok (.iconst 0, 1) := by decide +kernel
theorem dX13_offset_97 : decode cX13_offset 97 = .ok (.iconst 1, 1) := by decide +kernel
theorem dX13_offset_98 : decode cX13_offset 98 = .ok (.invokevirtual 466, 3) := by decide +kernel
theorem dX13_offset_101 : decode cX13_offset 101 = .ok (.iload 5, 2) := by decide +kernel
theorem dX13_offset_103 : decode cX13_offset 103 = .ok (.i2l, 1) := by decide +kernel
theorem dX13_offset_104 : decode cX13_offset 104 = .ok (.lreturn, 1) := by decide +kernel
def m_offset_97 (g : Nat) (S : St) (x5 : Int32) (y1 : Int32) : Option (St × Int64) :=
(m_refuse g S y1 (1 : Int32)).bind fun S_1 =>
some (S_1, x5.toInt64)
def m_offset_84 (g : Nat) (S : St) (x5 : Int32) (x6 : Int64) : Option (St × Int64) :=
if x6 = (0 : Int64) then (
  m_offset_97 g S x5 (0 : Int32)
) else (
  m_offset_97 g S x5 (1 : Int32)
)
def b_offset_51 (g : Nat) (k51 : St → Int32 → Int32 → Int64 → Option (St × Int64)) (S : St) (x1 : Int32) (x5 : Int32) (x6 : Int64) : Option (St × Int64) :=
if x6 < (0 : Int64) then (
  if x5 ≤ 0 then (
    m_offset_84 g S x5 x6
  ) else (
    (m_sizeBefore g S x1 x5).bind fun v_1 =>
    lt (x5 - v_1) fun x5_2 =>
    lt (x6 + (1 : Int64)) fun x6_3 =>
    k51 S x1 x5_2 x6_3
  )
) else (
  m_offset_84 g S x5 x6
)
def m_offset_51 (g : Nat) : Nat → St → Int32 → Int32 → Int64 → Option (St × Int64)
  | 0, _, _, _, _ => none
  | n + 1, S, x1, x5, x6 => b_offset_51 g (m_offset_51 g n) S x1 x5 x6
def b_offset_6 (g : Nat) (k6 : St → Int32 → Int32 → Int64 → Option (St × Int64)) (S : St) (x1 : Int32) (x5 : Int32) (x6 : Int64) : Option (St × Int64) :=
if (0 : Int64) < x6 then (
  (aI S 24 x1).bind fun v_1 =>
  if v_1 ≤ x5 then (
    m_offset_51 g g S x1 x5 x6
  ) else (
    (aI S 24 x1).bind fun v_2 =>
    (m_pointSize g S x1 x5 v_2).bind fun v_3 =>
    lt (x5 + v_3) fun x5_4 =>
    lt (x6 - (1 : Int64)) fun x6_5 =>
    k6 S x1 x5_4 x6_5
  )
) else (
  m_offset_51 g g S x1 x5 x6
)
def m_offset_6 (g : Nat) : Nat → St → Int32 → Int32 → Int64 → Option (St × Int64)
  | 0, _, _, _, _ => none
  | n + 1, S, x1, x5, x6 => b_offset_6 g (m_offset_6 g n) S x1 x5 x6
def m_offset (g : Nat) (S : St) (x1 : Int32) (x2 : Int32) (x3 : Int64) : Option (St × Int64) :=
m_offset_6 g g S x1 x2 x3
section S_offset
variable {p : Program} {l : Launch} {e : Env} {s : State} {m : MethodId} {args : Array Value} {below : List Frame} {meth : Method} {c : Code} {H : Heap} {locs : List Loc} {ls : Array Slot} {D : va_G} {T : Cy} {ρ : Nat → Nat} {A : Nat → Prop}
set_option maxRecDepth 100000 in
set_option maxHeartbeats 4000000 in
theorem w_offset_97  {g : Nat} {S : St} {x5 : Int32} {y1 : Int32} (C : CallFix p m c cX13_offset 8 s args tb RX13) (hr : meth.sig.returnType = (some .long)) (hk : meth.locks = false) {S' : St} {r : Int64} (w : Wn Ym D T ρ S A s H locs) (hl : lv_has ls 8 [(5, .int x5)]) (h : m_offset_97 g S x5 y1 = some (S', r)) : W p l e (rmN 2 45) s m args below meth c H locs 0 0 (MQ below (Qj Ym D T ρ A S' r) args s 0 0 A) (F0 m 97 ls [.int y1, .ref (ρ 0)]) := by
  unfold m_offset_97 at h
  refine lv_iconst (v := 1) C.1 C.2.1 dX13_offset_97 (by decide) ?_
  obtain ⟨S_1, hS_1, h⟩ := bnd h
  refine x_callVv (q := (RX13, TX13, 68)) (As := [.int y1, .int (1 : Int32)]) (rest := []) C w (k_refuse l D T ρ g H.size S hS_1) vM466 ⟨by decide, by decide⟩ obM (by decide) rfl rfl rfl hl.1 (Nat.le_of_ble_eq_true rfl) ⟨Nat.zero_le _, Nat.zero_le _⟩ dX13_offset_98 (fun H locs w => ?_)
  refine lv_iload C.1 C.2.1 dX13_offset_101 (lv_at hl 0 rfl) ?_
  refine lv_i2l C.1 C.2.1 dX13_offset_103 rfl ?_
  obtain ⟨rfl, rfl⟩ := prI h
  exact x_lret C w hr hk dX13_offset_104
set_option maxRecDepth 100000 in
set_option maxHeartbeats 4000000 in
theorem w_offset_84  {g : Nat} {S : St} {x5 : Int32} {x6 : Int64} (C : CallFix p m c cX13_offset 8 s args tb RX13) (hr : meth.sig.returnType = (some .long)) (hk : meth.locks = false) {S' : St} {r : Int64} (w : Wn Ym D T ρ S A s H locs) (hl : lv_has ls 8 [(0, .ref (ρ 0)), (5, .int x5), (6, .long x6)]) (h : m_offset_84 g S x5 x6 = some (S', r)) : W p l e (rmN 2 45) s m args below meth c H locs 0 0 (MQ below (Qj Ym D T ρ A S' r) args s 0 0 A) (F0 m 84 ls []) := by
  unfold m_offset_84 at h
  refine lv_aload_n C.1 C.2.1 dX13_offset_84 rfl (lv_at hl 0 rfl) ?_
  refine lv_lload C.1 C.2.1 dX13_offset_85 (lv_at hl 2 rfl) ?_
  refine lv_lconst (v := 0) C.1 C.2.1 dX13_offset_87 (by decide) ?_
  refine x_l_eq (tgt := 96) C dX13_offset_88 dX13_offset_89 (by decide) (fun hc => ?_) (fun hc => ?_)
  · replace h := ift hc h
    refine lv_iconst (v := 0) C.1 C.2.1 dX13_offset_96 (by decide) ?_
    exact w_offset_97 C hr hk w (lv_sub hl [1] rfl) h
  · replace h := iff0 hc h
    refine lv_iconst (v := 1) C.1 C.2.1 dX13_offset_92 (by decide) ?_
    refine lv_goto (tgt := 97) C.1 C.2.1 dX13_offset_93 (by decide) ?_
    exact w_offset_97 C hr hk w (lv_sub hl [1] rfl) h
set_option maxRecDepth 100000 in
set_option maxHeartbeats 4000000 in
theorem wb_offset_51  {g : Nat} {S : St} {x1 : Int32} {x5 : Int32} {x6 : Int64} (C : CallFix p m c cX13_offset 8 s args tb RX13) (hr : meth.sig.returnType = (some .long)) (hk : meth.locks = false) {S' : St} {r : Int64} {k51 : St → Int32 → Int32 → Int64 → Option (St × Int64)} (kk51 : ∀ (S : St) (x1 : Int32) (x5 : Int32) (x6 : Int64) (H : Heap) (locs : List Loc) (ls : Array Slot), Wn Ym D T ρ S A s H locs → lv_has ls 8 [(0, .ref (ρ 0)), (1, .int x1), (5, .int x5), (6, .long x6)] → k51 S x1 x5 x6 = some (S', r) → W p l e (rmN 2 45) s m args below meth c H locs 0 0 (MQ below (Qj Ym D T ρ A S' r) args s 0 0 A) (F0 m 51 ls [])) (w : Wn Ym D T ρ S A s H locs) (hl : lv_has ls 8 [(0, .ref (ρ 0)), (1, .int x1), (5, .int x5), (6, .long x6)]) (h : b_offset_51 g k51 S x1 x5 x6 = some (S', r)) : W p l e (rmN 2 45) s m args below meth c H locs 0 0 (MQ below (Qj Ym D T ρ A S' r) args s 0 0 A) (F0 m 51 ls []) := by
  unfold b_offset_51 at h
  refine lv_lload C.1 C.2.1 dX13_offset_51 (lv_at hl 3 rfl) ?_
  refine lv_lconst (v := 0) C.1 C.2.1 dX13_offset_53 (by decide) ?_
  refine x_l_ge (tgt := 84) C dX13_offset_54 dX13_offset_55 (by decide) (fun hc => ?_) (fun hc => ?_)
  · replace h := iff0 hc h
    exact w_offset_84 C hr hk w (lv_sub hl [0, 2, 3] rfl) h
  · replace h := ift hc h
    refine lv_iload C.1 C.2.1 dX13_offset_58 (lv_at hl 2 rfl) ?_
    refine lv_if_le (tgt := 84) C.1 C.2.1 dX13_offset_60 (by decide) (fun hc => ?_) (fun hc => ?_)
    · replace h := ift hc h
      exact w_offset_84 C hr hk w (lv_sub hl [0, 2, 3] rfl) h
    · replace h := iff0 hc h
      refine lv_iload C.1 C.2.1 dX13_offset_63 (lv_at hl 2 rfl) ?_
      refine lv_aload_n C.1 C.2.1 dX13_offset_65 rfl (lv_at hl 0 rfl) ?_
      refine lv_iload_n C.1 C.2.1 dX13_offset_66 rfl (lv_at hl 1 rfl) ?_
      refine lv_iload C.1 C.2.1 dX13_offset_67 (lv_at hl 2 rfl) ?_
      obtain ⟨v_1, hv_1, h⟩ := bnd h
      refine x_callVi (q := (RX13, TX13, 68)) (As := [.int x1, .int x5]) (rest := [.int x5]) C w (k_sizeBefore l D T ρ g H.size S hv_1) vM595 ⟨by decide, by decide⟩ obM (by decide) rfl rfl rfl hl.1 (Nat.le_of_ble_eq_true rfl) ⟨Nat.zero_le _, Nat.zero_le _⟩ dX13_offset_69 (fun H locs w => ?_)
      refine lv_isub C.1 C.2.1 dX13_offset_72 ?_
      obtain ⟨x5_2, ex5_2, h⟩ := lt_e h
      refine x_nm ex5_2 ?_
      refine lv_istore (lv' := [(5, .int x5_2), (0, .ref (ρ 0)), (1, .int x1), (6, .long x6)]) C.1 C.2.1 dX13_offset_73 hl (by decide) rfl (fun ls hl => ?_)
      refine lv_lload C.1 C.2.1 dX13_offset_75 (lv_at hl 3 rfl) ?_
      refine lv_lconst (v := 1) C.1 C.2.1 dX13_offset_77 (by decide) ?_
      refine lv_ladd C.1 C.2.1 dX13_offset_78 ?_
      obtain ⟨x6_3, ex6_3, h⟩ := lt_e h
      refine x_nmL ex6_3 ?_
      refine lv_lstore (lv' := [(6, .long x6_3), (5, .int x5_2), (0, .ref (ρ 0)), (1, .int x1)]) C.1 C.2.1 dX13_offset_79 hl (by decide) rfl (fun ls hl => ?_)
      refine lv_goto (tgt := 51) C.1 C.2.1 dX13_offset_81 (by decide) ?_
      exact kk51 _ _ _ _ _ _ _ w (lv_sub hl [2, 3, 1, 0] rfl) h
theorem w_offset_51 {g : Nat} (C : CallFix p m c cX13_offset 8 s args tb RX13) (hr : meth.sig.returnType = (some .long)) (hk : meth.locks = false) {S' : St} {r : Int64} (n : Nat) : ∀ (S : St) (x1 : Int32) (x5 : Int32) (x6 : Int64) (H : Heap) (locs : List Loc) (ls : Array Slot), Wn Ym D T ρ S A s H locs → lv_has ls 8 [(0, .ref (ρ 0)), (1, .int x1), (5, .int x5), (6, .long x6)] → m_offset_51 g n S x1 x5 x6 = some (S', r) → W p l e (rmN 2 45) s m args below meth c H locs 0 0 (MQ below (Qj Ym D T ρ A S' r) args s 0 0 A) (F0 m 51 ls []) := by
  induction n with
  | zero => intro S x1 x5 x6 H locs ls w hl h; exact absurd h (fun q => by cases q)
  | succ n ih => intro S x1 x5 x6 H locs ls w hl h; exact wb_offset_51 C hr hk ih w hl h
set_option maxRecDepth 100000 in
set_option maxHeartbeats 4000000 in
theorem wb_offset_6  {g : Nat} {S : St} {x1 : Int32} {x5 : Int32} {x6 : Int64} (C : CallFix p m c cX13_offset 8 s args tb RX13) (hr : meth.sig.returnType = (some .long)) (hk : meth.locks = false) {S' : St} {r : Int64} {k6 : St → Int32 → Int32 → Int64 → Option (St × Int64)} (kk6 : ∀ (S : St) (x1 : Int32) (x5 : Int32) (x6 : Int64) (H : Heap) (locs : List Loc) (ls : Array Slot), Wn Ym D T ρ S A s H locs → lv_has ls 8 [(0, .ref (ρ 0)), (1, .int x1), (5, .int x5), (6, .long x6)] → k6 S x1 x5 x6 = some (S', r) → W p l e (rmN 2 45) s m args below meth c H locs 0 0 (MQ below (Qj Ym D T ρ A S' r) args s 0 0 A) (F0 m 6 ls [])) (w : Wn Ym D T ρ S A s H locs) (hl : lv_has ls 8 [(0, .ref (ρ 0)), (1, .int x1), (5, .int x5), (6, .long x6)]) (h : b_offset_6 g k6 S x1 x5 x6 = some (S', r)) : W p l e (rmN 2 45) s m args below meth c H locs 0 0 (MQ below (Qj Ym D T ρ A S' r) args s 0 0 A) (F0 m 6 ls []) := by
  unfold b_offset_6 at h
  refine lv_lload C.1 C.2.1 dX13_offset_6 (lv_at hl 3 rfl) ?_
  refine lv_lconst (v := 0) C.1 C.2.1 dX13_offset_8 (by decide) ?_
  refine x_l_le (tgt := 51) C dX13_offset_9 dX13_offset_10 (by decide) (fun hc => ?_) (fun hc => ?_)
  · replace h := iff0 hc h
    exact w_offset_51 C hr hk g _ _ _ _ _ _ _ w (lv_sub hl [0, 1, 2, 3] rfl) h
  · replace h := ift hc h
    refine lv_iload C.1 C.2.1 dX13_offset_13 (lv_at hl 2 rfl) ?_
    refine lv_aload_n C.1 C.2.1 dX13_offset_15 rfl (lv_at hl 0 rfl) ?_
    refine x_getC C w 24 fM193 obM rfl dX13_offset_16 ?_
    refine lv_iload_n C.1 C.2.1 dX13_offset_19 rfl (lv_at hl 1 rfl) ?_
    obtain ⟨v_1, hv_1, h⟩ := bnd h
    refine x_iald C w obM24 hv_1 dX13_offset_20 ?_
    refine lv_icmp_ge (tgt := 51) C.1 C.2.1 dX13_offset_21 (by decide) (fun hc => ?_) (fun hc => ?_)
    · replace h := ift hc h
      exact w_offset_51 C hr hk g _ _ _ _ _ _ _ w (lv_sub hl [0, 1, 2, 3] rfl) h
    · replace h := iff0 hc h
      refine lv_iload C.1 C.2.1 dX13_offset_24 (lv_at hl 2 rfl) ?_
      refine lv_aload_n C.1 C.2.1 dX13_offset_26 rfl (lv_at hl 0 rfl) ?_
      refine lv_iload_n C.1 C.2.1 dX13_offset_27 rfl (lv_at hl 1 rfl) ?_
      refine lv_iload C.1 C.2.1 dX13_offset_28 (lv_at hl 2 rfl) ?_
      refine lv_aload_n C.1 C.2.1 dX13_offset_30 rfl (lv_at hl 0 rfl) ?_
      refine x_getC C w 24 fM193 obM rfl dX13_offset_31 ?_
      refine lv_iload_n C.1 C.2.1 dX13_offset_34 rfl (lv_at hl 1 rfl) ?_
      obtain ⟨v_2, hv_2, h⟩ := bnd h
      refine x_iald C w obM24 hv_2 dX13_offset_35 ?_
      obtain ⟨v_3, hv_3, h⟩ := bnd h
      refine x_callVi (q := (RX13, TX13, 68)) (As := [.int x1, .int x5, .int v_2]) (rest := [.int x5]) C w (k_pointSize l D T ρ g H.size S hv_3) vM589 ⟨by decide, by decide⟩ obM (by decide) rfl rfl rfl hl.1 (Nat.le_of_ble_eq_true rfl) ⟨Nat.zero_le _, Nat.zero_le _⟩ dX13_offset_36 (fun H locs w => ?_)
      refine lv_iadd C.1 C.2.1 dX13_offset_39 ?_
      obtain ⟨x5_4, ex5_4, h⟩ := lt_e h
      refine x_nm ex5_4 ?_
      refine lv_istore (lv' := [(5, .int x5_4), (0, .ref (ρ 0)), (1, .int x1), (6, .long x6)]) C.1 C.2.1 dX13_offset_40 hl (by decide) rfl (fun ls hl => ?_)
      refine lv_lload C.1 C.2.1 dX13_offset_42 (lv_at hl 3 rfl) ?_
      refine lv_lconst (v := 1) C.1 C.2.1 dX13_offset_44 (by decide) ?_
      refine lv_lsub C.1 C.2.1 dX13_offset_45 ?_
      obtain ⟨x6_5, ex6_5, h⟩ := lt_e h
      refine x_nmL ex6_5 ?_
      refine lv_lstore (lv' := [(6, .long x6_5), (5, .int x5_4), (0, .ref (ρ 0)), (1, .int x1)]) C.1 C.2.1 dX13_offset_46 hl (by decide) rfl (fun ls hl => ?_)
      refine lv_goto (tgt := 6) C.1 C.2.1 dX13_offset_48 (by decide) ?_
      exact kk6 _ _ _ _ _ _ _ w (lv_sub hl [2, 3, 1, 0] rfl) h
theorem w_offset_6 {g : Nat} (C : CallFix p m c cX13_offset 8 s args tb RX13) (hr : meth.sig.returnType = (some .long)) (hk : meth.locks = false) {S' : St} {r : Int64} (n : Nat) : ∀ (S : St) (x1 : Int32) (x5 : Int32) (x6 : Int64) (H : Heap) (locs : List Loc) (ls : Array Slot), Wn Ym D T ρ S A s H locs → lv_has ls 8 [(0, .ref (ρ 0)), (1, .int x1), (5, .int x5), (6, .long x6)] → m_offset_6 g n S x1 x5 x6 = some (S', r) → W p l e (rmN 2 45) s m args below meth c H locs 0 0 (MQ below (Qj Ym D T ρ A S' r) args s 0 0 A) (F0 m 6 ls []) := by
  induction n with
  | zero => intro S x1 x5 x6 H locs ls w hl h; exact absurd h (fun q => by cases q)
  | succ n ih => intro S x1 x5 x6 H locs ls w hl h; exact wb_offset_6 C hr hk ih w hl h
set_option maxRecDepth 100000 in
set_option maxHeartbeats 4000000 in
theorem w_offset_0  {g : Nat} {S : St} {x1 : Int32} {x2 : Int32} {x3 : Int64} (C : CallFix p m c cX13_offset 8 s args tb RX13) (hr : meth.sig.returnType = (some .long)) (hk : meth.locks = false) {S' : St} {r : Int64} (w : Wn Ym D T ρ S A s H locs) (hl : lv_has ls 8 [(0, .ref (ρ 0)), (1, .int x1), (2, .int x2), (3, .long x3)]) (h : m_offset g S x1 x2 x3 = some (S', r)) : W p l e (rmN 2 45) s m args below meth c H locs 0 0 (MQ below (Qj Ym D T ρ A S' r) args s 0 0 A) (F0 m 0 ls []) := by
  unfold m_offset at h
  refine lv_iload_n C.1 C.2.1 dX13_offset_0 rfl (lv_at hl 2 rfl) ?_
  refine lv_istore (lv' := [(5, .int x2), (0, .ref (ρ 0)), (1, .int x1), (2, .int x2), (3, .long x3)]) C.1 C.2.1 dX13_offset_1 hl (by decide) rfl (fun ls hl => ?_)
  refine lv_lload_n C.1 C.2.1 dX13_offset_3 rfl (lv_at hl 4 rfl) ?_
  refine lv_lstore (lv' := [(6, .long x3), (5, .int x2), (0, .ref (ρ 0)), (1, .int x1), (2, .int x2), (3, .long x3)]) C.1 C.2.1 dX13_offset_4 hl (by decide) rfl (fun ls hl => ?_)
  exact w_offset_6 C hr hk g _ _ _ _ _ _ _ w (lv_sub hl [2, 3, 1, 0] rfl) h
end S_offset
set_option maxRecDepth 100000 in
theorem k_offset (l : Launch) (D : va_G) (T : Cy) (ρ : Nat → Nat) (g sz : Nat) (S : St) {x1 : Int32} {x2 : Int32} {x3 : Int64} {S' : St} {r : Int64} (h : m_offset g S x1 x2 x3 = some (S', r)) : Mj l Ym D T ρ yX13_offset cX13_offset 8 (some .long) 2 45 S S' r [.ref (ρ 0), .int x1, .int x2, .long x3] sz :=
  x_in (by decide) (Nat.le_of_ble_eq_true rfl) (fun p e s m below meth c ls C hr hk w hl => w_offset_0 C hr hk w hl h)

theorem dX13_pointAt_0 : decode cX13_pointAt 0 = .ok (.iload_n 3, 1) := by decide +kernel
theorem dX13_pointAt_1 : decode cX13_pointAt 1 = .ok (.iconst 1, 1) := by decide +kernel
theorem dX13_pointAt_2 : decode cX13_pointAt 2 = .ok (.if_icmp .ne 11, 3) := by decide +kernel
theorem dX13_pointAt_5 : decode cX13_pointAt 5 = .ok (.aload_n 0, 1) := by decide +kernel
theorem dX13_pointAt_6 : decode cX13_pointAt 6 = .ok (.iload_n 1, 1) := by decide +kernel
theorem dX13_pointAt_7 : decode cX13_pointAt 7 = .ok (.iload_n 2, 1) := by decide +kernel
theorem dX13_pointAt_8 : decode cX13_pointAt 8 = .ok (.invokevirtual 470, 3) := by decide +kernel
theorem dX13_pointAt_11 : decode cX13_pointAt 11 = .ok (.i2l, 1) := by decide +kernel
theorem dX13_pointAt_12 : decode cX13_pointAt 12 = .ok (.lreturn, 1) := by decide +kernel
theorem dX13_pointAt_13 : decode cX13_pointAt 13 = .ok (.ldc2_w 513, 3) := by decide +kernel
theorem dX13_pointAt_16 : decode cX13_pointAt 16 = .ok (.ldc2_w 515, 3) := by decide +kernel
theorem dX13_pointAt_19 : decode cX13_pointAt 19 = .ok (.aload_n 0, 1) := by decide +kernel
theorem dX13_pointAt_20 : decode cX13_pointAt 20 = .ok (.iload_n 1, 1) := by decide +kernel
theorem dX13_pointAt_21 : decode cX13_pointAt 21 = .ok (.iload_n 2, 1) := by decide +kernel
theorem dX13_pointAt_22 : decode cX13_pointAt 22 = .ok (.invokevirtual 470, 3) := by decide +kernel
theorem dX13_pointAt_25 : decode cX13_pointAt 25 = .ok (.ldc_w 476, 3) := by decide +kernel
theorem dX13_pointAt_28 : decode cX13_pointAt 28 = .ok (.isub, 1) := by decide +kernel
theorem dX13_pointAt_29 : decode cX13_pointAt 29 = .ok (.i2l, 1) := by decide +kernel
theorem dX13_pointAt_30 : decode cX13_pointAt 30 = .ok (.lmul, 1) := by decide +kernel
theorem dX13_pointAt_31 : decode cX13_pointAt 31 = .ok (.ladd, 1) := by decide +kernel
theorem dX13_pointAt_32 : decode cX13_pointAt 32 = .ok (.aload_n 0, 1) := by decide +kernel
theorem dX13_pointAt_33 : decode cX13_pointAt 33 = .ok (.iload_n 1, 1) := by decide +kernel
theorem dX13_pointAt_34 : decode cX13_pointAt 34 = .ok (.iload_n 2, 1) := by decide +kernel
theorem dX13_pointAt_35 : decode cX13_pointAt 35 = .ok (.iconst 1, 1) := by decide +kernel
theorem dX13_pointAt_36 : decode cX13_pointAt 36 = .ok (.iadd, 1) := by decide +kernel
theorem dX13_pointAt_37 : decode cX13_pointAt 37 = .ok (.invokevirtual 470, 3) := by decide +kernel
theorem dX13_pointAt_40 : decode cX13_pointAt 40 = .ok (.i2l, 1) := by decide +kernel
theorem dX13_pointAt_41 : decode cX13_pointAt 41 = .ok (.ladd, 1) := by decide +kernel
theorem dX13_pointAt_42 : decode cX13_pointAt 42 = .ok (.ldc2_w 517, 3) := by decide +kernel
theorem dX13_pointAt_45 : decode cX13_pointAt 45 = .ok (.lsub, 1) := by decide +kernel
theorem dX13_pointAt_46 : decode cX13_pointAt 46 = .ok (.lreturn, 1) := by decide +kernel
def m_pointAt (g : Nat) (S : St) (x1 : Int32) (x2 : Int32) (x3 : Int32) : Option Int64 :=
if x3 = (1 : Int32) then (
  (m_unitAt g S x1 x2).bind fun v_3 =>
  some (v_3.toInt64)
) else (
  (m_unitAt g S x1 x2).bind fun v_1 =>
  (m_unitAt g S x1 (x2 + (1 : Int32))).bind fun v_2 =>
  some ((((65536 : Int64) + ((1024 : Int64) * ((v_1 - (55296 : Int32)).toInt64))) + (v_2.toInt64)) - (56320 : Int64))
)
section S_pointAt
variable {p : Program} {l : Launch} {e : Env} {s : State} {m : MethodId} {args : Array Value} {below : List Frame} {meth : Method} {c : Code} {H : Heap} {locs : List Loc} {ls : Array Slot} {D : va_G} {T : Cy} {ρ : Nat → Nat} {A : Nat → Prop}
set_option maxRecDepth 100000 in
set_option maxHeartbeats 4000000 in
theorem w_pointAt_0  {g : Nat} {S : St} {x1 : Int32} {x2 : Int32} {x3 : Int32} (C : CallFix p m c cX13_pointAt 4 s args tb RX13) (hr : meth.sig.returnType = (some .long)) (hk : meth.locks = false) {r : Int64} (w : Wn Ym D T ρ S A s H locs) (hl : lv_has ls 4 [(0, .ref (ρ 0)), (1, .int x1), (2, .int x2), (3, .int x3)]) (h : m_pointAt g S x1 x2 x3 = some r) : W p l e (rmN 1 22) s m args below meth c H locs 0 0 (MQ below (Qj Ym D T ρ A S r) args s 0 0 A) (F0 m 0 ls []) := by
  unfold m_pointAt at h
  refine lv_iload_n C.1 C.2.1 dX13_pointAt_0 rfl (lv_at hl 3 rfl) ?_
  refine lv_iconst (v := 1) C.1 C.2.1 dX13_pointAt_1 (by decide) ?_
  refine lv_icmp_ne (tgt := 13) C.1 C.2.1 dX13_pointAt_2 (by decide) (fun hc => ?_) (fun hc => ?_)
  · replace h := iff0 hc h
    refine lv_ldc2 C.1 C.2.1 C.2.2.2.1 (C.2.2.2.2 _ nM513) dX13_pointAt_13 ?_
    refine lv_ldc2 C.1 C.2.1 C.2.2.2.1 (C.2.2.2.2 _ nM515) dX13_pointAt_16 ?_
    refine lv_aload_n C.1 C.2.1 dX13_pointAt_19 rfl (lv_at hl 0 rfl) ?_
    refine lv_iload_n C.1 C.2.1 dX13_pointAt_20 rfl (lv_at hl 1 rfl) ?_
    refine lv_iload_n C.1 C.2.1 dX13_pointAt_21 rfl (lv_at hl 2 rfl) ?_
    obtain ⟨v_1, hv_1, h⟩ := bnd h
    refine x_callVi (q := (RX13, TX13, 68)) (As := [.int x1, .int x2]) (rest := [.long (1024 : Int64), .long (65536 : Int64)]) C w (k_unitAt l D T ρ g H.size S hv_1) vM470 ⟨by decide, by decide⟩ obM (by decide) rfl rfl rfl hl.1 (Nat.le_of_ble_eq_true rfl) ⟨Nat.zero_le _, Nat.zero_le _⟩ dX13_pointAt_22 (fun H locs w => ?_)
    refine lv_ldcw C.1 C.2.1 C.2.2.2.1 (C.2.2.2.2 _ nM476) dX13_pointAt_25 ?_
    refine lv_isub C.1 C.2.1 dX13_pointAt_28 ?_
    refine lv_i2l C.1 C.2.1 dX13_pointAt_29 rfl ?_
    refine lv_lmul C.1 C.2.1 dX13_pointAt_30 ?_
    refine lv_ladd C.1 C.2.1 dX13_pointAt_31 ?_
    refine lv_aload_n C.1 C.2.1 dX13_pointAt_32 rfl (lv_at hl 0 rfl) ?_
    refine lv_iload_n C.1 C.2.1 dX13_pointAt_33 rfl (lv_at hl 1 rfl) ?_
    refine lv_iload_n C.1 C.2.1 dX13_pointAt_34 rfl (lv_at hl 2 rfl) ?_
    refine lv_iconst (v := 1) C.1 C.2.1 dX13_pointAt_35 (by decide) ?_
    refine lv_iadd C.1 C.2.1 dX13_pointAt_36 ?_
    obtain ⟨v_2, hv_2, h⟩ := bnd h
    refine x_callVi (q := (RX13, TX13, 68)) (As := [.int x1, .int (x2 + (1 : Int32))]) (rest := [.long ((65536 : Int64) + ((1024 : Int64) * ((v_1 - (55296 : Int32)).toInt64)))]) C w (k_unitAt l D T ρ g H.size S hv_2) vM470 ⟨by decide, by decide⟩ obM (by decide) rfl rfl rfl hl.1 (Nat.le_of_ble_eq_true rfl) ⟨Nat.zero_le _, Nat.zero_le _⟩ dX13_pointAt_37 (fun H locs w => ?_)
    refine lv_i2l C.1 C.2.1 dX13_pointAt_40 rfl ?_
    refine lv_ladd C.1 C.2.1 dX13_pointAt_41 ?_
    refine lv_ldc2 C.1 C.2.1 C.2.2.2.1 (C.2.2.2.2 _ nM517) dX13_pointAt_42 ?_
    refine lv_lsub C.1 C.2.1 dX13_pointAt_45 ?_
    obtain rfl := som h
    exact x_lret C w hr hk dX13_pointAt_46
  · replace h := ift hc h
    refine lv_aload_n C.1 C.2.1 dX13_pointAt_5 rfl (lv_at hl 0 rfl) ?_
    refine lv_iload_n C.1 C.2.1 dX13_pointAt_6 rfl (lv_at hl 1 rfl) ?_
    refine lv_iload_n C.1 C.2.1 dX13_pointAt_7 rfl (lv_at hl 2 rfl) ?_
    obtain ⟨v_3, hv_3, h⟩ := bnd h
    refine x_callVi (q := (RX13, TX13, 68)) (As := [.int x1, .int x2]) (rest := []) C w (k_unitAt l D T ρ g H.size S hv_3) vM470 ⟨by decide, by decide⟩ obM (by decide) rfl rfl rfl hl.1 (Nat.le_of_ble_eq_true rfl) ⟨Nat.zero_le _, Nat.zero_le _⟩ dX13_pointAt_8 (fun H locs w => ?_)
    refine lv_i2l C.1 C.2.1 dX13_pointAt_11 rfl ?_
    obtain rfl := som h
    exact x_lret C w hr hk dX13_pointAt_12
end S_pointAt
set_option maxRecDepth 100000 in
theorem k_pointAt (l : Launch) (D : va_G) (T : Cy) (ρ : Nat → Nat) (g sz : Nat) (S : St) {x1 : Int32} {x2 : Int32} {x3 : Int32} {r : Int64} (h : m_pointAt g S x1 x2 x3 = some r) : Mj l Ym D T ρ yX13_pointAt cX13_pointAt 4 (some .long) 1 22 S S r [.ref (ρ 0), .int x1, .int x2, .int x3] sz :=
  x_in (by decide) (Nat.le_of_ble_eq_true rfl) (fun p e s m below meth c ls C hr hk w hl => w_pointAt_0 C hr hk w hl h)

theorem dX13_pointsOf_0 : decode cX13_pointsOf 0 = .ok (.lconst 0, 1) := by decide +kernel
theorem dX13_pointsOf_1 : decode cX13_pointsOf 1 = .ok (.lstore 4, 2) := by decide +kernel
theorem dX13_pointsOf_3 : decode cX13_pointsOf 3 = .ok (.iload_n 2, 1) := by decide +kernel
theorem dX13_pointsOf_4 : decode cX13_pointsOf 4 = .ok (.istore 6, 2) := by decide +kernel
theorem dX13_pointsOf_6 : decode cX13_pointsOf 6 = .ok (.iload 6, 2) := by decide +kernel
theorem dX13_pointsOf_8 : decode cX13_pointsOf 8 = .ok (.iload_n 3, 1) := by decide +kernel
theorem dX13_pointsOf_9 : decode cX13_pointsOf 9 = .ok (.if_icmp .ge 25, 3) := by decide +kernel
theorem dX13_pointsOf_12 : decode cX13_pointsOf 12 = .ok (.iload 6, 2) := by decide +kernel
theorem dX13_pointsOf_14 : decode cX13_pointsOf 14 = .ok (.aload_n 0, 1) := by decide +kernel
theorem dX13_pointsOf_15 : decode cX13_pointsOf 15 = .ok (.iload_n 1, 1) := by decide +kernel
theorem dX13_pointsOf_16 : decode cX13_pointsOf 16 = .ok (.iload 6, 2) := by decide +kernel
theorem dX13_pointsOf_18 : decode cX13_pointsOf 18 = .ok (.iload_n 3, 1) := by decide +kernel
theorem dX13_pointsOf_19 : decode cX13_pointsOf 19 = .ok (.invokevirtual 589, 3) := by decide +kernel
theorem dX13_pointsOf_22 : decode cX13_pointsOf 22 = .ok (.iadd, 1) := by decide +kernel
theorem dX13_pointsOf_23 : decode cX13_pointsOf 23 = .ok (.istore 6, 2) := by decide +kernel
theorem dX13_pointsOf_25 : decode cX13_pointsOf 25 = .ok (.lload 4, 2) := by decide +kernel
theorem dX13_pointsOf_27 : decode cX13_pointsOf 27 = .ok (.lconst 1, 1) := by decide +kernel
theorem dX13_pointsOf_28 : decode cX13_pointsOf 28 = .ok (.ladd, 1) := by decide +kernel
theorem dX13_pointsOf_29 : decode cX13_pointsOf 29 = .ok (.lstore 4, 2) := by decide +kernel
theorem dX13_pointsOf_31 : decode cX13_pointsOf 31 = .ok (.goto (-25), 3) := by decide +kernel
theorem dX13_pointsOf_34 : decode cX13_pointsOf 34 = .ok (.lload 4, 2) := by decide +kernel
theorem dX13_pointsOf_36 : decode cX13_pointsOf 36 = .ok (.lreturn, 1) := by decide +kernel
def b_pointsOf_6 (g : Nat) (S : St) (k6 : Int32 → Int32 → Int64 → Int32 → Option Int64) (x1 : Int32) (x3 : Int32) (x4 : Int64) (x6 : Int32) : Option Int64 :=
if x3 ≤ x6 then (
  some x4
) else (
  (m_pointSize g S x1 x6 x3).bind fun v_1 =>
  lt (x6 + v_1) fun x6_2 =>
  lt (x4 + (1 : Int64)) fun x4_3 =>
  k6 x1 x3 x4_3 x6_2
)
def m_pointsOf_6 (g : Nat) (S : St) : Nat → Int32 → Int32 → Int64 → Int32 → Option Int64
  | 0, _, _, _, _ => none
  | n + 1, x1, x3, x4, x6 => b_pointsOf_6 g S (m_pointsOf_6 g S n) x1 x3 x4 x6
def m_pointsOf (g : Nat) (S : St) (x1 : Int32) (x2 : Int32) (x3 : Int32) : Option Int64 :=
m_pointsOf_6 g S g x1 x3 (0 : Int64) x2
section S_pointsOf
variable {p : Program} {l : Launch} {e : Env} {s : State} {m : MethodId} {args : Array Value} {below : List Frame} {meth : Method} {c : Code} {H : Heap} {locs : List Loc} {ls : Array Slot} {D : va_G} {T : Cy} {ρ : Nat → Nat} {A : Nat → Prop}
set_option maxRecDepth 100000 in
set_option maxHeartbeats 4000000 in
theorem wb_pointsOf_6  {g : Nat} {S : St} {x1 : Int32} {x3 : Int32} {x4 : Int64} {x6 : Int32} (C : CallFix p m c cX13_pointsOf 7 s args tb RX13) (hr : meth.sig.returnType = (some .long)) (hk : meth.locks = false) {r : Int64} {k6 : Int32 → Int32 → Int64 → Int32 → Option Int64} (kk6 : ∀ (x1 : Int32) (x3 : Int32) (x4 : Int64) (x6 : Int32) (H : Heap) (locs : List Loc) (ls : Array Slot), Wn Ym D T ρ S A s H locs → lv_has ls 7 [(0, .ref (ρ 0)), (1, .int x1), (3, .int x3), (4, .long x4), (6, .int x6)] → k6 x1 x3 x4 x6 = some r → W p l e (rmN 2 45) s m args below meth c H locs 0 0 (MQ below (Qj Ym D T ρ A S r) args s 0 0 A) (F0 m 6 ls [])) (w : Wn Ym D T ρ S A s H locs) (hl : lv_has ls 7 [(0, .ref (ρ 0)), (1, .int x1), (3, .int x3), (4, .long x4), (6, .int x6)]) (h : b_pointsOf_6 g S k6 x1 x3 x4 x6 = some r) : W p l e (rmN 2 45) s m args below meth c H locs 0 0 (MQ below (Qj Ym D T ρ A S r) args s 0 0 A) (F0 m 6 ls []) := by
  unfold b_pointsOf_6 at h
  refine lv_iload C.1 C.2.1 dX13_pointsOf_6 (lv_at hl 4 rfl) ?_
  refine lv_iload_n C.1 C.2.1 dX13_pointsOf_8 rfl (lv_at hl 2 rfl) ?_
  refine lv_icmp_ge (tgt := 34) C.1 C.2.1 dX13_pointsOf_9 (by decide) (fun hc => ?_) (fun hc => ?_)
  · replace h := ift hc h
    refine lv_lload C.1 C.2.1 dX13_pointsOf_34 (lv_at hl 3 rfl) ?_
    obtain rfl := som h
    exact x_lret C w hr hk dX13_pointsOf_36
  · replace h := iff0 hc h
    refine lv_iload C.1 C.2.1 dX13_pointsOf_12 (lv_at hl 4 rfl) ?_
    refine lv_aload_n C.1 C.2.1 dX13_pointsOf_14 rfl (lv_at hl 0 rfl) ?_
    refine lv_iload_n C.1 C.2.1 dX13_pointsOf_15 rfl (lv_at hl 1 rfl) ?_
    refine lv_iload C.1 C.2.1 dX13_pointsOf_16 (lv_at hl 4 rfl) ?_
    refine lv_iload_n C.1 C.2.1 dX13_pointsOf_18 rfl (lv_at hl 2 rfl) ?_
    obtain ⟨v_1, hv_1, h⟩ := bnd h
    refine x_callVi (q := (RX13, TX13, 68)) (As := [.int x1, .int x6, .int x3]) (rest := [.int x6]) C w (k_pointSize l D T ρ g H.size S hv_1) vM589 ⟨by decide, by decide⟩ obM (by decide) rfl rfl rfl hl.1 (Nat.le_of_ble_eq_true rfl) ⟨Nat.zero_le _, Nat.zero_le _⟩ dX13_pointsOf_19 (fun H locs w => ?_)
    refine lv_iadd C.1 C.2.1 dX13_pointsOf_22 ?_
    obtain ⟨x6_2, ex6_2, h⟩ := lt_e h
    refine x_nm ex6_2 ?_
    refine lv_istore (lv' := [(6, .int x6_2), (0, .ref (ρ 0)), (1, .int x1), (3, .int x3), (4, .long x4)]) C.1 C.2.1 dX13_pointsOf_23 hl (by decide) rfl (fun ls hl => ?_)
    refine lv_lload C.1 C.2.1 dX13_pointsOf_25 (lv_at hl 4 rfl) ?_
    refine lv_lconst (v := 1) C.1 C.2.1 dX13_pointsOf_27 (by decide) ?_
    refine lv_ladd C.1 C.2.1 dX13_pointsOf_28 ?_
    obtain ⟨x4_3, ex4_3, h⟩ := lt_e h
    refine x_nmL ex4_3 ?_
    refine lv_lstore (lv' := [(4, .long x4_3), (6, .int x6_2), (0, .ref (ρ 0)), (1, .int x1), (3, .int x3)]) C.1 C.2.1 dX13_pointsOf_29 hl (by decide) rfl (fun ls hl => ?_)
    refine lv_goto (tgt := 6) C.1 C.2.1 dX13_pointsOf_31 (by decide) ?_
    exact kk6 _ _ _ _ _ _ _ w (lv_sub hl [2, 3, 4, 0, 1] rfl) h
theorem w_pointsOf_6 {g : Nat} {S : St} (C : CallFix p m c cX13_pointsOf 7 s args tb RX13) (hr : meth.sig.returnType = (some .long)) (hk : meth.locks = false) {r : Int64} (n : Nat) : ∀ (x1 : Int32) (x3 : Int32) (x4 : Int64) (x6 : Int32) (H : Heap) (locs : List Loc) (ls : Array Slot), Wn Ym D T ρ S A s H locs → lv_has ls 7 [(0, .ref (ρ 0)), (1, .int x1), (3, .int x3), (4, .long x4), (6, .int x6)] → m_pointsOf_6 g S n x1 x3 x4 x6 = some r → W p l e (rmN 2 45) s m args below meth c H locs 0 0 (MQ below (Qj Ym D T ρ A S r) args s 0 0 A) (F0 m 6 ls []) := by
  induction n with
  | zero => intro x1 x3 x4 x6 H locs ls w hl h; exact absurd h (fun q => by cases q)
  | succ n ih => intro x1 x3 x4 x6 H locs ls w hl h; exact wb_pointsOf_6 C hr hk ih w hl h
set_option maxRecDepth 100000 in
set_option maxHeartbeats 4000000 in
theorem w_pointsOf_0  {g : Nat} {S : St} {x1 : Int32} {x2 : Int32} {x3 : Int32} (C : CallFix p m c cX13_pointsOf 7 s args tb RX13) (hr : meth.sig.returnType = (some .long)) (hk : meth.locks = false) {r : Int64} (w : Wn Ym D T ρ S A s H locs) (hl : lv_has ls 7 [(0, .ref (ρ 0)), (1, .int x1), (2, .int x2), (3, .int x3)]) (h : m_pointsOf g S x1 x2 x3 = some r) : W p l e (rmN 2 45) s m args below meth c H locs 0 0 (MQ below (Qj Ym D T ρ A S r) args s 0 0 A) (F0 m 0 ls []) := by
  unfold m_pointsOf at h
  refine lv_lconst (v := 0) C.1 C.2.1 dX13_pointsOf_0 (by decide) ?_
  refine lv_lstore (lv' := [(4, .long (0 : Int64)), (0, .ref (ρ 0)), (1, .int x1), (2, .int x2), (3, .int x3)]) C.1 C.2.1 dX13_pointsOf_1 hl (by decide) rfl (fun ls hl => ?_)
  refine lv_iload_n C.1 C.2.1 dX13_pointsOf_3 rfl (lv_at hl 3 rfl) ?_
  refine lv_istore (lv' := [(6, .int x2), (4, .long (0 : Int64)), (0, .ref (ρ 0)), (1, .int x1), (2, .int x2), (3, .int x3)]) C.1 C.2.1 dX13_pointsOf_4 hl (by decide) rfl (fun ls hl => ?_)
  exact w_pointsOf_6 C hr hk g _ _ _ _ _ _ _ w (lv_sub hl [2, 3, 5, 1, 0] rfl) h
end S_pointsOf
set_option maxRecDepth 100000 in
theorem k_pointsOf (l : Launch) (D : va_G) (T : Cy) (ρ : Nat → Nat) (g sz : Nat) (S : St) {x1 : Int32} {x2 : Int32} {x3 : Int32} {r : Int64} (h : m_pointsOf g S x1 x2 x3 = some r) : Mj l Ym D T ρ yX13_pointsOf cX13_pointsOf 7 (some .long) 2 45 S S r [.ref (ρ 0), .int x1, .int x2, .int x3] sz :=
  x_in (by decide) (Nat.le_of_ble_eq_true rfl) (fun p e s m below meth c ls C hr hk w hl => w_pointsOf_0 C hr hk w hl h)

theorem dX13_looks_0 : decode cX13_looks 0 = .ok (.aload_n 0, 1) := by decide +kernel
theorem dX13_looks_1 : decode cX13_looks 1 = .ok (.iload_n 2, 1) := by decide +kernel
theorem dX13_looks_2 : decode cX13_looks 2 = .ok (.iconst 1, 1) := by decide +kernel
theorem dX13_looks_3 : decode cX13_looks 3 = .ok (.iadd, 1) := by decide +kernel
theorem dX13_looks_4 : decode cX13_looks 4 = .ok (.invokevirtual 558, 3) := by decide +kernel
theorem dX13_looks_7 : decode cX13_looks 7 = .ok (.istore_n 3, 1) := by decide +kernel
theorem dX13_looks_8 : decode cX13_looks 8 = .ok (.aload_n 0, 1) := by decide +kernel
theorem dX13_looks_9 : decode cX13_looks 9 = .ok (.iload_n 2, 1) := by decide +kernel
theorem dX13_looks_10 : decode cX13_looks 10 = .ok (.iconst 2, 1) := by decide +kernel
theorem dX13_looks_11 : decode cX13_looks 11 = .ok (.iadd, 1) := by decide +kernel
theorem dX13_looks_12 : decode cX13_looks 12 = .ok (.invokevirtual 459, 3) := by decide +kernel
theorem dX13_looks_15 : decode cX13_looks 15 = .ok (.lstore 4, 2) := by decide +kernel
theorem dX13_looks_17 : decode cX13_looks 17 = .ok (.aload_n 0, 1) := by decide +kernel
theorem dX13_looks_18 : decode cX13_looks 18 = .ok (.getfield 193, 3) := by decide +kernel
theorem dX13_looks_21 : decode cX13_looks 21 = .ok (.iload_n 3, 1) := by decide +kernel
theorem dX13_looks_22 : decode cX13_looks 22 = .ok (.iaload, 1) := by decide +kernel
theorem dX13_looks_23 : decode cX13_looks 23 = .ok (.istore 6, 2) := by decide +kernel
theorem dX13_looks_25 : decode cX13_looks 25 = .ok (.iload_n 1, 1) := by decide +kernel
theorem dX13_looks_26 : decode cX13_looks 26 = .ok (.bipush 14, 2) := by decide +kernel
theorem dX13_looks_28 : decode cX13_looks 28 = .ok (.if_icmp .lt 116, 3) := by decide +kernel
theorem dX13_looks_31 : decode cX13_looks 31 = .ok (.aload_n 0, 1) := by decide +kernel
theorem dX13_looks_32 : decode cX13_looks 32 = .ok (.iload_n 2, 1) := by decide +kernel
theorem dX13_looks_33 : decode cX13_looks 33 = .ok (.iconst 3, 1) := by decide +kernel
theorem dX13_looks_34 : decode cX13_looks 34 = .ok (.iadd, 1) := by decide +kernel
theorem dX13_looks_35 : decode cX13_looks 35 = .ok (.invokevirtual 459, 3) := by decide +kernel
theorem dX13_looks_38 : decode cX13_looks 38 = .ok (.lstore 7, 2) := by decide +kernel
theorem dX13_looks_40 : decode cX13_looks 40 = .ok (.iload_n 1, 1) := by decide +kernel
theorem dX13_looks_41 : decode cX13_looks 41 = .ok (.bipush 14, 2) := by decide +kernel
theorem dX13_looks_43 : decode cX13_looks 43 = .ok (.if_icmp .ne 36, 3) := by decide +kernel
theorem dX13_looks_46 : decode cX13_looks 46 = .ok (.aload_n 0, 1) := by decide +kernel
theorem dX13_looks_47 : decode cX13_looks 47 = .ok (.lload 4, 2) := by decide +kernel
theorem dX13_looks_49 : decode cX13_looks 49 = .ok (.lconst 0, 1) := by decide +kernel
theorem dX13_looks_50 : decode cX13_looks 50 = .ok (.lload 7, 2) := by decide +kernel
theorem dX13_looks_52 : decode cX13_looks 52 = .ok (.invokestatic 318, 3) := by decide +kernel
theorem dX13_looks_55 : decode cX13_looks 55 = .ok (.ifCond .eq 12, 3) := by decide +kernel
theorem dX13_looks_58 : decode cX13_looks 58 = .ok (.lload 7, 2) := by decide +kernel
theorem dX13_looks_60 : decode cX13_looks 60 = .ok (.iload 6, 2) := by decide +kernel
theorem dX13_looks_62 : decode cX13_looks 62 = .ok (.i2l, 1) := by decide +kernel
theorem dX13_looks_63 : decode cX13_looks 63 = .ok (.lcmp, 1) := by decide +kernel
theorem dX13_looks_64 : decode cX13_looks 64 = .ok (.ifCond .le 7, 3) := by decide +kernel
theorem dX13_looks_67 : decode cX13_looks 67 = .ok (.iconst 1, 1) := by decide +kernel
theorem dX13_looks_68 : decode cX13_looks 68 = .ok (.goto 4, 3) := by decide +kernel
theorem dX13_looks_71 : decode cX13_looks 71 = .ok (.iconst 0, 1) := by decide +kernel
theorem dX13_looks_72 : decode cX13_looks 72 = .ok (.iconst 1, 1) := by decide +kernel
theorem dX13_looks_73 : decode cX13_looks 73 = .ok (.invokevirtual 466, 3) := by decide +kernel
theorem dX13_looks_76 : decode cX13_looks 76 = .ok (.goto 25, 3) := by decide +kernel
theorem dX13_looks_79 : decode cX13_looks 79 = .ok (.aload_n 0, 1) := by decide +kernel
theorem dX13_looks_80 : decode cX13_looks 80 = .ok (.lload 4, 2) := by decide +kernel
theorem dX13_looks_82 : decode cX13_looks 82 = .ok (.lconst 0, 1) := by decide +kernel
theorem dX13_looks_83 : decode cX13_looks 83 = .ok (.iload 6, 2) := by decide +kernel
theorem dX13_looks_85 : decode cX13_looks 85 = .ok (.i2l, 1) := by decide +kernel
theorem dX13_looks_86 : decode cX13_looks 86 = .ok (.invokestatic 318, 3) := by decide +kernel
theorem dX13_looks_89 : decode cX13_looks 89 = .ok (.ifCond .ne 7, 3) := by decide +kernel
theorem dX13_looks_92 : decode cX13_looks 92 = .ok (.iconst 1, 1) := by decide +kernel
theorem dX13_looks_93 : decode cX13_looks 93 = .ok (.goto 4, 3) := by decide +kernel
theorem dX13_looks_96 : decode cX13_looks 96 = .ok (.iconst 0, 1) := by decide +kernel
theorem dX13_looks_97 : decode cX13_looks 97 = .ok (.iconst 1, 1) := by decide +kernel
theorem dX13_looks_98 : decode cX13_looks 98 = .ok (.invokevirtual 466, 3) := by decide +kernel
theorem dX13_looks_101 : decode cX13_looks 101 = .ok (.aload_n 0, 1) := by decide +kernel
theorem dX13_looks_102 : decode cX13_looks 102 = .ok (.getfield 398, 3) := by decide +kernel
theorem dX13_looks_105 : decode cX13_looks 105 = .ok (.ifCond .ne 38, 3) := by decide +kernel
theorem dX13_looks_108 : decode cX13_looks 108 = .ok (.aload_n 0, 1) := by decide +kernel
theorem dX13_looks_109 : decode cX13_looks 109 = .ok (.iload_n 2, 1) := by decide +kernel
theorem dX13_looks_110 : decode cX13_looks 110 = .ok (.iload_n 1, 1) := by decide +kernel
theorem dX13_looks_111 : decode cX13_looks 111 = .ok (.bipush 14, 2) := by decide +kernel
theorem dX13_looks_113 : decode cX13_looks 113 = .ok (.if_icmp .ne 17, 3) := by decide +kernel
theorem dX13_looks_116 : decode cX13_looks 116 = .ok (.aload_n 0, 1) := by decide +kernel
theorem dX13_looks_117 : decode cX13_looks 117 = .ok (.iload_n 3, 1) := by decide +kernel
theorem dX13_looks_118 : decode cX13_looks 118 = .ok (.lload 4, 2) := by decide +kernel
theorem dX13_looks_120 : decode cX13_looks 120 = .ok (.l2i, 1) := by decide +kernel
theorem dX13_looks_121 : decode cX13_looks 121 = .ok (.lload 7, 2) := by decide +kernel
theorem dX13_looks_123 : decode cX13_looks 123 = .ok (.l2i, 1) := by decide +kernel
theorem dX13_looks_124 : decode cX13_looks 124 = .ok (.invokevirtual 581, 3) := by decide +kernel
theorem dX13_looks_127 : decode cX13_looks 127 = .ok (.goto 13, 3) := by decide +kernel
theorem dX13_looks_130 : decode cX13_looks 130 = .ok (.aload_n 0, 1) := by decide +kernel
theorem dX13_looks_131 : decode cX13_looks 131 = .ok (.iload_n 3, 1) := by decide +kernel
theorem dX13_looks_132 : decode cX13_looks 132 = .ok (.lload 4, 2) := by decide +kernel
theorem dX13_looks_134 : decode cX13_looks 134 = .ok (.l2i, 1) := by decide +kernel
theorem dX13_looks_135 : decode cX13_looks 135 = .ok (.lload 7, 2) := by decide +kernel
theorem dX13_looks_137 : decode cX13_looks 137 = .ok (.invokevirtual 585, 3) := by decide +kernel
theorem dX13_looks_140 : decode cX13_looks 140 = .ok (.invokevirtual 567, 3) := by decide +kernel
theorem dX13_looks_143 : decode cX13_looks 143 = .ok (.return_, 1) := by decide +kernel
theorem dX13_looks_144 : decode cX13_looks 144 = .ok (.aload_n 0, 1) := by decide +kernel
theorem dX13_looks_145 : decode cX13_looks 145 = .ok (.iload_n 1, 1) := by decide +kernel
theorem dX13_looks_146 : decode cX13_looks 146 = .ok (.bipush 13, 2) := by decide +kernel
theorem dX13_looks_148 : decode cX13_looks 148 = .ok (.if_icmp .ne 18, 3) := by decide +kernel
theorem dX13_looks_151 : decode cX13_looks 151 = .ok (.lload 4, 2) := by decide +kernel
theorem dX13_looks_153 : decode cX13_looks 153 = .ok (.lconst 1, 1) := by decide +kernel
theorem dX13_looks_154 : decode cX13_looks 154 = .ok (.iload 6, 2) := by decide +kernel
theorem dX13_looks_156 : decode cX13_looks 156 = .ok (.i2l, 1) := by decide +kernel
theorem dX13_looks_157 : decode cX13_looks 157 = .ok (.invokestatic 318, 3) := by decide +kernel
theorem dX13_looks_160 : decode cX13_looks 160 = .ok (.ifCond .eq 20, 3) := by decide +kernel
theorem dX13_looks_163 : decode cX13_looks 163 = .ok (.goto 21, 3) := by decide +kernel
theorem dX13_looks_166 : decode cX13_looks 166 = .ok (.lload 4, 2) := by decide +kernel
theorem dX13_looks_168 : decode cX13_looks 168 = .ok (.lconst 0, 1) := by decide +kernel
theorem dX13_looks_169 : decode cX13_looks 169 = .ok (.iload 6, 2) := by decide +kernel
theorem dX13_looks_171 : decode cX13_looks 171 = .ok (.iconst 1, 1) := by decide +kernel
theorem dX13_looks_172 : decode cX13_looks 172 = .ok (.isub, 1) := by decide +kernel
theorem dX13_looks_173 : decode cX13_looks 173 = .ok (.i2l, 1) := by decide +kernel
theorem dX13_looks_174 : decode cX13_looks 174 = .ok (.invokestatic 318, 3) := by decide +kernel
theorem dX13_looks_177 : decode cX13_looks 177 = .ok (.ifCond .ne 7, 3) := by decide +kernel
theorem dX13_looks_180 : decode cX13_looks 180 = .ok (.iconst 1, 1) := by decide +kernel
theorem dX13_looks_181 : decode cX13_looks 181 = .ok (.goto 4, 3) := by decide +kernel
theorem dX13_looks_184 : decode cX13_looks 184 = .ok (.iconst 0, 1) := by decide +kernel
theorem dX13_looks_185 : decode cX13_looks 185 = .ok (.iconst 1, 1) := by decide +kernel
theorem dX13_looks_186 : decode cX13_looks 186 = .ok (.invokevirtual 466, 3) := by decide +kernel
theorem dX13_looks_189 : decode cX13_looks 189 = .ok (.aload_n 0, 1) := by decide +kernel
theorem dX13_looks_190 : decode cX13_looks 190 = .ok (.getfield 398, 3) := by decide +kernel
theorem dX13_looks_193 : decode cX13_looks 193 = .ok (.ifCond .eq 4, 3) := by decide +kernel
theorem dX13_looks_196 : decode cX13_looks 196 = .ok (.return_, 1) := by decide +kernel
theorem dX13_looks_197 : decode cX13_looks 197 = .ok (.lload 4, 2) := by decide +kernel
theorem dX13_looks_199 : decode cX13_looks 199 = .ok (.l2i, 1) := by decide +kernel
theorem dX13_looks_200 : decode cX13_looks 200 = .ok (.istore 7, 2) := by decide +kernel
theorem dX13_looks_202 : decode cX13_looks 202 = .ok (.iload_n 1, 1) := by decide +kernel
theorem dX13_looks_203 : decode cX13_looks 203 = .ok (.bipush 11, 2) := by decide +kernel
theorem dX13_looks_205 : decode cX13_looks 205 = .ok (.if_icmp .ne 19, 3) := by decide +kernel
theorem dX13_looks_208 : decode cX13_looks 208 = .ok (.aload_n 0, 1) := by decide +kernel
theorem dX13_looks_209 : decode cX13_looks 209 = .ok (.iload_n 2, 1) := by decide +kernel
theorem dX13_looks_210 : decode cX13_looks 210 = .ok (.aload_n 0, 1) := by decide +kernel
theorem dX13_looks_211 : decode cX13_looks 211 = .ok (.iload_n 3, 1) := by decide +kernel
theorem dX13_looks_212 : decode cX13_looks 212 = .ok (.iload 7, 2) := by decide +kernel
theorem dX13_looks_214 : decode cX13_looks 214 = .ok (.invokevirtual 470, 3) := by decide +kernel
theorem dX13_looks_217 : decode cX13_looks 217 = .ok (.i2l, 1) := by decide +kernel
theorem dX13_looks_218 : decode cX13_looks 218 = .ok (.invokevirtual 567, 3) := by decide +kernel
theorem dX13_looks_221 : decode cX13_looks 221 = .ok (.goto 60, 3) := by decide +kernel
theorem dX13_looks_224 : decode cX13_looks 224 = .ok (.iload_n 1, 1) := by decide +kernel
theorem dX13_looks_225 : decode cX13_looks 225 = .ok (.bipush 12, 2) := by decide +kernel
theorem dX13_looks_227 : decode cX13_looks 227 = .ok (.if_icmp .ne 27, 3) := by decide +kernel
theorem dX13_looks_230 : decode cX13_looks 230 = .ok (.aload_n 0, 1) := by decide +kernel
theorem dX13_looks_231 : decode cX13_looks 231 = .ok (.iload_n 2, 1) := by decide +kernel
theorem dX13_looks_232 : decode cX13_looks 232 = .ok (.aload_n 0, 1) := by decide +kernel
theorem dX13_looks_233 : decode cX13_looks 233 = .ok (.iload_n 3, 1) := by decide +kernel
theorem dX13_looks_234 : decode cX13_looks 234 = .ok (.iload 7, 2) := by decide +kernel
theorem dX13_looks_236 : decode cX13_looks 236 = .ok (.aload_n 0, 1) := by decide +kernel
theorem dX13_looks_237 : decode cX13_looks 237 = .ok (.iload_n 3, 1) := by decide +kernel
theorem dX13_looks_238 : decode cX13_looks 238 = .ok (.iload 7, 2) := by decide +kernel
theorem dX13_looks_240 : decode cX13_looks 240 = .ok (.iload 6, 2) := by decide +kernel
theorem dX13_looks_242 : decode cX13_looks 242 = .ok (.invokevirtual 589, 3) := by decide +kernel
theorem dX13_looks_245 : decode cX13_looks 245 = .ok (.invokevirtual 592, 3) := by decide +kernel
theorem dX13_looks_248 : decode cX13_looks 248 = .ok (.invokevirtual 567, 3) := by decide +kernel
theorem dX13_looks_251 : decode cX13_looks 251 = .ok (.goto 30, 3) := by decide +kernel
theorem dX13_looks_254 : decode cX13_looks 254 = .ok (.aload_n 0, 1) := by decide +kernel
theorem dX13_looks_255 : decode cX13_looks 255 = .ok (.iload_n 2, 1) := by decide +kernel
theorem dX13_looks_256 : decode cX13_looks 256 = .ok (.aload_n 0, 1) := by decide +kernel
theorem dX13_looks_257 : decode cX13_looks 257 = .ok (.iload_n 3, 1) := by decide +kernel
theorem dX13_looks_258 : decode cX13_looks 258 = .ok (.iload 7, 2) := by decide +kernel
theorem dX13_looks_260 : decode cX13_looks 260 = .ok (.aload_n 0, 1) := by decide +kernel
theorem dX13_looks_261 : decode cX13_looks 261 = .ok (.iload_n 3, 1) := by decide +kernel
theorem dX13_looks_262 : decode cX13_looks 262 = .ok (.iload 7, 2) := by decide +kernel
theorem dX13_looks_264 : decode cX13_looks 264 = .ok (.invokevirtual 595, 3) := by decide +kernel
theorem dX13_looks_267 : decode cX13_looks 267 = .ok (.isub, 1) := by decide +kernel
theorem dX13_looks_268 : decode cX13_looks 268 = .ok (.aload_n 0, 1) := by decide +kernel
theorem dX13_looks_269 : decode cX13_looks 269 = .ok (.iload_n 3, 1) := by decide +kernel
theorem dX13_looks_270 : decode cX13_looks 270 = .ok (.iload 7, 2) := by decide +kernel
theorem dX13_looks_272 : decode cX13_looks 272 = .ok (.invokevirtual 595, 3) := by decide +kernel
theorem dX13_looks_275 : decode cX13_looks 275 = .ok (.invokevirtual 592, 3) := by decide +kernel
theorem dX13_looks_278 : decode cX13_looks 278 = .ok (.invokevirtual 567, 3) := by decide +kernel
theorem dX13_looks_281 : decode cX13_looks 281 = .ok (.return_, 1) := by decide +kernel
def m_looks_185 (g : Nat) (S : St) (x1 : Int32) (x2 : Int32) (x3 : Int32) (x4 : Int64) (x6 : Int32) (y1 : Int32) : Option St :=
(m_refuse g S y1 (1 : Int32)).bind fun S_6 =>
if (gI S_6 0 58) = 0 then (
  lt (x4.toInt32) fun x7_7 =>
  if x1 = (11 : Int32) then (
    (m_unitAt g S_6 x3 x7_7).bind fun v_15 =>
    (m_givesWhole g S_6 x2 (v_15.toInt64)).bind fun S_16 =>
    some S_16
  ) else (
    if x1 = (12 : Int32) then (
      (m_pointSize g S_6 x3 x7_7 x6).bind fun v_12 =>
      (m_pointAt g S_6 x3 x7_7 v_12).bind fun v_13 =>
      (m_givesWhole g S_6 x2 v_13).bind fun S_14 =>
      some S_14
    ) else (
      (m_sizeBefore g S_6 x3 x7_7).bind fun v_8 =>
      (m_sizeBefore g S_6 x3 x7_7).bind fun v_9 =>
      (m_pointAt g S_6 x3 (x7_7 - v_8) v_9).bind fun v_10 =>
      (m_givesWhole g S_6 x2 v_10).bind fun S_11 =>
      some S_11
    )
  )
) else (
  some S_6
)
def m_looks_184 (g : Nat) (S : St) (x1 : Int32) (x2 : Int32) (x3 : Int32) (x4 : Int64) (x6 : Int32) : Option St :=
m_looks_185 g S x1 x2 x3 x4 x6 (0 : Int32)
def m_looks_180 (g : Nat) (S : St) (x1 : Int32) (x2 : Int32) (x3 : Int32) (x4 : Int64) (x6 : Int32) : Option St :=
m_looks_185 g S x1 x2 x3 x4 x6 (1 : Int32)
def m_looks_140 (g : Nat) (S : St) (y1 : Int32) (y2 : Int64) : Option St :=
(m_givesWhole g S y1 y2).bind fun S_12 =>
some S_12
def m_looks_101 (g : Nat) (S : St) (x1 : Int32) (x2 : Int32) (x3 : Int32) (x4 : Int64) (x7 : Int64) : Option St :=
if (gI S 0 58) = 0 then (
  if x1 = (14 : Int32) then (
    (m_pointsOf g S x3 (x4.toInt32) (x7.toInt32)).bind fun v_12 =>
    m_looks_140 g S x2 v_12
  ) else (
    (m_offset g S x3 (x4.toInt32) x7).bind fun (S_10, v_11) =>
    m_looks_140 g S_10 x2 v_11
  )
) else (
  some S
)
def m_looks_97 (g : Nat) (S : St) (x1 : Int32) (x2 : Int32) (x3 : Int32) (x4 : Int64) (x7 : Int64) (y1 : Int32) : Option St :=
(m_refuse g S y1 (1 : Int32)).bind fun S_9 =>
m_looks_101 g S_9 x1 x2 x3 x4 x7
def m_looks_72 (g : Nat) (S : St) (x1 : Int32) (x2 : Int32) (x3 : Int32) (x4 : Int64) (x7 : Int64) (y1 : Int32) : Option St :=
(m_refuse g S y1 (1 : Int32)).bind fun S_10 =>
m_looks_101 g S_10 x1 x2 x3 x4 x7
def m_looks_67 (g : Nat) (S : St) (x1 : Int32) (x2 : Int32) (x3 : Int32) (x4 : Int64) (x7 : Int64) : Option St :=
m_looks_72 g S x1 x2 x3 x4 x7 (1 : Int32)
def m_looks (g : Nat) (S : St) (x1 : Int32) (x2 : Int32) : Option St :=
(m_textAt g S (x2 + (1 : Int32))).bind fun (S_1, v_2) =>
(m_value g S_1 (x2 + (2 : Int32))).bind fun v_3 =>
(aI S_1 24 v_2).bind fun v_4 =>
if x1 < (14 : Int32) then (
  if x1 = (13 : Int32) then (
    (m_isIn g v_3 (1 : Int64) (v_4.toInt64)).bind fun v_6 =>
    if v_6 = 0 then (
      m_looks_180 g S_1 x1 x2 v_2 v_3 v_4
    ) else (
      m_looks_184 g S_1 x1 x2 v_2 v_3 v_4
    )
  ) else (
    (m_isIn g v_3 (0 : Int64) ((v_4 - (1 : Int32)).toInt64)).bind fun v_5 =>
    if v_5 = 0 then (
      m_looks_180 g S_1 x1 x2 v_2 v_3 v_4
    ) else (
      m_looks_184 g S_1 x1 x2 v_2 v_3 v_4
    )
  )
) else (
  (m_value g S_1 (x2 + (3 : Int32))).bind fun v_7 =>
  if x1 = (14 : Int32) then (
    (m_isIn g v_3 (0 : Int64) v_7).bind fun v_9 =>
    if v_9 = 0 then (
      m_looks_67 g S_1 x1 x2 v_2 v_3 v_7
    ) else (
      if (v_4.toInt64) < v_7 then (
        m_looks_67 g S_1 x1 x2 v_2 v_3 v_7
      ) else (
        m_looks_72 g S_1 x1 x2 v_2 v_3 v_7 (0 : Int32)
      )
    )
  ) else (
    (m_isIn g v_3 (0 : Int64) (v_4.toInt64)).bind fun v_8 =>
    if v_8 = 0 then (
      m_looks_97 g S_1 x1 x2 v_2 v_3 v_7 (1 : Int32)
    ) else (
      m_looks_97 g S_1 x1 x2 v_2 v_3 v_7 (0 : Int32)
    )
  )
)
section S_looks
variable {p : Program} {l : Launch} {e : Env} {s : State} {m : MethodId} {args : Array Value} {below : List Frame} {meth : Method} {c : Code} {H : Heap} {locs : List Loc} {ls : Array Slot} {D : va_G} {T : Cy} {ρ : Nat → Nat} {A : Nat → Prop}
set_option maxRecDepth 100000 in
set_option maxHeartbeats 4000000 in
theorem w_looks_185  {g : Nat} {S : St} {x1 : Int32} {x2 : Int32} {x3 : Int32} {x4 : Int64} {x6 : Int32} {y1 : Int32} (C : CallFix p m c cX13_looks 9 s args tb RX13) (hr : meth.sig.returnType = none) (hk : meth.locks = false) {S' : St} (w : Wn Ym D T ρ S A s H locs) (hl : lv_has ls 9 [(0, .ref (ρ 0)), (1, .int x1), (2, .int x2), (3, .int x3), (4, .long x4), (6, .int x6)]) (h : m_looks_185 g S x1 x2 x3 x4 x6 y1 = some S') : W p l e (rmN 3 72) s m args below meth c H locs 0 0 (MQ below (Qv Ym D T ρ A S') args s 0 0 A) (F0 m 185 ls [.int y1, .ref (ρ 0)]) := by
  unfold m_looks_185 at h
  refine lv_iconst (v := 1) C.1 C.2.1 dX13_looks_185 (by decide) ?_
  obtain ⟨S_6, hS_6, h⟩ := bnd h
  refine x_callVv (q := (RX13, TX13, 68)) (As := [.int y1, .int (1 : Int32)]) (rest := []) C w (k_refuse l D T ρ g H.size S hS_6) vM466 ⟨by decide, by decide⟩ obM (by decide) rfl rfl rfl hl.1 (Nat.le_of_ble_eq_true rfl) ⟨Nat.zero_le _, Nat.zero_le _⟩ dX13_looks_186 (fun H locs w => ?_)
  refine lv_aload_n C.1 C.2.1 dX13_looks_189 rfl (lv_at hl 0 rfl) ?_
  refine x_getI C w fM398 obM dX13_looks_190 ?_
  refine lv_if_eq (tgt := 197) C.1 C.2.1 dX13_looks_193 (by decide) (fun hc => ?_) (fun hc => ?_)
  · replace h := ift hc h
    refine lv_lload C.1 C.2.1 dX13_looks_197 (lv_at hl 4 rfl) ?_
    refine lv_l2i C.1 C.2.1 dX13_looks_199 rfl ?_
    obtain ⟨x7_7, ex7_7, h⟩ := lt_e h
    refine x_nm ex7_7 ?_
    refine lv_istore (lv' := [(7, .int x7_7), (0, .ref (ρ 0)), (1, .int x1), (2, .int x2), (3, .int x3), (4, .long x4), (6, .int x6)]) C.1 C.2.1 dX13_looks_200 hl (by decide) rfl (fun ls hl => ?_)
    refine lv_iload_n C.1 C.2.1 dX13_looks_202 rfl (lv_at hl 2 rfl) ?_
    refine lv_bipush (v := 11) C.1 C.2.1 dX13_looks_203 (by decide) ?_
    refine lv_icmp_ne (tgt := 224) C.1 C.2.1 dX13_looks_205 (by decide) (fun hc => ?_) (fun hc => ?_)
    · replace h := iff0 hc h
      refine lv_iload_n C.1 C.2.1 dX13_looks_224 rfl (lv_at hl 2 rfl) ?_
      refine lv_bipush (v := 12) C.1 C.2.1 dX13_looks_225 (by decide) ?_
      refine lv_icmp_ne (tgt := 254) C.1 C.2.1 dX13_looks_227 (by decide) (fun hc => ?_) (fun hc => ?_)
      · replace h := iff0 hc h
        refine lv_aload_n C.1 C.2.1 dX13_looks_254 rfl (lv_at hl 1 rfl) ?_
        refine lv_iload_n C.1 C.2.1 dX13_looks_255 rfl (lv_at hl 3 rfl) ?_
        refine lv_aload_n C.1 C.2.1 dX13_looks_256 rfl (lv_at hl 1 rfl) ?_
        refine lv_iload_n C.1 C.2.1 dX13_looks_257 rfl (lv_at hl 4 rfl) ?_
        refine lv_iload C.1 C.2.1 dX13_looks_258 (lv_at hl 0 rfl) ?_
        refine lv_aload_n C.1 C.2.1 dX13_looks_260 rfl (lv_at hl 1 rfl) ?_
        refine lv_iload_n C.1 C.2.1 dX13_looks_261 rfl (lv_at hl 4 rfl) ?_
        refine lv_iload C.1 C.2.1 dX13_looks_262 (lv_at hl 0 rfl) ?_
        obtain ⟨v_8, hv_8, h⟩ := bnd h
        refine x_callVi (q := (RX13, TX13, 68)) (As := [.int x3, .int x7_7]) (rest := [.int x7_7, .int x3, .ref (ρ 0), .int x2, .ref (ρ 0)]) C w (k_sizeBefore l D T ρ g H.size S_6 hv_8) vM595 ⟨by decide, by decide⟩ obM (by decide) rfl rfl rfl hl.1 (Nat.le_of_ble_eq_true rfl) ⟨Nat.zero_le _, Nat.zero_le _⟩ dX13_looks_264 (fun H locs w => ?_)
        refine lv_isub C.1 C.2.1 dX13_looks_267 ?_
        refine lv_aload_n C.1 C.2.1 dX13_looks_268 rfl (lv_at hl 1 rfl) ?_
        refine lv_iload_n C.1 C.2.1 dX13_looks_269 rfl (lv_at hl 4 rfl) ?_
        refine lv_iload C.1 C.2.1 dX13_looks_270 (lv_at hl 0 rfl) ?_
        obtain ⟨v_9, hv_9, h⟩ := bnd h
        refine x_callVi (q := (RX13, TX13, 68)) (As := [.int x3, .int x7_7]) (rest := [.int (x7_7 - v_8), .int x3, .ref (ρ 0), .int x2, .ref (ρ 0)]) C w (k_sizeBefore l D T ρ g H.size S_6 hv_9) vM595 ⟨by decide, by decide⟩ obM (by decide) rfl rfl rfl hl.1 (Nat.le_of_ble_eq_true rfl) ⟨Nat.zero_le _, Nat.zero_le _⟩ dX13_looks_272 (fun H locs w => ?_)
        obtain ⟨v_10, hv_10, h⟩ := bnd h
        refine x_callVj (q := (RX13, TX13, 68)) (As := [.int x3, .int (x7_7 - v_8), .int v_9]) (rest := [.int x2, .ref (ρ 0)]) C w (k_pointAt l D T ρ g H.size S_6 hv_10) vM592 ⟨by decide, by decide⟩ obM (by decide) rfl rfl rfl hl.1 (Nat.le_of_ble_eq_true rfl) ⟨Nat.zero_le _, Nat.zero_le _⟩ dX13_looks_275 (fun H locs w => ?_)
        obtain ⟨S_11, hS_11, h⟩ := bnd h
        refine x_callVv (q := (RX13, TX13, 68)) (As := [.int x2, .long v_10]) (rest := []) C w (k_givesWhole l D T ρ g H.size S_6 hS_11) vM567 ⟨by decide, by decide⟩ obM (by decide) rfl rfl rfl hl.1 (Nat.le_of_ble_eq_true rfl) ⟨Nat.zero_le _, Nat.zero_le _⟩ dX13_looks_278 (fun H locs w => ?_)
        obtain rfl := som h
        exact x_vret C w hr hk dX13_looks_281
      · replace h := ift hc h
        refine lv_aload_n C.1 C.2.1 dX13_looks_230 rfl (lv_at hl 1 rfl) ?_
        refine lv_iload_n C.1 C.2.1 dX13_looks_231 rfl (lv_at hl 3 rfl) ?_
        refine lv_aload_n C.1 C.2.1 dX13_looks_232 rfl (lv_at hl 1 rfl) ?_
        refine lv_iload_n C.1 C.2.1 dX13_looks_233 rfl (lv_at hl 4 rfl) ?_
        refine lv_iload C.1 C.2.1 dX13_looks_234 (lv_at hl 0 rfl) ?_
        refine lv_aload_n C.1 C.2.1 dX13_looks_236 rfl (lv_at hl 1 rfl) ?_
        refine lv_iload_n C.1 C.2.1 dX13_looks_237 rfl (lv_at hl 4 rfl) ?_
        refine lv_iload C.1 C.2.1 dX13_looks_238 (lv_at hl 0 rfl) ?_
        refine lv_iload C.1 C.2.1 dX13_looks_240 (lv_at hl 6 rfl) ?_
        obtain ⟨v_12, hv_12, h⟩ := bnd h
        refine x_callVi (q := (RX13, TX13, 68)) (As := [.int x3, .int x7_7, .int x6]) (rest := [.int x7_7, .int x3, .ref (ρ 0), .int x2, .ref (ρ 0)]) C w (k_pointSize l D T ρ g H.size S_6 hv_12) vM589 ⟨by decide, by decide⟩ obM (by decide) rfl rfl rfl hl.1 (Nat.le_of_ble_eq_true rfl) ⟨Nat.zero_le _, Nat.zero_le _⟩ dX13_looks_242 (fun H locs w => ?_)
        obtain ⟨v_13, hv_13, h⟩ := bnd h
        refine x_callVj (q := (RX13, TX13, 68)) (As := [.int x3, .int x7_7, .int v_12]) (rest := [.int x2, .ref (ρ 0)]) C w (k_pointAt l D T ρ g H.size S_6 hv_13) vM592 ⟨by decide, by decide⟩ obM (by decide) rfl rfl rfl hl.1 (Nat.le_of_ble_eq_true rfl) ⟨Nat.zero_le _, Nat.zero_le _⟩ dX13_looks_245 (fun H locs w => ?_)
        obtain ⟨S_14, hS_14, h⟩ := bnd h
        refine x_callVv (q := (RX13, TX13, 68)) (As := [.int x2, .long v_13]) (rest := []) C w (k_givesWhole l D T ρ g H.size S_6 hS_14) vM567 ⟨by decide, by decide⟩ obM (by decide) rfl rfl rfl hl.1 (Nat.le_of_ble_eq_true rfl) ⟨Nat.zero_le _, Nat.zero_le _⟩ dX13_looks_248 (fun H locs w => ?_)
        refine lv_goto (tgt := 281) C.1 C.2.1 dX13_looks_251 (by decide) ?_
        obtain rfl := som h
        exact x_vret C w hr hk dX13_looks_281
    · replace h := ift hc h
      refine lv_aload_n C.1 C.2.1 dX13_looks_208 rfl (lv_at hl 1 rfl) ?_
      refine lv_iload_n C.1 C.2.1 dX13_looks_209 rfl (lv_at hl 3 rfl) ?_
      refine lv_aload_n C.1 C.2.1 dX13_looks_210 rfl (lv_at hl 1 rfl) ?_
      refine lv_iload_n C.1 C.2.1 dX13_looks_211 rfl (lv_at hl 4 rfl) ?_
      refine lv_iload C.1 C.2.1 dX13_looks_212 (lv_at hl 0 rfl) ?_
      obtain ⟨v_15, hv_15, h⟩ := bnd h
      refine x_callVi (q := (RX13, TX13, 68)) (As := [.int x3, .int x7_7]) (rest := [.int x2, .ref (ρ 0)]) C w (k_unitAt l D T ρ g H.size S_6 hv_15) vM470 ⟨by decide, by decide⟩ obM (by decide) rfl rfl rfl hl.1 (Nat.le_of_ble_eq_true rfl) ⟨Nat.zero_le _, Nat.zero_le _⟩ dX13_looks_214 (fun H locs w => ?_)
      refine lv_i2l C.1 C.2.1 dX13_looks_217 rfl ?_
      obtain ⟨S_16, hS_16, h⟩ := bnd h
      refine x_callVv (q := (RX13, TX13, 68)) (As := [.int x2, .long (v_15.toInt64)]) (rest := []) C w (k_givesWhole l D T ρ g H.size S_6 hS_16) vM567 ⟨by decide, by decide⟩ obM (by decide) rfl rfl rfl hl.1 (Nat.le_of_ble_eq_true rfl) ⟨Nat.zero_le _, Nat.zero_le _⟩ dX13_looks_218 (fun H locs w => ?_)
      refine lv_goto (tgt := 281) C.1 C.2.1 dX13_looks_221 (by decide) ?_
      obtain rfl := som h
      exact x_vret C w hr hk dX13_looks_281
  · replace h := iff0 hc h
    obtain rfl := som h
    exact x_vret C w hr hk dX13_looks_196
set_option maxRecDepth 100000 in
set_option maxHeartbeats 4000000 in
theorem w_looks_184  {g : Nat} {S : St} {x1 : Int32} {x2 : Int32} {x3 : Int32} {x4 : Int64} {x6 : Int32} (C : CallFix p m c cX13_looks 9 s args tb RX13) (hr : meth.sig.returnType = none) (hk : meth.locks = false) {S' : St} (w : Wn Ym D T ρ S A s H locs) (hl : lv_has ls 9 [(0, .ref (ρ 0)), (1, .int x1), (2, .int x2), (3, .int x3), (4, .long x4), (6, .int x6)]) (h : m_looks_184 g S x1 x2 x3 x4 x6 = some S') : W p l e (rmN 3 72) s m args below meth c H locs 0 0 (MQ below (Qv Ym D T ρ A S') args s 0 0 A) (F0 m 184 ls [.ref (ρ 0)]) := by
  unfold m_looks_184 at h
  refine lv_iconst (v := 0) C.1 C.2.1 dX13_looks_184 (by decide) ?_
  exact w_looks_185 C hr hk w (lv_sub hl [0, 1, 2, 3, 4, 5] rfl) h
set_option maxRecDepth 100000 in
set_option maxHeartbeats 4000000 in
theorem w_looks_180  {g : Nat} {S : St} {x1 : Int32} {x2 : Int32} {x3 : Int32} {x4 : Int64} {x6 : Int32} (C : CallFix p m c cX13_looks 9 s args tb RX13) (hr : meth.sig.returnType = none) (hk : meth.locks = false) {S' : St} (w : Wn Ym D T ρ S A s H locs) (hl : lv_has ls 9 [(0, .ref (ρ 0)), (1, .int x1), (2, .int x2), (3, .int x3), (4, .long x4), (6, .int x6)]) (h : m_looks_180 g S x1 x2 x3 x4 x6 = some S') : W p l e (rmN 3 72) s m args below meth c H locs 0 0 (MQ below (Qv Ym D T ρ A S') args s 0 0 A) (F0 m 180 ls [.ref (ρ 0)]) := by
  unfold m_looks_180 at h
  refine lv_iconst (v := 1) C.1 C.2.1 dX13_looks_180 (by decide) ?_
  refine lv_goto (tgt := 185) C.1 C.2.1 dX13_looks_181 (by decide) ?_
  exact w_looks_185 C hr hk w (lv_sub hl [0, 1, 2, 3, 4, 5] rfl) h
set_option maxRecDepth 100000 in
set_option maxHeartbeats 4000000 in
theorem w_looks_140  {g : Nat} {S : St} {y1 : Int32} {y2 : Int64} (C : CallFix p m c cX13_looks 9 s args tb RX13) (hr : meth.sig.returnType = none) (hk : meth.locks = false) {S' : St} (w : Wn Ym D T ρ S A s H locs) (hl : lv_has ls 9 []) (h : m_looks_140 g S y1 y2 = some S') : W p l e (rmN 3 72) s m args below meth c H locs 0 0 (MQ below (Qv Ym D T ρ A S') args s 0 0 A) (F0 m 140 ls [.long y2, .int y1, .ref (ρ 0)]) := by
  unfold m_looks_140 at h
  obtain ⟨S_12, hS_12, h⟩ := bnd h
  refine x_callVv (q := (RX13, TX13, 68)) (As := [.int y1, .long y2]) (rest := []) C w (k_givesWhole l D T ρ g H.size S hS_12) vM567 ⟨by decide, by decide⟩ obM (by decide) rfl rfl rfl hl.1 (Nat.le_of_ble_eq_true rfl) ⟨Nat.zero_le _, Nat.zero_le _⟩ dX13_looks_140 (fun H locs w => ?_)
  obtain rfl := som h
  exact x_vret C w hr hk dX13_looks_143
set_option maxRecDepth 100000 in
set_option maxHeartbeats 4000000 in
theorem w_looks_101  {g : Nat} {S : St} {x1 : Int32} {x2 : Int32} {x3 : Int32} {x4 : Int64} {x7 : Int64} (C : CallFix p m c cX13_looks 9 s args tb RX13) (hr : meth.sig.returnType = none) (hk : meth.locks = false) {S' : St} (w : Wn Ym D T ρ S A s H locs) (hl : lv_has ls 9 [(0, .ref (ρ 0)), (1, .int x1), (2, .int x2), (3, .int x3), (4, .long x4), (7, .long x7)]) (h : m_looks_101 g S x1 x2 x3 x4 x7 = some S') : W p l e (rmN 3 72) s m args below meth c H locs 0 0 (MQ below (Qv Ym D T ρ A S') args s 0 0 A) (F0 m 101 ls []) := by
  unfold m_looks_101 at h
  refine lv_aload_n C.1 C.2.1 dX13_looks_101 rfl (lv_at hl 0 rfl) ?_
  refine x_getI C w fM398 obM dX13_looks_102 ?_
  refine lv_if_ne (tgt := 143) C.1 C.2.1 dX13_looks_105 (by decide) (fun hc => ?_) (fun hc => ?_)
  · replace h := iff0 hc h
    obtain rfl := som h
    exact x_vret C w hr hk dX13_looks_143
  · replace h := ift hc h
    refine lv_aload_n C.1 C.2.1 dX13_looks_108 rfl (lv_at hl 0 rfl) ?_
    refine lv_iload_n C.1 C.2.1 dX13_looks_109 rfl (lv_at hl 2 rfl) ?_
    refine lv_iload_n C.1 C.2.1 dX13_looks_110 rfl (lv_at hl 1 rfl) ?_
    refine lv_bipush (v := 14) C.1 C.2.1 dX13_looks_111 (by decide) ?_
    refine lv_icmp_ne (tgt := 130) C.1 C.2.1 dX13_looks_113 (by decide) (fun hc => ?_) (fun hc => ?_)
    · replace h := iff0 hc h
      refine lv_aload_n C.1 C.2.1 dX13_looks_130 rfl (lv_at hl 0 rfl) ?_
      refine lv_iload_n C.1 C.2.1 dX13_looks_131 rfl (lv_at hl 3 rfl) ?_
      refine lv_lload C.1 C.2.1 dX13_looks_132 (lv_at hl 4 rfl) ?_
      refine lv_l2i C.1 C.2.1 dX13_looks_134 rfl ?_
      refine lv_lload C.1 C.2.1 dX13_looks_135 (lv_at hl 5 rfl) ?_
      obtain ⟨⟨S_10, v_11⟩, hv_11, h⟩ := bnd h
      refine x_callVj (q := (RX13, TX13, 68)) (As := [.int x3, .int (x4.toInt32), .long x7]) (rest := [.int x2, .ref (ρ 0)]) C w (k_offset l D T ρ g H.size S hv_11) vM585 ⟨by decide, by decide⟩ obM (by decide) rfl rfl rfl hl.1 (Nat.le_of_ble_eq_true rfl) ⟨Nat.zero_le _, Nat.zero_le _⟩ dX13_looks_137 (fun H locs w => ?_)
      exact w_looks_140 C hr hk w (lv_sub hl [] rfl) h
    · replace h := ift hc h
      refine lv_aload_n C.1 C.2.1 dX13_looks_116 rfl (lv_at hl 0 rfl) ?_
      refine lv_iload_n C.1 C.2.1 dX13_looks_117 rfl (lv_at hl 3 rfl) ?_
      refine lv_lload C.1 C.2.1 dX13_looks_118 (lv_at hl 4 rfl) ?_
      refine lv_l2i C.1 C.2.1 dX13_looks_120 rfl ?_
      refine lv_lload C.1 C.2.1 dX13_looks_121 (lv_at hl 5 rfl) ?_
      refine lv_l2i C.1 C.2.1 dX13_looks_123 rfl ?_
      obtain ⟨v_12, hv_12, h⟩ := bnd h
      refine x_callVj (q := (RX13, TX13, 68)) (As := [.int x3, .int (x4.toInt32), .int (x7.toInt32)]) (rest := [.int x2, .ref (ρ 0)]) C w (k_pointsOf l D T ρ g H.size S hv_12) vM581 ⟨by decide, by decide⟩ obM (by decide) rfl rfl rfl hl.1 (Nat.le_of_ble_eq_true rfl) ⟨Nat.zero_le _, Nat.zero_le _⟩ dX13_looks_124 (fun H locs w => ?_)
      refine lv_goto (tgt := 140) C.1 C.2.1 dX13_looks_127 (by decide) ?_
      exact w_looks_140 C hr hk w (lv_sub hl [] rfl) h
set_option maxRecDepth 100000 in
set_option maxHeartbeats 4000000 in
theorem w_looks_97  {g : Nat} {S : St} {x1 : Int32} {x2 : Int32} {x3 : Int32} {x4 : Int64} {x7 : Int64} {y1 : Int32} (C : CallFix p m c cX13_looks 9 s args tb RX13) (hr : meth.sig.returnType = none) (hk : meth.locks = false) {S' : St} (w : Wn Ym D T ρ S A s H locs) (hl : lv_has ls 9 [(0, .ref (ρ 0)), (1, .int x1), (2, .int x2), (3, .int x3), (4, .long x4), (7, .long x7)]) (h : m_looks_97 g S x1 x2 x3 x4 x7 y1 = some S') : W p l e (rmN 3 72) s m args below meth c H locs 0 0 (MQ below (Qv Ym D T ρ A S') args s 0 0 A) (F0 m 97 ls [.int y1, .ref (ρ 0)]) := by
  unfold m_looks_97 at h
  refine lv_iconst (v := 1) C.1 C.2.1 dX13_looks_97 (by decide) ?_
  obtain ⟨S_9, hS_9, h⟩ := bnd h
  refine x_callVv (q := (RX13, TX13, 68)) (As := [.int y1, .int (1 : Int32)]) (rest := []) C w (k_refuse l D T ρ g H.size S hS_9) vM466 ⟨by decide, by decide⟩ obM (by decide) rfl rfl rfl hl.1 (Nat.le_of_ble_eq_true rfl) ⟨Nat.zero_le _, Nat.zero_le _⟩ dX13_looks_98 (fun H locs w => ?_)
  exact w_looks_101 C hr hk w (lv_sub hl [0, 1, 2, 3, 4, 5] rfl) h
set_option maxRecDepth 100000 in
set_option maxHeartbeats 4000000 in
theorem w_looks_72  {g : Nat} {S : St} {x1 : Int32} {x2 : Int32} {x3 : Int32} {x4 : Int64} {x7 : Int64} {y1 : Int32} (C : CallFix p m c cX13_looks 9 s args tb RX13) (hr : meth.sig.returnType = none) (hk : meth.locks = false) {S' : St} (w : Wn Ym D T ρ S A s H locs) (hl : lv_has ls 9 [(0, .ref (ρ 0)), (1, .int x1), (2, .int x2), (3, .int x3), (4, .long x4), (7, .long x7)]) (h : m_looks_72 g S x1 x2 x3 x4 x7 y1 = some S') : W p l e (rmN 3 72) s m args below meth c H locs 0 0 (MQ below (Qv Ym D T ρ A S') args s 0 0 A) (F0 m 72 ls [.int y1, .ref (ρ 0)]) := by
  unfold m_looks_72 at h
  refine lv_iconst (v := 1) C.1 C.2.1 dX13_looks_72 (by decide) ?_
  obtain ⟨S_10, hS_10, h⟩ := bnd h
  refine x_callVv (q := (RX13, TX13, 68)) (As := [.int y1, .int (1 : Int32)]) (rest := []) C w (k_refuse l D T ρ g H.size S hS_10) vM466 ⟨by decide, by decide⟩ obM (by decide) rfl rfl rfl hl.1 (Nat.le_of_ble_eq_true rfl) ⟨Nat.zero_le _, Nat.zero_le _⟩ dX13_looks_73 (fun H locs w => ?_)
  refine lv_goto (tgt := 101) C.1 C.2.1 dX13_looks_76 (by decide) ?_
  exact w_looks_101 C hr hk w (lv_sub hl [0, 1, 2, 3, 4, 5] rfl) h
set_option maxRecDepth 100000 in
set_option maxHeartbeats 4000000 in
theorem w_looks_67  {g : Nat} {S : St} {x1 : Int32} {x2 : Int32} {x3 : Int32} {x4 : Int64} {x7 : Int64} (C : CallFix p m c cX13_looks 9 s args tb RX13) (hr : meth.sig.returnType = none) (hk : meth.locks = false) {S' : St} (w : Wn Ym D T ρ S A s H locs) (hl : lv_has ls 9 [(0, .ref (ρ 0)), (1, .int x1), (2, .int x2), (3, .int x3), (4, .long x4), (7, .long x7)]) (h : m_looks_67 g S x1 x2 x3 x4 x7 = some S') : W p l e (rmN 3 72) s m args below meth c H locs 0 0 (MQ below (Qv Ym D T ρ A S') args s 0 0 A) (F0 m 67 ls [.ref (ρ 0)]) := by
  unfold m_looks_67 at h
  refine lv_iconst (v := 1) C.1 C.2.1 dX13_looks_67 (by decide) ?_
  refine lv_goto (tgt := 72) C.1 C.2.1 dX13_looks_68 (by decide) ?_
  exact w_looks_72 C hr hk w (lv_sub hl [0, 1, 2, 3, 4, 5] rfl) h
set_option maxRecDepth 100000 in
set_option maxHeartbeats 4000000 in
theorem w_looks_0  {g : Nat} {S : St} {x1 : Int32} {x2 : Int32} (C : CallFix p m c cX13_looks 9 s args tb RX13) (hr : meth.sig.returnType = none) (hk : meth.locks = false) {S' : St} (w : Wn Ym D T ρ S A s H locs) (hl : lv_has ls 9 [(0, .ref (ρ 0)), (1, .int x1), (2, .int x2)]) (h : m_looks g S x1 x2 = some S') : W p l e (rmN 3 72) s m args below meth c H locs 0 0 (MQ below (Qv Ym D T ρ A S') args s 0 0 A) (F0 m 0 ls []) := by
  unfold m_looks at h
  refine lv_aload_n C.1 C.2.1 dX13_looks_0 rfl (lv_at hl 0 rfl) ?_
  refine lv_iload_n C.1 C.2.1 dX13_looks_1 rfl (lv_at hl 2 rfl) ?_
  refine lv_iconst (v := 1) C.1 C.2.1 dX13_looks_2 (by decide) ?_
  refine lv_iadd C.1 C.2.1 dX13_looks_3 ?_
  obtain ⟨⟨S_1, v_2⟩, hv_2, h⟩ := bnd h
  refine x_callVi (q := (RX13, TX13, 68)) (As := [.int (x2 + (1 : Int32))]) (rest := []) C w (k_textAt l D T ρ g H.size S hv_2) vM558 ⟨by decide, by decide⟩ obM (by decide) rfl rfl rfl hl.1 (Nat.le_of_ble_eq_true rfl) ⟨Nat.zero_le _, Nat.zero_le _⟩ dX13_looks_4 (fun H locs w => ?_)
  refine lv_istore_n (lv' := [(3, .int v_2), (0, .ref (ρ 0)), (1, .int x1), (2, .int x2)]) C.1 C.2.1 dX13_looks_7 rfl hl (by decide) rfl (fun ls hl => ?_)
  refine lv_aload_n C.1 C.2.1 dX13_looks_8 rfl (lv_at hl 1 rfl) ?_
  refine lv_iload_n C.1 C.2.1 dX13_looks_9 rfl (lv_at hl 3 rfl) ?_
  refine lv_iconst (v := 2) C.1 C.2.1 dX13_looks_10 (by decide) ?_
  refine lv_iadd C.1 C.2.1 dX13_looks_11 ?_
  obtain ⟨v_3, hv_3, h⟩ := bnd h
  refine x_callVj (q := (RX13, TX13, 68)) (As := [.int (x2 + (2 : Int32))]) (rest := []) C w (k_value l D T ρ g H.size S_1 hv_3) vM459 ⟨by decide, by decide⟩ obM (by decide) rfl rfl rfl hl.1 (Nat.le_of_ble_eq_true rfl) ⟨Nat.zero_le _, Nat.zero_le _⟩ dX13_looks_12 (fun H locs w => ?_)
  refine lv_lstore (lv' := [(4, .long v_3), (3, .int v_2), (0, .ref (ρ 0)), (1, .int x1), (2, .int x2)]) C.1 C.2.1 dX13_looks_15 hl (by decide) rfl (fun ls hl => ?_)
  refine lv_aload_n C.1 C.2.1 dX13_looks_17 rfl (lv_at hl 2 rfl) ?_
  refine x_getC C w 24 fM193 obM rfl dX13_looks_18 ?_
  refine lv_iload_n C.1 C.2.1 dX13_looks_21 rfl (lv_at hl 1 rfl) ?_
  obtain ⟨v_4, hv_4, h⟩ := bnd h
  refine x_iald C w obM24 hv_4 dX13_looks_22 ?_
  refine lv_istore (lv' := [(6, .int v_4), (4, .long v_3), (3, .int v_2), (0, .ref (ρ 0)), (1, .int x1), (2, .int x2)]) C.1 C.2.1 dX13_looks_23 hl (by decide) rfl (fun ls hl => ?_)
  refine lv_iload_n C.1 C.2.1 dX13_looks_25 rfl (lv_at hl 4 rfl) ?_
  refine lv_bipush (v := 14) C.1 C.2.1 dX13_looks_26 (by decide) ?_
  refine lv_icmp_lt (tgt := 144) C.1 C.2.1 dX13_looks_28 (by decide) (fun hc => ?_) (fun hc => ?_)
  · replace h := ift hc h
    refine lv_aload_n C.1 C.2.1 dX13_looks_144 rfl (lv_at hl 3 rfl) ?_
    refine lv_iload_n C.1 C.2.1 dX13_looks_145 rfl (lv_at hl 4 rfl) ?_
    refine lv_bipush (v := 13) C.1 C.2.1 dX13_looks_146 (by decide) ?_
    refine lv_icmp_ne (tgt := 166) C.1 C.2.1 dX13_looks_148 (by decide) (fun hc => ?_) (fun hc => ?_)
    · replace h := iff0 hc h
      refine lv_lload C.1 C.2.1 dX13_looks_166 (lv_at hl 1 rfl) ?_
      refine lv_lconst (v := 0) C.1 C.2.1 dX13_looks_168 (by decide) ?_
      refine lv_iload C.1 C.2.1 dX13_looks_169 (lv_at hl 0 rfl) ?_
      refine lv_iconst (v := 1) C.1 C.2.1 dX13_looks_171 (by decide) ?_
      refine lv_isub C.1 C.2.1 dX13_looks_172 ?_
      refine lv_i2l C.1 C.2.1 dX13_looks_173 rfl ?_
      obtain ⟨v_5, hv_5, h⟩ := bnd h
      refine x_callSi (As := [.long v_3, .long (0 : Int64), .long ((v_4 - (1 : Int32)).toInt64)]) (rest := [.ref (ρ 0)]) C w (k_isIn l D T ρ g H.size S_1 hv_5) vM318 ⟨by decide, by decide⟩ rfl rfl hl.1 (Nat.le_of_ble_eq_true rfl) ⟨Nat.zero_le _, Nat.zero_le _⟩ dX13_looks_174 (fun H locs w => ?_)
      refine lv_if_ne (tgt := 184) C.1 C.2.1 dX13_looks_177 (by decide) (fun hc => ?_) (fun hc => ?_)
      · replace h := iff0 hc h
        exact w_looks_184 C hr hk w (lv_sub hl [3, 4, 5, 2, 1, 0] rfl) h
      · replace h := ift hc h
        exact w_looks_180 C hr hk w (lv_sub hl [3, 4, 5, 2, 1, 0] rfl) h
    · replace h := ift hc h
      refine lv_lload C.1 C.2.1 dX13_looks_151 (lv_at hl 1 rfl) ?_
      refine lv_lconst (v := 1) C.1 C.2.1 dX13_looks_153 (by decide) ?_
      refine lv_iload C.1 C.2.1 dX13_looks_154 (lv_at hl 0 rfl) ?_
      refine lv_i2l C.1 C.2.1 dX13_looks_156 rfl ?_
      obtain ⟨v_6, hv_6, h⟩ := bnd h
      refine x_callSi (As := [.long v_3, .long (1 : Int64), .long (v_4.toInt64)]) (rest := [.ref (ρ 0)]) C w (k_isIn l D T ρ g H.size S_1 hv_6) vM318 ⟨by decide, by decide⟩ rfl rfl hl.1 (Nat.le_of_ble_eq_true rfl) ⟨Nat.zero_le _, Nat.zero_le _⟩ dX13_looks_157 (fun H locs w => ?_)
      refine lv_if_eq (tgt := 180) C.1 C.2.1 dX13_looks_160 (by decide) (fun hc => ?_) (fun hc => ?_)
      · replace h := ift hc h
        exact w_looks_180 C hr hk w (lv_sub hl [3, 4, 5, 2, 1, 0] rfl) h
      · replace h := iff0 hc h
        refine lv_goto (tgt := 184) C.1 C.2.1 dX13_looks_163 (by decide) ?_
        exact w_looks_184 C hr hk w (lv_sub hl [3, 4, 5, 2, 1, 0] rfl) h
  · replace h := iff0 hc h
    refine lv_aload_n C.1 C.2.1 dX13_looks_31 rfl (lv_at hl 3 rfl) ?_
    refine lv_iload_n C.1 C.2.1 dX13_looks_32 rfl (lv_at hl 5 rfl) ?_
    refine lv_iconst (v := 3) C.1 C.2.1 dX13_looks_33 (by decide) ?_
    refine lv_iadd C.1 C.2.1 dX13_looks_34 ?_
    obtain ⟨v_7, hv_7, h⟩ := bnd h
    refine x_callVj (q := (RX13, TX13, 68)) (As := [.int (x2 + (3 : Int32))]) (rest := []) C w (k_value l D T ρ g H.size S_1 hv_7) vM459 ⟨by decide, by decide⟩ obM (by decide) rfl rfl rfl hl.1 (Nat.le_of_ble_eq_true rfl) ⟨Nat.zero_le _, Nat.zero_le _⟩ dX13_looks_35 (fun H locs w => ?_)
    refine lv_lstore (lv' := [(7, .long v_7), (6, .int v_4), (4, .long v_3), (3, .int v_2), (0, .ref (ρ 0)), (1, .int x1), (2, .int x2)]) C.1 C.2.1 dX13_looks_38 hl (by decide) rfl (fun ls hl => ?_)
    refine lv_iload_n C.1 C.2.1 dX13_looks_40 rfl (lv_at hl 5 rfl) ?_
    refine lv_bipush (v := 14) C.1 C.2.1 dX13_looks_41 (by decide) ?_
    refine lv_icmp_ne (tgt := 79) C.1 C.2.1 dX13_looks_43 (by decide) (fun hc => ?_) (fun hc => ?_)
    · replace h := iff0 hc h
      refine lv_aload_n C.1 C.2.1 dX13_looks_79 rfl (lv_at hl 4 rfl) ?_
      refine lv_lload C.1 C.2.1 dX13_looks_80 (lv_at hl 2 rfl) ?_
      refine lv_lconst (v := 0) C.1 C.2.1 dX13_looks_82 (by decide) ?_
      refine lv_iload C.1 C.2.1 dX13_looks_83 (lv_at hl 1 rfl) ?_
      refine lv_i2l C.1 C.2.1 dX13_looks_85 rfl ?_
      obtain ⟨v_8, hv_8, h⟩ := bnd h
      refine x_callSi (As := [.long v_3, .long (0 : Int64), .long (v_4.toInt64)]) (rest := [.ref (ρ 0)]) C w (k_isIn l D T ρ g H.size S_1 hv_8) vM318 ⟨by decide, by decide⟩ rfl rfl hl.1 (Nat.le_of_ble_eq_true rfl) ⟨Nat.zero_le _, Nat.zero_le _⟩ dX13_looks_86 (fun H locs w => ?_)
      refine lv_if_ne (tgt := 96) C.1 C.2.1 dX13_looks_89 (by decide) (fun hc => ?_) (fun hc => ?_)
      · replace h := iff0 hc h
        refine lv_iconst (v := 0) C.1 C.2.1 dX13_looks_96 (by decide) ?_
        exact w_looks_97 C hr hk w (lv_sub hl [4, 5, 6, 3, 2, 0] rfl) h
      · replace h := ift hc h
        refine lv_iconst (v := 1) C.1 C.2.1 dX13_looks_92 (by decide) ?_
        refine lv_goto (tgt := 97) C.1 C.2.1 dX13_looks_93 (by decide) ?_
        exact w_looks_97 C hr hk w (lv_sub hl [4, 5, 6, 3, 2, 0] rfl) h
    · replace h := ift hc h
      refine lv_aload_n C.1 C.2.1 dX13_looks_46 rfl (lv_at hl 4 rfl) ?_
      refine lv_lload C.1 C.2.1 dX13_looks_47 (lv_at hl 2 rfl) ?_
      refine lv_lconst (v := 0) C.1 C.2.1 dX13_looks_49 (by decide) ?_
      refine lv_lload C.1 C.2.1 dX13_looks_50 (lv_at hl 0 rfl) ?_
      obtain ⟨v_9, hv_9, h⟩ := bnd h
      refine x_callSi (As := [.long v_3, .long (0 : Int64), .long v_7]) (rest := [.ref (ρ 0)]) C w (k_isIn l D T ρ g H.size S_1 hv_9) vM318 ⟨by decide, by decide⟩ rfl rfl hl.1 (Nat.le_of_ble_eq_true rfl) ⟨Nat.zero_le _, Nat.zero_le _⟩ dX13_looks_52 (fun H locs w => ?_)
      refine lv_if_eq (tgt := 67) C.1 C.2.1 dX13_looks_55 (by decide) (fun hc => ?_) (fun hc => ?_)
      · replace h := ift hc h
        exact w_looks_67 C hr hk w (lv_sub hl [4, 5, 6, 3, 2, 0] rfl) h
      · replace h := iff0 hc h
        refine lv_lload C.1 C.2.1 dX13_looks_58 (lv_at hl 0 rfl) ?_
        refine lv_iload C.1 C.2.1 dX13_looks_60 (lv_at hl 1 rfl) ?_
        refine lv_i2l C.1 C.2.1 dX13_looks_62 rfl ?_
        refine x_l_le (tgt := 71) C dX13_looks_63 dX13_looks_64 (by decide) (fun hc => ?_) (fun hc => ?_)
        · replace h := iff0 hc h
          refine lv_iconst (v := 0) C.1 C.2.1 dX13_looks_71 (by decide) ?_
          exact w_looks_72 C hr hk w (lv_sub hl [4, 5, 6, 3, 2, 0] rfl) h
        · replace h := ift hc h
          exact w_looks_67 C hr hk w (lv_sub hl [4, 5, 6, 3, 2, 0] rfl) h
end S_looks
set_option maxRecDepth 100000 in
theorem k_looks (l : Launch) (D : va_G) (T : Cy) (ρ : Nat → Nat) (g sz : Nat) (S : St) {x1 : Int32} {x2 : Int32} {S' : St} (h : m_looks g S x1 x2 = some S') : Mv l Ym D T ρ yX13_looks cX13_looks 9 none 3 72 S S' [.ref (ρ 0), .int x1, .int x2] sz :=
  x_in (by decide) (Nat.le_of_ble_eq_true rfl) (fun p e s m below meth c ls C hr hk w hl => w_looks_0 C hr hk w hl h)

theorem dX13_inPool_0 : decode cX13_inPool 0 = .ok (.iconst 0, 1) := by decide +kernel
theorem dX13_inPool_1 : decode cX13_inPool 1 = .ok (.istore_n 2, 1) := by decide +kernel
theorem dX13_inPool_2 : decode cX13_inPool 2 = .ok (.iload_n 2, 1) := by decide +kernel
theorem dX13_inPool_3 : decode cX13_inPool 3 = .ok (.aload_n 0, 1) := by decide +kernel
theorem dX13_inPool_4 : decode cX13_inPool 4 = .ok (.getfield 410, 3) := by decide +kernel
theorem dX13_inPool_7 : decode cX13_inPool 7 = .ok (.if_icmp .ge 30, 3) := by decide +kernel
theorem dX13_inPool_10 : decode cX13_inPool 10 = .ok (.aload_n 0, 1) := by decide +kernel
theorem dX13_inPool_11 : decode cX13_inPool 11 = .ok (.aload_n 0, 1) := by decide +kernel
theorem dX13_inPool_12 : decode cX13_inPool 12 = .ok (.getfield 196, 3) := by decide +kernel
theorem dX13_inPool_15 : decode cX13_inPool 15 = .ok (.iload_n 2, 1) := by decide +kernel
theorem dX13_inPool_16 : decode cX13_inPool 16 = .ok (.iaload, 1) := by decide +kernel
theorem dX13_inPool_17 : decode cX13_inPool 17 = .ok (.iload_n 1, 1) := by decide +kernel
theorem dX13_inPool_18 : decode cX13_inPool 18 = .ok (.invokevirtual 519, 3) := by decide +kernel
theorem dX13_inPool_21 : decode cX13_inPool 21 = .ok (.ifCond .eq 10, 3) := by decide +kernel
theorem dX13_inPool_24 : decode cX13_inPool 24 = .ok (.aload_n 0, 1) := by decide +kernel
theorem dX13_inPool_25 : decode cX13_inPool 25 = .ok (.getfield 196, 3) := by decide +kernel
theorem dX13_inPool_28 : decode cX13_inPool 28 = .ok (.iload_n 2, 1) := by decide +kernel
theorem dX13_inPool_29 : decode cX13_inPool 29 = .ok (.iaload, 1) := by decide +kernel
theorem dX13_inPool_30 : decode cX13_inPool 30 = .ok (.ireturn, 1) := by decide +kernel
theorem dX13_inPool_31 : decode cX13_inPool 31 = .ok (.iinc 2 1, 3) := by decide +kernel
theorem dX13_inPool_34 : decode cX13_inPool 34 = .ok (.goto (-32), 3) := by decide +kernel
theorem dX13_inPool_37 : decode cX13_inPool 37 = .ok (.iconst (-1), 1) := by decide +kernel
theorem dX13_inPool_38 : decode cX13_inPool 38 = .ok (.ireturn, 1) := by decide +kernel
def b_inPool_2 (g : Nat) (S : St) (k2 : Int32 → Int32 → Option Int32) (x1 : Int32) (x2 : Int32) : Option Int32 :=
if (gI S 0 41) ≤ x2 then (
  some (-1 : Int32)
) else (
  (aI S 25 x2).bind fun v_1 =>
  (m_equal g S v_1 x1).bind fun v_2 =>
  if v_2 = 0 then (
    lt (x2 + (1 : Int32)) fun x2_3 =>
    k2 x1 x2_3
  ) else (
    (aI S 25 x2).bind fun v_4 =>
    some v_4
  )
)
def m_inPool_2 (g : Nat) (S : St) : Nat → Int32 → Int32 → Option Int32
  | 0, _, _ => none
  | n + 1, x1, x2 => b_inPool_2 g S (m_inPool_2 g S n) x1 x2
def m_inPool (g : Nat) (S : St) (x1 : Int32) : Option Int32 :=
m_inPool_2 g S g x1 (0 : Int32)
section S_inPool
variable {p : Program} {l : Launch} {e : Env} {s : State} {m : MethodId} {args : Array Value} {below : List Frame} {meth : Method} {c : Code} {H : Heap} {locs : List Loc} {ls : Array Slot} {D : va_G} {T : Cy} {ρ : Nat → Nat} {A : Nat → Prop}
set_option maxRecDepth 100000 in
set_option maxHeartbeats 4000000 in
theorem wb_inPool_2  {g : Nat} {S : St} {x1 : Int32} {x2 : Int32} (C : CallFix p m c cX13_inPool 3 s args tb RX13) (hr : meth.sig.returnType = (some .int)) (hk : meth.locks = false) {r : Int32} {k2 : Int32 → Int32 → Option Int32} (kk2 : ∀ (x1 : Int32) (x2 : Int32) (H : Heap) (locs : List Loc) (ls : Array Slot), Wn Ym D T ρ S A s H locs → lv_has ls 3 [(0, .ref (ρ 0)), (1, .int x1), (2, .int x2)] → k2 x1 x2 = some r → W p l e (rmN 2 46) s m args below meth c H locs 0 0 (MQ below (Qi Ym D T ρ A S r) args s 0 0 A) (F0 m 2 ls [])) (w : Wn Ym D T ρ S A s H locs) (hl : lv_has ls 3 [(0, .ref (ρ 0)), (1, .int x1), (2, .int x2)]) (h : b_inPool_2 g S k2 x1 x2 = some r) : W p l e (rmN 2 46) s m args below meth c H locs 0 0 (MQ below (Qi Ym D T ρ A S r) args s 0 0 A) (F0 m 2 ls []) := by
  unfold b_inPool_2 at h
  refine lv_iload_n C.1 C.2.1 dX13_inPool_2 rfl (lv_at hl 2 rfl) ?_
  refine lv_aload_n C.1 C.2.1 dX13_inPool_3 rfl (lv_at hl 0 rfl) ?_
  refine x_getI C w fM410 obM dX13_inPool_4 ?_
  refine lv_icmp_ge (tgt := 37) C.1 C.2.1 dX13_inPool_7 (by decide) (fun hc => ?_) (fun hc => ?_)
  · replace h := ift hc h
    refine lv_iconst (v := (-1)) C.1 C.2.1 dX13_inPool_37 (by decide) ?_
    obtain rfl := som h
    exact x_iret C w hr hk dX13_inPool_38
  · replace h := iff0 hc h
    refine lv_aload_n C.1 C.2.1 dX13_inPool_10 rfl (lv_at hl 0 rfl) ?_
    refine lv_aload_n C.1 C.2.1 dX13_inPool_11 rfl (lv_at hl 0 rfl) ?_
    refine x_getC C w 25 fM196 obM rfl dX13_inPool_12 ?_
    refine lv_iload_n C.1 C.2.1 dX13_inPool_15 rfl (lv_at hl 2 rfl) ?_
    obtain ⟨v_1, hv_1, h⟩ := bnd h
    refine x_iald C w obM25 hv_1 dX13_inPool_16 ?_
    refine lv_iload_n C.1 C.2.1 dX13_inPool_17 rfl (lv_at hl 1 rfl) ?_
    obtain ⟨v_2, hv_2, h⟩ := bnd h
    refine x_callVi (q := (RX13, TX13, 68)) (As := [.int v_1, .int x1]) (rest := []) C w (k_equal l D T ρ g H.size S hv_2) vM519 ⟨by decide, by decide⟩ obM (by decide) rfl rfl rfl hl.1 (Nat.le_of_ble_eq_true rfl) ⟨Nat.zero_le _, Nat.zero_le _⟩ dX13_inPool_18 (fun H locs w => ?_)
    refine lv_if_eq (tgt := 31) C.1 C.2.1 dX13_inPool_21 (by decide) (fun hc => ?_) (fun hc => ?_)
    · replace h := ift hc h
      obtain ⟨x2_3, ex2_3, h⟩ := lt_e h
      refine lv_iinc (v := x2_3) (lv' := [(2, .int x2_3), (0, .ref (ρ 0)), (1, .int x1)]) C.1 C.2.1 dX13_inPool_31 hl (k := 2) rfl (by rw [ex2_3]; rfl) (by decide) rfl (fun ls hl => ?_)
      refine lv_goto (tgt := 2) C.1 C.2.1 dX13_inPool_34 (by decide) ?_
      exact kk2 _ _ _ _ _ w (lv_sub hl [1, 2, 0] rfl) h
    · replace h := iff0 hc h
      refine lv_aload_n C.1 C.2.1 dX13_inPool_24 rfl (lv_at hl 0 rfl) ?_
      refine x_getC C w 25 fM196 obM rfl dX13_inPool_25 ?_
      refine lv_iload_n C.1 C.2.1 dX13_inPool_28 rfl (lv_at hl 2 rfl) ?_
      obtain ⟨v_4, hv_4, h⟩ := bnd h
      refine x_iald C w obM25 hv_4 dX13_inPool_29 ?_
      obtain rfl := som h
      exact x_iret C w hr hk dX13_inPool_30
theorem w_inPool_2 {g : Nat} {S : St} (C : CallFix p m c cX13_inPool 3 s args tb RX13) (hr : meth.sig.returnType = (some .int)) (hk : meth.locks = false) {r : Int32} (n : Nat) : ∀ (x1 : Int32) (x2 : Int32) (H : Heap) (locs : List Loc) (ls : Array Slot), Wn Ym D T ρ S A s H locs → lv_has ls 3 [(0, .ref (ρ 0)), (1, .int x1), (2, .int x2)] → m_inPool_2 g S n x1 x2 = some r → W p l e (rmN 2 46) s m args below meth c H locs 0 0 (MQ below (Qi Ym D T ρ A S r) args s 0 0 A) (F0 m 2 ls []) := by
  induction n with
  | zero => intro x1 x2 H locs ls w hl h; exact absurd h (fun q => by cases q)
  | succ n ih => intro x1 x2 H locs ls w hl h; exact wb_inPool_2 C hr hk ih w hl h
set_option maxRecDepth 100000 in
set_option maxHeartbeats 4000000 in
theorem w_inPool_0  {g : Nat} {S : St} {x1 : Int32} (C : CallFix p m c cX13_inPool 3 s args tb RX13) (hr : meth.sig.returnType = (some .int)) (hk : meth.locks = false) {r : Int32} (w : Wn Ym D T ρ S A s H locs) (hl : lv_has ls 3 [(0, .ref (ρ 0)), (1, .int x1)]) (h : m_inPool g S x1 = some r) : W p l e (rmN 2 46) s m args below meth c H locs 0 0 (MQ below (Qi Ym D T ρ A S r) args s 0 0 A) (F0 m 0 ls []) := by
  unfold m_inPool at h
  refine lv_iconst (v := 0) C.1 C.2.1 dX13_inPool_0 (by decide) ?_
  refine lv_istore_n (lv' := [(2, .int (0 : Int32)), (0, .ref (ρ 0)), (1, .int x1)]) C.1 C.2.1 dX13_inPool_1 rfl hl (by decide) rfl (fun ls hl => ?_)
  exact w_inPool_2 C hr hk g _ _ _ _ _ w (lv_sub hl [1, 2, 0] rfl) h
end S_inPool
set_option maxRecDepth 100000 in
theorem k_inPool (l : Launch) (D : va_G) (T : Cy) (ρ : Nat → Nat) (g sz : Nat) (S : St) {x1 : Int32} {r : Int32} (h : m_inPool g S x1 = some r) : Mi l Ym D T ρ yX13_inPool cX13_inPool 3 (some .int) 2 46 S S r [.ref (ρ 0), .int x1] sz :=
  x_in (by decide) (Nat.le_of_ble_eq_true rfl) (fun p e s m below meth c ls C hr hk w hl => w_inPool_0 C hr hk w hl h)

theorem dX13_interned_0 : decode cX13_interned 0 = .ok (.aload_n 0, 1) := by decide +kernel
theorem dX13_interned_1 : decode cX13_interned 1 = .ok (.iload_n 1, 1) := by decide +kernel
theorem dX13_interned_2 : decode cX13_interned 2 = .ok (.invokevirtual 522, 3) := by decide +kernel
theorem dX13_interned_5 : decode cX13_interned 5 = .ok (.istore_n 2, 1) := by decide +kernel
theorem dX13_interned_6 : decode cX13_interned 6 = .ok (.iload_n 2, 1) := by decide +kernel
theorem dX13_interned_7 : decode cX13_interned 7 = .ok (.ifCond .lt 5, 3) := by decide +kernel
theorem dX13_interned_10 : decode cX13_interned 10 = .ok (.iload_n 2, 1) := by decide +kernel
theorem dX13_interned_11 : decode cX13_interned 11 = .ok (.ireturn, 1) := by decide +kernel
theorem dX13_interned_12 : decode cX13_interned 12 = .ok (.aload_n 0, 1) := by decide +kernel
theorem dX13_interned_13 : decode cX13_interned 13 = .ok (.iload_n 1, 1) := by decide +kernel
theorem dX13_interned_14 : decode cX13_interned 14 = .ok (.invokevirtual 413, 3) := by decide +kernel
theorem dX13_interned_17 : decode cX13_interned 17 = .ok (.iload_n 1, 1) := by decide +kernel
theorem dX13_interned_18 : decode cX13_interned 18 = .ok (.ireturn, 1) := by decide +kernel
def m_interned (g : Nat) (S : St) (x1 : Int32) : Option (St × Int32) :=
(m_inPool g S x1).bind fun v_1 =>
if v_1 < 0 then (
  (m_pools g S x1).bind fun S_2 =>
  some (S_2, x1)
) else (
  some (S, v_1)
)
section S_interned
variable {p : Program} {l : Launch} {e : Env} {s : State} {m : MethodId} {args : Array Value} {below : List Frame} {meth : Method} {c : Code} {H : Heap} {locs : List Loc} {ls : Array Slot} {D : va_G} {T : Cy} {ρ : Nat → Nat} {A : Nat → Prop}
set_option maxRecDepth 100000 in
set_option maxHeartbeats 4000000 in
theorem w_interned_0  {g : Nat} {S : St} {x1 : Int32} (C : CallFix p m c cX13_interned 3 s args tb RX13) (hr : meth.sig.returnType = (some .int)) (hk : meth.locks = false) {S' : St} {r : Int32} (w : Wn Ym D T ρ S A s H locs) (hl : lv_has ls 3 [(0, .ref (ρ 0)), (1, .int x1)]) (h : m_interned g S x1 = some (S', r)) : W p l e (rmN 3 68) s m args below meth c H locs 0 0 (MQ below (Qi Ym D T ρ A S' r) args s 0 0 A) (F0 m 0 ls []) := by
  unfold m_interned at h
  refine lv_aload_n C.1 C.2.1 dX13_interned_0 rfl (lv_at hl 0 rfl) ?_
  refine lv_iload_n C.1 C.2.1 dX13_interned_1 rfl (lv_at hl 1 rfl) ?_
  obtain ⟨v_1, hv_1, h⟩ := bnd h
  refine x_callVi (q := (RX13, TX13, 68)) (As := [.int x1]) (rest := []) C w (k_inPool l D T ρ g H.size S hv_1) vM522 ⟨by decide, by decide⟩ obM (by decide) rfl rfl rfl hl.1 (Nat.le_of_ble_eq_true rfl) ⟨Nat.zero_le _, Nat.zero_le _⟩ dX13_interned_2 (fun H locs w => ?_)
  refine lv_istore_n (lv' := [(2, .int v_1), (0, .ref (ρ 0)), (1, .int x1)]) C.1 C.2.1 dX13_interned_5 rfl hl (by decide) rfl (fun ls hl => ?_)
  refine lv_iload_n C.1 C.2.1 dX13_interned_6 rfl (lv_at hl 0 rfl) ?_
  refine lv_if_lt (tgt := 12) C.1 C.2.1 dX13_interned_7 (by decide) (fun hc => ?_) (fun hc => ?_)
  · replace h := ift hc h
    refine lv_aload_n C.1 C.2.1 dX13_interned_12 rfl (lv_at hl 1 rfl) ?_
    refine lv_iload_n C.1 C.2.1 dX13_interned_13 rfl (lv_at hl 2 rfl) ?_
    obtain ⟨S_2, hS_2, h⟩ := bnd h
    refine x_callVv (q := (RX13, TX13, 68)) (As := [.int x1]) (rest := []) C w (k_pools l D T ρ g H.size S hS_2) vM413 ⟨by decide, by decide⟩ obM (by decide) rfl rfl rfl hl.1 (Nat.le_of_ble_eq_true rfl) ⟨Nat.zero_le _, Nat.zero_le _⟩ dX13_interned_14 (fun H locs w => ?_)
    refine lv_iload_n C.1 C.2.1 dX13_interned_17 rfl (lv_at hl 2 rfl) ?_
    obtain ⟨rfl, rfl⟩ := prI h
    exact x_iret C w hr hk dX13_interned_18
  · replace h := iff0 hc h
    refine lv_iload_n C.1 C.2.1 dX13_interned_10 rfl (lv_at hl 0 rfl) ?_
    obtain ⟨rfl, rfl⟩ := prI h
    exact x_iret C w hr hk dX13_interned_11
end S_interned
set_option maxRecDepth 100000 in
theorem k_interned (l : Launch) (D : va_G) (T : Cy) (ρ : Nat → Nat) (g sz : Nat) (S : St) {x1 : Int32} {S' : St} {r : Int32} (h : m_interned g S x1 = some (S', r)) : Mi l Ym D T ρ yX13_interned cX13_interned 3 (some .int) 3 68 S S' r [.ref (ρ 0), .int x1] sz :=
  x_in (by decide) (Nat.le_of_ble_eq_true rfl) (fun p e s m below meth c ls C hr hk w hl => w_interned_0 C hr hk w hl h)

theorem dX13_joins_0 : decode cX13_joins 0 = .ok (.iconst 1, 1) := by decide +kernel
theorem dX13_joins_1 : decode cX13_joins 1 = .ok (.istore_n 3, 1) := by decide +kernel
theorem dX13_joins_2 : decode cX13_joins 2 = .ok (.iconst 1, 1) := by decide +kernel
theorem dX13_joins_3 : decode cX13_joins 3 = .ok (.istore 4, 2) := by decide +kernel
theorem dX13_joins_5 : decode cX13_joins 5 = .ok (.iload 4, 2) := by decide +kernel
theorem dX13_joins_7 : decode cX13_joins 7 = .ok (.iload_n 2, 1) := by decide +kernel
theorem dX13_joins_8 : decode cX13_joins 8 = .ok (.if_icmp .ge 64, 3) := by decide +kernel
theorem dX13_joins_11 : decode cX13_joins 11 = .ok (.aload_n 0, 1) := by decide +kernel
theorem dX13_joins_12 : decode cX13_joins 12 = .ok (.getfield 144, 3) := by decide +kernel
theorem dX13_joins_15 : decode cX13_joins 15 = .ok (.iload_n 1, 1) := by decide +kernel
theorem dX13_joins_16 : decode cX13_joins 16 = .ok (.iload 4, 2) := by decide +kernel
theorem dX13_joins_18 : decode cX13_joins 18 = .ok (.iadd, 1) := by decide +kernel
theorem dX13_joins_19 : decode cX13_joins 19 = .ok (.iaload, 1) := by decide +kernel
theorem dX13_joins_20 : decode cX13_joins 20 = .ok (.istore 5, 2) := by decide +kernel
theorem dX13_joins_22 : decode cX13_joins 22 = .ok (.iload_n 3, 1) := by decide +kernel
theorem dX13_joins_23 : decode cX13_joins 23 = .ok (.ifCond .eq 33, 3) := by decide +kernel
theorem dX13_joins_26 : decode cX13_joins 26 = .ok (.iload 5, 2) := by decide +kernel
theorem dX13_joins_28 : decode cX13_joins 28 = .ok (.iconst 3, 1) := by decide +kernel
theorem dX13_joins_29 : decode cX13_joins 29 = .ok (.if_icmp .eq 23, 3) := by decide +kernel
theorem dX13_joins_32 : decode cX13_joins 32 = .ok (.iload 5, 2) := by decide +kernel
theorem dX13_joins_34 : decode cX13_joins 34 = .ok (.iconst 4, 1) := by decide +kernel
theorem dX13_joins_35 : decode cX13_joins 35 = .ok (.if_icmp .eq 17, 3) := by decide +kernel
theorem dX13_joins_38 : decode cX13_joins 38 = .ok (.iload 5, 2) := by decide +kernel
theorem dX13_joins_40 : decode cX13_joins 40 = .ok (.bipush 6, 2) := by decide +kernel
theorem dX13_joins_42 : decode cX13_joins 42 = .ok (.if_icmp .eq 10, 3) := by decide +kernel
theorem dX13_joins_45 : decode cX13_joins 45 = .ok (.iload 5, 2) := by decide +kernel
theorem dX13_joins_47 : decode cX13_joins 47 = .ok (.bipush 8, 2) := by decide +kernel
theorem dX13_joins_49 : decode cX13_joins 49 = .ok (.if_icmp .ne 7, 3) := by decide +kernel
theorem dX13_joins_52 : decode cX13_joins 52 = .ok (.iconst 1, 1) := by decide +kernel
theorem dX13_joins_53 : decode cX13_joins 53 = .ok (.goto 4, 3) := by decide +kernel
theorem dX13_joins_56 : decode cX13_joins 56 = .ok (.iconst 0, 1) := by decide +kernel
theorem dX13_joins_57 : decode cX13_joins 57 = .ok (.istore_n 3, 1) := by decide +kernel
theorem dX13_joins_58 : decode cX13_joins 58 = .ok (.aload_n 0, 1) := by decide +kernel
theorem dX13_joins_59 : decode cX13_joins 59 = .ok (.iload_n 1, 1) := by decide +kernel
theorem dX13_joins_60 : decode cX13_joins 60 = .ok (.iload 4, 2) := by decide +kernel
theorem dX13_joins_62 : decode cX13_joins 62 = .ok (.iadd, 1) := by decide +kernel
theorem dX13_joins_63 : decode cX13_joins 63 = .ok (.invokevirtual 564, 3) := by decide +kernel
theorem dX13_joins_66 : decode cX13_joins 66 = .ok (.iinc 4 1, 3) := by decide +kernel
theorem dX13_joins_69 : decode cX13_joins 69 = .ok (.goto (-64), 3) := by decide +kernel
theorem dX13_joins_72 : decode cX13_joins 72 = .ok (.aload_n 0, 1) := by decide +kernel
theorem dX13_joins_73 : decode cX13_joins 73 = .ok (.invokevirtual 525, 3) := by decide +kernel
theorem dX13_joins_76 : decode cX13_joins 76 = .ok (.aload_n 0, 1) := by decide +kernel
theorem dX13_joins_77 : decode cX13_joins 77 = .ok (.getfield 398, 3) := by decide +kernel
theorem dX13_joins_80 : decode cX13_joins 80 = .ok (.ifCond .eq 4, 3) := by decide +kernel
theorem dX13_joins_83 : decode cX13_joins 83 = .ok (.return_, 1) := by decide +kernel
theorem dX13_joins_84 : decode cX13_joins 84 = .ok (.aload_n 0, 1) := by decide +kernel
theorem dX13_joins_85 : decode cX13_joins 85 = .ok (.invokevirtual 407, 3) := by decide +kernel
theorem dX13_joins_88 : decode cX13_joins 88 = .ok (.istore 4, 2) := by decide +kernel
theorem dX13_joins_90 : decode cX13_joins 90 = .ok (.aload_n 0, 1) := by decide +kernel
theorem dX13_joins_91 : decode cX13_joins 91 = .ok (.iload_n 1, 1) := by decide +kernel
theorem dX13_joins_92 : decode cX13_joins 92 = .ok (.iload_n 3, 1) := by decide +kernel
theorem dX13_joins_93 : decode cX13_joins 93 = .ok (.ifCond .eq 12, 3) := by decide +kernel
theorem dX13_joins_96 : decode cX13_joins 96 = .ok (.aload_n 0, 1) := by decide +kernel
theorem dX13_joins_97 : decode cX13_joins 97 = .ok (.iload 4, 2) := by decide +kernel
theorem dX13_joins_99 : decode cX13_joins 99 = .ok (.invokevirtual 561, 3) := by decide +kernel
theorem dX13_joins_102 : decode cX13_joins 102 = .ok (.goto 5, 3) := by decide +kernel
theorem dX13_joins_105 : decode cX13_joins 105 = .ok (.iload 4, 2) := by decide +kernel
theorem dX13_joins_107 : decode cX13_joins 107 = .ok (.invokevirtual 552, 3) := by decide +kernel
theorem dX13_joins_110 : decode cX13_joins 110 = .ok (.return_, 1) := by decide +kernel
def m_joins_107 (g : Nat) (S : St) (y1 : Int32) (y2 : Int32) : Option St :=
(m_givesText g S y1 y2).bind fun S_4 =>
some S_4
def m_joins_57 (g : Nat) (k5 : St → Int32 → Int32 → Int32 → Int32 → Option St) (S : St) (x1 : Int32) (x2 : Int32) (x4 : Int32) (y0 : Int32) : Option St :=
(m_emitX g S (x1 + x4)).bind fun S_7 =>
lt (x4 + (1 : Int32)) fun x4_8 =>
k5 S_7 x1 x2 y0 x4_8
def m_joins_56 (g : Nat) (k5 : St → Int32 → Int32 → Int32 → Int32 → Option St) (S : St) (x1 : Int32) (x2 : Int32) (x4 : Int32) : Option St :=
m_joins_57 g k5 S x1 x2 x4 (0 : Int32)
def m_joins_52 (g : Nat) (k5 : St → Int32 → Int32 → Int32 → Int32 → Option St) (S : St) (x1 : Int32) (x2 : Int32) (x4 : Int32) : Option St :=
m_joins_57 g k5 S x1 x2 x4 (1 : Int32)
def b_joins_5 (g : Nat) (k5 : St → Int32 → Int32 → Int32 → Int32 → Option St) (S : St) (x1 : Int32) (x2 : Int32) (x3 : Int32) (x4 : Int32) : Option St :=
if x2 ≤ x4 then (
  (m_checkRoom g S).bind fun S_1 =>
  if (gI S_1 0 58) = 0 then (
    (m_made g S_1).bind fun (S_2, v_3) =>
    if x3 = 0 then (
      m_joins_107 g S_2 x1 v_3
    ) else (
      (m_interned g S_2 v_3).bind fun (S_4, v_5) =>
      m_joins_107 g S_4 x1 v_5
    )
  ) else (
    some S_1
  )
) else (
  (aI S 8 (x1 + x4)).bind fun v_6 =>
  if x3 = 0 then (
    m_joins_56 g k5 S x1 x2 x4
  ) else (
    if v_6 = (3 : Int32) then (
      m_joins_52 g k5 S x1 x2 x4
    ) else (
      if v_6 = (4 : Int32) then (
        m_joins_52 g k5 S x1 x2 x4
      ) else (
        if v_6 = (6 : Int32) then (
          m_joins_52 g k5 S x1 x2 x4
        ) else (
          if v_6 = (8 : Int32) then (
            m_joins_52 g k5 S x1 x2 x4
          ) else (
            m_joins_56 g k5 S x1 x2 x4
          )
        )
      )
    )
  )
)
def m_joins_5 (g : Nat) : Nat → St → Int32 → Int32 → Int32 → Int32 → Option St
  | 0, _, _, _, _, _ => none
  | n + 1, S, x1, x2, x3, x4 => b_joins_5 g (m_joins_5 g n) S x1 x2 x3 x4
def m_joins (g : Nat) (S : St) (x1 : Int32) (x2 : Int32) : Option St :=
m_joins_5 g g S x1 x2 (1 : Int32) (1 : Int32)
section S_joins
variable {p : Program} {l : Launch} {e : Env} {s : State} {m : MethodId} {args : Array Value} {below : List Frame} {meth : Method} {c : Code} {H : Heap} {locs : List Loc} {ls : Array Slot} {D : va_G} {T : Cy} {ρ : Nat → Nat} {A : Nat → Prop}
set_option maxRecDepth 100000 in
set_option maxHeartbeats 4000000 in
theorem w_joins_107  {g : Nat} {S : St} {y1 : Int32} {y2 : Int32} (C : CallFix p m c cX13_joins 6 s args tb RX13) (hr : meth.sig.returnType = none) (hk : meth.locks = false) {S' : St} (w : Wn Ym D T ρ S A s H locs) (hl : lv_has ls 6 []) (h : m_joins_107 g S y1 y2 = some S') : W p l e (rmN 4 90) s m args below meth c H locs 0 0 (MQ below (Qv Ym D T ρ A S') args s 0 0 A) (F0 m 107 ls [.int y2, .int y1, .ref (ρ 0)]) := by
  unfold m_joins_107 at h
  obtain ⟨S_4, hS_4, h⟩ := bnd h
  refine x_callVv (q := (RX13, TX13, 68)) (As := [.int y1, .int y2]) (rest := []) C w (k_givesText l D T ρ g H.size S hS_4) vM552 ⟨by decide, by decide⟩ obM (by decide) rfl rfl rfl hl.1 (Nat.le_of_ble_eq_true rfl) ⟨Nat.zero_le _, Nat.zero_le _⟩ dX13_joins_107 (fun H locs w => ?_)
  obtain rfl := som h
  exact x_vret C w hr hk dX13_joins_110
set_option maxRecDepth 100000 in
set_option maxHeartbeats 4000000 in
theorem w_joins_57  {g : Nat} {S : St} {x1 : Int32} {x2 : Int32} {x4 : Int32} {y0 : Int32} (C : CallFix p m c cX13_joins 6 s args tb RX13) (hr : meth.sig.returnType = none) (hk : meth.locks = false) {S' : St} {k5 : St → Int32 → Int32 → Int32 → Int32 → Option St} (kk5 : ∀ (S : St) (x1 : Int32) (x2 : Int32) (x3 : Int32) (x4 : Int32) (H : Heap) (locs : List Loc) (ls : Array Slot), Wn Ym D T ρ S A s H locs → lv_has ls 6 [(0, .ref (ρ 0)), (1, .int x1), (2, .int x2), (3, .int x3), (4, .int x4)] → k5 S x1 x2 x3 x4 = some S' → W p l e (rmN 4 90) s m args below meth c H locs 0 0 (MQ below (Qv Ym D T ρ A S') args s 0 0 A) (F0 m 5 ls [])) (w : Wn Ym D T ρ S A s H locs) (hl : lv_has ls 6 [(0, .ref (ρ 0)), (1, .int x1), (2, .int x2), (4, .int x4)]) (h : m_joins_57 g k5 S x1 x2 x4 y0 = some S') : W p l e (rmN 4 90) s m args below meth c H locs 0 0 (MQ below (Qv Ym D T ρ A S') args s 0 0 A) (F0 m 57 ls [.int y0]) := by
  unfold m_joins_57 at h
  refine lv_istore_n (lv' := [(3, .int y0), (0, .ref (ρ 0)), (1, .int x1), (2, .int x2), (4, .int x4)]) C.1 C.2.1 dX13_joins_57 rfl hl (by decide) rfl (fun ls hl => ?_)
  refine lv_aload_n C.1 C.2.1 dX13_joins_58 rfl (lv_at hl 1 rfl) ?_
  refine lv_iload_n C.1 C.2.1 dX13_joins_59 rfl (lv_at hl 2 rfl) ?_
  refine lv_iload C.1 C.2.1 dX13_joins_60 (lv_at hl 4 rfl) ?_
  refine lv_iadd C.1 C.2.1 dX13_joins_62 ?_
  obtain ⟨S_7, hS_7, h⟩ := bnd h
  refine x_callVv (q := (RX13, TX13, 68)) (As := [.int (x1 + x4)]) (rest := []) C w (k_emitX l D T ρ g H.size S hS_7) vM564 ⟨by decide, by decide⟩ obM (by decide) rfl rfl rfl hl.1 (Nat.le_of_ble_eq_true rfl) ⟨Nat.zero_le _, Nat.zero_le _⟩ dX13_joins_63 (fun H locs w => ?_)
  obtain ⟨x4_8, ex4_8, h⟩ := lt_e h
  refine lv_iinc (v := x4_8) (lv' := [(4, .int x4_8), (3, .int y0), (0, .ref (ρ 0)), (1, .int x1), (2, .int x2)]) C.1 C.2.1 dX13_joins_66 hl (k := 4) rfl (by rw [ex4_8]; rfl) (by decide) rfl (fun ls hl => ?_)
  refine lv_goto (tgt := 5) C.1 C.2.1 dX13_joins_69 (by decide) ?_
  exact kk5 _ _ _ _ _ _ _ _ w (lv_sub hl [2, 3, 4, 1, 0] rfl) h
set_option maxRecDepth 100000 in
set_option maxHeartbeats 4000000 in
theorem w_joins_56  {g : Nat} {S : St} {x1 : Int32} {x2 : Int32} {x4 : Int32} (C : CallFix p m c cX13_joins 6 s args tb RX13) (hr : meth.sig.returnType = none) (hk : meth.locks = false) {S' : St} {k5 : St → Int32 → Int32 → Int32 → Int32 → Option St} (kk5 : ∀ (S : St) (x1 : Int32) (x2 : Int32) (x3 : Int32) (x4 : Int32) (H : Heap) (locs : List Loc) (ls : Array Slot), Wn Ym D T ρ S A s H locs → lv_has ls 6 [(0, .ref (ρ 0)), (1, .int x1), (2, .int x2), (3, .int x3), (4, .int x4)] → k5 S x1 x2 x3 x4 = some S' → W p l e (rmN 4 90) s m args below meth c H locs 0 0 (MQ below (Qv Ym D T ρ A S') args s 0 0 A) (F0 m 5 ls [])) (w : Wn Ym D T ρ S A s H locs) (hl : lv_has ls 6 [(0, .ref (ρ 0)), (1, .int x1), (2, .int x2), (4, .int x4)]) (h : m_joins_56 g k5 S x1 x2 x4 = some S') : W p l e (rmN 4 90) s m args below meth c H locs 0 0 (MQ below (Qv Ym D T ρ A S') args s 0 0 A) (F0 m 56 ls []) := by
  unfold m_joins_56 at h
  refine lv_iconst (v := 0) C.1 C.2.1 dX13_joins_56 (by decide) ?_
  exact w_joins_57 C hr hk kk5 w (lv_sub hl [0, 1, 2, 3] rfl) h
set_option maxRecDepth 100000 in
set_option maxHeartbeats 4000000 in
theorem w_joins_52  {g : Nat} {S : St} {x1 : Int32} {x2 : Int32} {x4 : Int32} (C : CallFix p m c cX13_joins 6 s args tb RX13) (hr : meth.sig.returnType = none) (hk : meth.locks = false) {S' : St} {k5 : St → Int32 → Int32 → Int32 → Int32 → Option St} (kk5 : ∀ (S : St) (x1 : Int32) (x2 : Int32) (x3 : Int32) (x4 : Int32) (H : Heap) (locs : List Loc) (ls : Array Slot), Wn Ym D T ρ S A s H locs → lv_has ls 6 [(0, .ref (ρ 0)), (1, .int x1), (2, .int x2), (3, .int x3), (4, .int x4)] → k5 S x1 x2 x3 x4 = some S' → W p l e (rmN 4 90) s m args below meth c H locs 0 0 (MQ below (Qv Ym D T ρ A S') args s 0 0 A) (F0 m 5 ls [])) (w : Wn Ym D T ρ S A s H locs) (hl : lv_has ls 6 [(0, .ref (ρ 0)), (1, .int x1), (2, .int x2), (4, .int x4)]) (h : m_joins_52 g k5 S x1 x2 x4 = some S') : W p l e (rmN 4 90) s m args below meth c H locs 0 0 (MQ below (Qv Ym D T ρ A S') args s 0 0 A) (F0 m 52 ls []) := by
  unfold m_joins_52 at h
  refine lv_iconst (v := 1) C.1 C.2.1 dX13_joins_52 (by decide) ?_
  refine lv_goto (tgt := 57) C.1 C.2.1 dX13_joins_53 (by decide) ?_
  exact w_joins_57 C hr hk kk5 w (lv_sub hl [0, 1, 2, 3] rfl) h
set_option maxRecDepth 100000 in
set_option maxHeartbeats 4000000 in
theorem wb_joins_5  {g : Nat} {S : St} {x1 : Int32} {x2 : Int32} {x3 : Int32} {x4 : Int32} (C : CallFix p m c cX13_joins 6 s args tb RX13) (hr : meth.sig.returnType = none) (hk : meth.locks = false) {S' : St} {k5 : St → Int32 → Int32 → Int32 → Int32 → Option St} (kk5 : ∀ (S : St) (x1 : Int32) (x2 : Int32) (x3 : Int32) (x4 : Int32) (H : Heap) (locs : List Loc) (ls : Array Slot), Wn Ym D T ρ S A s H locs → lv_has ls 6 [(0, .ref (ρ 0)), (1, .int x1), (2, .int x2), (3, .int x3), (4, .int x4)] → k5 S x1 x2 x3 x4 = some S' → W p l e (rmN 4 90) s m args below meth c H locs 0 0 (MQ below (Qv Ym D T ρ A S') args s 0 0 A) (F0 m 5 ls [])) (w : Wn Ym D T ρ S A s H locs) (hl : lv_has ls 6 [(0, .ref (ρ 0)), (1, .int x1), (2, .int x2), (3, .int x3), (4, .int x4)]) (h : b_joins_5 g k5 S x1 x2 x3 x4 = some S') : W p l e (rmN 4 90) s m args below meth c H locs 0 0 (MQ below (Qv Ym D T ρ A S') args s 0 0 A) (F0 m 5 ls []) := by
  unfold b_joins_5 at h
  refine lv_iload C.1 C.2.1 dX13_joins_5 (lv_at hl 4 rfl) ?_
  refine lv_iload_n C.1 C.2.1 dX13_joins_7 rfl (lv_at hl 2 rfl) ?_
  refine lv_icmp_ge (tgt := 72) C.1 C.2.1 dX13_joins_8 (by decide) (fun hc => ?_) (fun hc => ?_)
  · replace h := ift hc h
    refine lv_aload_n C.1 C.2.1 dX13_joins_72 rfl (lv_at hl 0 rfl) ?_
    obtain ⟨S_1, hS_1, h⟩ := bnd h
    refine x_callVv (q := (RX13, TX13, 68)) (As := []) (rest := []) C w (k_checkRoom l D T ρ g H.size S hS_1) vM525 ⟨by decide, by decide⟩ obM (by decide) rfl rfl rfl hl.1 (Nat.le_of_ble_eq_true rfl) ⟨Nat.zero_le _, Nat.zero_le _⟩ dX13_joins_73 (fun H locs w => ?_)
    refine lv_aload_n C.1 C.2.1 dX13_joins_76 rfl (lv_at hl 0 rfl) ?_
    refine x_getI C w fM398 obM dX13_joins_77 ?_
    refine lv_if_eq (tgt := 84) C.1 C.2.1 dX13_joins_80 (by decide) (fun hc => ?_) (fun hc => ?_)
    · replace h := ift hc h
      refine lv_aload_n C.1 C.2.1 dX13_joins_84 rfl (lv_at hl 0 rfl) ?_
      obtain ⟨⟨S_2, v_3⟩, hv_3, h⟩ := bnd h
      refine x_callVi (q := (RX13, TX13, 68)) (As := []) (rest := []) C w (k_made l D T ρ g H.size S_1 hv_3) vM407 ⟨by decide, by decide⟩ obM (by decide) rfl rfl rfl hl.1 (Nat.le_of_ble_eq_true rfl) ⟨Nat.zero_le _, Nat.zero_le _⟩ dX13_joins_85 (fun H locs w => ?_)
      refine lv_istore (lv' := [(4, .int v_3), (0, .ref (ρ 0)), (1, .int x1), (2, .int x2), (3, .int x3)]) C.1 C.2.1 dX13_joins_88 hl (by decide) rfl (fun ls hl => ?_)
      refine lv_aload_n C.1 C.2.1 dX13_joins_90 rfl (lv_at hl 1 rfl) ?_
      refine lv_iload_n C.1 C.2.1 dX13_joins_91 rfl (lv_at hl 2 rfl) ?_
      refine lv_iload_n C.1 C.2.1 dX13_joins_92 rfl (lv_at hl 4 rfl) ?_
      refine lv_if_eq (tgt := 105) C.1 C.2.1 dX13_joins_93 (by decide) (fun hc => ?_) (fun hc => ?_)
      · replace h := ift hc h
        refine lv_iload C.1 C.2.1 dX13_joins_105 (lv_at hl 0 rfl) ?_
        exact w_joins_107 C hr hk w (lv_sub hl [] rfl) h
      · replace h := iff0 hc h
        refine lv_aload_n C.1 C.2.1 dX13_joins_96 rfl (lv_at hl 1 rfl) ?_
        refine lv_iload C.1 C.2.1 dX13_joins_97 (lv_at hl 0 rfl) ?_
        obtain ⟨⟨S_4, v_5⟩, hv_5, h⟩ := bnd h
        refine x_callVi (q := (RX13, TX13, 68)) (As := [.int v_3]) (rest := [.int x1, .ref (ρ 0)]) C w (k_interned l D T ρ g H.size S_2 hv_5) vM561 ⟨by decide, by decide⟩ obM (by decide) rfl rfl rfl hl.1 (Nat.le_of_ble_eq_true rfl) ⟨Nat.zero_le _, Nat.zero_le _⟩ dX13_joins_99 (fun H locs w => ?_)
        refine lv_goto (tgt := 107) C.1 C.2.1 dX13_joins_102 (by decide) ?_
        exact w_joins_107 C hr hk w (lv_sub hl [] rfl) h
    · replace h := iff0 hc h
      obtain rfl := som h
      exact x_vret C w hr hk dX13_joins_83
  · replace h := iff0 hc h
    refine lv_aload_n C.1 C.2.1 dX13_joins_11 rfl (lv_at hl 0 rfl) ?_
    refine x_getC C w 8 fM144 obM rfl dX13_joins_12 ?_
    refine lv_iload_n C.1 C.2.1 dX13_joins_15 rfl (lv_at hl 1 rfl) ?_
    refine lv_iload C.1 C.2.1 dX13_joins_16 (lv_at hl 4 rfl) ?_
    refine lv_iadd C.1 C.2.1 dX13_joins_18 ?_
    obtain ⟨v_6, hv_6, h⟩ := bnd h
    refine x_iald C w obM8 hv_6 dX13_joins_19 ?_
    refine lv_istore (lv' := [(5, .int v_6), (0, .ref (ρ 0)), (1, .int x1), (2, .int x2), (3, .int x3), (4, .int x4)]) C.1 C.2.1 dX13_joins_20 hl (by decide) rfl (fun ls hl => ?_)
    refine lv_iload_n C.1 C.2.1 dX13_joins_22 rfl (lv_at hl 4 rfl) ?_
    refine lv_if_eq (tgt := 56) C.1 C.2.1 dX13_joins_23 (by decide) (fun hc => ?_) (fun hc => ?_)
    · replace h := ift hc h
      exact w_joins_56 C hr hk kk5 w (lv_sub hl [1, 2, 3, 5] rfl) h
    · replace h := iff0 hc h
      refine lv_iload C.1 C.2.1 dX13_joins_26 (lv_at hl 0 rfl) ?_
      refine lv_iconst (v := 3) C.1 C.2.1 dX13_joins_28 (by decide) ?_
      refine lv_icmp_eq (tgt := 52) C.1 C.2.1 dX13_joins_29 (by decide) (fun hc => ?_) (fun hc => ?_)
      · replace h := ift hc h
        exact w_joins_52 C hr hk kk5 w (lv_sub hl [1, 2, 3, 5] rfl) h
      · replace h := iff0 hc h
        refine lv_iload C.1 C.2.1 dX13_joins_32 (lv_at hl 0 rfl) ?_
        refine lv_iconst (v := 4) C.1 C.2.1 dX13_joins_34 (by decide) ?_
        refine lv_icmp_eq (tgt := 52) C.1 C.2.1 dX13_joins_35 (by decide) (fun hc => ?_) (fun hc => ?_)
        · replace h := ift hc h
          exact w_joins_52 C hr hk kk5 w (lv_sub hl [1, 2, 3, 5] rfl) h
        · replace h := iff0 hc h
          refine lv_iload C.1 C.2.1 dX13_joins_38 (lv_at hl 0 rfl) ?_
          refine lv_bipush (v := 6) C.1 C.2.1 dX13_joins_40 (by decide) ?_
          refine lv_icmp_eq (tgt := 52) C.1 C.2.1 dX13_joins_42 (by decide) (fun hc => ?_) (fun hc => ?_)
          · replace h := ift hc h
            exact w_joins_52 C hr hk kk5 w (lv_sub hl [1, 2, 3, 5] rfl) h
          · replace h := iff0 hc h
            refine lv_iload C.1 C.2.1 dX13_joins_45 (lv_at hl 0 rfl) ?_
            refine lv_bipush (v := 8) C.1 C.2.1 dX13_joins_47 (by decide) ?_
            refine lv_icmp_ne (tgt := 56) C.1 C.2.1 dX13_joins_49 (by decide) (fun hc => ?_) (fun hc => ?_)
            · replace h := iff0 hc h
              exact w_joins_56 C hr hk kk5 w (lv_sub hl [1, 2, 3, 5] rfl) h
            · replace h := ift hc h
              exact w_joins_52 C hr hk kk5 w (lv_sub hl [1, 2, 3, 5] rfl) h
theorem w_joins_5 {g : Nat} (C : CallFix p m c cX13_joins 6 s args tb RX13) (hr : meth.sig.returnType = none) (hk : meth.locks = false) {S' : St} (n : Nat) : ∀ (S : St) (x1 : Int32) (x2 : Int32) (x3 : Int32) (x4 : Int32) (H : Heap) (locs : List Loc) (ls : Array Slot), Wn Ym D T ρ S A s H locs → lv_has ls 6 [(0, .ref (ρ 0)), (1, .int x1), (2, .int x2), (3, .int x3), (4, .int x4)] → m_joins_5 g n S x1 x2 x3 x4 = some S' → W p l e (rmN 4 90) s m args below meth c H locs 0 0 (MQ below (Qv Ym D T ρ A S') args s 0 0 A) (F0 m 5 ls []) := by
  induction n with
  | zero => intro S x1 x2 x3 x4 H locs ls w hl h; exact absurd h (fun q => by cases q)
  | succ n ih => intro S x1 x2 x3 x4 H locs ls w hl h; exact wb_joins_5 C hr hk ih w hl h
set_option maxRecDepth 100000 in
set_option maxHeartbeats 4000000 in
theorem w_joins_0  {g : Nat} {S : St} {x1 : Int32} {x2 : Int32} (C : CallFix p m c cX13_joins 6 s args tb RX13) (hr : meth.sig.returnType = none) (hk : meth.locks = false) {S' : St} (w : Wn Ym D T ρ S A s H locs) (hl : lv_has ls 6 [(0, .ref (ρ 0)), (1, .int x1), (2, .int x2)]) (h : m_joins g S x1 x2 = some S') : W p l e (rmN 4 90) s m args below meth c H locs 0 0 (MQ below (Qv Ym D T ρ A S') args s 0 0 A) (F0 m 0 ls []) := by
  unfold m_joins at h
  refine lv_iconst (v := 1) C.1 C.2.1 dX13_joins_0 (by decide) ?_
  refine lv_istore_n (lv' := [(3, .int (1 : Int32)), (0, .ref (ρ 0)), (1, .int x1), (2, .int x2)]) C.1 C.2.1 dX13_joins_1 rfl hl (by decide) rfl (fun ls hl => ?_)
  refine lv_iconst (v := 1) C.1 C.2.1 dX13_joins_2 (by decide) ?_
  refine lv_istore (lv' := [(4, .int (1 : Int32)), (3, .int (1 : Int32)), (0, .ref (ρ 0)), (1, .int x1), (2, .int x2)]) C.1 C.2.1 dX13_joins_3 hl (by decide) rfl (fun ls hl => ?_)
  exact w_joins_5 C hr hk g _ _ _ _ _ _ _ _ w (lv_sub hl [2, 3, 4, 1, 0] rfl) h
end S_joins
set_option maxRecDepth 100000 in
theorem k_joins (l : Launch) (D : va_G) (T : Cy) (ρ : Nat → Nat) (g sz : Nat) (S : St) {x1 : Int32} {x2 : Int32} {S' : St} (h : m_joins g S x1 x2 = some S') : Mv l Ym D T ρ yX13_joins cX13_joins 6 none 4 90 S S' [.ref (ρ 0), .int x1, .int x2] sz :=
  x_in (by decide) (Nat.le_of_ble_eq_true rfl) (fun p e s m below meth c ls C hr hk w hl => w_joins_0 C hr hk w hl h)

theorem dX13_names_0 : decode cX13_names 0 = .ok (.iload_n 1, 1) := by decide +kernel
theorem dX13_names_1 : decode cX13_names 1 = .ok (.ifCond .ne 18, 3) := by decide +kernel
theorem dX13_names_4 : decode cX13_names 4 = .ok (.aload_n 0, 1) := by decide +kernel
theorem dX13_names_5 : decode cX13_names 5 = .ok (.iload_n 2, 1) := by decide +kernel
theorem dX13_names_6 : decode cX13_names 6 = .ok (.aload_n 0, 1) := by decide +kernel
theorem dX13_names_7 : decode cX13_names 7 = .ok (.iload_n 2, 1) := by decide +kernel
theorem dX13_names_8 : decode cX13_names 8 = .ok (.iconst 1, 1) := by decide +kernel
theorem dX13_names_9 : decode cX13_names 9 = .ok (.iadd, 1) := by decide +kernel
theorem dX13_names_10 : decode cX13_names 10 = .ok (.invokevirtual 463, 3) := by decide +kernel
theorem dX13_names_13 : decode cX13_names 13 = .ok (.invokevirtual 552, 3) := by decide +kernel
theorem dX13_names_16 : decode cX13_names 16 = .ok (.goto 90, 3) := by decide +kernel
theorem dX13_names_19 : decode cX13_names 19 = .ok (.iload_n 1, 1) := by decide +kernel
theorem dX13_names_20 : decode cX13_names 20 = .ok (.iconst 1, 1) := by decide +kernel
theorem dX13_names_21 : decode cX13_names 21 = .ok (.if_icmp .ne 12, 3) := by decide +kernel
theorem dX13_names_24 : decode cX13_names 24 = .ok (.aload_n 0, 1) := by decide +kernel
theorem dX13_names_25 : decode cX13_names 25 = .ok (.iload_n 2, 1) := by decide +kernel
theorem dX13_names_26 : decode cX13_names 26 = .ok (.iconst (-1), 1) := by decide +kernel
theorem dX13_names_27 : decode cX13_names 27 = .ok (.invokevirtual 552, 3) := by decide +kernel
theorem dX13_names_30 : decode cX13_names 30 = .ok (.goto 76, 3) := by decide +kernel
theorem dX13_names_33 : decode cX13_names 33 = .ok (.iload_n 1, 1) := by decide +kernel
theorem dX13_names_34 : decode cX13_names 34 = .ok (.iconst 4, 1) := by decide +kernel
theorem dX13_names_35 : decode cX13_names 35 = .ok (.if_icmp .ne 12, 3) := by decide +kernel
theorem dX13_names_38 : decode cX13_names 38 = .ok (.aload_n 0, 1) := by decide +kernel
theorem dX13_names_39 : decode cX13_names 39 = .ok (.iload_n 2, 1) := by decide +kernel
theorem dX13_names_40 : decode cX13_names 40 = .ok (.iload_n 3, 1) := by decide +kernel
theorem dX13_names_41 : decode cX13_names 41 = .ok (.invokevirtual 555, 3) := by decide +kernel
theorem dX13_names_44 : decode cX13_names 44 = .ok (.goto 62, 3) := by decide +kernel
theorem dX13_names_47 : decode cX13_names 47 = .ok (.aload_n 0, 1) := by decide +kernel
theorem dX13_names_48 : decode cX13_names 48 = .ok (.iload_n 2, 1) := by decide +kernel
theorem dX13_names_49 : decode cX13_names 49 = .ok (.iconst 1, 1) := by decide +kernel
theorem dX13_names_50 : decode cX13_names 50 = .ok (.iadd, 1) := by decide +kernel
theorem dX13_names_51 : decode cX13_names 51 = .ok (.invokevirtual 558, 3) := by decide +kernel
theorem dX13_names_54 : decode cX13_names 54 = .ok (.istore 4, 2) := by decide +kernel
theorem dX13_names_56 : decode cX13_names 56 = .ok (.aload_n 0, 1) := by decide +kernel
theorem dX13_names_57 : decode cX13_names 57 = .ok (.getfield 398, 3) := by decide +kernel
theorem dX13_names_60 : decode cX13_names 60 = .ok (.ifCond .eq 4, 3) := by decide +kernel
theorem dX13_names_63 : decode cX13_names 63 = .ok (.return_, 1) := by decide +kernel
theorem dX13_names_64 : decode cX13_names 64 = .ok (.iload_n 1, 1) := by decide +kernel
theorem dX13_names_65 : decode cX13_names 65 = .ok (.iconst 2, 1) := by decide +kernel
theorem dX13_names_66 : decode cX13_names 66 = .ok (.if_icmp .ne 17, 3) := by decide +kernel
theorem dX13_names_69 : decode cX13_names 69 = .ok (.aload_n 0, 1) := by decide +kernel
theorem dX13_names_70 : decode cX13_names 70 = .ok (.iload 4, 2) := by decide +kernel
theorem dX13_names_72 : decode cX13_names 72 = .ok (.iconst 0, 1) := by decide +kernel
theorem dX13_names_73 : decode cX13_names 73 = .ok (.aload_n 0, 1) := by decide +kernel
theorem dX13_names_74 : decode cX13_names 74 = .ok (.getfield 193, 3) := by decide +kernel
theorem dX13_names_77 : decode cX13_names 77 = .ok (.iload 4, 2) := by decide +kernel
theorem dX13_names_79 : decode cX13_names 79 = .ok (.iaload, 1) := by decide +kernel
theorem dX13_names_80 : decode cX13_names 80 = .ok (.invokevirtual 478, 3) := by decide +kernel
theorem dX13_names_83 : decode cX13_names 83 = .ok (.aload_n 0, 1) := by decide +kernel
theorem dX13_names_84 : decode cX13_names 84 = .ok (.iload_n 2, 1) := by decide +kernel
theorem dX13_names_85 : decode cX13_names 85 = .ok (.iload_n 1, 1) := by decide +kernel
theorem dX13_names_86 : decode cX13_names 86 = .ok (.iconst 2, 1) := by decide +kernel
theorem dX13_names_87 : decode cX13_names 87 = .ok (.if_icmp .ne 10, 3) := by decide +kernel
theorem dX13_names_90 : decode cX13_names 90 = .ok (.aload_n 0, 1) := by decide +kernel
theorem dX13_names_91 : decode cX13_names 91 = .ok (.invokevirtual 407, 3) := by decide +kernel
theorem dX13_names_94 : decode cX13_names 94 = .ok (.goto 9, 3) := by decide +kernel
theorem dX13_names_97 : decode cX13_names 97 = .ok (.aload_n 0, 1) := by decide +kernel
theorem dX13_names_98 : decode cX13_names 98 = .ok (.iload 4, 2) := by decide +kernel
theorem dX13_names_100 : decode cX13_names 100 = .ok (.invokevirtual 561, 3) := by decide +kernel
theorem dX13_names_103 : decode cX13_names 103 = .ok (.invokevirtual 552, 3) := by decide +kernel
theorem dX13_names_106 : decode cX13_names 106 = .ok (.return_, 1) := by decide +kernel
def m_names_103 (g : Nat) (S : St) (y1 : Int32) (y2 : Int32) : Option St :=
(m_givesText g S y1 y2).bind fun S_5 =>
some S_5
def m_names_83 (g : Nat) (S : St) (x1 : Int32) (x2 : Int32) (x4 : Int32) : Option St :=
if x1 = (2 : Int32) then (
  (m_made g S).bind fun (S_5, v_6) =>
  m_names_103 g S_5 x2 v_6
) else (
  (m_interned g S x4).bind fun (S_3, v_4) =>
  m_names_103 g S_3 x2 v_4
)
def m_names (g : Nat) (S : St) (x1 : Int32) (x2 : Int32) (x3 : Int32) : Option St :=
if x1 = 0 then (
  (m_text g S (x2 + (1 : Int32))).bind fun v_7 =>
  (m_givesText g S x2 v_7).bind fun S_8 =>
  some S_8
) else (
  if x1 = (1 : Int32) then (
    (m_givesText g S x2 (-1 : Int32)).bind fun S_6 =>
    some S_6
  ) else (
    if x1 = (4 : Int32) then (
      (m_joins g S x2 x3).bind fun S_5 =>
      some S_5
    ) else (
      (m_textAt g S (x2 + (1 : Int32))).bind fun (S_1, v_2) =>
      if (gI S_1 0 58) = 0 then (
        if x1 = (2 : Int32) then (
          (aI S_1 24 v_2).bind fun v_3 =>
          (m_emitText g S_1 v_2 (0 : Int32) v_3).bind fun S_4 =>
          m_names_83 g S_4 x1 x2 v_2
        ) else (
          m_names_83 g S_1 x1 x2 v_2
        )
      ) else (
        some S_1
      )
    )
  )
)
section S_names
variable {p : Program} {l : Launch} {e : Env} {s : State} {m : MethodId} {args : Array Value} {below : List Frame} {meth : Method} {c : Code} {H : Heap} {locs : List Loc} {ls : Array Slot} {D : va_G} {T : Cy} {ρ : Nat → Nat} {A : Nat → Prop}
set_option maxRecDepth 100000 in
set_option maxHeartbeats 4000000 in
theorem w_names_103  {g : Nat} {S : St} {y1 : Int32} {y2 : Int32} (C : CallFix p m c cX13_names 5 s args tb RX13) (hr : meth.sig.returnType = none) (hk : meth.locks = false) {S' : St} (w : Wn Ym D T ρ S A s H locs) (hl : lv_has ls 5 []) (h : m_names_103 g S y1 y2 = some S') : W p l e (rmN 5 115) s m args below meth c H locs 0 0 (MQ below (Qv Ym D T ρ A S') args s 0 0 A) (F0 m 103 ls [.int y2, .int y1, .ref (ρ 0)]) := by
  unfold m_names_103 at h
  obtain ⟨S_5, hS_5, h⟩ := bnd h
  refine x_callVv (q := (RX13, TX13, 68)) (As := [.int y1, .int y2]) (rest := []) C w (k_givesText l D T ρ g H.size S hS_5) vM552 ⟨by decide, by decide⟩ obM (by decide) rfl rfl rfl hl.1 (Nat.le_of_ble_eq_true rfl) ⟨Nat.zero_le _, Nat.zero_le _⟩ dX13_names_103 (fun H locs w => ?_)
  obtain rfl := som h
  exact x_vret C w hr hk dX13_names_106
set_option maxRecDepth 100000 in
set_option maxHeartbeats 4000000 in
theorem w_names_83  {g : Nat} {S : St} {x1 : Int32} {x2 : Int32} {x4 : Int32} (C : CallFix p m c cX13_names 5 s args tb RX13) (hr : meth.sig.returnType = none) (hk : meth.locks = false) {S' : St} (w : Wn Ym D T ρ S A s H locs) (hl : lv_has ls 5 [(0, .ref (ρ 0)), (1, .int x1), (2, .int x2), (4, .int x4)]) (h : m_names_83 g S x1 x2 x4 = some S') : W p l e (rmN 5 115) s m args below meth c H locs 0 0 (MQ below (Qv Ym D T ρ A S') args s 0 0 A) (F0 m 83 ls []) := by
  unfold m_names_83 at h
  refine lv_aload_n C.1 C.2.1 dX13_names_83 rfl (lv_at hl 0 rfl) ?_
  refine lv_iload_n C.1 C.2.1 dX13_names_84 rfl (lv_at hl 2 rfl) ?_
  refine lv_iload_n C.1 C.2.1 dX13_names_85 rfl (lv_at hl 1 rfl) ?_
  refine lv_iconst (v := 2) C.1 C.2.1 dX13_names_86 (by decide) ?_
  refine lv_icmp_ne (tgt := 97) C.1 C.2.1 dX13_names_87 (by decide) (fun hc => ?_) (fun hc => ?_)
  · replace h := iff0 hc h
    refine lv_aload_n C.1 C.2.1 dX13_names_97 rfl (lv_at hl 0 rfl) ?_
    refine lv_iload C.1 C.2.1 dX13_names_98 (lv_at hl 3 rfl) ?_
    obtain ⟨⟨S_3, v_4⟩, hv_4, h⟩ := bnd h
    refine x_callVi (q := (RX13, TX13, 68)) (As := [.int x4]) (rest := [.int x2, .ref (ρ 0)]) C w (k_interned l D T ρ g H.size S hv_4) vM561 ⟨by decide, by decide⟩ obM (by decide) rfl rfl rfl hl.1 (Nat.le_of_ble_eq_true rfl) ⟨Nat.zero_le _, Nat.zero_le _⟩ dX13_names_100 (fun H locs w => ?_)
    exact w_names_103 C hr hk w (lv_sub hl [] rfl) h
  · replace h := ift hc h
    refine lv_aload_n C.1 C.2.1 dX13_names_90 rfl (lv_at hl 0 rfl) ?_
    obtain ⟨⟨S_5, v_6⟩, hv_6, h⟩ := bnd h
    refine x_callVi (q := (RX13, TX13, 68)) (As := []) (rest := [.int x2, .ref (ρ 0)]) C w (k_made l D T ρ g H.size S hv_6) vM407 ⟨by decide, by decide⟩ obM (by decide) rfl rfl rfl hl.1 (Nat.le_of_ble_eq_true rfl) ⟨Nat.zero_le _, Nat.zero_le _⟩ dX13_names_91 (fun H locs w => ?_)
    refine lv_goto (tgt := 103) C.1 C.2.1 dX13_names_94 (by decide) ?_
    exact w_names_103 C hr hk w (lv_sub hl [] rfl) h
set_option maxRecDepth 100000 in
set_option maxHeartbeats 4000000 in
theorem w_names_0  {g : Nat} {S : St} {x1 : Int32} {x2 : Int32} {x3 : Int32} (C : CallFix p m c cX13_names 5 s args tb RX13) (hr : meth.sig.returnType = none) (hk : meth.locks = false) {S' : St} (w : Wn Ym D T ρ S A s H locs) (hl : lv_has ls 5 [(0, .ref (ρ 0)), (1, .int x1), (2, .int x2), (3, .int x3)]) (h : m_names g S x1 x2 x3 = some S') : W p l e (rmN 5 115) s m args below meth c H locs 0 0 (MQ below (Qv Ym D T ρ A S') args s 0 0 A) (F0 m 0 ls []) := by
  unfold m_names at h
  refine lv_iload_n C.1 C.2.1 dX13_names_0 rfl (lv_at hl 1 rfl) ?_
  refine lv_if_ne (tgt := 19) C.1 C.2.1 dX13_names_1 (by decide) (fun hc => ?_) (fun hc => ?_)
  · replace h := iff0 hc h
    refine lv_iload_n C.1 C.2.1 dX13_names_19 rfl (lv_at hl 1 rfl) ?_
    refine lv_iconst (v := 1) C.1 C.2.1 dX13_names_20 (by decide) ?_
    refine lv_icmp_ne (tgt := 33) C.1 C.2.1 dX13_names_21 (by decide) (fun hc => ?_) (fun hc => ?_)
    · replace h := iff0 hc h
      refine lv_iload_n C.1 C.2.1 dX13_names_33 rfl (lv_at hl 1 rfl) ?_
      refine lv_iconst (v := 4) C.1 C.2.1 dX13_names_34 (by decide) ?_
      refine lv_icmp_ne (tgt := 47) C.1 C.2.1 dX13_names_35 (by decide) (fun hc => ?_) (fun hc => ?_)
      · replace h := iff0 hc h
        refine lv_aload_n C.1 C.2.1 dX13_names_47 rfl (lv_at hl 0 rfl) ?_
        refine lv_iload_n C.1 C.2.1 dX13_names_48 rfl (lv_at hl 2 rfl) ?_
        refine lv_iconst (v := 1) C.1 C.2.1 dX13_names_49 (by decide) ?_
        refine lv_iadd C.1 C.2.1 dX13_names_50 ?_
        obtain ⟨⟨S_1, v_2⟩, hv_2, h⟩ := bnd h
        refine x_callVi (q := (RX13, TX13, 68)) (As := [.int (x2 + (1 : Int32))]) (rest := []) C w (k_textAt l D T ρ g H.size S hv_2) vM558 ⟨by decide, by decide⟩ obM (by decide) rfl rfl rfl hl.1 (Nat.le_of_ble_eq_true rfl) ⟨Nat.zero_le _, Nat.zero_le _⟩ dX13_names_51 (fun H locs w => ?_)
        refine lv_istore (lv' := [(4, .int v_2), (0, .ref (ρ 0)), (1, .int x1), (2, .int x2), (3, .int x3)]) C.1 C.2.1 dX13_names_54 hl (by decide) rfl (fun ls hl => ?_)
        refine lv_aload_n C.1 C.2.1 dX13_names_56 rfl (lv_at hl 1 rfl) ?_
        refine x_getI C w fM398 obM dX13_names_57 ?_
        refine lv_if_eq (tgt := 64) C.1 C.2.1 dX13_names_60 (by decide) (fun hc => ?_) (fun hc => ?_)
        · replace h := ift hc h
          refine lv_iload_n C.1 C.2.1 dX13_names_64 rfl (lv_at hl 2 rfl) ?_
          refine lv_iconst (v := 2) C.1 C.2.1 dX13_names_65 (by decide) ?_
          refine lv_icmp_ne (tgt := 83) C.1 C.2.1 dX13_names_66 (by decide) (fun hc => ?_) (fun hc => ?_)
          · replace h := iff0 hc h
            exact w_names_83 C hr hk w (lv_sub hl [1, 2, 3, 0] rfl) h
          · replace h := ift hc h
            refine lv_aload_n C.1 C.2.1 dX13_names_69 rfl (lv_at hl 1 rfl) ?_
            refine lv_iload C.1 C.2.1 dX13_names_70 (lv_at hl 0 rfl) ?_
            refine lv_iconst (v := 0) C.1 C.2.1 dX13_names_72 (by decide) ?_
            refine lv_aload_n C.1 C.2.1 dX13_names_73 rfl (lv_at hl 1 rfl) ?_
            refine x_getC C w 24 fM193 obM rfl dX13_names_74 ?_
            refine lv_iload C.1 C.2.1 dX13_names_77 (lv_at hl 0 rfl) ?_
            obtain ⟨v_3, hv_3, h⟩ := bnd h
            refine x_iald C w obM24 hv_3 dX13_names_79 ?_
            obtain ⟨S_4, hS_4, h⟩ := bnd h
            refine x_callVv (q := (RX13, TX13, 68)) (As := [.int v_2, .int (0 : Int32), .int v_3]) (rest := []) C w (k_emitText l D T ρ g H.size S_1 hS_4) vM478 ⟨by decide, by decide⟩ obM (by decide) rfl rfl rfl hl.1 (Nat.le_of_ble_eq_true rfl) ⟨Nat.zero_le _, Nat.zero_le _⟩ dX13_names_80 (fun H locs w => ?_)
            exact w_names_83 C hr hk w (lv_sub hl [1, 2, 3, 0] rfl) h
        · replace h := iff0 hc h
          obtain rfl := som h
          exact x_vret C w hr hk dX13_names_63
      · replace h := ift hc h
        refine lv_aload_n C.1 C.2.1 dX13_names_38 rfl (lv_at hl 0 rfl) ?_
        refine lv_iload_n C.1 C.2.1 dX13_names_39 rfl (lv_at hl 2 rfl) ?_
        refine lv_iload_n C.1 C.2.1 dX13_names_40 rfl (lv_at hl 3 rfl) ?_
        obtain ⟨S_5, hS_5, h⟩ := bnd h
        refine x_callVv (q := (RX13, TX13, 68)) (As := [.int x2, .int x3]) (rest := []) C w (k_joins l D T ρ g H.size S hS_5) vM555 ⟨by decide, by decide⟩ obM (by decide) rfl rfl rfl hl.1 (Nat.le_of_ble_eq_true rfl) ⟨Nat.zero_le _, Nat.zero_le _⟩ dX13_names_41 (fun H locs w => ?_)
        refine lv_goto (tgt := 106) C.1 C.2.1 dX13_names_44 (by decide) ?_
        obtain rfl := som h
        exact x_vret C w hr hk dX13_names_106
    · replace h := ift hc h
      refine lv_aload_n C.1 C.2.1 dX13_names_24 rfl (lv_at hl 0 rfl) ?_
      refine lv_iload_n C.1 C.2.1 dX13_names_25 rfl (lv_at hl 2 rfl) ?_
      refine lv_iconst (v := (-1)) C.1 C.2.1 dX13_names_26 (by decide) ?_
      obtain ⟨S_6, hS_6, h⟩ := bnd h
      refine x_callVv (q := (RX13, TX13, 68)) (As := [.int x2, .int (-1 : Int32)]) (rest := []) C w (k_givesText l D T ρ g H.size S hS_6) vM552 ⟨by decide, by decide⟩ obM (by decide) rfl rfl rfl hl.1 (Nat.le_of_ble_eq_true rfl) ⟨Nat.zero_le _, Nat.zero_le _⟩ dX13_names_27 (fun H locs w => ?_)
      refine lv_goto (tgt := 106) C.1 C.2.1 dX13_names_30 (by decide) ?_
      obtain rfl := som h
      exact x_vret C w hr hk dX13_names_106
  · replace h := ift hc h
    refine lv_aload_n C.1 C.2.1 dX13_names_4 rfl (lv_at hl 0 rfl) ?_
    refine lv_iload_n C.1 C.2.1 dX13_names_5 rfl (lv_at hl 2 rfl) ?_
    refine lv_aload_n C.1 C.2.1 dX13_names_6 rfl (lv_at hl 0 rfl) ?_
    refine lv_iload_n C.1 C.2.1 dX13_names_7 rfl (lv_at hl 2 rfl) ?_
    refine lv_iconst (v := 1) C.1 C.2.1 dX13_names_8 (by decide) ?_
    refine lv_iadd C.1 C.2.1 dX13_names_9 ?_
    obtain ⟨v_7, hv_7, h⟩ := bnd h
    refine x_callVi (q := (RX13, TX13, 68)) (As := [.int (x2 + (1 : Int32))]) (rest := [.int x2, .ref (ρ 0)]) C w (k_text l D T ρ g H.size S hv_7) vM463 ⟨by decide, by decide⟩ obM (by decide) rfl rfl rfl hl.1 (Nat.le_of_ble_eq_true rfl) ⟨Nat.zero_le _, Nat.zero_le _⟩ dX13_names_10 (fun H locs w => ?_)
    obtain ⟨S_8, hS_8, h⟩ := bnd h
    refine x_callVv (q := (RX13, TX13, 68)) (As := [.int x2, .int v_7]) (rest := []) C w (k_givesText l D T ρ g H.size S hS_8) vM552 ⟨by decide, by decide⟩ obM (by decide) rfl rfl rfl hl.1 (Nat.le_of_ble_eq_true rfl) ⟨Nat.zero_le _, Nat.zero_le _⟩ dX13_names_13 (fun H locs w => ?_)
    refine lv_goto (tgt := 106) C.1 C.2.1 dX13_names_16 (by decide) ?_
    obtain rfl := som h
    exact x_vret C w hr hk dX13_names_106
end S_names
set_option maxRecDepth 100000 in
theorem k_names (l : Launch) (D : va_G) (T : Cy) (ρ : Nat → Nat) (g sz : Nat) (S : St) {x1 : Int32} {x2 : Int32} {x3 : Int32} {S' : St} (h : m_names g S x1 x2 x3 = some S') : Mv l Ym D T ρ yX13_names cX13_names 5 none 5 115 S S' [.ref (ρ 0), .int x1, .int x2, .int x3] sz :=
  x_in (by decide) (Nat.le_of_ble_eq_true rfl) (fun p e s m below meth c ls C hr hk w hl => w_names_0 C hr hk w hl h)

theorem dX13_isTrue_0 : decode cX13_isTrue 0 = .ok (.aload_n 0, 1) := by decide +kernel
theorem dX13_isTrue_1 : decode cX13_isTrue 1 = .ok (.iconst 0, 1) := by decide +kernel
theorem dX13_isTrue_2 : decode cX13_isTrue 2 = .ok (.putfield 395, 3) := by decide +kernel
theorem dX13_isTrue_5 : decode cX13_isTrue 5 = .ok (.aload_n 0, 1) := by decide +kernel
theorem dX13_isTrue_6 : decode cX13_isTrue 6 = .ok (.iconst 1, 1) := by decide +kernel
theorem dX13_isTrue_7 : decode cX13_isTrue 7 = .ok (.invokevirtual 489, 3) := by decide +kernel
theorem dX13_isTrue_10 : decode cX13_isTrue 10 = .ok (.aload_n 0, 1) := by decide +kernel
theorem dX13_isTrue_11 : decode cX13_isTrue 11 = .ok (.getfield 193, 3) := by decide +kernel
theorem dX13_isTrue_14 : decode cX13_isTrue 14 = .ok (.iload_n 1, 1) := by decide +kernel
theorem dX13_isTrue_15 : decode cX13_isTrue 15 = .ok (.iaload, 1) := by decide +kernel
theorem dX13_isTrue_16 : decode cX13_isTrue 16 = .ok (.iconst 4, 1) := by decide +kernel
theorem dX13_isTrue_17 : decode cX13_isTrue 17 = .ok (.if_icmp .ne 7, 3) := by decide +kernel
theorem dX13_isTrue_20 : decode cX13_isTrue 20 = .ok (.iconst 1, 1) := by decide +kernel
theorem dX13_isTrue_21 : decode cX13_isTrue 21 = .ok (.goto 4, 3) := by decide +kernel
theorem dX13_isTrue_24 : decode cX13_isTrue 24 = .ok (.iconst 0, 1) := by decide +kernel
theorem dX13_isTrue_25 : decode cX13_isTrue 25 = .ok (.istore_n 2, 1) := by decide +kernel
theorem dX13_isTrue_26 : decode cX13_isTrue 26 = .ok (.iconst 0, 1) := by decide +kernel
theorem dX13_isTrue_27 : decode cX13_isTrue 27 = .ok (.istore_n 3, 1) := by decide +kernel
theorem dX13_isTrue_28 : decode cX13_isTrue 28 = .ok (.iload_n 2, 1) := by decide +kernel
theorem dX13_isTrue_29 : decode cX13_isTrue 29 = .ok (.ifCond .eq 30, 3) := by decide +kernel
theorem dX13_isTrue_32 : decode cX13_isTrue 32 = .ok (.iload_n 3, 1) := by decide +kernel
theorem dX13_isTrue_33 : decode cX13_isTrue 33 = .ok (.iconst 4, 1) := by decide +kernel
theorem dX13_isTrue_34 : decode cX13_isTrue 34 = .ok (.if_icmp .ge 25, 3) := by decide +kernel
theorem dX13_isTrue_37 : decode cX13_isTrue 37 = .ok (.aload_n 0, 1) := by decide +kernel
theorem dX13_isTrue_38 : decode cX13_isTrue 38 = .ok (.iload_n 1, 1) := by decide +kernel
theorem dX13_isTrue_39 : decode cX13_isTrue 39 = .ok (.iload_n 3, 1) := by decide +kernel
theorem dX13_isTrue_40 : decode cX13_isTrue 40 = .ok (.invokevirtual 470, 3) := by decide +kernel
theorem dX13_isTrue_43 : decode cX13_isTrue 43 = .ok (.aload_n 0, 1) := by decide +kernel
theorem dX13_isTrue_44 : decode cX13_isTrue 44 = .ok (.getfield 223, 3) := by decide +kernel
theorem dX13_isTrue_47 : decode cX13_isTrue 47 = .ok (.iload_n 3, 1) := by decide +kernel
theorem dX13_isTrue_48 : decode cX13_isTrue 48 = .ok (.iaload, 1) := by decide +kernel
theorem dX13_isTrue_49 : decode cX13_isTrue 49 = .ok (.invokestatic 504, 3) := by decide +kernel
theorem dX13_isTrue_52 : decode cX13_isTrue 52 = .ok (.istore_n 2, 1) := by decide +kernel
theorem dX13_isTrue_53 : decode cX13_isTrue 53 = .ok (.iinc 3 1, 3) := by decide +kernel
theorem dX13_isTrue_56 : decode cX13_isTrue 56 = .ok (.goto (-28), 3) := by decide +kernel
theorem dX13_isTrue_59 : decode cX13_isTrue 59 = .ok (.iload_n 2, 1) := by decide +kernel
theorem dX13_isTrue_60 : decode cX13_isTrue 60 = .ok (.ireturn, 1) := by decide +kernel
def b_isTrue_28 (g : Nat) (k28 : St → Int32 → Int32 → Int32 → Option (St × Int32)) (S : St) (x1 : Int32) (x2 : Int32) (x3 : Int32) : Option (St × Int32) :=
if x2 = 0 then (
  if x2 = 0 ∨ x2 = 1 then some (S, x2) else none
) else (
  if (4 : Int32) ≤ x3 then (
    if x2 = 0 ∨ x2 = 1 then some (S, x2) else none
  ) else (
    (m_unitAt g S x1 x3).bind fun v_6 =>
    (aI S 34 x3).bind fun v_7 =>
    (m_alikeUnits g v_6 v_7).bind fun v_8 =>
    lt (x3 + (1 : Int32)) fun x3_9 =>
    k28 S x1 v_8 x3_9
  )
)
def m_isTrue_28 (g : Nat) : Nat → St → Int32 → Int32 → Int32 → Option (St × Int32)
  | 0, _, _, _, _ => none
  | n + 1, S, x1, x2, x3 => b_isTrue_28 g (m_isTrue_28 g n) S x1 x2 x3
def m_isTrue (g : Nat) (S : St) (x1 : Int32) : Option (St × Int32) :=
lt (sI S 0 57 (0 : Int32)) fun S_1 =>
(m_emitTruth g S_1 (1 : Int32)).bind fun S_2 =>
(aI S_2 24 x1).bind fun v_3 =>
if v_3 = (4 : Int32) then (
  m_isTrue_28 g g S_2 x1 (1 : Int32) (0 : Int32)
) else (
  m_isTrue_28 g g S_2 x1 (0 : Int32) (0 : Int32)
)
section S_isTrue
variable {p : Program} {l : Launch} {e : Env} {s : State} {m : MethodId} {args : Array Value} {below : List Frame} {meth : Method} {c : Code} {H : Heap} {locs : List Loc} {ls : Array Slot} {D : va_G} {T : Cy} {ρ : Nat → Nat} {A : Nat → Prop}
set_option maxRecDepth 100000 in
set_option maxHeartbeats 4000000 in
theorem wb_isTrue_28  {g : Nat} {S : St} {x1 : Int32} {x2 : Int32} {x3 : Int32} (C : CallFix p m c cX13_isTrue 4 s args tb RX13) (hr : meth.sig.returnType = (some .boolean)) (hk : meth.locks = false) {S' : St} {r : Int32} {k28 : St → Int32 → Int32 → Int32 → Option (St × Int32)} (kk28 : ∀ (S : St) (x1 : Int32) (x2 : Int32) (x3 : Int32) (H : Heap) (locs : List Loc) (ls : Array Slot), Wn Ym D T ρ S A s H locs → lv_has ls 4 [(0, .ref (ρ 0)), (1, .int x1), (2, .int x2), (3, .int x3)] → k28 S x1 x2 x3 = some (S', r) → W p l e (rmN 3 65) s m args below meth c H locs 0 0 (MQ below (Qi Ym D T ρ A S' r) args s 0 0 A) (F0 m 28 ls [])) (w : Wn Ym D T ρ S A s H locs) (hl : lv_has ls 4 [(0, .ref (ρ 0)), (1, .int x1), (2, .int x2), (3, .int x3)]) (h : b_isTrue_28 g k28 S x1 x2 x3 = some (S', r)) : W p l e (rmN 3 65) s m args below meth c H locs 0 0 (MQ below (Qi Ym D T ρ A S' r) args s 0 0 A) (F0 m 28 ls []) := by
  unfold b_isTrue_28 at h
  refine lv_iload_n C.1 C.2.1 dX13_isTrue_28 rfl (lv_at hl 2 rfl) ?_
  refine lv_if_eq (tgt := 59) C.1 C.2.1 dX13_isTrue_29 (by decide) (fun hc => ?_) (fun hc => ?_)
  · replace h := ift hc h
    refine lv_iload_n C.1 C.2.1 dX13_isTrue_59 rfl (lv_at hl 2 rfl) ?_
    by_cases hz_4 : x2 = 0 ∨ x2 = 1
    case neg => exact absurd (iff0 hz_4 h) (fun q => by cases q)
    replace h := ift hz_4 h
    obtain ⟨rfl, rfl⟩ := prI h
    exact x_zret C w hr hk hz_4 dX13_isTrue_60
  · replace h := iff0 hc h
    refine lv_iload_n C.1 C.2.1 dX13_isTrue_32 rfl (lv_at hl 3 rfl) ?_
    refine lv_iconst (v := 4) C.1 C.2.1 dX13_isTrue_33 (by decide) ?_
    refine lv_icmp_ge (tgt := 59) C.1 C.2.1 dX13_isTrue_34 (by decide) (fun hc => ?_) (fun hc => ?_)
    · replace h := ift hc h
      refine lv_iload_n C.1 C.2.1 dX13_isTrue_59 rfl (lv_at hl 2 rfl) ?_
      by_cases hz_5 : x2 = 0 ∨ x2 = 1
      case neg => exact absurd (iff0 hz_5 h) (fun q => by cases q)
      replace h := ift hz_5 h
      obtain ⟨rfl, rfl⟩ := prI h
      exact x_zret C w hr hk hz_5 dX13_isTrue_60
    · replace h := iff0 hc h
      refine lv_aload_n C.1 C.2.1 dX13_isTrue_37 rfl (lv_at hl 0 rfl) ?_
      refine lv_iload_n C.1 C.2.1 dX13_isTrue_38 rfl (lv_at hl 1 rfl) ?_
      refine lv_iload_n C.1 C.2.1 dX13_isTrue_39 rfl (lv_at hl 3 rfl) ?_
      obtain ⟨v_6, hv_6, h⟩ := bnd h
      refine x_callVi (q := (RX13, TX13, 68)) (As := [.int x1, .int x3]) (rest := []) C w (k_unitAt l D T ρ g H.size S hv_6) vM470 ⟨by decide, by decide⟩ obM (by decide) rfl rfl rfl hl.1 (Nat.le_of_ble_eq_true rfl) ⟨Nat.zero_le _, Nat.zero_le _⟩ dX13_isTrue_40 (fun H locs w => ?_)
      refine lv_aload_n C.1 C.2.1 dX13_isTrue_43 rfl (lv_at hl 0 rfl) ?_
      refine x_getC C w 34 fM223 obM rfl dX13_isTrue_44 ?_
      refine lv_iload_n C.1 C.2.1 dX13_isTrue_47 rfl (lv_at hl 3 rfl) ?_
      obtain ⟨v_7, hv_7, h⟩ := bnd h
      refine x_iald C w obM34 hv_7 dX13_isTrue_48 ?_
      obtain ⟨v_8, hv_8, h⟩ := bnd h
      refine x_callSi (As := [.int v_6, .int v_7]) (rest := []) C w (k_alikeUnits l D T ρ g H.size S hv_8) vM504 ⟨by decide, by decide⟩ rfl rfl hl.1 (Nat.le_of_ble_eq_true rfl) ⟨Nat.zero_le _, Nat.zero_le _⟩ dX13_isTrue_49 (fun H locs w => ?_)
      refine lv_istore_n (lv' := [(2, .int v_8), (0, .ref (ρ 0)), (1, .int x1), (3, .int x3)]) C.1 C.2.1 dX13_isTrue_52 rfl hl (by decide) rfl (fun ls hl => ?_)
      obtain ⟨x3_9, ex3_9, h⟩ := lt_e h
      refine lv_iinc (v := x3_9) (lv' := [(3, .int x3_9), (2, .int v_8), (0, .ref (ρ 0)), (1, .int x1)]) C.1 C.2.1 dX13_isTrue_53 hl (k := 3) rfl (by rw [ex3_9]; rfl) (by decide) rfl (fun ls hl => ?_)
      refine lv_goto (tgt := 28) C.1 C.2.1 dX13_isTrue_56 (by decide) ?_
      exact kk28 _ _ _ _ _ _ _ w (lv_sub hl [2, 3, 1, 0] rfl) h
theorem w_isTrue_28 {g : Nat} (C : CallFix p m c cX13_isTrue 4 s args tb RX13) (hr : meth.sig.returnType = (some .boolean)) (hk : meth.locks = false) {S' : St} {r : Int32} (n : Nat) : ∀ (S : St) (x1 : Int32) (x2 : Int32) (x3 : Int32) (H : Heap) (locs : List Loc) (ls : Array Slot), Wn Ym D T ρ S A s H locs → lv_has ls 4 [(0, .ref (ρ 0)), (1, .int x1), (2, .int x2), (3, .int x3)] → m_isTrue_28 g n S x1 x2 x3 = some (S', r) → W p l e (rmN 3 65) s m args below meth c H locs 0 0 (MQ below (Qi Ym D T ρ A S' r) args s 0 0 A) (F0 m 28 ls []) := by
  induction n with
  | zero => intro S x1 x2 x3 H locs ls w hl h; exact absurd h (fun q => by cases q)
  | succ n ih => intro S x1 x2 x3 H locs ls w hl h; exact wb_isTrue_28 C hr hk ih w hl h
set_option maxRecDepth 100000 in
set_option maxHeartbeats 4000000 in
theorem w_isTrue_0  {g : Nat} {S : St} {x1 : Int32} (C : CallFix p m c cX13_isTrue 4 s args tb RX13) (hr : meth.sig.returnType = (some .boolean)) (hk : meth.locks = false) {S' : St} {r : Int32} (w : Wn Ym D T ρ S A s H locs) (hl : lv_has ls 4 [(0, .ref (ρ 0)), (1, .int x1)]) (h : m_isTrue g S x1 = some (S', r)) : W p l e (rmN 3 65) s m args below meth c H locs 0 0 (MQ below (Qi Ym D T ρ A S' r) args s 0 0 A) (F0 m 0 ls []) := by
  unfold m_isTrue at h
  refine lv_aload_n C.1 C.2.1 dX13_isTrue_0 rfl (lv_at hl 0 rfl) ?_
  refine lv_iconst (v := 0) C.1 C.2.1 dX13_isTrue_1 (by decide) ?_
  obtain ⟨S_1, eS_1, h⟩ := lt_e h
  refine y_putI C w eS_1 fM395 pM57 obM dX13_isTrue_2 (fun H locs w => ?_)
  refine lv_aload_n C.1 C.2.1 dX13_isTrue_5 rfl (lv_at hl 0 rfl) ?_
  refine lv_iconst (v := 1) C.1 C.2.1 dX13_isTrue_6 (by decide) ?_
  obtain ⟨S_2, hS_2, h⟩ := bnd h
  refine x_callVv (q := (RX13, TX13, 68)) (As := [.int (1 : Int32)]) (rest := []) C w (k_emitTruth l D T ρ g H.size S_1 hS_2) vM489 ⟨by decide, by decide⟩ obM (by decide) rfl rfl rfl hl.1 (Nat.le_of_ble_eq_true rfl) ⟨Nat.zero_le _, Nat.zero_le _⟩ dX13_isTrue_7 (fun H locs w => ?_)
  refine lv_aload_n C.1 C.2.1 dX13_isTrue_10 rfl (lv_at hl 0 rfl) ?_
  refine x_getC C w 24 fM193 obM rfl dX13_isTrue_11 ?_
  refine lv_iload_n C.1 C.2.1 dX13_isTrue_14 rfl (lv_at hl 1 rfl) ?_
  obtain ⟨v_3, hv_3, h⟩ := bnd h
  refine x_iald C w obM24 hv_3 dX13_isTrue_15 ?_
  refine lv_iconst (v := 4) C.1 C.2.1 dX13_isTrue_16 (by decide) ?_
  refine lv_icmp_ne (tgt := 24) C.1 C.2.1 dX13_isTrue_17 (by decide) (fun hc => ?_) (fun hc => ?_)
  · replace h := iff0 hc h
    refine lv_iconst (v := 0) C.1 C.2.1 dX13_isTrue_24 (by decide) ?_
    refine lv_istore_n (lv' := [(2, .int (0 : Int32)), (0, .ref (ρ 0)), (1, .int x1)]) C.1 C.2.1 dX13_isTrue_25 rfl hl (by decide) rfl (fun ls hl => ?_)
    refine lv_iconst (v := 0) C.1 C.2.1 dX13_isTrue_26 (by decide) ?_
    refine lv_istore_n (lv' := [(3, .int (0 : Int32)), (2, .int (0 : Int32)), (0, .ref (ρ 0)), (1, .int x1)]) C.1 C.2.1 dX13_isTrue_27 rfl hl (by decide) rfl (fun ls hl => ?_)
    exact w_isTrue_28 C hr hk g _ _ _ _ _ _ _ w (lv_sub hl [2, 3, 1, 0] rfl) h
  · replace h := ift hc h
    refine lv_iconst (v := 1) C.1 C.2.1 dX13_isTrue_20 (by decide) ?_
    refine lv_goto (tgt := 25) C.1 C.2.1 dX13_isTrue_21 (by decide) ?_
    refine lv_istore_n (lv' := [(2, .int (1 : Int32)), (0, .ref (ρ 0)), (1, .int x1)]) C.1 C.2.1 dX13_isTrue_25 rfl hl (by decide) rfl (fun ls hl => ?_)
    refine lv_iconst (v := 0) C.1 C.2.1 dX13_isTrue_26 (by decide) ?_
    refine lv_istore_n (lv' := [(3, .int (0 : Int32)), (2, .int (1 : Int32)), (0, .ref (ρ 0)), (1, .int x1)]) C.1 C.2.1 dX13_isTrue_27 rfl hl (by decide) rfl (fun ls hl => ?_)
    exact w_isTrue_28 C hr hk g _ _ _ _ _ _ _ w (lv_sub hl [2, 3, 1, 0] rfl) h
end S_isTrue
set_option maxRecDepth 100000 in
theorem k_isTrue (l : Launch) (D : va_G) (T : Cy) (ρ : Nat → Nat) (g sz : Nat) (S : St) {x1 : Int32} {S' : St} {r : Int32} (h : m_isTrue g S x1 = some (S', r)) : Mi l Ym D T ρ yX13_isTrue cX13_isTrue 4 (some .boolean) 3 65 S S' r [.ref (ρ 0), .int x1] sz :=
  x_in (by decide) (Nat.le_of_ble_eq_true rfl) (fun p e s m below meth c ls C hr hk w hl => w_isTrue_0 C hr hk w hl h)

theorem dX13_digitOf_0 : decode cX13_digitOf 0 = .ok (.iload_n 0, 1) := by decide +kernel
theorem dX13_digitOf_1 : decode cX13_digitOf 1 = .ok (.bipush 48, 2) := by decide +kernel
theorem dX13_digitOf_3 : decode cX13_digitOf 3 = .ok (.if_icmp .lt 14, 3) := by decide +kernel
theorem dX13_digitOf_6 : decode cX13_digitOf 6 = .ok (.iload_n 0, 1) := by decide +kernel
theorem dX13_digitOf_7 : decode cX13_digitOf 7 = .ok (.bipush 57, 2) := by decide +kernel
theorem dX13_digitOf_9 : decode cX13_digitOf 9 = .ok (.if_icmp .gt 8, 3) := by decide +kernel
theorem dX13_digitOf_12 : decode cX13_digitOf 12 = .ok (.iload_n 0, 1) := by decide +kernel
theorem dX13_digitOf_13 : decode cX13_digitOf 13 = .ok (.bipush 48, 2) := by decide +kernel
theorem dX13_digitOf_15 : decode cX13_digitOf 15 = .ok (.isub, 1) := by decide +kernel
theorem dX13_digitOf_16 : decode cX13_digitOf 16 = .ok (.ireturn, 1) := by decide +kernel
theorem dX13_digitOf_17 : decode cX13_digitOf 17 = .ok (.iload_n 0, 1) := by decide +kernel
theorem dX13_digitOf_18 : decode cX13_digitOf 18 = .ok (.bipush 97, 2) := by decide +kernel
theorem dX13_digitOf_20 : decode cX13_digitOf 20 = .ok (.if_icmp .lt 17, 3) := by decide +kernel
theorem dX13_digitOf_23 : decode cX13_digitOf 23 = .ok (.iload_n 0, 1) := by decide +kernel
theorem dX13_digitOf_24 : decode cX13_digitOf 24 = .ok (.bipush 122, 2) := by decide +kernel
theorem dX13_digitOf_26 : decode cX13_digitOf 26 = .ok (.if_icmp .gt 11, 3) := by decide +kernel
theorem dX13_digitOf_29 : decode cX13_digitOf 29 = .ok (.iload_n 0, 1) := by decide +kernel
theorem dX13_digitOf_30 : decode cX13_digitOf 30 = .ok (.bipush 97, 2) := by decide +kernel
theorem dX13_digitOf_32 : decode cX13_digitOf 32 = .ok (.isub, 1) := by decide +kernel
theorem dX13_digitOf_33 : decode cX13_digitOf 33 = .ok (.bipush 10, 2) := by decide +kernel
theorem dX13_digitOf_35 : decode cX13_digitOf 35 = .ok (.iadd, 1) := by decide +kernel
theorem dX13_digitOf_36 : decode cX13_digitOf 36 = .ok (.ireturn, 1) := by decide +kernel
theorem dX13_digitOf_37 : decode cX13_digitOf 37 = .ok (.iload_n 0, 1) := by decide +kernel
theorem dX13_digitOf_38 : decode cX13_digitOf 38 = .ok (.bipush 65, 2) := by decide +kernel
theorem dX13_digitOf_40 : decode cX13_digitOf 40 = .ok (.if_icmp .lt 19, 3) := by decide +kernel
theorem dX13_digitOf_43 : decode cX13_digitOf 43 = .ok (.iload_n 0, 1) := by decide +kernel
theorem dX13_digitOf_44 : decode cX13_digitOf 44 = .ok (.bipush 90, 2) := by decide +kernel
theorem dX13_digitOf_46 : decode cX13_digitOf 46 = .ok (.if_icmp .gt 13, 3) := by decide +kernel
theorem dX13_digitOf_49 : decode cX13_digitOf 49 = .ok (.iload_n 0, 1) := by decide +kernel
theorem dX13_digitOf_50 : decode cX13_digitOf 50 = .ok (.bipush 65, 2) := by decide +kernel
theorem dX13_digitOf_52 : decode cX13_digitOf 52 = .ok (.isub, 1) := by decide +kernel
theorem dX13_digitOf_53 : decode cX13_digitOf 53 = .ok (.bipush 10, 2) := by decide +kernel
theorem dX13_digitOf_55 : decode cX13_digitOf 55 = .ok (.iadd, 1) := by decide +kernel
theorem dX13_digitOf_56 : decode cX13_digitOf 56 = .ok (.goto 5, 3) := by decide +kernel
theorem dX13_digitOf_59 : decode cX13_digitOf 59 = .ok (.bipush 99, 2) := by decide +kernel
theorem dX13_digitOf_61 : decode cX13_digitOf 61 = .ok (.ireturn, 1) := by decide +kernel
def m_digitOf_37 (g : Nat) (x0 : Int32) : Option Int32 :=
if x0 < (65 : Int32) then (
  some (99 : Int32)
) else (
  if (90 : Int32) < x0 then (
    some (99 : Int32)
  ) else (
    some ((x0 - (65 : Int32)) + (10 : Int32))
  )
)
def m_digitOf_17 (g : Nat) (x0 : Int32) : Option Int32 :=
if x0 < (97 : Int32) then (
  m_digitOf_37 g x0
) else (
  if (122 : Int32) < x0 then (
    m_digitOf_37 g x0
  ) else (
    some ((x0 - (97 : Int32)) + (10 : Int32))
  )
)
def m_digitOf (g : Nat) (x0 : Int32) : Option Int32 :=
if x0 < (48 : Int32) then (
  m_digitOf_17 g x0
) else (
  if (57 : Int32) < x0 then (
    m_digitOf_17 g x0
  ) else (
    some (x0 - (48 : Int32))
  )
)
section S_digitOf
variable {p : Program} {l : Launch} {e : Env} {s : State} {m : MethodId} {args : Array Value} {below : List Frame} {meth : Method} {c : Code} {H : Heap} {locs : List Loc} {ls : Array Slot} {D : va_G} {T : Cy} {ρ : Nat → Nat} {A : Nat → Prop}
set_option maxRecDepth 100000 in
set_option maxHeartbeats 4000000 in
theorem w_digitOf_37  {g : Nat} {S : St} {x0 : Int32} (C : CallFix p m c cX13_digitOf 1 s args tb RX13) (hr : meth.sig.returnType = (some .int)) (hk : meth.locks = false) {r : Int32} (w : Wn Ym D T ρ S A s H locs) (hl : lv_has ls 1 [(0, .int x0)]) (h : m_digitOf_37 g x0 = some r) : W p l e (rmN 0 0) s m args below meth c H locs 0 0 (MQ below (Qi Ym D T ρ A S r) args s 0 0 A) (F0 m 37 ls []) := by
  unfold m_digitOf_37 at h
  refine lv_iload_n C.1 C.2.1 dX13_digitOf_37 rfl (lv_at hl 0 rfl) ?_
  refine lv_bipush (v := 65) C.1 C.2.1 dX13_digitOf_38 (by decide) ?_
  refine lv_icmp_lt (tgt := 59) C.1 C.2.1 dX13_digitOf_40 (by decide) (fun hc => ?_) (fun hc => ?_)
  · replace h := ift hc h
    refine lv_bipush (v := 99) C.1 C.2.1 dX13_digitOf_59 (by decide) ?_
    obtain rfl := som h
    exact x_iret C w hr hk dX13_digitOf_61
  · replace h := iff0 hc h
    refine lv_iload_n C.1 C.2.1 dX13_digitOf_43 rfl (lv_at hl 0 rfl) ?_
    refine lv_bipush (v := 90) C.1 C.2.1 dX13_digitOf_44 (by decide) ?_
    refine lv_icmp_gt (tgt := 59) C.1 C.2.1 dX13_digitOf_46 (by decide) (fun hc => ?_) (fun hc => ?_)
    · replace h := ift hc h
      refine lv_bipush (v := 99) C.1 C.2.1 dX13_digitOf_59 (by decide) ?_
      obtain rfl := som h
      exact x_iret C w hr hk dX13_digitOf_61
    · replace h := iff0 hc h
      refine lv_iload_n C.1 C.2.1 dX13_digitOf_49 rfl (lv_at hl 0 rfl) ?_
      refine lv_bipush (v := 65) C.1 C.2.1 dX13_digitOf_50 (by decide) ?_
      refine lv_isub C.1 C.2.1 dX13_digitOf_52 ?_
      refine lv_bipush (v := 10) C.1 C.2.1 dX13_digitOf_53 (by decide) ?_
      refine lv_iadd C.1 C.2.1 dX13_digitOf_55 ?_
      refine lv_goto (tgt := 61) C.1 C.2.1 dX13_digitOf_56 (by decide) ?_
      obtain rfl := som h
      exact x_iret C w hr hk dX13_digitOf_61
set_option maxRecDepth 100000 in
set_option maxHeartbeats 4000000 in
theorem w_digitOf_17  {g : Nat} {S : St} {x0 : Int32} (C : CallFix p m c cX13_digitOf 1 s args tb RX13) (hr : meth.sig.returnType = (some .int)) (hk : meth.locks = false) {r : Int32} (w : Wn Ym D T ρ S A s H locs) (hl : lv_has ls 1 [(0, .int x0)]) (h : m_digitOf_17 g x0 = some r) : W p l e (rmN 0 0) s m args below meth c H locs 0 0 (MQ below (Qi Ym D T ρ A S r) args s 0 0 A) (F0 m 17 ls []) := by
  unfold m_digitOf_17 at h
  refine lv_iload_n C.1 C.2.1 dX13_digitOf_17 rfl (lv_at hl 0 rfl) ?_
  refine lv_bipush (v := 97) C.1 C.2.1 dX13_digitOf_18 (by decide) ?_
  refine lv_icmp_lt (tgt := 37) C.1 C.2.1 dX13_digitOf_20 (by decide) (fun hc => ?_) (fun hc => ?_)
  · replace h := ift hc h
    exact w_digitOf_37 C hr hk w (lv_sub hl [0] rfl) h
  · replace h := iff0 hc h
    refine lv_iload_n C.1 C.2.1 dX13_digitOf_23 rfl (lv_at hl 0 rfl) ?_
    refine lv_bipush (v := 122) C.1 C.2.1 dX13_digitOf_24 (by decide) ?_
    refine lv_icmp_gt (tgt := 37) C.1 C.2.1 dX13_digitOf_26 (by decide) (fun hc => ?_) (fun hc => ?_)
    · replace h := ift hc h
      exact w_digitOf_37 C hr hk w (lv_sub hl [0] rfl) h
    · replace h := iff0 hc h
      refine lv_iload_n C.1 C.2.1 dX13_digitOf_29 rfl (lv_at hl 0 rfl) ?_
      refine lv_bipush (v := 97) C.1 C.2.1 dX13_digitOf_30 (by decide) ?_
      refine lv_isub C.1 C.2.1 dX13_digitOf_32 ?_
      refine lv_bipush (v := 10) C.1 C.2.1 dX13_digitOf_33 (by decide) ?_
      refine lv_iadd C.1 C.2.1 dX13_digitOf_35 ?_
      obtain rfl := som h
      exact x_iret C w hr hk dX13_digitOf_36
set_option maxRecDepth 100000 in
set_option maxHeartbeats 4000000 in
theorem w_digitOf_0  {g : Nat} {S : St} {x0 : Int32} (C : CallFix p m c cX13_digitOf 1 s args tb RX13) (hr : meth.sig.returnType = (some .int)) (hk : meth.locks = false) {r : Int32} (w : Wn Ym D T ρ S A s H locs) (hl : lv_has ls 1 [(0, .int x0)]) (h : m_digitOf g x0 = some r) : W p l e (rmN 0 0) s m args below meth c H locs 0 0 (MQ below (Qi Ym D T ρ A S r) args s 0 0 A) (F0 m 0 ls []) := by
  unfold m_digitOf at h
  refine lv_iload_n C.1 C.2.1 dX13_digitOf_0 rfl (lv_at hl 0 rfl) ?_
  refine lv_bipush (v := 48) C.1 C.2.1 dX13_digitOf_1 (by decide) ?_
  refine lv_icmp_lt (tgt := 17) C.1 C.2.1 dX13_digitOf_3 (by decide) (fun hc => ?_) (fun hc => ?_)
  · replace h := ift hc h
    exact w_digitOf_17 C hr hk w (lv_sub hl [0] rfl) h
  · replace h := iff0 hc h
    refine lv_iload_n C.1 C.2.1 dX13_digitOf_6 rfl (lv_at hl 0 rfl) ?_
    refine lv_bipush (v := 57) C.1 C.2.1 dX13_digitOf_7 (by decide) ?_
    refine lv_icmp_gt (tgt := 17) C.1 C.2.1 dX13_digitOf_9 (by decide) (fun hc => ?_) (fun hc => ?_)
    · replace h := ift hc h
      exact w_digitOf_17 C hr hk w (lv_sub hl [0] rfl) h
    · replace h := iff0 hc h
      refine lv_iload_n C.1 C.2.1 dX13_digitOf_12 rfl (lv_at hl 0 rfl) ?_
      refine lv_bipush (v := 48) C.1 C.2.1 dX13_digitOf_13 (by decide) ?_
      refine lv_isub C.1 C.2.1 dX13_digitOf_15 ?_
      obtain rfl := som h
      exact x_iret C w hr hk dX13_digitOf_16
end S_digitOf
set_option maxRecDepth 100000 in
theorem k_digitOf (l : Launch) (D : va_G) (T : Cy) (ρ : Nat → Nat) (g sz : Nat) (S : St) {x0 : Int32} {r : Int32} (h : m_digitOf g x0 = some r) : Mi l Ym D T ρ yX13_digitOf cX13_digitOf 1 (some .int) 0 0 S S r [.int x0] sz :=
  x_in (by decide) (Nat.le_of_ble_eq_true rfl) (fun p e s m below meth c ls C hr hk w hl => w_digitOf_0 C hr hk w hl h)

theorem dX13_parses_0 : decode cX13_parses 0 = .ok (.aload_n 0, 1) := by decide +kernel
theorem dX13_parses_1 : decode cX13_parses 1 = .ok (.iload_n 2, 1) := by decide +kernel
theorem dX13_parses_2 : decode cX13_parses 2 = .ok (.iconst 1, 1) := by decide +kernel
theorem dX13_parses_3 : decode cX13_parses 3 = .ok (.iadd, 1) := by decide +kernel
theorem dX13_parses_4 : decode cX13_parses 4 = .ok (.invokevirtual 463, 3) := by decide +kernel
theorem dX13_parses_7 : decode cX13_parses 7 = .ok (.istore_n 3, 1) := by decide +kernel
theorem dX13_parses_8 : decode cX13_parses 8 = .ok (.aload_n 0, 1) := by decide +kernel
theorem dX13_parses_9 : decode cX13_parses 9 = .ok (.iload_n 2, 1) := by decide +kernel
theorem dX13_parses_10 : decode cX13_parses 10 = .ok (.iconst 2, 1) := by decide +kernel
theorem dX13_parses_11 : decode cX13_parses 11 = .ok (.iadd, 1) := by decide +kernel
theorem dX13_parses_12 : decode cX13_parses 12 = .ok (.invokevirtual 459, 3) := by decide +kernel
theorem dX13_parses_15 : decode cX13_parses 15 = .ok (.lstore 4, 2) := by decide +kernel
theorem dX13_parses_17 : decode cX13_parses 17 = .ok (.aload_n 0, 1) := by decide +kernel
theorem dX13_parses_18 : decode cX13_parses 18 = .ok (.iload_n 3, 1) := by decide +kernel
theorem dX13_parses_19 : decode cX13_parses 19 = .ok (.ifCond .lt 17, 3) := by decide +kernel
theorem dX13_parses_22 : decode cX13_parses 22 = .ok (.lload 4, 2) := by decide +kernel
theorem dX13_parses_24 : decode cX13_parses 24 = .ok (.ldc2_w 684, 3) := by decide +kernel
theorem dX13_parses_27 : decode cX13_parses 27 = .ok (.ldc2_w 686, 3) := by decide +kernel
theorem dX13_parses_30 : decode cX13_parses 30 = .ok (.invokestatic 318, 3) := by decide +kernel
theorem dX13_parses_33 : decode cX13_parses 33 = .ok (.ifCond .ne 7, 3) := by decide +kernel
theorem dX13_parses_36 : decode cX13_parses 36 = .ok (.iconst 1, 1) := by decide +kernel
theorem dX13_parses_37 : decode cX13_parses 37 = .ok (.goto 4, 3) := by decide +kernel
theorem dX13_parses_40 : decode cX13_parses 40 = .ok (.iconst 0, 1) := by decide +kernel
theorem dX13_parses_41 : decode cX13_parses 41 = .ok (.iconst 2, 1) := by decide +kernel
theorem dX13_parses_42 : decode cX13_parses 42 = .ok (.invokevirtual 466, 3) := by decide +kernel
theorem dX13_parses_45 : decode cX13_parses 45 = .ok (.aload_n 0, 1) := by decide +kernel
theorem dX13_parses_46 : decode cX13_parses 46 = .ok (.getfield 398, 3) := by decide +kernel
theorem dX13_parses_49 : decode cX13_parses 49 = .ok (.ifCond .eq 4, 3) := by decide +kernel
theorem dX13_parses_52 : decode cX13_parses 52 = .ok (.return_, 1) := by decide +kernel
theorem dX13_parses_53 : decode cX13_parses 53 = .ok (.aload_n 0, 1) := by decide +kernel
theorem dX13_parses_54 : decode cX13_parses 54 = .ok (.getfield 193, 3) := by decide +kernel
theorem dX13_parses_57 : decode cX13_parses 57 = .ok (.iload_n 3, 1) := by decide +kernel
theorem dX13_parses_58 : decode cX13_parses 58 = .ok (.iaload, 1) := by decide +kernel
theorem dX13_parses_59 : decode cX13_parses 59 = .ok (.istore 6, 2) := by decide +kernel
theorem dX13_parses_61 : decode cX13_parses 61 = .ok (.iload 6, 2) := by decide +kernel
theorem dX13_parses_63 : decode cX13_parses 63 = .ok (.ifCond .le 18, 3) := by decide +kernel
theorem dX13_parses_66 : decode cX13_parses 66 = .ok (.aload_n 0, 1) := by decide +kernel
theorem dX13_parses_67 : decode cX13_parses 67 = .ok (.iload_n 3, 1) := by decide +kernel
theorem dX13_parses_68 : decode cX13_parses 68 = .ok (.iconst 0, 1) := by decide +kernel
theorem dX13_parses_69 : decode cX13_parses 69 = .ok (.invokevirtual 470, 3) := by decide +kernel
theorem dX13_parses_72 : decode cX13_parses 72 = .ok (.bipush 45, 2) := by decide +kernel
theorem dX13_parses_74 : decode cX13_parses 74 = .ok (.if_icmp .ne 7, 3) := by decide +kernel
theorem dX13_parses_77 : decode cX13_parses 77 = .ok (.iconst 1, 1) := by decide +kernel
theorem dX13_parses_78 : decode cX13_parses 78 = .ok (.goto 4, 3) := by decide +kernel
theorem dX13_parses_81 : decode cX13_parses 81 = .ok (.iconst 0, 1) := by decide +kernel
theorem dX13_parses_82 : decode cX13_parses 82 = .ok (.istore 7, 2) := by decide +kernel
theorem dX13_parses_84 : decode cX13_parses 84 = .ok (.iload 7, 2) := by decide +kernel
theorem dX13_parses_86 : decode cX13_parses 86 = .ok (.ifCond .ne 19, 3) := by decide +kernel
theorem dX13_parses_89 : decode cX13_parses 89 = .ok (.iload 6, 2) := by decide +kernel
theorem dX13_parses_91 : decode cX13_parses 91 = .ok (.ifCond .le 18, 3) := by decide +kernel
theorem dX13_parses_94 : decode cX13_parses 94 = .ok (.aload_n 0, 1) := by decide +kernel
theorem dX13_parses_95 : decode cX13_parses 95 = .ok (.iload_n 3, 1) := by decide +kernel
theorem dX13_parses_96 : decode cX13_parses 96 = .ok (.iconst 0, 1) := by decide +kernel
theorem dX13_parses_97 : decode cX13_parses 97 = .ok (.invokevirtual 470, 3) := by decide +kernel
theorem dX13_parses_100 : decode cX13_parses 100 = .ok (.bipush 43, 2) := by decide +kernel
theorem dX13_parses_102 : decode cX13_parses 102 = .ok (.if_icmp .ne 7, 3) := by decide +kernel
theorem dX13_parses_105 : decode cX13_parses 105 = .ok (.iconst 1, 1) := by decide +kernel
theorem dX13_parses_106 : decode cX13_parses 106 = .ok (.goto 4, 3) := by decide +kernel
theorem dX13_parses_109 : decode cX13_parses 109 = .ok (.iconst 0, 1) := by decide +kernel
theorem dX13_parses_110 : decode cX13_parses 110 = .ok (.istore 8, 2) := by decide +kernel
theorem dX13_parses_112 : decode cX13_parses 112 = .ok (.aload_n 0, 1) := by decide +kernel
theorem dX13_parses_113 : decode cX13_parses 113 = .ok (.iload 8, 2) := by decide +kernel
theorem dX13_parses_115 : decode cX13_parses 115 = .ok (.iload 6, 2) := by decide +kernel
theorem dX13_parses_117 : decode cX13_parses 117 = .ok (.if_icmp .ne 7, 3) := by decide +kernel
theorem dX13_parses_120 : decode cX13_parses 120 = .ok (.iconst 1, 1) := by decide +kernel
theorem dX13_parses_121 : decode cX13_parses 121 = .ok (.goto 4, 3) := by decide +kernel
theorem dX13_parses_124 : decode cX13_parses 124 = .ok (.iconst 0, 1) := by decide +kernel
theorem dX13_parses_125 : decode cX13_parses 125 = .ok (.iconst 2, 1) := by decide +kernel
theorem dX13_parses_126 : decode cX13_parses 126 = .ok (.invokevirtual 466, 3) := by decide +kernel
theorem dX13_parses_129 : decode cX13_parses 129 = .ok (.lconst 0, 1) := by decide +kernel
theorem dX13_parses_130 : decode cX13_parses 130 = .ok (.lstore 9, 2) := by decide +kernel
theorem dX13_parses_132 : decode cX13_parses 132 = .ok (.iload 8, 2) := by decide +kernel
theorem dX13_parses_134 : decode cX13_parses 134 = .ok (.iload 6, 2) := by decide +kernel
theorem dX13_parses_136 : decode cX13_parses 136 = .ok (.if_icmp .ge 74, 3) := by decide +kernel
theorem dX13_parses_139 : decode cX13_parses 139 = .ok (.aload_n 0, 1) := by decide +kernel
theorem dX13_parses_140 : decode cX13_parses 140 = .ok (.getfield 398, 3) := by decide +kernel
theorem dX13_parses_143 : decode cX13_parses 143 = .ok (.ifCond .ne 67, 3) := by decide +kernel
theorem dX13_parses_146 : decode cX13_parses 146 = .ok (.aload_n 0, 1) := by decide +kernel
theorem dX13_parses_147 : decode cX13_parses 147 = .ok (.iload_n 3, 1) := by decide +kernel
theorem dX13_parses_148 : decode cX13_parses 148 = .ok (.iload 8, 2) := by decide +kernel
theorem dX13_parses_150 : decode cX13_parses 150 = .ok (.invokevirtual 470, 3) := by decide +kernel
theorem dX13_parses_153 : decode cX13_parses 153 = .ok (.invokestatic 694, 3) := by decide +kernel
theorem dX13_parses_156 : decode cX13_parses 156 = .ok (.istore 11, 2) := by decide +kernel
theorem dX13_parses_158 : decode cX13_parses 158 = .ok (.aload_n 0, 1) := by decide +kernel
theorem dX13_parses_159 : decode cX13_parses 159 = .ok (.iload 11, 2) := by decide +kernel
theorem dX13_parses_161 : decode cX13_parses 161 = .ok (.i2l, 1) := by decide +kernel
theorem dX13_parses_162 : decode cX13_parses 162 = .ok (.lload 4, 2) := by decide +kernel
theorem dX13_parses_164 : decode cX13_parses 164 = .ok (.lcmp, 1) := by decide +kernel
theorem dX13_parses_165 : decode cX13_parses 165 = .ok (.ifCond .ge 19, 3) := by decide +kernel
theorem dX13_parses_168 : decode cX13_parses 168 = .ok (.lload 9, 2) := by decide +kernel
theorem dX13_parses_170 : decode cX13_parses 170 = .ok (.ldc2_w 326, 3) := by decide +kernel
theorem dX13_parses_173 : decode cX13_parses 173 = .ok (.iload 11, 2) := by decide +kernel
theorem dX13_parses_175 : decode cX13_parses 175 = .ok (.i2l, 1) := by decide +kernel
theorem dX13_parses_176 : decode cX13_parses 176 = .ok (.ladd, 1) := by decide +kernel
theorem dX13_parses_177 : decode cX13_parses 177 = .ok (.lload 4, 2) := by decide +kernel
theorem dX13_parses_179 : decode cX13_parses 179 = .ok (.ldiv, 1) := by decide +kernel
theorem dX13_parses_180 : decode cX13_parses 180 = .ok (.lcmp, 1) := by decide +kernel
theorem dX13_parses_181 : decode cX13_parses 181 = .ok (.ifCond .ge 7, 3) := by decide +kernel
theorem dX13_parses_184 : decode cX13_parses 184 = .ok (.iconst 1, 1) := by decide +kernel
theorem dX13_parses_185 : decode cX13_parses 185 = .ok (.goto 4, 3) := by decide +kernel
theorem dX13_parses_188 : decode cX13_parses 188 = .ok (.iconst 0, 1) := by decide +kernel
theorem dX13_parses_189 : decode cX13_parses 189 = .ok (.iconst 2, 1) := by decide +kernel
theorem dX13_parses_190 : decode cX13_parses 190 = .ok (.invokevirtual 466, 3) := by decide +kernel
theorem dX13_parses_193 : decode cX13_parses 193 = .ok (.lload 9, 2) := by decide +kernel
theorem dX13_parses_195 : decode cX13_parses 195 = .ok (.lload 4, 2) := by decide +kernel
theorem dX13_parses_197 : decode cX13_parses 197 = .ok (.lmul, 1) := by decide +kernel
theorem dX13_parses_198 : decode cX13_parses 198 = .ok (.iload 11, 2) := by decide +kernel
theorem dX13_parses_200 : decode cX13_parses 200 = .ok (.i2l, 1) := by decide +kernel
theorem dX13_parses_201 : decode cX13_parses 201 = .ok (.lsub, 1) := by decide +kernel
theorem dX13_parses_202 : decode cX13_parses 202 = .ok (.lstore 9, 2) := by decide +kernel
theorem dX13_parses_204 : decode cX13_parses 204 = .ok (.iinc 8 1, 3) := by decide +kernel
theorem dX13_parses_207 : decode cX13_parses 207 = .ok (.goto (-75), 3) := by decide +kernel
theorem dX13_parses_210 : decode cX13_parses 210 = .ok (.aload_n 0, 1) := by decide +kernel
theorem dX13_parses_211 : decode cX13_parses 211 = .ok (.iload 7, 2) := by decide +kernel
theorem dX13_parses_213 : decode cX13_parses 213 = .ok (.ifCond .ne 16, 3) := by decide +kernel
theorem dX13_parses_216 : decode cX13_parses 216 = .ok (.lload 9, 2) := by decide +kernel
theorem dX13_parses_218 : decode cX13_parses 218 = .ok (.ldc2_w 326, 3) := by decide +kernel
theorem dX13_parses_221 : decode cX13_parses 221 = .ok (.lcmp, 1) := by decide +kernel
theorem dX13_parses_222 : decode cX13_parses 222 = .ok (.ifCond .ne 7, 3) := by decide +kernel
theorem dX13_parses_225 : decode cX13_parses 225 = .ok (.iconst 1, 1) := by decide +kernel
theorem dX13_parses_226 : decode cX13_parses 226 = .ok (.goto 4, 3) := by decide +kernel
theorem dX13_parses_229 : decode cX13_parses 229 = .ok (.iconst 0, 1) := by decide +kernel
theorem dX13_parses_230 : decode cX13_parses 230 = .ok (.iconst 2, 1) := by decide +kernel
theorem dX13_parses_231 : decode cX13_parses 231 = .ok (.invokevirtual 466, 3) := by decide +kernel
theorem dX13_parses_234 : decode cX13_parses 234 = .ok (.iload 7, 2) := by decide +kernel
theorem dX13_parses_236 : decode cX13_parses 236 = .ok (.ifCond .ne 8, 3) := by decide +kernel
theorem dX13_parses_239 : decode cX13_parses 239 = .ok (.lload 9, 2) := by decide +kernel
theorem dX13_parses_241 : decode cX13_parses 241 = .ok (.lneg, 1) := by decide +kernel
theorem dX13_parses_242 : decode cX13_parses 242 = .ok (.lstore 9, 2) := by decide +kernel
theorem dX13_parses_244 : decode cX13_parses 244 = .ok (.aload_n 0, 1) := by decide +kernel
theorem dX13_parses_245 : decode cX13_parses 245 = .ok (.iload_n 1, 1) := by decide +kernel
theorem dX13_parses_246 : decode cX13_parses 246 = .ok (.bipush 48, 2) := by decide +kernel
theorem dX13_parses_248 : decode cX13_parses 248 = .ok (.if_icmp .ne 21, 3) := by decide +kernel
theorem dX13_parses_251 : decode cX13_parses 251 = .ok (.lload 9, 2) := by decide +kernel
theorem dX13_parses_253 : decode cX13_parses 253 = .ok (.ldc2_w 697, 3) := by decide +kernel
theorem dX13_parses_256 : decode cX13_parses 256 = .ok (.ldc2_w 699, 3) := by decide +kernel
theorem dX13_parses_259 : decode cX13_parses 259 = .ok (.invokestatic 318, 3) := by decide +kernel
theorem dX13_parses_262 : decode cX13_parses 262 = .ok (.ifCond .ne 7, 3) := by decide +kernel
theorem dX13_parses_265 : decode cX13_parses 265 = .ok (.iconst 1, 1) := by decide +kernel
theorem dX13_parses_266 : decode cX13_parses 266 = .ok (.goto 4, 3) := by decide +kernel
theorem dX13_parses_269 : decode cX13_parses 269 = .ok (.iconst 0, 1) := by decide +kernel
theorem dX13_parses_270 : decode cX13_parses 270 = .ok (.iconst 2, 1) := by decide +kernel
theorem dX13_parses_271 : decode cX13_parses 271 = .ok (.invokevirtual 466, 3) := by decide +kernel
theorem dX13_parses_274 : decode cX13_parses 274 = .ok (.aload_n 0, 1) := by decide +kernel
theorem dX13_parses_275 : decode cX13_parses 275 = .ok (.iload_n 2, 1) := by decide +kernel
theorem dX13_parses_276 : decode cX13_parses 276 = .ok (.lload 9, 2) := by decide +kernel
theorem dX13_parses_278 : decode cX13_parses 278 = .ok (.invokevirtual 567, 3) := by decide +kernel
theorem dX13_parses_281 : decode cX13_parses 281 = .ok (.return_, 1) := by decide +kernel
def m_parses_270 (g : Nat) (S : St) (x2 : Int32) (x9 : Int64) (y1 : Int32) : Option St :=
(m_refuse g S y1 (2 : Int32)).bind fun S_7 =>
(m_givesWhole g S_7 x2 x9).bind fun S_8 =>
some S_8
def m_parses_269 (g : Nat) (S : St) (x2 : Int32) (x9 : Int64) : Option St :=
m_parses_270 g S x2 x9 (0 : Int32)
def m_parses_244 (g : Nat) (S : St) (x1 : Int32) (x2 : Int32) (x9 : Int64) : Option St :=
if x1 = (48 : Int32) then (
  (m_isIn g x9 (-2147483648 : Int64) (2147483647 : Int64)).bind fun v_7 =>
  if v_7 = 0 then (
    m_parses_270 g S x2 x9 (1 : Int32)
  ) else (
    m_parses_269 g S x2 x9
  )
) else (
  m_parses_269 g S x2 x9
)
def m_parses_230 (g : Nat) (S : St) (x1 : Int32) (x2 : Int32) (x7 : Int32) (x9 : Int64) (y1 : Int32) : Option St :=
(m_refuse g S y1 (2 : Int32)).bind fun S_6 =>
if x7 = 0 then (
  lt (-x9) fun x9_7 =>
  m_parses_244 g S_6 x1 x2 x9_7
) else (
  m_parses_244 g S_6 x1 x2 x9
)
def m_parses_229 (g : Nat) (S : St) (x1 : Int32) (x2 : Int32) (x7 : Int32) (x9 : Int64) : Option St :=
m_parses_230 g S x1 x2 x7 x9 (0 : Int32)
def m_parses_210 (g : Nat) (S : St) (x1 : Int32) (x2 : Int32) (x7 : Int32) (x9 : Int64) : Option St :=
if x7 = 0 then (
  if x9 = (-9223372036854775808 : Int64) then (
    m_parses_230 g S x1 x2 x7 x9 (1 : Int32)
  ) else (
    m_parses_229 g S x1 x2 x7 x9
  )
) else (
  m_parses_229 g S x1 x2 x7 x9
)
def m_parses_189 (g : Nat) (k132 : St → Int32 → Int32 → Int32 → Int64 → Int32 → Int32 → Int32 → Int64 → Option St) (S : St) (x1 : Int32) (x2 : Int32) (x3 : Int32) (x4 : Int64) (x6 : Int32) (x7 : Int32) (x8 : Int32) (x9 : Int64) (x11 : Int32) (y1 : Int32) : Option St :=
(m_refuse g S y1 (2 : Int32)).bind fun S_8 =>
lt ((x9 * x4) - (x11.toInt64)) fun x9_9 =>
lt (x8 + (1 : Int32)) fun x8_10 =>
k132 S_8 x1 x2 x3 x4 x6 x7 x8_10 x9_9
def m_parses_184 (g : Nat) (k132 : St → Int32 → Int32 → Int32 → Int64 → Int32 → Int32 → Int32 → Int64 → Option St) (S : St) (x1 : Int32) (x2 : Int32) (x3 : Int32) (x4 : Int64) (x6 : Int32) (x7 : Int32) (x8 : Int32) (x9 : Int64) (x11 : Int32) : Option St :=
m_parses_189 g k132 S x1 x2 x3 x4 x6 x7 x8 x9 x11 (1 : Int32)
def b_parses_132 (g : Nat) (k132 : St → Int32 → Int32 → Int32 → Int64 → Int32 → Int32 → Int32 → Int64 → Option St) (S : St) (x1 : Int32) (x2 : Int32) (x3 : Int32) (x4 : Int64) (x6 : Int32) (x7 : Int32) (x8 : Int32) (x9 : Int64) : Option St :=
if x6 ≤ x8 then (
  m_parses_210 g S x1 x2 x7 x9
) else (
  if (gI S 0 58) = 0 then (
    (m_unitAt g S x3 x8).bind fun v_6 =>
    (m_digitOf g v_6).bind fun v_7 =>
    if (v_7.toInt64) < x4 then (
      if x4 = 0 then none else
      if x9 < (((-9223372036854775808 : Int64) + (v_7.toInt64)) / x4) then (
        m_parses_184 g k132 S x1 x2 x3 x4 x6 x7 x8 x9 v_7
      ) else (
        m_parses_189 g k132 S x1 x2 x3 x4 x6 x7 x8 x9 v_7 (0 : Int32)
      )
    ) else (
      m_parses_184 g k132 S x1 x2 x3 x4 x6 x7 x8 x9 v_7
    )
  ) else (
    m_parses_210 g S x1 x2 x7 x9
  )
)
def m_parses_132 (g : Nat) : Nat → St → Int32 → Int32 → Int32 → Int64 → Int32 → Int32 → Int32 → Int64 → Option St
  | 0, _, _, _, _, _, _, _, _, _ => none
  | n + 1, S, x1, x2, x3, x4, x6, x7, x8, x9 => b_parses_132 g (m_parses_132 g n) S x1 x2 x3 x4 x6 x7 x8 x9
def m_parses_125 (g : Nat) (S : St) (x1 : Int32) (x2 : Int32) (x3 : Int32) (x4 : Int64) (x6 : Int32) (x7 : Int32) (x8 : Int32) (y1 : Int32) : Option St :=
(m_refuse g S y1 (2 : Int32)).bind fun S_5 =>
m_parses_132 g g S_5 x1 x2 x3 x4 x6 x7 x8 (0 : Int64)
def m_parses_110 (g : Nat) (S : St) (x1 : Int32) (x2 : Int32) (x3 : Int32) (x4 : Int64) (x6 : Int32) (x7 : Int32) (y0 : Int32) : Option St :=
if y0 = x6 then (
  m_parses_125 g S x1 x2 x3 x4 x6 x7 y0 (1 : Int32)
) else (
  m_parses_125 g S x1 x2 x3 x4 x6 x7 y0 (0 : Int32)
)
def m_parses_105 (g : Nat) (S : St) (x1 : Int32) (x2 : Int32) (x3 : Int32) (x4 : Int64) (x6 : Int32) (x7 : Int32) : Option St :=
m_parses_110 g S x1 x2 x3 x4 x6 x7 (1 : Int32)
def m_parses_109 (g : Nat) (S : St) (x1 : Int32) (x2 : Int32) (x3 : Int32) (x4 : Int64) (x6 : Int32) (x7 : Int32) : Option St :=
m_parses_110 g S x1 x2 x3 x4 x6 x7 (0 : Int32)
def m_parses_82 (g : Nat) (S : St) (x1 : Int32) (x2 : Int32) (x3 : Int32) (x4 : Int64) (x6 : Int32) (y0 : Int32) : Option St :=
if y0 = 0 then (
  if x6 ≤ 0 then (
    m_parses_109 g S x1 x2 x3 x4 x6 y0
  ) else (
    (m_unitAt g S x3 (0 : Int32)).bind fun v_5 =>
    if v_5 = (43 : Int32) then (
      m_parses_105 g S x1 x2 x3 x4 x6 y0
    ) else (
      m_parses_109 g S x1 x2 x3 x4 x6 y0
    )
  )
) else (
  m_parses_105 g S x1 x2 x3 x4 x6 y0
)
def m_parses_81 (g : Nat) (S : St) (x1 : Int32) (x2 : Int32) (x3 : Int32) (x4 : Int64) (x6 : Int32) : Option St :=
m_parses_82 g S x1 x2 x3 x4 x6 (0 : Int32)
def m_parses_41 (g : Nat) (S : St) (x1 : Int32) (x2 : Int32) (x3 : Int32) (x4 : Int64) (y1 : Int32) : Option St :=
(m_refuse g S y1 (2 : Int32)).bind fun S_3 =>
if (gI S_3 0 58) = 0 then (
  (aI S_3 24 x3).bind fun v_4 =>
  if v_4 ≤ 0 then (
    m_parses_81 g S_3 x1 x2 x3 x4 v_4
  ) else (
    (m_unitAt g S_3 x3 (0 : Int32)).bind fun v_5 =>
    if v_5 = (45 : Int32) then (
      m_parses_82 g S_3 x1 x2 x3 x4 v_4 (1 : Int32)
    ) else (
      m_parses_81 g S_3 x1 x2 x3 x4 v_4
    )
  )
) else (
  some S_3
)
def m_parses_36 (g : Nat) (S : St) (x1 : Int32) (x2 : Int32) (x3 : Int32) (x4 : Int64) : Option St :=
m_parses_41 g S x1 x2 x3 x4 (1 : Int32)
def m_parses (g : Nat) (S : St) (x1 : Int32) (x2 : Int32) : Option St :=
(m_text g S (x2 + (1 : Int32))).bind fun v_1 =>
(m_value g S (x2 + (2 : Int32))).bind fun v_2 =>
if v_1 < 0 then (
  m_parses_36 g S x1 x2 v_1 v_2
) else (
  (m_isIn g v_2 (2 : Int64) (36 : Int64)).bind fun v_3 =>
  if v_3 = 0 then (
    m_parses_36 g S x1 x2 v_1 v_2
  ) else (
    m_parses_41 g S x1 x2 v_1 v_2 (0 : Int32)
  )
)
section S_parses
variable {p : Program} {l : Launch} {e : Env} {s : State} {m : MethodId} {args : Array Value} {below : List Frame} {meth : Method} {c : Code} {H : Heap} {locs : List Loc} {ls : Array Slot} {D : va_G} {T : Cy} {ρ : Nat → Nat} {A : Nat → Prop}
set_option maxRecDepth 100000 in
set_option maxHeartbeats 4000000 in
theorem w_parses_270  {g : Nat} {S : St} {x2 : Int32} {x9 : Int64} {y1 : Int32} (C : CallFix p m c cX13_parses 12 s args tb RX13) (hr : meth.sig.returnType = none) (hk : meth.locks = false) {S' : St} (w : Wn Ym D T ρ S A s H locs) (hl : lv_has ls 12 [(0, .ref (ρ 0)), (2, .int x2), (9, .long x9)]) (h : m_parses_270 g S x2 x9 y1 = some S') : W p l e (rmN 1 25) s m args below meth c H locs 0 0 (MQ below (Qv Ym D T ρ A S') args s 0 0 A) (F0 m 270 ls [.int y1, .ref (ρ 0)]) := by
  unfold m_parses_270 at h
  refine lv_iconst (v := 2) C.1 C.2.1 dX13_parses_270 (by decide) ?_
  obtain ⟨S_7, hS_7, h⟩ := bnd h
  refine x_callVv (q := (RX13, TX13, 68)) (As := [.int y1, .int (2 : Int32)]) (rest := []) C w (k_refuse l D T ρ g H.size S hS_7) vM466 ⟨by decide, by decide⟩ obM (by decide) rfl rfl rfl hl.1 (Nat.le_of_ble_eq_true rfl) ⟨Nat.zero_le _, Nat.zero_le _⟩ dX13_parses_271 (fun H locs w => ?_)
  refine lv_aload_n C.1 C.2.1 dX13_parses_274 rfl (lv_at hl 0 rfl) ?_
  refine lv_iload_n C.1 C.2.1 dX13_parses_275 rfl (lv_at hl 1 rfl) ?_
  refine lv_lload C.1 C.2.1 dX13_parses_276 (lv_at hl 2 rfl) ?_
  obtain ⟨S_8, hS_8, h⟩ := bnd h
  refine x_callVv (q := (RX13, TX13, 68)) (As := [.int x2, .long x9]) (rest := []) C w (k_givesWhole l D T ρ g H.size S_7 hS_8) vM567 ⟨by decide, by decide⟩ obM (by decide) rfl rfl rfl hl.1 (Nat.le_of_ble_eq_true rfl) ⟨Nat.zero_le _, Nat.zero_le _⟩ dX13_parses_278 (fun H locs w => ?_)
  obtain rfl := som h
  exact x_vret C w hr hk dX13_parses_281
set_option maxRecDepth 100000 in
set_option maxHeartbeats 4000000 in
theorem w_parses_269  {g : Nat} {S : St} {x2 : Int32} {x9 : Int64} (C : CallFix p m c cX13_parses 12 s args tb RX13) (hr : meth.sig.returnType = none) (hk : meth.locks = false) {S' : St} (w : Wn Ym D T ρ S A s H locs) (hl : lv_has ls 12 [(0, .ref (ρ 0)), (2, .int x2), (9, .long x9)]) (h : m_parses_269 g S x2 x9 = some S') : W p l e (rmN 1 25) s m args below meth c H locs 0 0 (MQ below (Qv Ym D T ρ A S') args s 0 0 A) (F0 m 269 ls [.ref (ρ 0)]) := by
  unfold m_parses_269 at h
  refine lv_iconst (v := 0) C.1 C.2.1 dX13_parses_269 (by decide) ?_
  exact w_parses_270 C hr hk w (lv_sub hl [0, 1, 2] rfl) h
set_option maxRecDepth 100000 in
set_option maxHeartbeats 4000000 in
theorem w_parses_244  {g : Nat} {S : St} {x1 : Int32} {x2 : Int32} {x9 : Int64} (C : CallFix p m c cX13_parses 12 s args tb RX13) (hr : meth.sig.returnType = none) (hk : meth.locks = false) {S' : St} (w : Wn Ym D T ρ S A s H locs) (hl : lv_has ls 12 [(0, .ref (ρ 0)), (1, .int x1), (2, .int x2), (9, .long x9)]) (h : m_parses_244 g S x1 x2 x9 = some S') : W p l e (rmN 1 25) s m args below meth c H locs 0 0 (MQ below (Qv Ym D T ρ A S') args s 0 0 A) (F0 m 244 ls []) := by
  unfold m_parses_244 at h
  refine lv_aload_n C.1 C.2.1 dX13_parses_244 rfl (lv_at hl 0 rfl) ?_
  refine lv_iload_n C.1 C.2.1 dX13_parses_245 rfl (lv_at hl 1 rfl) ?_
  refine lv_bipush (v := 48) C.1 C.2.1 dX13_parses_246 (by decide) ?_
  refine lv_icmp_ne (tgt := 269) C.1 C.2.1 dX13_parses_248 (by decide) (fun hc => ?_) (fun hc => ?_)
  · replace h := iff0 hc h
    exact w_parses_269 C hr hk w (lv_sub hl [0, 2, 3] rfl) h
  · replace h := ift hc h
    refine lv_lload C.1 C.2.1 dX13_parses_251 (lv_at hl 3 rfl) ?_
    refine lv_ldc2 C.1 C.2.1 C.2.2.2.1 (C.2.2.2.2 _ nM697) dX13_parses_253 ?_
    refine lv_ldc2 C.1 C.2.1 C.2.2.2.1 (C.2.2.2.2 _ nM699) dX13_parses_256 ?_
    obtain ⟨v_7, hv_7, h⟩ := bnd h
    refine x_callSi (As := [.long x9, .long (-2147483648 : Int64), .long (2147483647 : Int64)]) (rest := [.ref (ρ 0)]) C w (k_isIn l D T ρ g H.size S hv_7) vM318 ⟨by decide, by decide⟩ rfl rfl hl.1 (Nat.le_of_ble_eq_true rfl) ⟨Nat.zero_le _, Nat.zero_le _⟩ dX13_parses_259 (fun H locs w => ?_)
    refine lv_if_ne (tgt := 269) C.1 C.2.1 dX13_parses_262 (by decide) (fun hc => ?_) (fun hc => ?_)
    · replace h := iff0 hc h
      exact w_parses_269 C hr hk w (lv_sub hl [0, 2, 3] rfl) h
    · replace h := ift hc h
      refine lv_iconst (v := 1) C.1 C.2.1 dX13_parses_265 (by decide) ?_
      refine lv_goto (tgt := 270) C.1 C.2.1 dX13_parses_266 (by decide) ?_
      exact w_parses_270 C hr hk w (lv_sub hl [0, 2, 3] rfl) h
set_option maxRecDepth 100000 in
set_option maxHeartbeats 4000000 in
theorem w_parses_230  {g : Nat} {S : St} {x1 : Int32} {x2 : Int32} {x7 : Int32} {x9 : Int64} {y1 : Int32} (C : CallFix p m c cX13_parses 12 s args tb RX13) (hr : meth.sig.returnType = none) (hk : meth.locks = false) {S' : St} (w : Wn Ym D T ρ S A s H locs) (hl : lv_has ls 12 [(0, .ref (ρ 0)), (1, .int x1), (2, .int x2), (7, .int x7), (9, .long x9)]) (h : m_parses_230 g S x1 x2 x7 x9 y1 = some S') : W p l e (rmN 1 25) s m args below meth c H locs 0 0 (MQ below (Qv Ym D T ρ A S') args s 0 0 A) (F0 m 230 ls [.int y1, .ref (ρ 0)]) := by
  unfold m_parses_230 at h
  refine lv_iconst (v := 2) C.1 C.2.1 dX13_parses_230 (by decide) ?_
  obtain ⟨S_6, hS_6, h⟩ := bnd h
  refine x_callVv (q := (RX13, TX13, 68)) (As := [.int y1, .int (2 : Int32)]) (rest := []) C w (k_refuse l D T ρ g H.size S hS_6) vM466 ⟨by decide, by decide⟩ obM (by decide) rfl rfl rfl hl.1 (Nat.le_of_ble_eq_true rfl) ⟨Nat.zero_le _, Nat.zero_le _⟩ dX13_parses_231 (fun H locs w => ?_)
  refine lv_iload C.1 C.2.1 dX13_parses_234 (lv_at hl 3 rfl) ?_
  refine lv_if_ne (tgt := 244) C.1 C.2.1 dX13_parses_236 (by decide) (fun hc => ?_) (fun hc => ?_)
  · replace h := iff0 hc h
    exact w_parses_244 C hr hk w (lv_sub hl [0, 1, 2, 4] rfl) h
  · replace h := ift hc h
    refine lv_lload C.1 C.2.1 dX13_parses_239 (lv_at hl 4 rfl) ?_
    refine lv_lneg C.1 C.2.1 dX13_parses_241 ?_
    obtain ⟨x9_7, ex9_7, h⟩ := lt_e h
    refine x_nmL ex9_7 ?_
    refine lv_lstore (lv' := [(9, .long x9_7), (0, .ref (ρ 0)), (1, .int x1), (2, .int x2), (7, .int x7)]) C.1 C.2.1 dX13_parses_242 hl (by decide) rfl (fun ls hl => ?_)
    exact w_parses_244 C hr hk w (lv_sub hl [1, 2, 3, 0] rfl) h
set_option maxRecDepth 100000 in
set_option maxHeartbeats 4000000 in
theorem w_parses_229  {g : Nat} {S : St} {x1 : Int32} {x2 : Int32} {x7 : Int32} {x9 : Int64} (C : CallFix p m c cX13_parses 12 s args tb RX13) (hr : meth.sig.returnType = none) (hk : meth.locks = false) {S' : St} (w : Wn Ym D T ρ S A s H locs) (hl : lv_has ls 12 [(0, .ref (ρ 0)), (1, .int x1), (2, .int x2), (7, .int x7), (9, .long x9)]) (h : m_parses_229 g S x1 x2 x7 x9 = some S') : W p l e (rmN 1 25) s m args below meth c H locs 0 0 (MQ below (Qv Ym D T ρ A S') args s 0 0 A) (F0 m 229 ls [.ref (ρ 0)]) := by
  unfold m_parses_229 at h
  refine lv_iconst (v := 0) C.1 C.2.1 dX13_parses_229 (by decide) ?_
  exact w_parses_230 C hr hk w (lv_sub hl [0, 1, 2, 3, 4] rfl) h
set_option maxRecDepth 100000 in
set_option maxHeartbeats 4000000 in
theorem w_parses_210  {g : Nat} {S : St} {x1 : Int32} {x2 : Int32} {x7 : Int32} {x9 : Int64} (C : CallFix p m c cX13_parses 12 s args tb RX13) (hr : meth.sig.returnType = none) (hk : meth.locks = false) {S' : St} (w : Wn Ym D T ρ S A s H locs) (hl : lv_has ls 12 [(0, .ref (ρ 0)), (1, .int x1), (2, .int x2), (7, .int x7), (9, .long x9)]) (h : m_parses_210 g S x1 x2 x7 x9 = some S') : W p l e (rmN 1 25) s m args below meth c H locs 0 0 (MQ below (Qv Ym D T ρ A S') args s 0 0 A) (F0 m 210 ls []) := by
  unfold m_parses_210 at h
  refine lv_aload_n C.1 C.2.1 dX13_parses_210 rfl (lv_at hl 0 rfl) ?_
  refine lv_iload C.1 C.2.1 dX13_parses_211 (lv_at hl 3 rfl) ?_
  refine lv_if_ne (tgt := 229) C.1 C.2.1 dX13_parses_213 (by decide) (fun hc => ?_) (fun hc => ?_)
  · replace h := iff0 hc h
    exact w_parses_229 C hr hk w (lv_sub hl [0, 1, 2, 3, 4] rfl) h
  · replace h := ift hc h
    refine lv_lload C.1 C.2.1 dX13_parses_216 (lv_at hl 4 rfl) ?_
    refine lv_ldc2 C.1 C.2.1 C.2.2.2.1 (C.2.2.2.2 _ nM326) dX13_parses_218 ?_
    refine x_l_ne (tgt := 229) C dX13_parses_221 dX13_parses_222 (by decide) (fun hc => ?_) (fun hc => ?_)
    · replace h := iff0 hc h
      exact w_parses_229 C hr hk w (lv_sub hl [0, 1, 2, 3, 4] rfl) h
    · replace h := ift hc h
      refine lv_iconst (v := 1) C.1 C.2.1 dX13_parses_225 (by decide) ?_
      refine lv_goto (tgt := 230) C.1 C.2.1 dX13_parses_226 (by decide) ?_
      exact w_parses_230 C hr hk w (lv_sub hl [0, 1, 2, 3, 4] rfl) h
set_option maxRecDepth 100000 in
set_option maxHeartbeats 4000000 in
theorem w_parses_189  {g : Nat} {S : St} {x1 : Int32} {x2 : Int32} {x3 : Int32} {x4 : Int64} {x6 : Int32} {x7 : Int32} {x8 : Int32} {x9 : Int64} {x11 : Int32} {y1 : Int32} (C : CallFix p m c cX13_parses 12 s args tb RX13) (hr : meth.sig.returnType = none) (hk : meth.locks = false) {S' : St} {k132 : St → Int32 → Int32 → Int32 → Int64 → Int32 → Int32 → Int32 → Int64 → Option St} (kk132 : ∀ (S : St) (x1 : Int32) (x2 : Int32) (x3 : Int32) (x4 : Int64) (x6 : Int32) (x7 : Int32) (x8 : Int32) (x9 : Int64) (H : Heap) (locs : List Loc) (ls : Array Slot), Wn Ym D T ρ S A s H locs → lv_has ls 12 [(0, .ref (ρ 0)), (1, .int x1), (2, .int x2), (3, .int x3), (4, .long x4), (6, .int x6), (7, .int x7), (8, .int x8), (9, .long x9)] → k132 S x1 x2 x3 x4 x6 x7 x8 x9 = some S' → W p l e (rmN 1 25) s m args below meth c H locs 0 0 (MQ below (Qv Ym D T ρ A S') args s 0 0 A) (F0 m 132 ls [])) (w : Wn Ym D T ρ S A s H locs) (hl : lv_has ls 12 [(0, .ref (ρ 0)), (1, .int x1), (2, .int x2), (3, .int x3), (4, .long x4), (6, .int x6), (7, .int x7), (8, .int x8), (9, .long x9), (11, .int x11)]) (h : m_parses_189 g k132 S x1 x2 x3 x4 x6 x7 x8 x9 x11 y1 = some S') : W p l e (rmN 1 25) s m args below meth c H locs 0 0 (MQ below (Qv Ym D T ρ A S') args s 0 0 A) (F0 m 189 ls [.int y1, .ref (ρ 0)]) := by
  unfold m_parses_189 at h
  refine lv_iconst (v := 2) C.1 C.2.1 dX13_parses_189 (by decide) ?_
  obtain ⟨S_8, hS_8, h⟩ := bnd h
  refine x_callVv (q := (RX13, TX13, 68)) (As := [.int y1, .int (2 : Int32)]) (rest := []) C w (k_refuse l D T ρ g H.size S hS_8) vM466 ⟨by decide, by decide⟩ obM (by decide) rfl rfl rfl hl.1 (Nat.le_of_ble_eq_true rfl) ⟨Nat.zero_le _, Nat.zero_le _⟩ dX13_parses_190 (fun H locs w => ?_)
  refine lv_lload C.1 C.2.1 dX13_parses_193 (lv_at hl 8 rfl) ?_
  refine lv_lload C.1 C.2.1 dX13_parses_195 (lv_at hl 4 rfl) ?_
  refine lv_lmul C.1 C.2.1 dX13_parses_197 ?_
  refine lv_iload C.1 C.2.1 dX13_parses_198 (lv_at hl 9 rfl) ?_
  refine lv_i2l C.1 C.2.1 dX13_parses_200 rfl ?_
  refine lv_lsub C.1 C.2.1 dX13_parses_201 ?_
  obtain ⟨x9_9, ex9_9, h⟩ := lt_e h
  refine x_nmL ex9_9 ?_
  refine lv_lstore (lv' := [(9, .long x9_9), (0, .ref (ρ 0)), (1, .int x1), (2, .int x2), (3, .int x3), (4, .long x4), (6, .int x6), (7, .int x7), (8, .int x8), (11, .int x11)]) C.1 C.2.1 dX13_parses_202 hl (by decide) rfl (fun ls hl => ?_)
  obtain ⟨x8_10, ex8_10, h⟩ := lt_e h
  refine lv_iinc (v := x8_10) (lv' := [(8, .int x8_10), (9, .long x9_9), (0, .ref (ρ 0)), (1, .int x1), (2, .int x2), (3, .int x3), (4, .long x4), (6, .int x6), (7, .int x7), (11, .int x11)]) C.1 C.2.1 dX13_parses_204 hl (k := 8) rfl (by rw [ex8_10]; rfl) (by decide) rfl (fun ls hl => ?_)
  refine lv_goto (tgt := 132) C.1 C.2.1 dX13_parses_207 (by decide) ?_
  exact kk132 _ _ _ _ _ _ _ _ _ _ _ _ w (lv_sub hl [2, 3, 4, 5, 6, 7, 8, 0, 1] rfl) h
set_option maxRecDepth 100000 in
set_option maxHeartbeats 4000000 in
theorem w_parses_184  {g : Nat} {S : St} {x1 : Int32} {x2 : Int32} {x3 : Int32} {x4 : Int64} {x6 : Int32} {x7 : Int32} {x8 : Int32} {x9 : Int64} {x11 : Int32} (C : CallFix p m c cX13_parses 12 s args tb RX13) (hr : meth.sig.returnType = none) (hk : meth.locks = false) {S' : St} {k132 : St → Int32 → Int32 → Int32 → Int64 → Int32 → Int32 → Int32 → Int64 → Option St} (kk132 : ∀ (S : St) (x1 : Int32) (x2 : Int32) (x3 : Int32) (x4 : Int64) (x6 : Int32) (x7 : Int32) (x8 : Int32) (x9 : Int64) (H : Heap) (locs : List Loc) (ls : Array Slot), Wn Ym D T ρ S A s H locs → lv_has ls 12 [(0, .ref (ρ 0)), (1, .int x1), (2, .int x2), (3, .int x3), (4, .long x4), (6, .int x6), (7, .int x7), (8, .int x8), (9, .long x9)] → k132 S x1 x2 x3 x4 x6 x7 x8 x9 = some S' → W p l e (rmN 1 25) s m args below meth c H locs 0 0 (MQ below (Qv Ym D T ρ A S') args s 0 0 A) (F0 m 132 ls [])) (w : Wn Ym D T ρ S A s H locs) (hl : lv_has ls 12 [(0, .ref (ρ 0)), (1, .int x1), (2, .int x2), (3, .int x3), (4, .long x4), (6, .int x6), (7, .int x7), (8, .int x8), (9, .long x9), (11, .int x11)]) (h : m_parses_184 g k132 S x1 x2 x3 x4 x6 x7 x8 x9 x11 = some S') : W p l e (rmN 1 25) s m args below meth c H locs 0 0 (MQ below (Qv Ym D T ρ A S') args s 0 0 A) (F0 m 184 ls [.ref (ρ 0)]) := by
  unfold m_parses_184 at h
  refine lv_iconst (v := 1) C.1 C.2.1 dX13_parses_184 (by decide) ?_
  refine lv_goto (tgt := 189) C.1 C.2.1 dX13_parses_185 (by decide) ?_
  exact w_parses_189 C hr hk kk132 w (lv_sub hl [0, 1, 2, 3, 4, 5, 6, 7, 8, 9] rfl) h
set_option maxRecDepth 100000 in
set_option maxHeartbeats 4000000 in
theorem wb_parses_132  {g : Nat} {S : St} {x1 : Int32} {x2 : Int32} {x3 : Int32} {x4 : Int64} {x6 : Int32} {x7 : Int32} {x8 : Int32} {x9 : Int64} (C : CallFix p m c cX13_parses 12 s args tb RX13) (hr : meth.sig.returnType = none) (hk : meth.locks = false) {S' : St} {k132 : St → Int32 → Int32 → Int32 → Int64 → Int32 → Int32 → Int32 → Int64 → Option St} (kk132 : ∀ (S : St) (x1 : Int32) (x2 : Int32) (x3 : Int32) (x4 : Int64) (x6 : Int32) (x7 : Int32) (x8 : Int32) (x9 : Int64) (H : Heap) (locs : List Loc) (ls : Array Slot), Wn Ym D T ρ S A s H locs → lv_has ls 12 [(0, .ref (ρ 0)), (1, .int x1), (2, .int x2), (3, .int x3), (4, .long x4), (6, .int x6), (7, .int x7), (8, .int x8), (9, .long x9)] → k132 S x1 x2 x3 x4 x6 x7 x8 x9 = some S' → W p l e (rmN 1 25) s m args below meth c H locs 0 0 (MQ below (Qv Ym D T ρ A S') args s 0 0 A) (F0 m 132 ls [])) (w : Wn Ym D T ρ S A s H locs) (hl : lv_has ls 12 [(0, .ref (ρ 0)), (1, .int x1), (2, .int x2), (3, .int x3), (4, .long x4), (6, .int x6), (7, .int x7), (8, .int x8), (9, .long x9)]) (h : b_parses_132 g k132 S x1 x2 x3 x4 x6 x7 x8 x9 = some S') : W p l e (rmN 1 25) s m args below meth c H locs 0 0 (MQ below (Qv Ym D T ρ A S') args s 0 0 A) (F0 m 132 ls []) := by
  unfold b_parses_132 at h
  refine lv_iload C.1 C.2.1 dX13_parses_132 (lv_at hl 7 rfl) ?_
  refine lv_iload C.1 C.2.1 dX13_parses_134 (lv_at hl 5 rfl) ?_
  refine lv_icmp_ge (tgt := 210) C.1 C.2.1 dX13_parses_136 (by decide) (fun hc => ?_) (fun hc => ?_)
  · replace h := ift hc h
    exact w_parses_210 C hr hk w (lv_sub hl [0, 1, 2, 6, 8] rfl) h
  · replace h := iff0 hc h
    refine lv_aload_n C.1 C.2.1 dX13_parses_139 rfl (lv_at hl 0 rfl) ?_
    refine x_getI C w fM398 obM dX13_parses_140 ?_
    refine lv_if_ne (tgt := 210) C.1 C.2.1 dX13_parses_143 (by decide) (fun hc => ?_) (fun hc => ?_)
    · replace h := iff0 hc h
      exact w_parses_210 C hr hk w (lv_sub hl [0, 1, 2, 6, 8] rfl) h
    · replace h := ift hc h
      refine lv_aload_n C.1 C.2.1 dX13_parses_146 rfl (lv_at hl 0 rfl) ?_
      refine lv_iload_n C.1 C.2.1 dX13_parses_147 rfl (lv_at hl 3 rfl) ?_
      refine lv_iload C.1 C.2.1 dX13_parses_148 (lv_at hl 7 rfl) ?_
      obtain ⟨v_6, hv_6, h⟩ := bnd h
      refine x_callVi (q := (RX13, TX13, 68)) (As := [.int x3, .int x8]) (rest := []) C w (k_unitAt l D T ρ g H.size S hv_6) vM470 ⟨by decide, by decide⟩ obM (by decide) rfl rfl rfl hl.1 (Nat.le_of_ble_eq_true rfl) ⟨Nat.zero_le _, Nat.zero_le _⟩ dX13_parses_150 (fun H locs w => ?_)
      obtain ⟨v_7, hv_7, h⟩ := bnd h
      refine x_callSi (As := [.int v_6]) (rest := []) C w (k_digitOf l D T ρ g H.size S hv_7) vM694 ⟨by decide, by decide⟩ rfl rfl hl.1 (Nat.le_of_ble_eq_true rfl) ⟨Nat.zero_le _, Nat.zero_le _⟩ dX13_parses_153 (fun H locs w => ?_)
      refine lv_istore (lv' := [(11, .int v_7), (0, .ref (ρ 0)), (1, .int x1), (2, .int x2), (3, .int x3), (4, .long x4), (6, .int x6), (7, .int x7), (8, .int x8), (9, .long x9)]) C.1 C.2.1 dX13_parses_156 hl (by decide) rfl (fun ls hl => ?_)
      refine lv_aload_n C.1 C.2.1 dX13_parses_158 rfl (lv_at hl 1 rfl) ?_
      refine lv_iload C.1 C.2.1 dX13_parses_159 (lv_at hl 0 rfl) ?_
      refine lv_i2l C.1 C.2.1 dX13_parses_161 rfl ?_
      refine lv_lload C.1 C.2.1 dX13_parses_162 (lv_at hl 5 rfl) ?_
      refine x_l_ge (tgt := 184) C dX13_parses_164 dX13_parses_165 (by decide) (fun hc => ?_) (fun hc => ?_)
      · replace h := iff0 hc h
        exact w_parses_184 C hr hk kk132 w (lv_sub hl [1, 2, 3, 4, 5, 6, 7, 8, 9, 0] rfl) h
      · replace h := ift hc h
        refine lv_lload C.1 C.2.1 dX13_parses_168 (lv_at hl 9 rfl) ?_
        refine lv_ldc2 C.1 C.2.1 C.2.2.2.1 (C.2.2.2.2 _ nM326) dX13_parses_170 ?_
        refine lv_iload C.1 C.2.1 dX13_parses_173 (lv_at hl 0 rfl) ?_
        refine lv_i2l C.1 C.2.1 dX13_parses_175 rfl ?_
        refine lv_ladd C.1 C.2.1 dX13_parses_176 ?_
        refine lv_lload C.1 C.2.1 dX13_parses_177 (lv_at hl 5 rfl) ?_
        by_cases hz_8 : x4 = 0
        · exact absurd (ift hz_8 h) (fun q => by cases q)
        replace h := iff0 hz_8 h
        refine lv_ldiv C.1 C.2.1 dX13_parses_179 hz_8 ?_
        refine x_l_ge (tgt := 188) C dX13_parses_180 dX13_parses_181 (by decide) (fun hc => ?_) (fun hc => ?_)
        · replace h := iff0 hc h
          refine lv_iconst (v := 0) C.1 C.2.1 dX13_parses_188 (by decide) ?_
          exact w_parses_189 C hr hk kk132 w (lv_sub hl [1, 2, 3, 4, 5, 6, 7, 8, 9, 0] rfl) h
        · replace h := ift hc h
          exact w_parses_184 C hr hk kk132 w (lv_sub hl [1, 2, 3, 4, 5, 6, 7, 8, 9, 0] rfl) h
theorem w_parses_132 {g : Nat} (C : CallFix p m c cX13_parses 12 s args tb RX13) (hr : meth.sig.returnType = none) (hk : meth.locks = false) {S' : St} (n : Nat) : ∀ (S : St) (x1 : Int32) (x2 : Int32) (x3 : Int32) (x4 : Int64) (x6 : Int32) (x7 : Int32) (x8 : Int32) (x9 : Int64) (H : Heap) (locs : List Loc) (ls : Array Slot), Wn Ym D T ρ S A s H locs → lv_has ls 12 [(0, .ref (ρ 0)), (1, .int x1), (2, .int x2), (3, .int x3), (4, .long x4), (6, .int x6), (7, .int x7), (8, .int x8), (9, .long x9)] → m_parses_132 g n S x1 x2 x3 x4 x6 x7 x8 x9 = some S' → W p l e (rmN 1 25) s m args below meth c H locs 0 0 (MQ below (Qv Ym D T ρ A S') args s 0 0 A) (F0 m 132 ls []) := by
  induction n with
  | zero => intro S x1 x2 x3 x4 x6 x7 x8 x9 H locs ls w hl h; exact absurd h (fun q => by cases q)
  | succ n ih => intro S x1 x2 x3 x4 x6 x7 x8 x9 H locs ls w hl h; exact wb_parses_132 C hr hk ih w hl h
set_option maxRecDepth 100000 in
set_option maxHeartbeats 4000000 in
theorem w_parses_125  {g : Nat} {S : St} {x1 : Int32} {x2 : Int32} {x3 : Int32} {x4 : Int64} {x6 : Int32} {x7 : Int32} {x8 : Int32} {y1 : Int32} (C : CallFix p m c cX13_parses 12 s args tb RX13) (hr : meth.sig.returnType = none) (hk : meth.locks = false) {S' : St} (w : Wn Ym D T ρ S A s H locs) (hl : lv_has ls 12 [(0, .ref (ρ 0)), (1, .int x1), (2, .int x2), (3, .int x3), (4, .long x4), (6, .int x6), (7, .int x7), (8, .int x8)]) (h : m_parses_125 g S x1 x2 x3 x4 x6 x7 x8 y1 = some S') : W p l e (rmN 1 25) s m args below meth c H locs 0 0 (MQ below (Qv Ym D T ρ A S') args s 0 0 A) (F0 m 125 ls [.int y1, .ref (ρ 0)]) := by
  unfold m_parses_125 at h
  refine lv_iconst (v := 2) C.1 C.2.1 dX13_parses_125 (by decide) ?_
  obtain ⟨S_5, hS_5, h⟩ := bnd h
  refine x_callVv (q := (RX13, TX13, 68)) (As := [.int y1, .int (2 : Int32)]) (rest := []) C w (k_refuse l D T ρ g H.size S hS_5) vM466 ⟨by decide, by decide⟩ obM (by decide) rfl rfl rfl hl.1 (Nat.le_of_ble_eq_true rfl) ⟨Nat.zero_le _, Nat.zero_le _⟩ dX13_parses_126 (fun H locs w => ?_)
  refine lv_lconst (v := 0) C.1 C.2.1 dX13_parses_129 (by decide) ?_
  refine lv_lstore (lv' := [(9, .long (0 : Int64)), (0, .ref (ρ 0)), (1, .int x1), (2, .int x2), (3, .int x3), (4, .long x4), (6, .int x6), (7, .int x7), (8, .int x8)]) C.1 C.2.1 dX13_parses_130 hl (by decide) rfl (fun ls hl => ?_)
  exact w_parses_132 C hr hk g _ _ _ _ _ _ _ _ _ _ _ _ w (lv_sub hl [1, 2, 3, 4, 5, 6, 7, 8, 0] rfl) h
set_option maxRecDepth 100000 in
set_option maxHeartbeats 4000000 in
theorem w_parses_110  {g : Nat} {S : St} {x1 : Int32} {x2 : Int32} {x3 : Int32} {x4 : Int64} {x6 : Int32} {x7 : Int32} {y0 : Int32} (C : CallFix p m c cX13_parses 12 s args tb RX13) (hr : meth.sig.returnType = none) (hk : meth.locks = false) {S' : St} (w : Wn Ym D T ρ S A s H locs) (hl : lv_has ls 12 [(0, .ref (ρ 0)), (1, .int x1), (2, .int x2), (3, .int x3), (4, .long x4), (6, .int x6), (7, .int x7)]) (h : m_parses_110 g S x1 x2 x3 x4 x6 x7 y0 = some S') : W p l e (rmN 1 25) s m args below meth c H locs 0 0 (MQ below (Qv Ym D T ρ A S') args s 0 0 A) (F0 m 110 ls [.int y0]) := by
  unfold m_parses_110 at h
  refine lv_istore (lv' := [(8, .int y0), (0, .ref (ρ 0)), (1, .int x1), (2, .int x2), (3, .int x3), (4, .long x4), (6, .int x6), (7, .int x7)]) C.1 C.2.1 dX13_parses_110 hl (by decide) rfl (fun ls hl => ?_)
  refine lv_aload_n C.1 C.2.1 dX13_parses_112 rfl (lv_at hl 1 rfl) ?_
  refine lv_iload C.1 C.2.1 dX13_parses_113 (lv_at hl 0 rfl) ?_
  refine lv_iload C.1 C.2.1 dX13_parses_115 (lv_at hl 6 rfl) ?_
  refine lv_icmp_ne (tgt := 124) C.1 C.2.1 dX13_parses_117 (by decide) (fun hc => ?_) (fun hc => ?_)
  · replace h := iff0 hc h
    refine lv_iconst (v := 0) C.1 C.2.1 dX13_parses_124 (by decide) ?_
    exact w_parses_125 C hr hk w (lv_sub hl [1, 2, 3, 4, 5, 6, 7, 0] rfl) h
  · replace h := ift hc h
    refine lv_iconst (v := 1) C.1 C.2.1 dX13_parses_120 (by decide) ?_
    refine lv_goto (tgt := 125) C.1 C.2.1 dX13_parses_121 (by decide) ?_
    exact w_parses_125 C hr hk w (lv_sub hl [1, 2, 3, 4, 5, 6, 7, 0] rfl) h
set_option maxRecDepth 100000 in
set_option maxHeartbeats 4000000 in
theorem w_parses_105  {g : Nat} {S : St} {x1 : Int32} {x2 : Int32} {x3 : Int32} {x4 : Int64} {x6 : Int32} {x7 : Int32} (C : CallFix p m c cX13_parses 12 s args tb RX13) (hr : meth.sig.returnType = none) (hk : meth.locks = false) {S' : St} (w : Wn Ym D T ρ S A s H locs) (hl : lv_has ls 12 [(0, .ref (ρ 0)), (1, .int x1), (2, .int x2), (3, .int x3), (4, .long x4), (6, .int x6), (7, .int x7)]) (h : m_parses_105 g S x1 x2 x3 x4 x6 x7 = some S') : W p l e (rmN 1 25) s m args below meth c H locs 0 0 (MQ below (Qv Ym D T ρ A S') args s 0 0 A) (F0 m 105 ls []) := by
  unfold m_parses_105 at h
  refine lv_iconst (v := 1) C.1 C.2.1 dX13_parses_105 (by decide) ?_
  refine lv_goto (tgt := 110) C.1 C.2.1 dX13_parses_106 (by decide) ?_
  exact w_parses_110 C hr hk w (lv_sub hl [0, 1, 2, 3, 4, 5, 6] rfl) h
set_option maxRecDepth 100000 in
set_option maxHeartbeats 4000000 in
theorem w_parses_109  {g : Nat} {S : St} {x1 : Int32} {x2 : Int32} {x3 : Int32} {x4 : Int64} {x6 : Int32} {x7 : Int32} (C : CallFix p m c cX13_parses 12 s args tb RX13) (hr : meth.sig.returnType = none) (hk : meth.locks = false) {S' : St} (w : Wn Ym D T ρ S A s H locs) (hl : lv_has ls 12 [(0, .ref (ρ 0)), (1, .int x1), (2, .int x2), (3, .int x3), (4, .long x4), (6, .int x6), (7, .int x7)]) (h : m_parses_109 g S x1 x2 x3 x4 x6 x7 = some S') : W p l e (rmN 1 25) s m args below meth c H locs 0 0 (MQ below (Qv Ym D T ρ A S') args s 0 0 A) (F0 m 109 ls []) := by
  unfold m_parses_109 at h
  refine lv_iconst (v := 0) C.1 C.2.1 dX13_parses_109 (by decide) ?_
  exact w_parses_110 C hr hk w (lv_sub hl [0, 1, 2, 3, 4, 5, 6] rfl) h
set_option maxRecDepth 100000 in
set_option maxHeartbeats 4000000 in
theorem w_parses_82  {g : Nat} {S : St} {x1 : Int32} {x2 : Int32} {x3 : Int32} {x4 : Int64} {x6 : Int32} {y0 : Int32} (C : CallFix p m c cX13_parses 12 s args tb RX13) (hr : meth.sig.returnType = none) (hk : meth.locks = false) {S' : St} (w : Wn Ym D T ρ S A s H locs) (hl : lv_has ls 12 [(0, .ref (ρ 0)), (1, .int x1), (2, .int x2), (3, .int x3), (4, .long x4), (6, .int x6)]) (h : m_parses_82 g S x1 x2 x3 x4 x6 y0 = some S') : W p l e (rmN 1 25) s m args below meth c H locs 0 0 (MQ below (Qv Ym D T ρ A S') args s 0 0 A) (F0 m 82 ls [.int y0]) := by
  unfold m_parses_82 at h
  refine lv_istore (lv' := [(7, .int y0), (0, .ref (ρ 0)), (1, .int x1), (2, .int x2), (3, .int x3), (4, .long x4), (6, .int x6)]) C.1 C.2.1 dX13_parses_82 hl (by decide) rfl (fun ls hl => ?_)
  refine lv_iload C.1 C.2.1 dX13_parses_84 (lv_at hl 0 rfl) ?_
  refine lv_if_ne (tgt := 105) C.1 C.2.1 dX13_parses_86 (by decide) (fun hc => ?_) (fun hc => ?_)
  · replace h := iff0 hc h
    exact w_parses_105 C hr hk w (lv_sub hl [1, 2, 3, 4, 5, 6, 0] rfl) h
  · replace h := ift hc h
    refine lv_iload C.1 C.2.1 dX13_parses_89 (lv_at hl 6 rfl) ?_
    refine lv_if_le (tgt := 109) C.1 C.2.1 dX13_parses_91 (by decide) (fun hc => ?_) (fun hc => ?_)
    · replace h := ift hc h
      exact w_parses_109 C hr hk w (lv_sub hl [1, 2, 3, 4, 5, 6, 0] rfl) h
    · replace h := iff0 hc h
      refine lv_aload_n C.1 C.2.1 dX13_parses_94 rfl (lv_at hl 1 rfl) ?_
      refine lv_iload_n C.1 C.2.1 dX13_parses_95 rfl (lv_at hl 4 rfl) ?_
      refine lv_iconst (v := 0) C.1 C.2.1 dX13_parses_96 (by decide) ?_
      obtain ⟨v_5, hv_5, h⟩ := bnd h
      refine x_callVi (q := (RX13, TX13, 68)) (As := [.int x3, .int (0 : Int32)]) (rest := []) C w (k_unitAt l D T ρ g H.size S hv_5) vM470 ⟨by decide, by decide⟩ obM (by decide) rfl rfl rfl hl.1 (Nat.le_of_ble_eq_true rfl) ⟨Nat.zero_le _, Nat.zero_le _⟩ dX13_parses_97 (fun H locs w => ?_)
      refine lv_bipush (v := 43) C.1 C.2.1 dX13_parses_100 (by decide) ?_
      refine lv_icmp_ne (tgt := 109) C.1 C.2.1 dX13_parses_102 (by decide) (fun hc => ?_) (fun hc => ?_)
      · replace h := iff0 hc h
        exact w_parses_109 C hr hk w (lv_sub hl [1, 2, 3, 4, 5, 6, 0] rfl) h
      · replace h := ift hc h
        exact w_parses_105 C hr hk w (lv_sub hl [1, 2, 3, 4, 5, 6, 0] rfl) h
set_option maxRecDepth 100000 in
set_option maxHeartbeats 4000000 in
theorem w_parses_81  {g : Nat} {S : St} {x1 : Int32} {x2 : Int32} {x3 : Int32} {x4 : Int64} {x6 : Int32} (C : CallFix p m c cX13_parses 12 s args tb RX13) (hr : meth.sig.returnType = none) (hk : meth.locks = false) {S' : St} (w : Wn Ym D T ρ S A s H locs) (hl : lv_has ls 12 [(0, .ref (ρ 0)), (1, .int x1), (2, .int x2), (3, .int x3), (4, .long x4), (6, .int x6)]) (h : m_parses_81 g S x1 x2 x3 x4 x6 = some S') : W p l e (rmN 1 25) s m args below meth c H locs 0 0 (MQ below (Qv Ym D T ρ A S') args s 0 0 A) (F0 m 81 ls []) := by
  unfold m_parses_81 at h
  refine lv_iconst (v := 0) C.1 C.2.1 dX13_parses_81 (by decide) ?_
  exact w_parses_82 C hr hk w (lv_sub hl [0, 1, 2, 3, 4, 5] rfl) h
set_option maxRecDepth 100000 in
set_option maxHeartbeats 4000000 in
theorem w_parses_41  {g : Nat} {S : St} {x1 : Int32} {x2 : Int32} {x3 : Int32} {x4 : Int64} {y1 : Int32} (C : CallFix p m c cX13_parses 12 s args tb RX13) (hr : meth.sig.returnType = none) (hk : meth.locks = false) {S' : St} (w : Wn Ym D T ρ S A s H locs) (hl : lv_has ls 12 [(0, .ref (ρ 0)), (1, .int x1), (2, .int x2), (3, .int x3), (4, .long x4)]) (h : m_parses_41 g S x1 x2 x3 x4 y1 = some S') : W p l e (rmN 1 25) s m args below meth c H locs 0 0 (MQ below (Qv Ym D T ρ A S') args s 0 0 A) (F0 m 41 ls [.int y1, .ref (ρ 0)]) := by
  unfold m_parses_41 at h
  refine lv_iconst (v := 2) C.1 C.2.1 dX13_parses_41 (by decide) ?_
  obtain ⟨S_3, hS_3, h⟩ := bnd h
  refine x_callVv (q := (RX13, TX13, 68)) (As := [.int y1, .int (2 : Int32)]) (rest := []) C w (k_refuse l D T ρ g H.size S hS_3) vM466 ⟨by decide, by decide⟩ obM (by decide) rfl rfl rfl hl.1 (Nat.le_of_ble_eq_true rfl) ⟨Nat.zero_le _, Nat.zero_le _⟩ dX13_parses_42 (fun H locs w => ?_)
  refine lv_aload_n C.1 C.2.1 dX13_parses_45 rfl (lv_at hl 0 rfl) ?_
  refine x_getI C w fM398 obM dX13_parses_46 ?_
  refine lv_if_eq (tgt := 53) C.1 C.2.1 dX13_parses_49 (by decide) (fun hc => ?_) (fun hc => ?_)
  · replace h := ift hc h
    refine lv_aload_n C.1 C.2.1 dX13_parses_53 rfl (lv_at hl 0 rfl) ?_
    refine x_getC C w 24 fM193 obM rfl dX13_parses_54 ?_
    refine lv_iload_n C.1 C.2.1 dX13_parses_57 rfl (lv_at hl 3 rfl) ?_
    obtain ⟨v_4, hv_4, h⟩ := bnd h
    refine x_iald C w obM24 hv_4 dX13_parses_58 ?_
    refine lv_istore (lv' := [(6, .int v_4), (0, .ref (ρ 0)), (1, .int x1), (2, .int x2), (3, .int x3), (4, .long x4)]) C.1 C.2.1 dX13_parses_59 hl (by decide) rfl (fun ls hl => ?_)
    refine lv_iload C.1 C.2.1 dX13_parses_61 (lv_at hl 0 rfl) ?_
    refine lv_if_le (tgt := 81) C.1 C.2.1 dX13_parses_63 (by decide) (fun hc => ?_) (fun hc => ?_)
    · replace h := ift hc h
      exact w_parses_81 C hr hk w (lv_sub hl [1, 2, 3, 4, 5, 0] rfl) h
    · replace h := iff0 hc h
      refine lv_aload_n C.1 C.2.1 dX13_parses_66 rfl (lv_at hl 1 rfl) ?_
      refine lv_iload_n C.1 C.2.1 dX13_parses_67 rfl (lv_at hl 4 rfl) ?_
      refine lv_iconst (v := 0) C.1 C.2.1 dX13_parses_68 (by decide) ?_
      obtain ⟨v_5, hv_5, h⟩ := bnd h
      refine x_callVi (q := (RX13, TX13, 68)) (As := [.int x3, .int (0 : Int32)]) (rest := []) C w (k_unitAt l D T ρ g H.size S_3 hv_5) vM470 ⟨by decide, by decide⟩ obM (by decide) rfl rfl rfl hl.1 (Nat.le_of_ble_eq_true rfl) ⟨Nat.zero_le _, Nat.zero_le _⟩ dX13_parses_69 (fun H locs w => ?_)
      refine lv_bipush (v := 45) C.1 C.2.1 dX13_parses_72 (by decide) ?_
      refine lv_icmp_ne (tgt := 81) C.1 C.2.1 dX13_parses_74 (by decide) (fun hc => ?_) (fun hc => ?_)
      · replace h := iff0 hc h
        exact w_parses_81 C hr hk w (lv_sub hl [1, 2, 3, 4, 5, 0] rfl) h
      · replace h := ift hc h
        refine lv_iconst (v := 1) C.1 C.2.1 dX13_parses_77 (by decide) ?_
        refine lv_goto (tgt := 82) C.1 C.2.1 dX13_parses_78 (by decide) ?_
        exact w_parses_82 C hr hk w (lv_sub hl [1, 2, 3, 4, 5, 0] rfl) h
  · replace h := iff0 hc h
    obtain rfl := som h
    exact x_vret C w hr hk dX13_parses_52
set_option maxRecDepth 100000 in
set_option maxHeartbeats 4000000 in
theorem w_parses_36  {g : Nat} {S : St} {x1 : Int32} {x2 : Int32} {x3 : Int32} {x4 : Int64} (C : CallFix p m c cX13_parses 12 s args tb RX13) (hr : meth.sig.returnType = none) (hk : meth.locks = false) {S' : St} (w : Wn Ym D T ρ S A s H locs) (hl : lv_has ls 12 [(0, .ref (ρ 0)), (1, .int x1), (2, .int x2), (3, .int x3), (4, .long x4)]) (h : m_parses_36 g S x1 x2 x3 x4 = some S') : W p l e (rmN 1 25) s m args below meth c H locs 0 0 (MQ below (Qv Ym D T ρ A S') args s 0 0 A) (F0 m 36 ls [.ref (ρ 0)]) := by
  unfold m_parses_36 at h
  refine lv_iconst (v := 1) C.1 C.2.1 dX13_parses_36 (by decide) ?_
  refine lv_goto (tgt := 41) C.1 C.2.1 dX13_parses_37 (by decide) ?_
  exact w_parses_41 C hr hk w (lv_sub hl [0, 1, 2, 3, 4] rfl) h
set_option maxRecDepth 100000 in
set_option maxHeartbeats 4000000 in
theorem w_parses_0  {g : Nat} {S : St} {x1 : Int32} {x2 : Int32} (C : CallFix p m c cX13_parses 12 s args tb RX13) (hr : meth.sig.returnType = none) (hk : meth.locks = false) {S' : St} (w : Wn Ym D T ρ S A s H locs) (hl : lv_has ls 12 [(0, .ref (ρ 0)), (1, .int x1), (2, .int x2)]) (h : m_parses g S x1 x2 = some S') : W p l e (rmN 1 25) s m args below meth c H locs 0 0 (MQ below (Qv Ym D T ρ A S') args s 0 0 A) (F0 m 0 ls []) := by
  unfold m_parses at h
  refine lv_aload_n C.1 C.2.1 dX13_parses_0 rfl (lv_at hl 0 rfl) ?_
  refine lv_iload_n C.1 C.2.1 dX13_parses_1 rfl (lv_at hl 2 rfl) ?_
  refine lv_iconst (v := 1) C.1 C.2.1 dX13_parses_2 (by decide) ?_
  refine lv_iadd C.1 C.2.1 dX13_parses_3 ?_
  obtain ⟨v_1, hv_1, h⟩ := bnd h
  refine x_callVi (q := (RX13, TX13, 68)) (As := [.int (x2 + (1 : Int32))]) (rest := []) C w (k_text l D T ρ g H.size S hv_1) vM463 ⟨by decide, by decide⟩ obM (by decide) rfl rfl rfl hl.1 (Nat.le_of_ble_eq_true rfl) ⟨Nat.zero_le _, Nat.zero_le _⟩ dX13_parses_4 (fun H locs w => ?_)
  refine lv_istore_n (lv' := [(3, .int v_1), (0, .ref (ρ 0)), (1, .int x1), (2, .int x2)]) C.1 C.2.1 dX13_parses_7 rfl hl (by decide) rfl (fun ls hl => ?_)
  refine lv_aload_n C.1 C.2.1 dX13_parses_8 rfl (lv_at hl 1 rfl) ?_
  refine lv_iload_n C.1 C.2.1 dX13_parses_9 rfl (lv_at hl 3 rfl) ?_
  refine lv_iconst (v := 2) C.1 C.2.1 dX13_parses_10 (by decide) ?_
  refine lv_iadd C.1 C.2.1 dX13_parses_11 ?_
  obtain ⟨v_2, hv_2, h⟩ := bnd h
  refine x_callVj (q := (RX13, TX13, 68)) (As := [.int (x2 + (2 : Int32))]) (rest := []) C w (k_value l D T ρ g H.size S hv_2) vM459 ⟨by decide, by decide⟩ obM (by decide) rfl rfl rfl hl.1 (Nat.le_of_ble_eq_true rfl) ⟨Nat.zero_le _, Nat.zero_le _⟩ dX13_parses_12 (fun H locs w => ?_)
  refine lv_lstore (lv' := [(4, .long v_2), (3, .int v_1), (0, .ref (ρ 0)), (1, .int x1), (2, .int x2)]) C.1 C.2.1 dX13_parses_15 hl (by decide) rfl (fun ls hl => ?_)
  refine lv_aload_n C.1 C.2.1 dX13_parses_17 rfl (lv_at hl 2 rfl) ?_
  refine lv_iload_n C.1 C.2.1 dX13_parses_18 rfl (lv_at hl 1 rfl) ?_
  refine lv_if_lt (tgt := 36) C.1 C.2.1 dX13_parses_19 (by decide) (fun hc => ?_) (fun hc => ?_)
  · replace h := ift hc h
    exact w_parses_36 C hr hk w (lv_sub hl [2, 3, 4, 1, 0] rfl) h
  · replace h := iff0 hc h
    refine lv_lload C.1 C.2.1 dX13_parses_22 (lv_at hl 0 rfl) ?_
    refine lv_ldc2 C.1 C.2.1 C.2.2.2.1 (C.2.2.2.2 _ nM684) dX13_parses_24 ?_
    refine lv_ldc2 C.1 C.2.1 C.2.2.2.1 (C.2.2.2.2 _ nM686) dX13_parses_27 ?_
    obtain ⟨v_3, hv_3, h⟩ := bnd h
    refine x_callSi (As := [.long v_2, .long (2 : Int64), .long (36 : Int64)]) (rest := [.ref (ρ 0)]) C w (k_isIn l D T ρ g H.size S hv_3) vM318 ⟨by decide, by decide⟩ rfl rfl hl.1 (Nat.le_of_ble_eq_true rfl) ⟨Nat.zero_le _, Nat.zero_le _⟩ dX13_parses_30 (fun H locs w => ?_)
    refine lv_if_ne (tgt := 40) C.1 C.2.1 dX13_parses_33 (by decide) (fun hc => ?_) (fun hc => ?_)
    · replace h := iff0 hc h
      refine lv_iconst (v := 0) C.1 C.2.1 dX13_parses_40 (by decide) ?_
      exact w_parses_41 C hr hk w (lv_sub hl [2, 3, 4, 1, 0] rfl) h
    · replace h := ift hc h
      exact w_parses_36 C hr hk w (lv_sub hl [2, 3, 4, 1, 0] rfl) h
end S_parses
set_option maxRecDepth 100000 in
theorem k_parses (l : Launch) (D : va_G) (T : Cy) (ρ : Nat → Nat) (g sz : Nat) (S : St) {x1 : Int32} {x2 : Int32} {S' : St} (h : m_parses g S x1 x2 = some S') : Mv l Ym D T ρ yX13_parses cX13_parses 12 none 1 25 S S' [.ref (ρ 0), .int x1, .int x2] sz :=
  x_in (by decide) (Nat.le_of_ble_eq_true rfl) (fun p e s m below meth c ls C hr hk w hl => w_parses_0 C hr hk w hl h)
