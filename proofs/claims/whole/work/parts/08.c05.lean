theorem dX12_length_0 : decode cX12_length 0 = .ok (.aload_n 0, 1) := by decide +kernel
theorem dX12_length_1 : decode cX12_length 1 = .ok (.getfield 46, 3) := by decide +kernel
theorem dX12_length_4 : decode cX12_length 4 = .ok (.iload_n 1, 1) := by decide +kernel
theorem dX12_length_5 : decode cX12_length 5 = .ok (.invokevirtual 124, 3) := by decide +kernel
theorem dX12_length_8 : decode cX12_length 8 = .ok (.istore_n 2, 1) := by decide +kernel
theorem dX12_length_9 : decode cX12_length 9 = .ok (.iload_n 2, 1) := by decide +kernel
theorem dX12_length_10 : decode cX12_length 10 = .ok (.iconst (-1), 1) := by decide +kernel
theorem dX12_length_11 : decode cX12_length 11 = .ok (.if_icmp .ne 7, 3) := by decide +kernel
theorem dX12_length_14 : decode cX12_length 14 = .ok (.iconst (-1), 1) := by decide +kernel
theorem dX12_length_15 : decode cX12_length 15 = .ok (.goto 14, 3) := by decide +kernel
theorem dX12_length_18 : decode cX12_length 18 = .ok (.aload_n 0, 1) := by decide +kernel
theorem dX12_length_19 : decode cX12_length 19 = .ok (.getfield 46, 3) := by decide +kernel
theorem dX12_length_22 : decode cX12_length 22 = .ok (.getfield 83, 3) := by decide +kernel
theorem dX12_length_25 : decode cX12_length 25 = .ok (.iload_n 2, 1) := by decide +kernel
theorem dX12_length_26 : decode cX12_length 26 = .ok (.invokevirtual 128, 3) := by decide +kernel
theorem dX12_length_29 : decode cX12_length 29 = .ok (.ireturn, 1) := by decide +kernel
def m_TL_length (g : Nat) (S : St) (x1 : Int32) : Option Int32 :=
(m_Bn_textOf g S x1).bind fun v_1 =>
if v_1 = (-1 : Int32) then (
  some (-1 : Int32)
) else (
  (m_Tx_sizeOf g S v_1).bind fun v_2 =>
  some v_2
)
section S_TL_length
variable {p : Program} {l : Launch} {e : Env} {s : State} {m : MethodId} {args : Array Value} {below : List Frame} {meth : Method} {c : Code} {H : Heap} {locs : List Loc} {ls : Array Slot} {D : va_G} {T : Cy} {ρ : Nat → Nat} {A : Nat → Prop}
set_option maxRecDepth 100000 in
set_option maxHeartbeats 4000000 in
theorem w_TL_length_0  {g : Nat} {S : St} {x1 : Int32} (C : CallFix p m c cX12_length 3 s args tb RX12) (hr : meth.sig.returnType = (some .int)) (hk : meth.locks = false) {r : Int32} (w : Wn Yc D T ρ S A s H locs) (hl : lv_has ls 3 [(0, .ref (ρ 0)), (1, .int x1)]) (h : m_TL_length g S x1 = some r) : W p l e (rmN 2 42) s m args below meth c H locs 0 0 (MQ below (Qi Yc D T ρ A S r) args s 0 0 A) (F0 m 0 ls []) := by
  unfold m_TL_length at h
  refine lv_aload_n C.1 C.2.1 dX12_length_0 rfl (lv_at hl 0 rfl) ?_
  refine x_getC C w 4 fX12_46 obC0 rfl dX12_length_1 ?_
  refine lv_iload_n C.1 C.2.1 dX12_length_4 rfl (lv_at hl 1 rfl) ?_
  obtain ⟨v_1, hv_1, h⟩ := bnd h
  refine x_callVi (q := (RX1, TX1, 12)) (As := [.int x1]) (rest := []) C w (k_Bn_textOf l D T ρ g H.size S hv_1) vX12_124 ⟨by decide, by decide⟩ obC4 (by decide) rfl rfl rfl hl.1 (Nat.le_of_ble_eq_true rfl) ⟨Nat.zero_le _, Nat.zero_le _⟩ dX12_length_5 (fun H locs w => ?_)
  refine lv_istore_n (lv' := [(2, .int v_1), (0, .ref (ρ 0)), (1, .int x1)]) C.1 C.2.1 dX12_length_8 rfl hl (by decide) rfl (fun ls hl => ?_)
  refine lv_iload_n C.1 C.2.1 dX12_length_9 rfl (lv_at hl 0 rfl) ?_
  refine lv_iconst (v := (-1)) C.1 C.2.1 dX12_length_10 (by decide) ?_
  refine lv_icmp_ne (tgt := 18) C.1 C.2.1 dX12_length_11 (by decide) (fun hc => ?_) (fun hc => ?_)
  · replace h := iff0 hc h
    refine lv_aload_n C.1 C.2.1 dX12_length_18 rfl (lv_at hl 1 rfl) ?_
    refine x_getC C w 4 fX12_46 obC0 rfl dX12_length_19 ?_
    refine x_getC C w 5 fX12_83 obC4 rfl dX12_length_22 ?_
    refine lv_iload_n C.1 C.2.1 dX12_length_25 rfl (lv_at hl 0 rfl) ?_
    obtain ⟨v_2, hv_2, h⟩ := bnd h
    refine x_callVi (q := (RX10, TX10, 5)) (As := [.int v_1]) (rest := []) C w (k_Tx_sizeOf l D T ρ g H.size S hv_2) vX12_128 ⟨by decide, by decide⟩ obC5 (by decide) rfl rfl rfl hl.1 (Nat.le_of_ble_eq_true rfl) ⟨Nat.zero_le _, Nat.zero_le _⟩ dX12_length_26 (fun H locs w => ?_)
    obtain rfl := som h
    exact x_iret C w hr hk dX12_length_29
  · replace h := ift hc h
    refine lv_iconst (v := (-1)) C.1 C.2.1 dX12_length_14 (by decide) ?_
    refine lv_goto (tgt := 29) C.1 C.2.1 dX12_length_15 (by decide) ?_
    obtain rfl := som h
    exact x_iret C w hr hk dX12_length_29
end S_TL_length
set_option maxRecDepth 100000 in
theorem k_TL_length (l : Launch) (D : va_G) (T : Cy) (ρ : Nat → Nat) (g sz : Nat) (S : St) {x1 : Int32} {r : Int32} (h : m_TL_length g S x1 = some r) : Mi l Yc D T ρ yX12_length cX12_length 3 (some .int) 2 42 S S r [.ref (ρ 0), .int x1] sz :=
  x_in (by decide) (Nat.le_of_ble_eq_true rfl) (fun p e s m below meth c ls C hr hk w hl => w_TL_length_0 C hr hk w hl h)

theorem dX12_unit_0 : decode cX12_unit 0 = .ok (.aload_n 0, 1) := by decide +kernel
theorem dX12_unit_1 : decode cX12_unit 1 = .ok (.getfield 46, 3) := by decide +kernel
theorem dX12_unit_4 : decode cX12_unit 4 = .ok (.getfield 83, 3) := by decide +kernel
theorem dX12_unit_7 : decode cX12_unit 7 = .ok (.aload_n 0, 1) := by decide +kernel
theorem dX12_unit_8 : decode cX12_unit 8 = .ok (.getfield 46, 3) := by decide +kernel
theorem dX12_unit_11 : decode cX12_unit 11 = .ok (.iload_n 1, 1) := by decide +kernel
theorem dX12_unit_12 : decode cX12_unit 12 = .ok (.invokevirtual 124, 3) := by decide +kernel
theorem dX12_unit_15 : decode cX12_unit 15 = .ok (.iload_n 2, 1) := by decide +kernel
theorem dX12_unit_16 : decode cX12_unit 16 = .ok (.invokevirtual 131, 3) := by decide +kernel
theorem dX12_unit_19 : decode cX12_unit 19 = .ok (.ireturn, 1) := by decide +kernel
def m_TL_unit (g : Nat) (S : St) (x1 : Int32) (x2 : Int32) : Option Int32 :=
(m_Bn_textOf g S x1).bind fun v_1 =>
(m_Tx_unitOf g S v_1 x2).bind fun v_2 =>
some v_2
section S_TL_unit
variable {p : Program} {l : Launch} {e : Env} {s : State} {m : MethodId} {args : Array Value} {below : List Frame} {meth : Method} {c : Code} {H : Heap} {locs : List Loc} {ls : Array Slot} {D : va_G} {T : Cy} {ρ : Nat → Nat} {A : Nat → Prop}
set_option maxRecDepth 100000 in
set_option maxHeartbeats 4000000 in
theorem w_TL_unit_0  {g : Nat} {S : St} {x1 : Int32} {x2 : Int32} (C : CallFix p m c cX12_unit 3 s args tb RX12) (hr : meth.sig.returnType = (some .int)) (hk : meth.locks = false) {r : Int32} (w : Wn Yc D T ρ S A s H locs) (hl : lv_has ls 3 [(0, .ref (ρ 0)), (1, .int x1), (2, .int x2)]) (h : m_TL_unit g S x1 x2 = some r) : W p l e (rmN 3 64) s m args below meth c H locs 0 0 (MQ below (Qi Yc D T ρ A S r) args s 0 0 A) (F0 m 0 ls []) := by
  unfold m_TL_unit at h
  refine lv_aload_n C.1 C.2.1 dX12_unit_0 rfl (lv_at hl 0 rfl) ?_
  refine x_getC C w 4 fX12_46 obC0 rfl dX12_unit_1 ?_
  refine x_getC C w 5 fX12_83 obC4 rfl dX12_unit_4 ?_
  refine lv_aload_n C.1 C.2.1 dX12_unit_7 rfl (lv_at hl 0 rfl) ?_
  refine x_getC C w 4 fX12_46 obC0 rfl dX12_unit_8 ?_
  refine lv_iload_n C.1 C.2.1 dX12_unit_11 rfl (lv_at hl 1 rfl) ?_
  obtain ⟨v_1, hv_1, h⟩ := bnd h
  refine x_callVi (q := (RX1, TX1, 12)) (As := [.int x1]) (rest := [.ref (ρ 5)]) C w (k_Bn_textOf l D T ρ g H.size S hv_1) vX12_124 ⟨by decide, by decide⟩ obC4 (by decide) rfl rfl rfl hl.1 (Nat.le_of_ble_eq_true rfl) ⟨Nat.zero_le _, Nat.zero_le _⟩ dX12_unit_12 (fun H locs w => ?_)
  refine lv_iload_n C.1 C.2.1 dX12_unit_15 rfl (lv_at hl 2 rfl) ?_
  obtain ⟨v_2, hv_2, h⟩ := bnd h
  refine x_callVi (q := (RX10, TX10, 5)) (As := [.int v_1, .int x2]) (rest := []) C w (k_Tx_unitOf l D T ρ g H.size S hv_2) vX12_131 ⟨by decide, by decide⟩ obC5 (by decide) rfl rfl rfl hl.1 (Nat.le_of_ble_eq_true rfl) ⟨Nat.zero_le _, Nat.zero_le _⟩ dX12_unit_16 (fun H locs w => ?_)
  obtain rfl := som h
  exact x_iret C w hr hk dX12_unit_19
end S_TL_unit
set_option maxRecDepth 100000 in
theorem k_TL_unit (l : Launch) (D : va_G) (T : Cy) (ρ : Nat → Nat) (g sz : Nat) (S : St) {x1 : Int32} {x2 : Int32} {r : Int32} (h : m_TL_unit g S x1 x2 = some r) : Mi l Yc D T ρ yX12_unit cX12_unit 3 (some .int) 3 64 S S r [.ref (ρ 0), .int x1, .int x2] sz :=
  x_in (by decide) (Nat.le_of_ble_eq_true rfl) (fun p e s m below meth c ls C hr hk w hl => w_TL_unit_0 C hr hk w hl h)

theorem dX12_hash_0 : decode cX12_hash 0 = .ok (.aload_n 0, 1) := by decide +kernel
theorem dX12_hash_1 : decode cX12_hash 1 = .ok (.getfield 46, 3) := by decide +kernel
theorem dX12_hash_4 : decode cX12_hash 4 = .ok (.iload_n 1, 1) := by decide +kernel
theorem dX12_hash_5 : decode cX12_hash 5 = .ok (.invokevirtual 124, 3) := by decide +kernel
theorem dX12_hash_8 : decode cX12_hash 8 = .ok (.istore_n 2, 1) := by decide +kernel
theorem dX12_hash_9 : decode cX12_hash 9 = .ok (.iload_n 2, 1) := by decide +kernel
theorem dX12_hash_10 : decode cX12_hash 10 = .ok (.iconst (-1), 1) := by decide +kernel
theorem dX12_hash_11 : decode cX12_hash 11 = .ok (.if_icmp .ne 7, 3) := by decide +kernel
theorem dX12_hash_14 : decode cX12_hash 14 = .ok (.iconst 0, 1) := by decide +kernel
theorem dX12_hash_15 : decode cX12_hash 15 = .ok (.goto 14, 3) := by decide +kernel
theorem dX12_hash_18 : decode cX12_hash 18 = .ok (.aload_n 0, 1) := by decide +kernel
theorem dX12_hash_19 : decode cX12_hash 19 = .ok (.getfield 46, 3) := by decide +kernel
theorem dX12_hash_22 : decode cX12_hash 22 = .ok (.getfield 83, 3) := by decide +kernel
theorem dX12_hash_25 : decode cX12_hash 25 = .ok (.iload_n 2, 1) := by decide +kernel
theorem dX12_hash_26 : decode cX12_hash 26 = .ok (.invokevirtual 134, 3) := by decide +kernel
theorem dX12_hash_29 : decode cX12_hash 29 = .ok (.ireturn, 1) := by decide +kernel
def m_TL_hash (g : Nat) (S : St) (x1 : Int32) : Option Int32 :=
(m_Bn_textOf g S x1).bind fun v_1 =>
if v_1 = (-1 : Int32) then (
  some (0 : Int32)
) else (
  (m_Tx_hashOf g S v_1).bind fun v_2 =>
  some v_2
)
section S_TL_hash
variable {p : Program} {l : Launch} {e : Env} {s : State} {m : MethodId} {args : Array Value} {below : List Frame} {meth : Method} {c : Code} {H : Heap} {locs : List Loc} {ls : Array Slot} {D : va_G} {T : Cy} {ρ : Nat → Nat} {A : Nat → Prop}
set_option maxRecDepth 100000 in
set_option maxHeartbeats 4000000 in
theorem w_TL_hash_0  {g : Nat} {S : St} {x1 : Int32} (C : CallFix p m c cX12_hash 3 s args tb RX12) (hr : meth.sig.returnType = (some .int)) (hk : meth.locks = false) {r : Int32} (w : Wn Yc D T ρ S A s H locs) (hl : lv_has ls 3 [(0, .ref (ρ 0)), (1, .int x1)]) (h : m_TL_hash g S x1 = some r) : W p l e (rmN 2 45) s m args below meth c H locs 0 0 (MQ below (Qi Yc D T ρ A S r) args s 0 0 A) (F0 m 0 ls []) := by
  unfold m_TL_hash at h
  refine lv_aload_n C.1 C.2.1 dX12_hash_0 rfl (lv_at hl 0 rfl) ?_
  refine x_getC C w 4 fX12_46 obC0 rfl dX12_hash_1 ?_
  refine lv_iload_n C.1 C.2.1 dX12_hash_4 rfl (lv_at hl 1 rfl) ?_
  obtain ⟨v_1, hv_1, h⟩ := bnd h
  refine x_callVi (q := (RX1, TX1, 12)) (As := [.int x1]) (rest := []) C w (k_Bn_textOf l D T ρ g H.size S hv_1) vX12_124 ⟨by decide, by decide⟩ obC4 (by decide) rfl rfl rfl hl.1 (Nat.le_of_ble_eq_true rfl) ⟨Nat.zero_le _, Nat.zero_le _⟩ dX12_hash_5 (fun H locs w => ?_)
  refine lv_istore_n (lv' := [(2, .int v_1), (0, .ref (ρ 0)), (1, .int x1)]) C.1 C.2.1 dX12_hash_8 rfl hl (by decide) rfl (fun ls hl => ?_)
  refine lv_iload_n C.1 C.2.1 dX12_hash_9 rfl (lv_at hl 0 rfl) ?_
  refine lv_iconst (v := (-1)) C.1 C.2.1 dX12_hash_10 (by decide) ?_
  refine lv_icmp_ne (tgt := 18) C.1 C.2.1 dX12_hash_11 (by decide) (fun hc => ?_) (fun hc => ?_)
  · replace h := iff0 hc h
    refine lv_aload_n C.1 C.2.1 dX12_hash_18 rfl (lv_at hl 1 rfl) ?_
    refine x_getC C w 4 fX12_46 obC0 rfl dX12_hash_19 ?_
    refine x_getC C w 5 fX12_83 obC4 rfl dX12_hash_22 ?_
    refine lv_iload_n C.1 C.2.1 dX12_hash_25 rfl (lv_at hl 0 rfl) ?_
    obtain ⟨v_2, hv_2, h⟩ := bnd h
    refine x_callVi (q := (RX10, TX10, 5)) (As := [.int v_1]) (rest := []) C w (k_Tx_hashOf l D T ρ g H.size S hv_2) vX12_134 ⟨by decide, by decide⟩ obC5 (by decide) rfl rfl rfl hl.1 (Nat.le_of_ble_eq_true rfl) ⟨Nat.zero_le _, Nat.zero_le _⟩ dX12_hash_26 (fun H locs w => ?_)
    obtain rfl := som h
    exact x_iret C w hr hk dX12_hash_29
  · replace h := ift hc h
    refine lv_iconst (v := 0) C.1 C.2.1 dX12_hash_14 (by decide) ?_
    refine lv_goto (tgt := 29) C.1 C.2.1 dX12_hash_15 (by decide) ?_
    obtain rfl := som h
    exact x_iret C w hr hk dX12_hash_29
end S_TL_hash
set_option maxRecDepth 100000 in
theorem k_TL_hash (l : Launch) (D : va_G) (T : Cy) (ρ : Nat → Nat) (g sz : Nat) (S : St) {x1 : Int32} {r : Int32} (h : m_TL_hash g S x1 = some r) : Mi l Yc D T ρ yX12_hash cX12_hash 3 (some .int) 2 45 S S r [.ref (ρ 0), .int x1] sz :=
  x_in (by decide) (Nat.le_of_ble_eq_true rfl) (fun p e s m below meth c ls C hr hk w hl => w_TL_hash_0 C hr hk w hl h)

theorem dX12_same_0 : decode cX12_same 0 = .ok (.iload_n 1, 1) := by decide +kernel
theorem dX12_same_1 : decode cX12_same 1 = .ok (.ifCond .lt 19, 3) := by decide +kernel
theorem dX12_same_4 : decode cX12_same 4 = .ok (.iload_n 1, 1) := by decide +kernel
theorem dX12_same_5 : decode cX12_same 5 = .ok (.bipush 20, 2) := by decide +kernel
theorem dX12_same_7 : decode cX12_same 7 = .ok (.if_icmp .ge 13, 3) := by decide +kernel
theorem dX12_same_10 : decode cX12_same 10 = .ok (.iload_n 2, 1) := by decide +kernel
theorem dX12_same_11 : decode cX12_same 11 = .ok (.ifCond .lt 9, 3) := by decide +kernel
theorem dX12_same_14 : decode cX12_same 14 = .ok (.iload_n 2, 1) := by decide +kernel
theorem dX12_same_15 : decode cX12_same 15 = .ok (.bipush 20, 2) := by decide +kernel
theorem dX12_same_17 : decode cX12_same 17 = .ok (.if_icmp .lt 5, 3) := by decide +kernel
theorem dX12_same_20 : decode cX12_same 20 = .ok (.iconst (-1), 1) := by decide +kernel
theorem dX12_same_21 : decode cX12_same 21 = .ok (.ireturn, 1) := by decide +kernel
theorem dX12_same_22 : decode cX12_same 22 = .ok (.aload_n 0, 1) := by decide +kernel
theorem dX12_same_23 : decode cX12_same 23 = .ok (.getfield 46, 3) := by decide +kernel
theorem dX12_same_26 : decode cX12_same 26 = .ok (.iload_n 1, 1) := by decide +kernel
theorem dX12_same_27 : decode cX12_same 27 = .ok (.invokevirtual 124, 3) := by decide +kernel
theorem dX12_same_30 : decode cX12_same 30 = .ok (.istore_n 3, 1) := by decide +kernel
theorem dX12_same_31 : decode cX12_same 31 = .ok (.iload_n 3, 1) := by decide +kernel
theorem dX12_same_32 : decode cX12_same 32 = .ok (.iconst (-1), 1) := by decide +kernel
theorem dX12_same_33 : decode cX12_same 33 = .ok (.if_icmp .eq 19, 3) := by decide +kernel
theorem dX12_same_36 : decode cX12_same 36 = .ok (.iload_n 3, 1) := by decide +kernel
theorem dX12_same_37 : decode cX12_same 37 = .ok (.aload_n 0, 1) := by decide +kernel
theorem dX12_same_38 : decode cX12_same 38 = .ok (.getfield 46, 3) := by decide +kernel
theorem dX12_same_41 : decode cX12_same 41 = .ok (.iload_n 2, 1) := by decide +kernel
theorem dX12_same_42 : decode cX12_same 42 = .ok (.invokevirtual 124, 3) := by decide +kernel
theorem dX12_same_45 : decode cX12_same 45 = .ok (.if_icmp .ne 7, 3) := by decide +kernel
theorem dX12_same_48 : decode cX12_same 48 = .ok (.iconst 1, 1) := by decide +kernel
theorem dX12_same_49 : decode cX12_same 49 = .ok (.goto 4, 3) := by decide +kernel
theorem dX12_same_52 : decode cX12_same 52 = .ok (.iconst 0, 1) := by decide +kernel
theorem dX12_same_53 : decode cX12_same 53 = .ok (.ireturn, 1) := by decide +kernel
def m_TL_same (g : Nat) (S : St) (x1 : Int32) (x2 : Int32) : Option Int32 :=
if x1 < 0 then (
  some (-1 : Int32)
) else (
  if (20 : Int32) ≤ x1 then (
    some (-1 : Int32)
  ) else (
    if x2 < 0 then (
      some (-1 : Int32)
    ) else (
      if x2 < (20 : Int32) then (
        (m_Bn_textOf g S x1).bind fun v_1 =>
        if v_1 = (-1 : Int32) then (
          some (0 : Int32)
        ) else (
          (m_Bn_textOf g S x2).bind fun v_2 =>
          if v_1 = v_2 then (
            some (1 : Int32)
          ) else (
            some (0 : Int32)
          )
        )
      ) else (
        some (-1 : Int32)
      )
    )
  )
)
section S_TL_same
variable {p : Program} {l : Launch} {e : Env} {s : State} {m : MethodId} {args : Array Value} {below : List Frame} {meth : Method} {c : Code} {H : Heap} {locs : List Loc} {ls : Array Slot} {D : va_G} {T : Cy} {ρ : Nat → Nat} {A : Nat → Prop}
set_option maxRecDepth 100000 in
set_option maxHeartbeats 4000000 in
theorem w_TL_same_0  {g : Nat} {S : St} {x1 : Int32} {x2 : Int32} (C : CallFix p m c cX12_same 4 s args tb RX12) (hr : meth.sig.returnType = (some .int)) (hk : meth.locks = false) {r : Int32} (w : Wn Yc D T ρ S A s H locs) (hl : lv_has ls 4 [(0, .ref (ρ 0)), (1, .int x1), (2, .int x2)]) (h : m_TL_same g S x1 x2 = some r) : W p l e (rmN 1 21) s m args below meth c H locs 0 0 (MQ below (Qi Yc D T ρ A S r) args s 0 0 A) (F0 m 0 ls []) := by
  unfold m_TL_same at h
  refine lv_iload_n C.1 C.2.1 dX12_same_0 rfl (lv_at hl 1 rfl) ?_
  refine lv_if_lt (tgt := 20) C.1 C.2.1 dX12_same_1 (by decide) (fun hc => ?_) (fun hc => ?_)
  · replace h := ift hc h
    refine lv_iconst (v := (-1)) C.1 C.2.1 dX12_same_20 (by decide) ?_
    obtain rfl := som h
    exact x_iret C w hr hk dX12_same_21
  · replace h := iff0 hc h
    refine lv_iload_n C.1 C.2.1 dX12_same_4 rfl (lv_at hl 1 rfl) ?_
    refine lv_bipush (v := 20) C.1 C.2.1 dX12_same_5 (by decide) ?_
    refine lv_icmp_ge (tgt := 20) C.1 C.2.1 dX12_same_7 (by decide) (fun hc => ?_) (fun hc => ?_)
    · replace h := ift hc h
      refine lv_iconst (v := (-1)) C.1 C.2.1 dX12_same_20 (by decide) ?_
      obtain rfl := som h
      exact x_iret C w hr hk dX12_same_21
    · replace h := iff0 hc h
      refine lv_iload_n C.1 C.2.1 dX12_same_10 rfl (lv_at hl 2 rfl) ?_
      refine lv_if_lt (tgt := 20) C.1 C.2.1 dX12_same_11 (by decide) (fun hc => ?_) (fun hc => ?_)
      · replace h := ift hc h
        refine lv_iconst (v := (-1)) C.1 C.2.1 dX12_same_20 (by decide) ?_
        obtain rfl := som h
        exact x_iret C w hr hk dX12_same_21
      · replace h := iff0 hc h
        refine lv_iload_n C.1 C.2.1 dX12_same_14 rfl (lv_at hl 2 rfl) ?_
        refine lv_bipush (v := 20) C.1 C.2.1 dX12_same_15 (by decide) ?_
        refine lv_icmp_lt (tgt := 22) C.1 C.2.1 dX12_same_17 (by decide) (fun hc => ?_) (fun hc => ?_)
        · replace h := ift hc h
          refine lv_aload_n C.1 C.2.1 dX12_same_22 rfl (lv_at hl 0 rfl) ?_
          refine x_getC C w 4 fX12_46 obC0 rfl dX12_same_23 ?_
          refine lv_iload_n C.1 C.2.1 dX12_same_26 rfl (lv_at hl 1 rfl) ?_
          obtain ⟨v_1, hv_1, h⟩ := bnd h
          refine x_callVi (q := (RX1, TX1, 12)) (As := [.int x1]) (rest := []) C w (k_Bn_textOf l D T ρ g H.size S hv_1) vX12_124 ⟨by decide, by decide⟩ obC4 (by decide) rfl rfl rfl hl.1 (Nat.le_of_ble_eq_true rfl) ⟨Nat.zero_le _, Nat.zero_le _⟩ dX12_same_27 (fun H locs w => ?_)
          refine lv_istore_n (lv' := [(3, .int v_1), (0, .ref (ρ 0)), (1, .int x1), (2, .int x2)]) C.1 C.2.1 dX12_same_30 rfl hl (by decide) rfl (fun ls hl => ?_)
          refine lv_iload_n C.1 C.2.1 dX12_same_31 rfl (lv_at hl 0 rfl) ?_
          refine lv_iconst (v := (-1)) C.1 C.2.1 dX12_same_32 (by decide) ?_
          refine lv_icmp_eq (tgt := 52) C.1 C.2.1 dX12_same_33 (by decide) (fun hc => ?_) (fun hc => ?_)
          · replace h := ift hc h
            refine lv_iconst (v := 0) C.1 C.2.1 dX12_same_52 (by decide) ?_
            obtain rfl := som h
            exact x_iret C w hr hk dX12_same_53
          · replace h := iff0 hc h
            refine lv_iload_n C.1 C.2.1 dX12_same_36 rfl (lv_at hl 0 rfl) ?_
            refine lv_aload_n C.1 C.2.1 dX12_same_37 rfl (lv_at hl 1 rfl) ?_
            refine x_getC C w 4 fX12_46 obC0 rfl dX12_same_38 ?_
            refine lv_iload_n C.1 C.2.1 dX12_same_41 rfl (lv_at hl 3 rfl) ?_
            obtain ⟨v_2, hv_2, h⟩ := bnd h
            refine x_callVi (q := (RX1, TX1, 12)) (As := [.int x2]) (rest := [.int v_1]) C w (k_Bn_textOf l D T ρ g H.size S hv_2) vX12_124 ⟨by decide, by decide⟩ obC4 (by decide) rfl rfl rfl hl.1 (Nat.le_of_ble_eq_true rfl) ⟨Nat.zero_le _, Nat.zero_le _⟩ dX12_same_42 (fun H locs w => ?_)
            refine lv_icmp_ne (tgt := 52) C.1 C.2.1 dX12_same_45 (by decide) (fun hc => ?_) (fun hc => ?_)
            · replace h := iff0 hc h
              refine lv_iconst (v := 0) C.1 C.2.1 dX12_same_52 (by decide) ?_
              obtain rfl := som h
              exact x_iret C w hr hk dX12_same_53
            · replace h := ift hc h
              refine lv_iconst (v := 1) C.1 C.2.1 dX12_same_48 (by decide) ?_
              refine lv_goto (tgt := 53) C.1 C.2.1 dX12_same_49 (by decide) ?_
              obtain rfl := som h
              exact x_iret C w hr hk dX12_same_53
        · replace h := iff0 hc h
          refine lv_iconst (v := (-1)) C.1 C.2.1 dX12_same_20 (by decide) ?_
          obtain rfl := som h
          exact x_iret C w hr hk dX12_same_21
end S_TL_same
set_option maxRecDepth 100000 in
theorem k_TL_same (l : Launch) (D : va_G) (T : Cy) (ρ : Nat → Nat) (g sz : Nat) (S : St) {x1 : Int32} {x2 : Int32} {r : Int32} (h : m_TL_same g S x1 x2 = some r) : Mi l Yc D T ρ yX12_same cX12_same 4 (some .int) 1 21 S S r [.ref (ρ 0), .int x1, .int x2] sz :=
  x_in (by decide) (Nat.le_of_ble_eq_true rfl) (fun p e s m below meth c ls C hr hk w hl => w_TL_same_0 C hr hk w hl h)

theorem dX12_pooled_0 : decode cX12_pooled 0 = .ok (.aload_n 0, 1) := by decide +kernel
theorem dX12_pooled_1 : decode cX12_pooled 1 = .ok (.getfield 46, 3) := by decide +kernel
theorem dX12_pooled_4 : decode cX12_pooled 4 = .ok (.iload_n 1, 1) := by decide +kernel
theorem dX12_pooled_5 : decode cX12_pooled 5 = .ok (.invokevirtual 124, 3) := by decide +kernel
theorem dX12_pooled_8 : decode cX12_pooled 8 = .ok (.istore_n 2, 1) := by decide +kernel
theorem dX12_pooled_9 : decode cX12_pooled 9 = .ok (.iload_n 2, 1) := by decide +kernel
theorem dX12_pooled_10 : decode cX12_pooled 10 = .ok (.iconst (-1), 1) := by decide +kernel
theorem dX12_pooled_11 : decode cX12_pooled 11 = .ok (.if_icmp .ne 5, 3) := by decide +kernel
theorem dX12_pooled_14 : decode cX12_pooled 14 = .ok (.iconst (-1), 1) := by decide +kernel
theorem dX12_pooled_15 : decode cX12_pooled 15 = .ok (.ireturn, 1) := by decide +kernel
theorem dX12_pooled_16 : decode cX12_pooled 16 = .ok (.aload_n 0, 1) := by decide +kernel
theorem dX12_pooled_17 : decode cX12_pooled 17 = .ok (.getfield 46, 3) := by decide +kernel
theorem dX12_pooled_20 : decode cX12_pooled 20 = .ok (.getfield 83, 3) := by decide +kernel
theorem dX12_pooled_23 : decode cX12_pooled 23 = .ok (.getfield 137, 3) := by decide +kernel
theorem dX12_pooled_26 : decode cX12_pooled 26 = .ok (.iload_n 2, 1) := by decide +kernel
theorem dX12_pooled_27 : decode cX12_pooled 27 = .ok (.invokevirtual 140, 3) := by decide +kernel
theorem dX12_pooled_30 : decode cX12_pooled 30 = .ok (.iconst (-1), 1) := by decide +kernel
theorem dX12_pooled_31 : decode cX12_pooled 31 = .ok (.if_icmp .ne 7, 3) := by decide +kernel
theorem dX12_pooled_34 : decode cX12_pooled 34 = .ok (.iconst 0, 1) := by decide +kernel
theorem dX12_pooled_35 : decode cX12_pooled 35 = .ok (.goto 4, 3) := by decide +kernel
theorem dX12_pooled_38 : decode cX12_pooled 38 = .ok (.iconst 1, 1) := by decide +kernel
theorem dX12_pooled_39 : decode cX12_pooled 39 = .ok (.ireturn, 1) := by decide +kernel
def m_TL_pooled (g : Nat) (S : St) (x1 : Int32) : Option Int32 :=
(m_Bn_textOf g S x1).bind fun v_1 =>
if v_1 = (-1 : Int32) then (
  some (-1 : Int32)
) else (
  (m_Row_placeOf g S 20 v_1).bind fun v_2 =>
  if v_2 = (-1 : Int32) then (
    some (0 : Int32)
  ) else (
    some (1 : Int32)
  )
)
section S_TL_pooled
variable {p : Program} {l : Launch} {e : Env} {s : State} {m : MethodId} {args : Array Value} {below : List Frame} {meth : Method} {c : Code} {H : Heap} {locs : List Loc} {ls : Array Slot} {D : va_G} {T : Cy} {ρ : Nat → Nat} {A : Nat → Prop}
set_option maxRecDepth 100000 in
set_option maxHeartbeats 4000000 in
theorem w_TL_pooled_0  {g : Nat} {S : St} {x1 : Int32} (C : CallFix p m c cX12_pooled 3 s args tb RX12) (hr : meth.sig.returnType = (some .int)) (hk : meth.locks = false) {r : Int32} (w : Wn Yc D T ρ S A s H locs) (hl : lv_has ls 3 [(0, .ref (ρ 0)), (1, .int x1)]) (h : m_TL_pooled g S x1 = some r) : W p l e (rmN 1 22) s m args below meth c H locs 0 0 (MQ below (Qi Yc D T ρ A S r) args s 0 0 A) (F0 m 0 ls []) := by
  unfold m_TL_pooled at h
  refine lv_aload_n C.1 C.2.1 dX12_pooled_0 rfl (lv_at hl 0 rfl) ?_
  refine x_getC C w 4 fX12_46 obC0 rfl dX12_pooled_1 ?_
  refine lv_iload_n C.1 C.2.1 dX12_pooled_4 rfl (lv_at hl 1 rfl) ?_
  obtain ⟨v_1, hv_1, h⟩ := bnd h
  refine x_callVi (q := (RX1, TX1, 12)) (As := [.int x1]) (rest := []) C w (k_Bn_textOf l D T ρ g H.size S hv_1) vX12_124 ⟨by decide, by decide⟩ obC4 (by decide) rfl rfl rfl hl.1 (Nat.le_of_ble_eq_true rfl) ⟨Nat.zero_le _, Nat.zero_le _⟩ dX12_pooled_5 (fun H locs w => ?_)
  refine lv_istore_n (lv' := [(2, .int v_1), (0, .ref (ρ 0)), (1, .int x1)]) C.1 C.2.1 dX12_pooled_8 rfl hl (by decide) rfl (fun ls hl => ?_)
  refine lv_iload_n C.1 C.2.1 dX12_pooled_9 rfl (lv_at hl 0 rfl) ?_
  refine lv_iconst (v := (-1)) C.1 C.2.1 dX12_pooled_10 (by decide) ?_
  refine lv_icmp_ne (tgt := 16) C.1 C.2.1 dX12_pooled_11 (by decide) (fun hc => ?_) (fun hc => ?_)
  · replace h := iff0 hc h
    refine lv_aload_n C.1 C.2.1 dX12_pooled_16 rfl (lv_at hl 1 rfl) ?_
    refine x_getC C w 4 fX12_46 obC0 rfl dX12_pooled_17 ?_
    refine x_getC C w 5 fX12_83 obC4 rfl dX12_pooled_20 ?_
    refine x_getC C w 20 fX12_137 obC5 rfl dX12_pooled_23 ?_
    refine lv_iload_n C.1 C.2.1 dX12_pooled_26 rfl (lv_at hl 0 rfl) ?_
    obtain ⟨v_2, hv_2, h⟩ := bnd h
    refine x_callVi (q := (RX6, TX6, 4)) (As := [.int v_1]) (rest := []) C w (k_Row_placeOf l D T ρ g H.size S obC20 hv_2) vX12_140 ⟨by decide, by decide⟩ obC20 (by decide) rfl rfl rfl hl.1 (Nat.le_of_ble_eq_true rfl) ⟨Nat.zero_le _, Nat.zero_le _⟩ dX12_pooled_27 (fun H locs w => ?_)
    refine lv_iconst (v := (-1)) C.1 C.2.1 dX12_pooled_30 (by decide) ?_
    refine lv_icmp_ne (tgt := 38) C.1 C.2.1 dX12_pooled_31 (by decide) (fun hc => ?_) (fun hc => ?_)
    · replace h := iff0 hc h
      refine lv_iconst (v := 1) C.1 C.2.1 dX12_pooled_38 (by decide) ?_
      obtain rfl := som h
      exact x_iret C w hr hk dX12_pooled_39
    · replace h := ift hc h
      refine lv_iconst (v := 0) C.1 C.2.1 dX12_pooled_34 (by decide) ?_
      refine lv_goto (tgt := 39) C.1 C.2.1 dX12_pooled_35 (by decide) ?_
      obtain rfl := som h
      exact x_iret C w hr hk dX12_pooled_39
  · replace h := ift hc h
    refine lv_iconst (v := (-1)) C.1 C.2.1 dX12_pooled_14 (by decide) ?_
    obtain rfl := som h
    exact x_iret C w hr hk dX12_pooled_15
end S_TL_pooled
set_option maxRecDepth 100000 in
theorem k_TL_pooled (l : Launch) (D : va_G) (T : Cy) (ρ : Nat → Nat) (g sz : Nat) (S : St) {x1 : Int32} {r : Int32} (h : m_TL_pooled g S x1 = some r) : Mi l Yc D T ρ yX12_pooled cX12_pooled 3 (some .int) 1 22 S S r [.ref (ρ 0), .int x1] sz :=
  x_in (by decide) (Nat.le_of_ble_eq_true rfl) (fun p e s m below meth c ls C hr hk w hl => w_TL_pooled_0 C hr hk w hl h)

theorem dX12_pool_0 : decode cX12_pool 0 = .ok (.aload_n 0, 1) := by decide +kernel
theorem dX12_pool_1 : decode cX12_pool 1 = .ok (.getfield 46, 3) := by decide +kernel
theorem dX12_pool_4 : decode cX12_pool 4 = .ok (.getfield 83, 3) := by decide +kernel
theorem dX12_pool_7 : decode cX12_pool 7 = .ok (.getfield 137, 3) := by decide +kernel
theorem dX12_pool_10 : decode cX12_pool 10 = .ok (.getfield 59, 3) := by decide +kernel
theorem dX12_pool_13 : decode cX12_pool 13 = .ok (.ireturn, 1) := by decide +kernel
def m_TL_pool (g : Nat) (S : St) : Option Int32 :=
some (gI S 20 2)
section S_TL_pool
variable {p : Program} {l : Launch} {e : Env} {s : State} {m : MethodId} {args : Array Value} {below : List Frame} {meth : Method} {c : Code} {H : Heap} {locs : List Loc} {ls : Array Slot} {D : va_G} {T : Cy} {ρ : Nat → Nat} {A : Nat → Prop}
set_option maxRecDepth 100000 in
set_option maxHeartbeats 4000000 in
theorem w_TL_pool_0  {g : Nat} {S : St} (C : CallFix p m c cX12_pool 1 s args tb RX12) (hr : meth.sig.returnType = (some .int)) (hk : meth.locks = false) {r : Int32} (w : Wn Yc D T ρ S A s H locs) (hl : lv_has ls 1 [(0, .ref (ρ 0))]) (h : m_TL_pool g S = some r) : W p l e (rmN 0 0) s m args below meth c H locs 0 0 (MQ below (Qi Yc D T ρ A S r) args s 0 0 A) (F0 m 0 ls []) := by
  unfold m_TL_pool at h
  refine lv_aload_n C.1 C.2.1 dX12_pool_0 rfl (lv_at hl 0 rfl) ?_
  refine x_getC C w 4 fX12_46 obC0 rfl dX12_pool_1 ?_
  refine x_getC C w 5 fX12_83 obC4 rfl dX12_pool_4 ?_
  refine x_getC C w 20 fX12_137 obC5 rfl dX12_pool_7 ?_
  refine x_getI C w fX12_59 obC20 dX12_pool_10 ?_
  obtain rfl := som h
  exact x_iret C w hr hk dX12_pool_13
end S_TL_pool
set_option maxRecDepth 100000 in
theorem k_TL_pool (l : Launch) (D : va_G) (T : Cy) (ρ : Nat → Nat) (g sz : Nat) (S : St) {r : Int32} (h : m_TL_pool g S = some r) : Mi l Yc D T ρ yX12_pool cX12_pool 1 (some .int) 0 0 S S r [.ref (ρ 0)] sz :=
  x_in (by decide) (Nat.le_of_ble_eq_true rfl) (fun p e s m below meth c ls C hr hk w hl => w_TL_pool_0 C hr hk w hl h)

theorem dX12_whole_0 : decode cX12_whole 0 = .ok (.iload_n 1, 1) := by decide +kernel
theorem dX12_whole_1 : decode cX12_whole 1 = .ok (.ifCond .lt 9, 3) := by decide +kernel
theorem dX12_whole_4 : decode cX12_whole 4 = .ok (.iload_n 1, 1) := by decide +kernel
theorem dX12_whole_5 : decode cX12_whole 5 = .ok (.bipush 12, 2) := by decide +kernel
theorem dX12_whole_7 : decode cX12_whole 7 = .ok (.if_icmp .lt 7, 3) := by decide +kernel
theorem dX12_whole_10 : decode cX12_whole 10 = .ok (.lconst 0, 1) := by decide +kernel
theorem dX12_whole_11 : decode cX12_whole 11 = .ok (.goto 12, 3) := by decide +kernel
theorem dX12_whole_14 : decode cX12_whole 14 = .ok (.aload_n 0, 1) := by decide +kernel
theorem dX12_whole_15 : decode cX12_whole 15 = .ok (.getfield 46, 3) := by decide +kernel
theorem dX12_whole_18 : decode cX12_whole 18 = .ok (.getfield 143, 3) := by decide +kernel
theorem dX12_whole_21 : decode cX12_whole 21 = .ok (.iload_n 1, 1) := by decide +kernel
theorem dX12_whole_22 : decode cX12_whole 22 = .ok (.laload, 1) := by decide +kernel
theorem dX12_whole_23 : decode cX12_whole 23 = .ok (.lreturn, 1) := by decide +kernel
def m_TL_whole (g : Nat) (S : St) (x1 : Int32) : Option Int64 :=
if x1 < 0 then (
  some (0 : Int64)
) else (
  if x1 < (12 : Int32) then (
    (aJ S 75 x1).bind fun v_1 =>
    some v_1
  ) else (
    some (0 : Int64)
  )
)
section S_TL_whole
variable {p : Program} {l : Launch} {e : Env} {s : State} {m : MethodId} {args : Array Value} {below : List Frame} {meth : Method} {c : Code} {H : Heap} {locs : List Loc} {ls : Array Slot} {D : va_G} {T : Cy} {ρ : Nat → Nat} {A : Nat → Prop}
set_option maxRecDepth 100000 in
set_option maxHeartbeats 4000000 in
theorem w_TL_whole_0  {g : Nat} {S : St} {x1 : Int32} (C : CallFix p m c cX12_whole 2 s args tb RX12) (hr : meth.sig.returnType = (some .long)) (hk : meth.locks = false) {r : Int64} (w : Wn Yc D T ρ S A s H locs) (hl : lv_has ls 2 [(0, .ref (ρ 0)), (1, .int x1)]) (h : m_TL_whole g S x1 = some r) : W p l e (rmN 0 0) s m args below meth c H locs 0 0 (MQ below (Qj Yc D T ρ A S r) args s 0 0 A) (F0 m 0 ls []) := by
  unfold m_TL_whole at h
  refine lv_iload_n C.1 C.2.1 dX12_whole_0 rfl (lv_at hl 1 rfl) ?_
  refine lv_if_lt (tgt := 10) C.1 C.2.1 dX12_whole_1 (by decide) (fun hc => ?_) (fun hc => ?_)
  · replace h := ift hc h
    refine lv_lconst (v := 0) C.1 C.2.1 dX12_whole_10 (by decide) ?_
    refine lv_goto (tgt := 23) C.1 C.2.1 dX12_whole_11 (by decide) ?_
    obtain rfl := som h
    exact x_lret C w hr hk dX12_whole_23
  · replace h := iff0 hc h
    refine lv_iload_n C.1 C.2.1 dX12_whole_4 rfl (lv_at hl 1 rfl) ?_
    refine lv_bipush (v := 12) C.1 C.2.1 dX12_whole_5 (by decide) ?_
    refine lv_icmp_lt (tgt := 14) C.1 C.2.1 dX12_whole_7 (by decide) (fun hc => ?_) (fun hc => ?_)
    · replace h := ift hc h
      refine lv_aload_n C.1 C.2.1 dX12_whole_14 rfl (lv_at hl 0 rfl) ?_
      refine x_getC C w 4 fX12_46 obC0 rfl dX12_whole_15 ?_
      refine x_getC C w 75 fX12_143 obC4 rfl dX12_whole_18 ?_
      refine lv_iload_n C.1 C.2.1 dX12_whole_21 rfl (lv_at hl 1 rfl) ?_
      obtain ⟨v_1, hv_1, h⟩ := bnd h
      refine x_lald C w obC75 hv_1 dX12_whole_22 ?_
      obtain rfl := som h
      exact x_lret C w hr hk dX12_whole_23
    · replace h := iff0 hc h
      refine lv_lconst (v := 0) C.1 C.2.1 dX12_whole_10 (by decide) ?_
      refine lv_goto (tgt := 23) C.1 C.2.1 dX12_whole_11 (by decide) ?_
      obtain rfl := som h
      exact x_lret C w hr hk dX12_whole_23
end S_TL_whole
set_option maxRecDepth 100000 in
theorem k_TL_whole (l : Launch) (D : va_G) (T : Cy) (ρ : Nat → Nat) (g sz : Nat) (S : St) {x1 : Int32} {r : Int64} (h : m_TL_whole g S x1 = some r) : Mj l Yc D T ρ yX12_whole cX12_whole 2 (some .long) 0 0 S S r [.ref (ρ 0), .int x1] sz :=
  x_in (by decide) (Nat.le_of_ble_eq_true rfl) (fun p e s m below meth c ls C hr hk w hl => w_TL_whole_0 C hr hk w hl h)

theorem dX12_builder_0 : decode cX12_builder 0 = .ok (.aload_n 0, 1) := by decide +kernel
theorem dX12_builder_1 : decode cX12_builder 1 = .ok (.getfield 46, 3) := by decide +kernel
theorem dX12_builder_4 : decode cX12_builder 4 = .ok (.iload_n 1, 1) := by decide +kernel
theorem dX12_builder_5 : decode cX12_builder 5 = .ok (.invokevirtual 147, 3) := by decide +kernel
theorem dX12_builder_8 : decode cX12_builder 8 = .ok (.ifCond .ne 5, 3) := by decide +kernel
theorem dX12_builder_11 : decode cX12_builder 11 = .ok (.iconst (-1), 1) := by decide +kernel
theorem dX12_builder_12 : decode cX12_builder 12 = .ok (.ireturn, 1) := by decide +kernel
theorem dX12_builder_13 : decode cX12_builder 13 = .ok (.iload_n 2, 1) := by decide +kernel
theorem dX12_builder_14 : decode cX12_builder 14 = .ok (.ifCond .ne 16, 3) := by decide +kernel
theorem dX12_builder_17 : decode cX12_builder 17 = .ok (.aload_n 0, 1) := by decide +kernel
theorem dX12_builder_18 : decode cX12_builder 18 = .ok (.getfield 46, 3) := by decide +kernel
theorem dX12_builder_21 : decode cX12_builder 21 = .ok (.getfield 151, 3) := by decide +kernel
theorem dX12_builder_24 : decode cX12_builder 24 = .ok (.iload_n 1, 1) := by decide +kernel
theorem dX12_builder_25 : decode cX12_builder 25 = .ok (.aaload, 1) := by decide +kernel
theorem dX12_builder_26 : decode cX12_builder 26 = .ok (.getfield 59, 3) := by decide +kernel
theorem dX12_builder_29 : decode cX12_builder 29 = .ok (.ireturn, 1) := by decide +kernel
theorem dX12_builder_30 : decode cX12_builder 30 = .ok (.iload_n 2, 1) := by decide +kernel
theorem dX12_builder_31 : decode cX12_builder 31 = .ok (.iconst 1, 1) := by decide +kernel
theorem dX12_builder_32 : decode cX12_builder 32 = .ok (.if_icmp .ne 15, 3) := by decide +kernel
theorem dX12_builder_35 : decode cX12_builder 35 = .ok (.aload_n 0, 1) := by decide +kernel
theorem dX12_builder_36 : decode cX12_builder 36 = .ok (.getfield 46, 3) := by decide +kernel
theorem dX12_builder_39 : decode cX12_builder 39 = .ok (.getfield 155, 3) := by decide +kernel
theorem dX12_builder_42 : decode cX12_builder 42 = .ok (.iload_n 1, 1) := by decide +kernel
theorem dX12_builder_43 : decode cX12_builder 43 = .ok (.iaload, 1) := by decide +kernel
theorem dX12_builder_44 : decode cX12_builder 44 = .ok (.goto 4, 3) := by decide +kernel
theorem dX12_builder_47 : decode cX12_builder 47 = .ok (.iconst (-1), 1) := by decide +kernel
theorem dX12_builder_48 : decode cX12_builder 48 = .ok (.ireturn, 1) := by decide +kernel
def m_TL_builder (g : Nat) (S : St) (x1 : Int32) (x2 : Int32) : Option Int32 :=
(m_Bn_hasBuilder g S x1).bind fun v_1 =>
if v_1 = 0 then (
  some (-1 : Int32)
) else (
  if x2 = 0 then (
    (bR S x1).bind fun r_3 =>
    some (gI S r_3 2)
  ) else (
    if x2 = (1 : Int32) then (
      (aI S 77 x1).bind fun v_2 =>
      some v_2
    ) else (
      some (-1 : Int32)
    )
  )
)
section S_TL_builder
variable {p : Program} {l : Launch} {e : Env} {s : State} {m : MethodId} {args : Array Value} {below : List Frame} {meth : Method} {c : Code} {H : Heap} {locs : List Loc} {ls : Array Slot} {D : va_G} {T : Cy} {ρ : Nat → Nat} {A : Nat → Prop}
set_option maxRecDepth 100000 in
set_option maxHeartbeats 4000000 in
theorem w_TL_builder_0  {g : Nat} {S : St} {x1 : Int32} {x2 : Int32} (C : CallFix p m c cX12_builder 3 s args tb RX12) (hr : meth.sig.returnType = (some .int)) (hk : meth.locks = false) {r : Int32} (w : Wn Yc D T ρ S A s H locs) (hl : lv_has ls 3 [(0, .ref (ρ 0)), (1, .int x1), (2, .int x2)]) (h : m_TL_builder g S x1 x2 = some r) : W p l e (rmN 1 21) s m args below meth c H locs 0 0 (MQ below (Qi Yc D T ρ A S r) args s 0 0 A) (F0 m 0 ls []) := by
  unfold m_TL_builder at h
  refine lv_aload_n C.1 C.2.1 dX12_builder_0 rfl (lv_at hl 0 rfl) ?_
  refine x_getC C w 4 fX12_46 obC0 rfl dX12_builder_1 ?_
  refine lv_iload_n C.1 C.2.1 dX12_builder_4 rfl (lv_at hl 1 rfl) ?_
  obtain ⟨v_1, hv_1, h⟩ := bnd h
  refine x_callVi (q := (RX1, TX1, 12)) (As := [.int x1]) (rest := []) C w (k_Bn_hasBuilder l D T ρ g H.size S hv_1) vX12_147 ⟨by decide, by decide⟩ obC4 (by decide) rfl rfl rfl hl.1 (Nat.le_of_ble_eq_true rfl) ⟨Nat.zero_le _, Nat.zero_le _⟩ dX12_builder_5 (fun H locs w => ?_)
  refine lv_if_ne (tgt := 13) C.1 C.2.1 dX12_builder_8 (by decide) (fun hc => ?_) (fun hc => ?_)
  · replace h := iff0 hc h
    refine lv_iload_n C.1 C.2.1 dX12_builder_13 rfl (lv_at hl 2 rfl) ?_
    refine lv_if_ne (tgt := 30) C.1 C.2.1 dX12_builder_14 (by decide) (fun hc => ?_) (fun hc => ?_)
    · replace h := iff0 hc h
      refine lv_iload_n C.1 C.2.1 dX12_builder_30 rfl (lv_at hl 2 rfl) ?_
      refine lv_iconst (v := 1) C.1 C.2.1 dX12_builder_31 (by decide) ?_
      refine lv_icmp_ne (tgt := 47) C.1 C.2.1 dX12_builder_32 (by decide) (fun hc => ?_) (fun hc => ?_)
      · replace h := iff0 hc h
        refine lv_iconst (v := (-1)) C.1 C.2.1 dX12_builder_47 (by decide) ?_
        obtain rfl := som h
        exact x_iret C w hr hk dX12_builder_48
      · replace h := ift hc h
        refine lv_aload_n C.1 C.2.1 dX12_builder_35 rfl (lv_at hl 0 rfl) ?_
        refine x_getC C w 4 fX12_46 obC0 rfl dX12_builder_36 ?_
        refine x_getC C w 77 fX12_155 obC4 rfl dX12_builder_39 ?_
        refine lv_iload_n C.1 C.2.1 dX12_builder_42 rfl (lv_at hl 1 rfl) ?_
        obtain ⟨v_2, hv_2, h⟩ := bnd h
        refine x_iald C w obC77 hv_2 dX12_builder_43 ?_
        refine lv_goto (tgt := 48) C.1 C.2.1 dX12_builder_44 (by decide) ?_
        obtain rfl := som h
        exact x_iret C w hr hk dX12_builder_48
    · replace h := ift hc h
      refine lv_aload_n C.1 C.2.1 dX12_builder_17 rfl (lv_at hl 0 rfl) ?_
      refine x_getC C w 4 fX12_46 obC0 rfl dX12_builder_18 ?_
      refine x_getC C w 76 fX12_151 obC4 rfl dX12_builder_21 ?_
      refine lv_iload_n C.1 C.2.1 dX12_builder_24 rfl (lv_at hl 1 rfl) ?_
      obtain ⟨r_3, hr_3, h⟩ := bnd h
      refine x_bald C w hr_3 dX12_builder_25 ?_
      refine x_getI C w fX12_59 (bR_ob hr_3) dX12_builder_26 ?_
      obtain rfl := som h
      exact x_iret C w hr hk dX12_builder_29
  · replace h := ift hc h
    refine lv_iconst (v := (-1)) C.1 C.2.1 dX12_builder_11 (by decide) ?_
    obtain rfl := som h
    exact x_iret C w hr hk dX12_builder_12
end S_TL_builder
set_option maxRecDepth 100000 in
theorem k_TL_builder (l : Launch) (D : va_G) (T : Cy) (ρ : Nat → Nat) (g sz : Nat) (S : St) {x1 : Int32} {x2 : Int32} {r : Int32} (h : m_TL_builder g S x1 x2 = some r) : Mi l Yc D T ρ yX12_builder cX12_builder 3 (some .int) 1 21 S S r [.ref (ρ 0), .int x1, .int x2] sz :=
  x_in (by decide) (Nat.le_of_ble_eq_true rfl) (fun p e s m below meth c ls C hr hk w hl => w_TL_builder_0 C hr hk w hl h)

theorem dX12_builderUnit_0 : decode cX12_builderUnit 0 = .ok (.aload_n 0, 1) := by decide +kernel
theorem dX12_builderUnit_1 : decode cX12_builderUnit 1 = .ok (.getfield 46, 3) := by decide +kernel
theorem dX12_builderUnit_4 : decode cX12_builderUnit 4 = .ok (.iload_n 1, 1) := by decide +kernel
theorem dX12_builderUnit_5 : decode cX12_builderUnit 5 = .ok (.invokevirtual 147, 3) := by decide +kernel
theorem dX12_builderUnit_8 : decode cX12_builderUnit 8 = .ok (.ifCond .eq 19, 3) := by decide +kernel
theorem dX12_builderUnit_11 : decode cX12_builderUnit 11 = .ok (.aload_n 0, 1) := by decide +kernel
theorem dX12_builderUnit_12 : decode cX12_builderUnit 12 = .ok (.getfield 46, 3) := by decide +kernel
theorem dX12_builderUnit_15 : decode cX12_builderUnit 15 = .ok (.getfield 151, 3) := by decide +kernel
theorem dX12_builderUnit_18 : decode cX12_builderUnit 18 = .ok (.iload_n 1, 1) := by decide +kernel
theorem dX12_builderUnit_19 : decode cX12_builderUnit 19 = .ok (.aaload, 1) := by decide +kernel
theorem dX12_builderUnit_20 : decode cX12_builderUnit 20 = .ok (.iload_n 2, 1) := by decide +kernel
theorem dX12_builderUnit_21 : decode cX12_builderUnit 21 = .ok (.invokevirtual 158, 3) := by decide +kernel
theorem dX12_builderUnit_24 : decode cX12_builderUnit 24 = .ok (.goto 4, 3) := by decide +kernel
theorem dX12_builderUnit_27 : decode cX12_builderUnit 27 = .ok (.iconst (-1), 1) := by decide +kernel
theorem dX12_builderUnit_28 : decode cX12_builderUnit 28 = .ok (.ireturn, 1) := by decide +kernel
def m_TL_builderUnit (g : Nat) (S : St) (x1 : Int32) (x2 : Int32) : Option Int32 :=
(m_Bn_hasBuilder g S x1).bind fun v_1 =>
if v_1 = 0 then (
  some (-1 : Int32)
) else (
  (bR S x1).bind fun r_2 =>
  (m_Row_at g S r_2 x2).bind fun v_3 =>
  some v_3
)
section S_TL_builderUnit
variable {p : Program} {l : Launch} {e : Env} {s : State} {m : MethodId} {args : Array Value} {below : List Frame} {meth : Method} {c : Code} {H : Heap} {locs : List Loc} {ls : Array Slot} {D : va_G} {T : Cy} {ρ : Nat → Nat} {A : Nat → Prop}
set_option maxRecDepth 100000 in
set_option maxHeartbeats 4000000 in
theorem w_TL_builderUnit_0  {g : Nat} {S : St} {x1 : Int32} {x2 : Int32} (C : CallFix p m c cX12_builderUnit 3 s args tb RX12) (hr : meth.sig.returnType = (some .int)) (hk : meth.locks = false) {r : Int32} (w : Wn Yc D T ρ S A s H locs) (hl : lv_has ls 3 [(0, .ref (ρ 0)), (1, .int x1), (2, .int x2)]) (h : m_TL_builderUnit g S x1 x2 = some r) : W p l e (rmN 1 21) s m args below meth c H locs 0 0 (MQ below (Qi Yc D T ρ A S r) args s 0 0 A) (F0 m 0 ls []) := by
  unfold m_TL_builderUnit at h
  refine lv_aload_n C.1 C.2.1 dX12_builderUnit_0 rfl (lv_at hl 0 rfl) ?_
  refine x_getC C w 4 fX12_46 obC0 rfl dX12_builderUnit_1 ?_
  refine lv_iload_n C.1 C.2.1 dX12_builderUnit_4 rfl (lv_at hl 1 rfl) ?_
  obtain ⟨v_1, hv_1, h⟩ := bnd h
  refine x_callVi (q := (RX1, TX1, 12)) (As := [.int x1]) (rest := []) C w (k_Bn_hasBuilder l D T ρ g H.size S hv_1) vX12_147 ⟨by decide, by decide⟩ obC4 (by decide) rfl rfl rfl hl.1 (Nat.le_of_ble_eq_true rfl) ⟨Nat.zero_le _, Nat.zero_le _⟩ dX12_builderUnit_5 (fun H locs w => ?_)
  refine lv_if_eq (tgt := 27) C.1 C.2.1 dX12_builderUnit_8 (by decide) (fun hc => ?_) (fun hc => ?_)
  · replace h := ift hc h
    refine lv_iconst (v := (-1)) C.1 C.2.1 dX12_builderUnit_27 (by decide) ?_
    obtain rfl := som h
    exact x_iret C w hr hk dX12_builderUnit_28
  · replace h := iff0 hc h
    refine lv_aload_n C.1 C.2.1 dX12_builderUnit_11 rfl (lv_at hl 0 rfl) ?_
    refine x_getC C w 4 fX12_46 obC0 rfl dX12_builderUnit_12 ?_
    refine x_getC C w 76 fX12_151 obC4 rfl dX12_builderUnit_15 ?_
    refine lv_iload_n C.1 C.2.1 dX12_builderUnit_18 rfl (lv_at hl 1 rfl) ?_
    obtain ⟨r_2, hr_2, h⟩ := bnd h
    refine x_bald C w hr_2 dX12_builderUnit_19 ?_
    refine lv_iload_n C.1 C.2.1 dX12_builderUnit_20 rfl (lv_at hl 2 rfl) ?_
    obtain ⟨v_3, hv_3, h⟩ := bnd h
    refine x_callVi (q := (RX6, TX6, 4)) (As := [.int x2]) (rest := []) C w (k_Row_at l D T ρ g H.size S (bR_ob hr_2) hv_3) vX12_158 ⟨by decide, by decide⟩ (bR_ob hr_2) (by decide) rfl rfl rfl hl.1 (Nat.le_of_ble_eq_true rfl) ⟨Nat.zero_le _, Nat.zero_le _⟩ dX12_builderUnit_21 (fun H locs w => ?_)
    refine lv_goto (tgt := 28) C.1 C.2.1 dX12_builderUnit_24 (by decide) ?_
    obtain rfl := som h
    exact x_iret C w hr hk dX12_builderUnit_28
end S_TL_builderUnit
set_option maxRecDepth 100000 in
theorem k_TL_builderUnit (l : Launch) (D : va_G) (T : Cy) (ρ : Nat → Nat) (g sz : Nat) (S : St) {x1 : Int32} {x2 : Int32} {r : Int32} (h : m_TL_builderUnit g S x1 x2 = some r) : Mi l Yc D T ρ yX12_builderUnit cX12_builderUnit 3 (some .int) 1 21 S S r [.ref (ρ 0), .int x1, .int x2] sz :=
  x_in (by decide) (Nat.le_of_ble_eq_true rfl) (fun p e s m below meth c ls C hr hk w hl => w_TL_builderUnit_0 C hr hk w hl h)

theorem dX12_parts_0 : decode cX12_parts 0 = .ok (.aload_n 0, 1) := by decide +kernel
theorem dX12_parts_1 : decode cX12_parts 1 = .ok (.getfield 46, 3) := by decide +kernel
theorem dX12_parts_4 : decode cX12_parts 4 = .ok (.getfield 161, 3) := by decide +kernel
theorem dX12_parts_7 : decode cX12_parts 7 = .ok (.getfield 59, 3) := by decide +kernel
theorem dX12_parts_10 : decode cX12_parts 10 = .ok (.ireturn, 1) := by decide +kernel
def m_TL_parts (g : Nat) (S : St) : Option Int32 :=
some (gI S 22 2)
section S_TL_parts
variable {p : Program} {l : Launch} {e : Env} {s : State} {m : MethodId} {args : Array Value} {below : List Frame} {meth : Method} {c : Code} {H : Heap} {locs : List Loc} {ls : Array Slot} {D : va_G} {T : Cy} {ρ : Nat → Nat} {A : Nat → Prop}
set_option maxRecDepth 100000 in
set_option maxHeartbeats 4000000 in
theorem w_TL_parts_0  {g : Nat} {S : St} (C : CallFix p m c cX12_parts 1 s args tb RX12) (hr : meth.sig.returnType = (some .int)) (hk : meth.locks = false) {r : Int32} (w : Wn Yc D T ρ S A s H locs) (hl : lv_has ls 1 [(0, .ref (ρ 0))]) (h : m_TL_parts g S = some r) : W p l e (rmN 0 0) s m args below meth c H locs 0 0 (MQ below (Qi Yc D T ρ A S r) args s 0 0 A) (F0 m 0 ls []) := by
  unfold m_TL_parts at h
  refine lv_aload_n C.1 C.2.1 dX12_parts_0 rfl (lv_at hl 0 rfl) ?_
  refine x_getC C w 4 fX12_46 obC0 rfl dX12_parts_1 ?_
  refine x_getC C w 22 fX12_161 obC4 rfl dX12_parts_4 ?_
  refine x_getI C w fX12_59 obC22 dX12_parts_7 ?_
  obtain rfl := som h
  exact x_iret C w hr hk dX12_parts_10
end S_TL_parts
set_option maxRecDepth 100000 in
theorem k_TL_parts (l : Launch) (D : va_G) (T : Cy) (ρ : Nat → Nat) (g sz : Nat) (S : St) {r : Int32} (h : m_TL_parts g S = some r) : Mi l Yc D T ρ yX12_parts cX12_parts 1 (some .int) 0 0 S S r [.ref (ρ 0)] sz :=
  x_in (by decide) (Nat.le_of_ble_eq_true rfl) (fun p e s m below meth c ls C hr hk w hl => w_TL_parts_0 C hr hk w hl h)

theorem dX12_partUnit_0 : decode cX12_partUnit 0 = .ok (.aload_n 0, 1) := by decide +kernel
theorem dX12_partUnit_1 : decode cX12_partUnit 1 = .ok (.getfield 46, 3) := by decide +kernel
theorem dX12_partUnit_4 : decode cX12_partUnit 4 = .ok (.getfield 83, 3) := by decide +kernel
theorem dX12_partUnit_7 : decode cX12_partUnit 7 = .ok (.aload_n 0, 1) := by decide +kernel
theorem dX12_partUnit_8 : decode cX12_partUnit 8 = .ok (.getfield 46, 3) := by decide +kernel
theorem dX12_partUnit_11 : decode cX12_partUnit 11 = .ok (.getfield 161, 3) := by decide +kernel
theorem dX12_partUnit_14 : decode cX12_partUnit 14 = .ok (.iload_n 1, 1) := by decide +kernel
theorem dX12_partUnit_15 : decode cX12_partUnit 15 = .ok (.invokevirtual 158, 3) := by decide +kernel
theorem dX12_partUnit_18 : decode cX12_partUnit 18 = .ok (.iload_n 2, 1) := by decide +kernel
theorem dX12_partUnit_19 : decode cX12_partUnit 19 = .ok (.invokevirtual 131, 3) := by decide +kernel
theorem dX12_partUnit_22 : decode cX12_partUnit 22 = .ok (.ireturn, 1) := by decide +kernel
def m_TL_partUnit (g : Nat) (S : St) (x1 : Int32) (x2 : Int32) : Option Int32 :=
(m_Row_at g S 22 x1).bind fun v_1 =>
(m_Tx_unitOf g S v_1 x2).bind fun v_2 =>
some v_2
section S_TL_partUnit
variable {p : Program} {l : Launch} {e : Env} {s : State} {m : MethodId} {args : Array Value} {below : List Frame} {meth : Method} {c : Code} {H : Heap} {locs : List Loc} {ls : Array Slot} {D : va_G} {T : Cy} {ρ : Nat → Nat} {A : Nat → Prop}
set_option maxRecDepth 100000 in
set_option maxHeartbeats 4000000 in
theorem w_TL_partUnit_0  {g : Nat} {S : St} {x1 : Int32} {x2 : Int32} (C : CallFix p m c cX12_partUnit 3 s args tb RX12) (hr : meth.sig.returnType = (some .int)) (hk : meth.locks = false) {r : Int32} (w : Wn Yc D T ρ S A s H locs) (hl : lv_has ls 3 [(0, .ref (ρ 0)), (1, .int x1), (2, .int x2)]) (h : m_TL_partUnit g S x1 x2 = some r) : W p l e (rmN 3 64) s m args below meth c H locs 0 0 (MQ below (Qi Yc D T ρ A S r) args s 0 0 A) (F0 m 0 ls []) := by
  unfold m_TL_partUnit at h
  refine lv_aload_n C.1 C.2.1 dX12_partUnit_0 rfl (lv_at hl 0 rfl) ?_
  refine x_getC C w 4 fX12_46 obC0 rfl dX12_partUnit_1 ?_
  refine x_getC C w 5 fX12_83 obC4 rfl dX12_partUnit_4 ?_
  refine lv_aload_n C.1 C.2.1 dX12_partUnit_7 rfl (lv_at hl 0 rfl) ?_
  refine x_getC C w 4 fX12_46 obC0 rfl dX12_partUnit_8 ?_
  refine x_getC C w 22 fX12_161 obC4 rfl dX12_partUnit_11 ?_
  refine lv_iload_n C.1 C.2.1 dX12_partUnit_14 rfl (lv_at hl 1 rfl) ?_
  obtain ⟨v_1, hv_1, h⟩ := bnd h
  refine x_callVi (q := (RX6, TX6, 4)) (As := [.int x1]) (rest := [.ref (ρ 5)]) C w (k_Row_at l D T ρ g H.size S obC22 hv_1) vX12_158 ⟨by decide, by decide⟩ obC22 (by decide) rfl rfl rfl hl.1 (Nat.le_of_ble_eq_true rfl) ⟨Nat.zero_le _, Nat.zero_le _⟩ dX12_partUnit_15 (fun H locs w => ?_)
  refine lv_iload_n C.1 C.2.1 dX12_partUnit_18 rfl (lv_at hl 2 rfl) ?_
  obtain ⟨v_2, hv_2, h⟩ := bnd h
  refine x_callVi (q := (RX10, TX10, 5)) (As := [.int v_1, .int x2]) (rest := []) C w (k_Tx_unitOf l D T ρ g H.size S hv_2) vX12_131 ⟨by decide, by decide⟩ obC5 (by decide) rfl rfl rfl hl.1 (Nat.le_of_ble_eq_true rfl) ⟨Nat.zero_le _, Nat.zero_le _⟩ dX12_partUnit_19 (fun H locs w => ?_)
  obtain rfl := som h
  exact x_iret C w hr hk dX12_partUnit_22
end S_TL_partUnit
set_option maxRecDepth 100000 in
theorem k_TL_partUnit (l : Launch) (D : va_G) (T : Cy) (ρ : Nat → Nat) (g sz : Nat) (S : St) {x1 : Int32} {x2 : Int32} {r : Int32} (h : m_TL_partUnit g S x1 x2 = some r) : Mi l Yc D T ρ yX12_partUnit cX12_partUnit 3 (some .int) 3 64 S S r [.ref (ρ 0), .int x1, .int x2] sz :=
  x_in (by decide) (Nat.le_of_ble_eq_true rfl) (fun p e s m below meth c ls C hr hk w hl => w_TL_partUnit_0 C hr hk w hl h)

theorem dX12_partOf_0 : decode cX12_partOf 0 = .ok (.aload_n 0, 1) := by decide +kernel
theorem dX12_partOf_1 : decode cX12_partOf 1 = .ok (.getfield 46, 3) := by decide +kernel
theorem dX12_partOf_4 : decode cX12_partOf 4 = .ok (.getfield 161, 3) := by decide +kernel
theorem dX12_partOf_7 : decode cX12_partOf 7 = .ok (.iload_n 1, 1) := by decide +kernel
theorem dX12_partOf_8 : decode cX12_partOf 8 = .ok (.invokevirtual 158, 3) := by decide +kernel
theorem dX12_partOf_11 : decode cX12_partOf 11 = .ok (.istore_n 2, 1) := by decide +kernel
theorem dX12_partOf_12 : decode cX12_partOf 12 = .ok (.iload_n 2, 1) := by decide +kernel
theorem dX12_partOf_13 : decode cX12_partOf 13 = .ok (.iconst (-1), 1) := by decide +kernel
theorem dX12_partOf_14 : decode cX12_partOf 14 = .ok (.if_icmp .ne 5, 3) := by decide +kernel
theorem dX12_partOf_17 : decode cX12_partOf 17 = .ok (.iconst (-1), 1) := by decide +kernel
theorem dX12_partOf_18 : decode cX12_partOf 18 = .ok (.ireturn, 1) := by decide +kernel
theorem dX12_partOf_19 : decode cX12_partOf 19 = .ok (.iconst 0, 1) := by decide +kernel
theorem dX12_partOf_20 : decode cX12_partOf 20 = .ok (.istore_n 3, 1) := by decide +kernel
theorem dX12_partOf_21 : decode cX12_partOf 21 = .ok (.iload_n 3, 1) := by decide +kernel
theorem dX12_partOf_22 : decode cX12_partOf 22 = .ok (.bipush 20, 2) := by decide +kernel
theorem dX12_partOf_24 : decode cX12_partOf 24 = .ok (.if_icmp .ge 23, 3) := by decide +kernel
theorem dX12_partOf_27 : decode cX12_partOf 27 = .ok (.aload_n 0, 1) := by decide +kernel
theorem dX12_partOf_28 : decode cX12_partOf 28 = .ok (.getfield 46, 3) := by decide +kernel
theorem dX12_partOf_31 : decode cX12_partOf 31 = .ok (.iload_n 3, 1) := by decide +kernel
theorem dX12_partOf_32 : decode cX12_partOf 32 = .ok (.invokevirtual 124, 3) := by decide +kernel
theorem dX12_partOf_35 : decode cX12_partOf 35 = .ok (.iload_n 2, 1) := by decide +kernel
theorem dX12_partOf_36 : decode cX12_partOf 36 = .ok (.if_icmp .ne 5, 3) := by decide +kernel
theorem dX12_partOf_39 : decode cX12_partOf 39 = .ok (.iload_n 3, 1) := by decide +kernel
theorem dX12_partOf_40 : decode cX12_partOf 40 = .ok (.ireturn, 1) := by decide +kernel
theorem dX12_partOf_41 : decode cX12_partOf 41 = .ok (.iinc 3 1, 3) := by decide +kernel
theorem dX12_partOf_44 : decode cX12_partOf 44 = .ok (.goto (-23), 3) := by decide +kernel
theorem dX12_partOf_47 : decode cX12_partOf 47 = .ok (.iconst (-1), 1) := by decide +kernel
theorem dX12_partOf_48 : decode cX12_partOf 48 = .ok (.ireturn, 1) := by decide +kernel
def b_TL_partOf_21 (g : Nat) (S : St) (k21 : Int32 → Int32 → Option Int32) (x2 : Int32) (x3 : Int32) : Option Int32 :=
if (20 : Int32) ≤ x3 then (
  some (-1 : Int32)
) else (
  (m_Bn_textOf g S x3).bind fun v_2 =>
  if v_2 = x2 then (
    some x3
  ) else (
    lt (x3 + (1 : Int32)) fun x3_3 =>
    k21 x2 x3_3
  )
)
def m_TL_partOf_21 (g : Nat) (S : St) : Nat → Int32 → Int32 → Option Int32
  | 0, _, _ => none
  | n + 1, x2, x3 => b_TL_partOf_21 g S (m_TL_partOf_21 g S n) x2 x3
def m_TL_partOf (g : Nat) (S : St) (x1 : Int32) : Option Int32 :=
(m_Row_at g S 22 x1).bind fun v_1 =>
if v_1 = (-1 : Int32) then (
  some (-1 : Int32)
) else (
  m_TL_partOf_21 g S g v_1 (0 : Int32)
)
section S_TL_partOf
variable {p : Program} {l : Launch} {e : Env} {s : State} {m : MethodId} {args : Array Value} {below : List Frame} {meth : Method} {c : Code} {H : Heap} {locs : List Loc} {ls : Array Slot} {D : va_G} {T : Cy} {ρ : Nat → Nat} {A : Nat → Prop}
set_option maxRecDepth 100000 in
set_option maxHeartbeats 4000000 in
theorem wb_TL_partOf_21  {g : Nat} {S : St} {x2 : Int32} {x3 : Int32} (C : CallFix p m c cX12_partOf 4 s args tb RX12) (hr : meth.sig.returnType = (some .int)) (hk : meth.locks = false) {r : Int32} {k21 : Int32 → Int32 → Option Int32} (kk21 : ∀ (x2 : Int32) (x3 : Int32) (H : Heap) (locs : List Loc) (ls : Array Slot), Wn Yc D T ρ S A s H locs → lv_has ls 4 [(0, .ref (ρ 0)), (2, .int x2), (3, .int x3)] → k21 x2 x3 = some r → W p l e (rmN 1 21) s m args below meth c H locs 0 0 (MQ below (Qi Yc D T ρ A S r) args s 0 0 A) (F0 m 21 ls [])) (w : Wn Yc D T ρ S A s H locs) (hl : lv_has ls 4 [(0, .ref (ρ 0)), (2, .int x2), (3, .int x3)]) (h : b_TL_partOf_21 g S k21 x2 x3 = some r) : W p l e (rmN 1 21) s m args below meth c H locs 0 0 (MQ below (Qi Yc D T ρ A S r) args s 0 0 A) (F0 m 21 ls []) := by
  unfold b_TL_partOf_21 at h
  refine lv_iload_n C.1 C.2.1 dX12_partOf_21 rfl (lv_at hl 2 rfl) ?_
  refine lv_bipush (v := 20) C.1 C.2.1 dX12_partOf_22 (by decide) ?_
  refine lv_icmp_ge (tgt := 47) C.1 C.2.1 dX12_partOf_24 (by decide) (fun hc => ?_) (fun hc => ?_)
  · replace h := ift hc h
    refine lv_iconst (v := (-1)) C.1 C.2.1 dX12_partOf_47 (by decide) ?_
    obtain rfl := som h
    exact x_iret C w hr hk dX12_partOf_48
  · replace h := iff0 hc h
    refine lv_aload_n C.1 C.2.1 dX12_partOf_27 rfl (lv_at hl 0 rfl) ?_
    refine x_getC C w 4 fX12_46 obC0 rfl dX12_partOf_28 ?_
    refine lv_iload_n C.1 C.2.1 dX12_partOf_31 rfl (lv_at hl 2 rfl) ?_
    obtain ⟨v_2, hv_2, h⟩ := bnd h
    refine x_callVi (q := (RX1, TX1, 12)) (As := [.int x3]) (rest := []) C w (k_Bn_textOf l D T ρ g H.size S hv_2) vX12_124 ⟨by decide, by decide⟩ obC4 (by decide) rfl rfl rfl hl.1 (Nat.le_of_ble_eq_true rfl) ⟨Nat.zero_le _, Nat.zero_le _⟩ dX12_partOf_32 (fun H locs w => ?_)
    refine lv_iload_n C.1 C.2.1 dX12_partOf_35 rfl (lv_at hl 1 rfl) ?_
    refine lv_icmp_ne (tgt := 41) C.1 C.2.1 dX12_partOf_36 (by decide) (fun hc => ?_) (fun hc => ?_)
    · replace h := iff0 hc h
      obtain ⟨x3_3, ex3_3, h⟩ := lt_e h
      refine lv_iinc (v := x3_3) (lv' := [(3, .int x3_3), (0, .ref (ρ 0)), (2, .int x2)]) C.1 C.2.1 dX12_partOf_41 hl (k := 2) rfl (by rw [ex3_3]; rfl) (by decide) rfl (fun ls hl => ?_)
      refine lv_goto (tgt := 21) C.1 C.2.1 dX12_partOf_44 (by decide) ?_
      exact kk21 _ _ _ _ _ w (lv_sub hl [1, 2, 0] rfl) h
    · replace h := ift hc h
      refine lv_iload_n C.1 C.2.1 dX12_partOf_39 rfl (lv_at hl 2 rfl) ?_
      obtain rfl := som h
      exact x_iret C w hr hk dX12_partOf_40
theorem w_TL_partOf_21 {g : Nat} {S : St} (C : CallFix p m c cX12_partOf 4 s args tb RX12) (hr : meth.sig.returnType = (some .int)) (hk : meth.locks = false) {r : Int32} (n : Nat) : ∀ (x2 : Int32) (x3 : Int32) (H : Heap) (locs : List Loc) (ls : Array Slot), Wn Yc D T ρ S A s H locs → lv_has ls 4 [(0, .ref (ρ 0)), (2, .int x2), (3, .int x3)] → m_TL_partOf_21 g S n x2 x3 = some r → W p l e (rmN 1 21) s m args below meth c H locs 0 0 (MQ below (Qi Yc D T ρ A S r) args s 0 0 A) (F0 m 21 ls []) := by
  induction n with
  | zero => intro x2 x3 H locs ls w hl h; exact absurd h (fun q => by cases q)
  | succ n ih => intro x2 x3 H locs ls w hl h; exact wb_TL_partOf_21 C hr hk ih w hl h
set_option maxRecDepth 100000 in
set_option maxHeartbeats 4000000 in
theorem w_TL_partOf_0  {g : Nat} {S : St} {x1 : Int32} (C : CallFix p m c cX12_partOf 4 s args tb RX12) (hr : meth.sig.returnType = (some .int)) (hk : meth.locks = false) {r : Int32} (w : Wn Yc D T ρ S A s H locs) (hl : lv_has ls 4 [(0, .ref (ρ 0)), (1, .int x1)]) (h : m_TL_partOf g S x1 = some r) : W p l e (rmN 1 21) s m args below meth c H locs 0 0 (MQ below (Qi Yc D T ρ A S r) args s 0 0 A) (F0 m 0 ls []) := by
  unfold m_TL_partOf at h
  refine lv_aload_n C.1 C.2.1 dX12_partOf_0 rfl (lv_at hl 0 rfl) ?_
  refine x_getC C w 4 fX12_46 obC0 rfl dX12_partOf_1 ?_
  refine x_getC C w 22 fX12_161 obC4 rfl dX12_partOf_4 ?_
  refine lv_iload_n C.1 C.2.1 dX12_partOf_7 rfl (lv_at hl 1 rfl) ?_
  obtain ⟨v_1, hv_1, h⟩ := bnd h
  refine x_callVi (q := (RX6, TX6, 4)) (As := [.int x1]) (rest := []) C w (k_Row_at l D T ρ g H.size S obC22 hv_1) vX12_158 ⟨by decide, by decide⟩ obC22 (by decide) rfl rfl rfl hl.1 (Nat.le_of_ble_eq_true rfl) ⟨Nat.zero_le _, Nat.zero_le _⟩ dX12_partOf_8 (fun H locs w => ?_)
  refine lv_istore_n (lv' := [(2, .int v_1), (0, .ref (ρ 0)), (1, .int x1)]) C.1 C.2.1 dX12_partOf_11 rfl hl (by decide) rfl (fun ls hl => ?_)
  refine lv_iload_n C.1 C.2.1 dX12_partOf_12 rfl (lv_at hl 0 rfl) ?_
  refine lv_iconst (v := (-1)) C.1 C.2.1 dX12_partOf_13 (by decide) ?_
  refine lv_icmp_ne (tgt := 19) C.1 C.2.1 dX12_partOf_14 (by decide) (fun hc => ?_) (fun hc => ?_)
  · replace h := iff0 hc h
    refine lv_iconst (v := 0) C.1 C.2.1 dX12_partOf_19 (by decide) ?_
    refine lv_istore_n (lv' := [(3, .int (0 : Int32)), (2, .int v_1), (0, .ref (ρ 0)), (1, .int x1)]) C.1 C.2.1 dX12_partOf_20 rfl hl (by decide) rfl (fun ls hl => ?_)
    exact w_TL_partOf_21 C hr hk g _ _ _ _ _ w (lv_sub hl [2, 1, 0] rfl) h
  · replace h := ift hc h
    refine lv_iconst (v := (-1)) C.1 C.2.1 dX12_partOf_17 (by decide) ?_
    obtain rfl := som h
    exact x_iret C w hr hk dX12_partOf_18
end S_TL_partOf
set_option maxRecDepth 100000 in
theorem k_TL_partOf (l : Launch) (D : va_G) (T : Cy) (ρ : Nat → Nat) (g sz : Nat) (S : St) {x1 : Int32} {r : Int32} (h : m_TL_partOf g S x1 = some r) : Mi l Yc D T ρ yX12_partOf cX12_partOf 4 (some .int) 1 21 S S r [.ref (ρ 0), .int x1] sz :=
  x_in (by decide) (Nat.le_of_ble_eq_true rfl) (fun p e s m below meth c ls C hr hk w hl => w_TL_partOf_0 C hr hk w hl h)

theorem dX12_marks_0 : decode cX12_marks 0 = .ok (.aload_n 0, 1) := by decide +kernel
theorem dX12_marks_1 : decode cX12_marks 1 = .ok (.getfield 46, 3) := by decide +kernel
theorem dX12_marks_4 : decode cX12_marks 4 = .ok (.getfield 164, 3) := by decide +kernel
theorem dX12_marks_7 : decode cX12_marks 7 = .ok (.ireturn, 1) := by decide +kernel
def m_TL_marks (g : Nat) (S : St) : Option Int32 :=
some (gI S 4 7)
section S_TL_marks
variable {p : Program} {l : Launch} {e : Env} {s : State} {m : MethodId} {args : Array Value} {below : List Frame} {meth : Method} {c : Code} {H : Heap} {locs : List Loc} {ls : Array Slot} {D : va_G} {T : Cy} {ρ : Nat → Nat} {A : Nat → Prop}
set_option maxRecDepth 100000 in
set_option maxHeartbeats 4000000 in
theorem w_TL_marks_0  {g : Nat} {S : St} (C : CallFix p m c cX12_marks 1 s args tb RX12) (hr : meth.sig.returnType = (some .int)) (hk : meth.locks = false) {r : Int32} (w : Wn Yc D T ρ S A s H locs) (hl : lv_has ls 1 [(0, .ref (ρ 0))]) (h : m_TL_marks g S = some r) : W p l e (rmN 0 0) s m args below meth c H locs 0 0 (MQ below (Qi Yc D T ρ A S r) args s 0 0 A) (F0 m 0 ls []) := by
  unfold m_TL_marks at h
  refine lv_aload_n C.1 C.2.1 dX12_marks_0 rfl (lv_at hl 0 rfl) ?_
  refine x_getC C w 4 fX12_46 obC0 rfl dX12_marks_1 ?_
  refine x_getI C w fX12_164 obC4 dX12_marks_4 ?_
  obtain rfl := som h
  exact x_iret C w hr hk dX12_marks_7
end S_TL_marks
set_option maxRecDepth 100000 in
theorem k_TL_marks (l : Launch) (D : va_G) (T : Cy) (ρ : Nat → Nat) (g sz : Nat) (S : St) {r : Int32} (h : m_TL_marks g S = some r) : Mi l Yc D T ρ yX12_marks cX12_marks 1 (some .int) 0 0 S S r [.ref (ρ 0)] sz :=
  x_in (by decide) (Nat.le_of_ble_eq_true rfl) (fun p e s m below meth c ls C hr hk w hl => w_TL_marks_0 C hr hk w hl h)

theorem dX12_mark_0 : decode cX12_mark 0 = .ok (.iload_n 1, 1) := by decide +kernel
theorem dX12_mark_1 : decode cX12_mark 1 = .ok (.ifCond .lt 14, 3) := by decide +kernel
theorem dX12_mark_4 : decode cX12_mark 4 = .ok (.iload_n 1, 1) := by decide +kernel
theorem dX12_mark_5 : decode cX12_mark 5 = .ok (.aload_n 0, 1) := by decide +kernel
theorem dX12_mark_6 : decode cX12_mark 6 = .ok (.getfield 46, 3) := by decide +kernel
theorem dX12_mark_9 : decode cX12_mark 9 = .ok (.getfield 164, 3) := by decide +kernel
theorem dX12_mark_12 : decode cX12_mark 12 = .ok (.if_icmp .lt 7, 3) := by decide +kernel
theorem dX12_mark_15 : decode cX12_mark 15 = .ok (.lconst 0, 1) := by decide +kernel
theorem dX12_mark_16 : decode cX12_mark 16 = .ok (.goto 12, 3) := by decide +kernel
theorem dX12_mark_19 : decode cX12_mark 19 = .ok (.aload_n 0, 1) := by decide +kernel
theorem dX12_mark_20 : decode cX12_mark 20 = .ok (.getfield 46, 3) := by decide +kernel
theorem dX12_mark_23 : decode cX12_mark 23 = .ok (.getfield 167, 3) := by decide +kernel
theorem dX12_mark_26 : decode cX12_mark 26 = .ok (.iload_n 1, 1) := by decide +kernel
theorem dX12_mark_27 : decode cX12_mark 27 = .ok (.laload, 1) := by decide +kernel
theorem dX12_mark_28 : decode cX12_mark 28 = .ok (.lreturn, 1) := by decide +kernel
def m_TL_mark (g : Nat) (S : St) (x1 : Int32) : Option Int64 :=
if x1 < 0 then (
  some (0 : Int64)
) else (
  if x1 < (gI S 4 7) then (
    (aJ S 78 x1).bind fun v_1 =>
    some v_1
  ) else (
    some (0 : Int64)
  )
)
section S_TL_mark
variable {p : Program} {l : Launch} {e : Env} {s : State} {m : MethodId} {args : Array Value} {below : List Frame} {meth : Method} {c : Code} {H : Heap} {locs : List Loc} {ls : Array Slot} {D : va_G} {T : Cy} {ρ : Nat → Nat} {A : Nat → Prop}
set_option maxRecDepth 100000 in
set_option maxHeartbeats 4000000 in
theorem w_TL_mark_0  {g : Nat} {S : St} {x1 : Int32} (C : CallFix p m c cX12_mark 2 s args tb RX12) (hr : meth.sig.returnType = (some .long)) (hk : meth.locks = false) {r : Int64} (w : Wn Yc D T ρ S A s H locs) (hl : lv_has ls 2 [(0, .ref (ρ 0)), (1, .int x1)]) (h : m_TL_mark g S x1 = some r) : W p l e (rmN 0 0) s m args below meth c H locs 0 0 (MQ below (Qj Yc D T ρ A S r) args s 0 0 A) (F0 m 0 ls []) := by
  unfold m_TL_mark at h
  refine lv_iload_n C.1 C.2.1 dX12_mark_0 rfl (lv_at hl 1 rfl) ?_
  refine lv_if_lt (tgt := 15) C.1 C.2.1 dX12_mark_1 (by decide) (fun hc => ?_) (fun hc => ?_)
  · replace h := ift hc h
    refine lv_lconst (v := 0) C.1 C.2.1 dX12_mark_15 (by decide) ?_
    refine lv_goto (tgt := 28) C.1 C.2.1 dX12_mark_16 (by decide) ?_
    obtain rfl := som h
    exact x_lret C w hr hk dX12_mark_28
  · replace h := iff0 hc h
    refine lv_iload_n C.1 C.2.1 dX12_mark_4 rfl (lv_at hl 1 rfl) ?_
    refine lv_aload_n C.1 C.2.1 dX12_mark_5 rfl (lv_at hl 0 rfl) ?_
    refine x_getC C w 4 fX12_46 obC0 rfl dX12_mark_6 ?_
    refine x_getI C w fX12_164 obC4 dX12_mark_9 ?_
    refine lv_icmp_lt (tgt := 19) C.1 C.2.1 dX12_mark_12 (by decide) (fun hc => ?_) (fun hc => ?_)
    · replace h := ift hc h
      refine lv_aload_n C.1 C.2.1 dX12_mark_19 rfl (lv_at hl 0 rfl) ?_
      refine x_getC C w 4 fX12_46 obC0 rfl dX12_mark_20 ?_
      refine x_getC C w 78 fX12_167 obC4 rfl dX12_mark_23 ?_
      refine lv_iload_n C.1 C.2.1 dX12_mark_26 rfl (lv_at hl 1 rfl) ?_
      obtain ⟨v_1, hv_1, h⟩ := bnd h
      refine x_lald C w obC78 hv_1 dX12_mark_27 ?_
      obtain rfl := som h
      exact x_lret C w hr hk dX12_mark_28
    · replace h := iff0 hc h
      refine lv_lconst (v := 0) C.1 C.2.1 dX12_mark_15 (by decide) ?_
      refine lv_goto (tgt := 28) C.1 C.2.1 dX12_mark_16 (by decide) ?_
      obtain rfl := som h
      exact x_lret C w hr hk dX12_mark_28
end S_TL_mark
set_option maxRecDepth 100000 in
theorem k_TL_mark (l : Launch) (D : va_G) (T : Cy) (ρ : Nat → Nat) (g sz : Nat) (S : St) {x1 : Int32} {r : Int64} (h : m_TL_mark g S x1 = some r) : Mj l Yc D T ρ yX12_mark cX12_mark 2 (some .long) 0 0 S S r [.ref (ρ 0), .int x1] sz :=
  x_in (by decide) (Nat.le_of_ble_eq_true rfl) (fun p e s m below meth c ls C hr hk w hl => w_TL_mark_0 C hr hk w hl h)
