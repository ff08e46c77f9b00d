theorem dX5_nextByte_0 : decode cX5_nextByte 0 = .ok (.iload_n 2, 1) := by decide +kernel
theorem dX5_nextByte_1 : decode cX5_nextByte 1 = .ok (.istore 4, 2) := by decide +kernel
theorem dX5_nextByte_3 : decode cX5_nextByte 3 = .ok (.iload 4, 2) := by decide +kernel
theorem dX5_nextByte_5 : decode cX5_nextByte 5 = .ok (.iload_n 3, 1) := by decide +kernel
theorem dX5_nextByte_6 : decode cX5_nextByte 6 = .ok (.if_icmp .ge 22, 3) := by decide +kernel
theorem dX5_nextByte_9 : decode cX5_nextByte 9 = .ok (.aload_n 0, 1) := by decide +kernel
theorem dX5_nextByte_10 : decode cX5_nextByte 10 = .ok (.getfield 27, 3) := by decide +kernel
theorem dX5_nextByte_13 : decode cX5_nextByte 13 = .ok (.iload 4, 2) := by decide +kernel
theorem dX5_nextByte_15 : decode cX5_nextByte 15 = .ok (.invokevirtual 67, 3) := by decide +kernel
theorem dX5_nextByte_18 : decode cX5_nextByte 18 = .ok (.iload_n 1, 1) := by decide +kernel
theorem dX5_nextByte_19 : decode cX5_nextByte 19 = .ok (.if_icmp .eq 9, 3) := by decide +kernel
theorem dX5_nextByte_22 : decode cX5_nextByte 22 = .ok (.iinc 4 1, 3) := by decide +kernel
theorem dX5_nextByte_25 : decode cX5_nextByte 25 = .ok (.goto (-22), 3) := by decide +kernel
theorem dX5_nextByte_28 : decode cX5_nextByte 28 = .ok (.iload 4, 2) := by decide +kernel
theorem dX5_nextByte_30 : decode cX5_nextByte 30 = .ok (.ireturn, 1) := by decide +kernel
def b_Rd_nextByte_3 (g : Nat) (S : St) (k3 : Int32 → Int32 → Int32 → Option Int32) (x1 : Int32) (x3 : Int32) (x4 : Int32) : Option Int32 :=
if x3 ≤ x4 then (
  some x4
) else (
  (m_Row_at g S 10 x4).bind fun v_1 =>
  if v_1 = x1 then (
    some x4
  ) else (
    lt (x4 + (1 : Int32)) fun x4_2 =>
    k3 x1 x3 x4_2
  )
)
def m_Rd_nextByte_3 (g : Nat) (S : St) : Nat → Int32 → Int32 → Int32 → Option Int32
  | 0, _, _, _ => none
  | n + 1, x1, x3, x4 => b_Rd_nextByte_3 g S (m_Rd_nextByte_3 g S n) x1 x3 x4
def m_Rd_nextByte (g : Nat) (S : St) (x1 : Int32) (x2 : Int32) (x3 : Int32) : Option Int32 :=
m_Rd_nextByte_3 g S g x1 x3 x2
section S_Rd_nextByte
variable {p : Program} {l : Launch} {e : Env} {s : State} {m : MethodId} {args : Array Value} {below : List Frame} {meth : Method} {c : Code} {H : Heap} {locs : List Loc} {ls : Array Slot} {D : va_G} {T : Cy} {ρ : Nat → Nat} {A : Nat → Prop}
set_option maxRecDepth 100000 in
set_option maxHeartbeats 4000000 in
theorem wb_Rd_nextByte_3  {g : Nat} {S : St} {x1 : Int32} {x3 : Int32} {x4 : Int32} (C : CallFix p m c cX5_nextByte 5 s args tb RX5) (hr : meth.sig.returnType = (some .int)) (hk : meth.locks = false) {r : Int32} {k3 : Int32 → Int32 → Int32 → Option Int32} (kk3 : ∀ (x1 : Int32) (x3 : Int32) (x4 : Int32) (H : Heap) (locs : List Loc) (ls : Array Slot), Wn Yc D T ρ S A s H locs → lv_has ls 5 [(0, .ref (ρ 3)), (1, .int x1), (3, .int x3), (4, .int x4)] → k3 x1 x3 x4 = some r → W p l e (rmN 1 21) s m args below meth c H locs 0 0 (MQ below (Qi Yc D T ρ A S r) args s 0 0 A) (F0 m 3 ls [])) (w : Wn Yc D T ρ S A s H locs) (hl : lv_has ls 5 [(0, .ref (ρ 3)), (1, .int x1), (3, .int x3), (4, .int x4)]) (h : b_Rd_nextByte_3 g S k3 x1 x3 x4 = some r) : W p l e (rmN 1 21) s m args below meth c H locs 0 0 (MQ below (Qi Yc D T ρ A S r) args s 0 0 A) (F0 m 3 ls []) := by
  unfold b_Rd_nextByte_3 at h
  refine lv_iload C.1 C.2.1 dX5_nextByte_3 (lv_at hl 3 rfl) ?_
  refine lv_iload_n C.1 C.2.1 dX5_nextByte_5 rfl (lv_at hl 2 rfl) ?_
  refine lv_icmp_ge (tgt := 28) C.1 C.2.1 dX5_nextByte_6 (by decide) (fun hc => ?_) (fun hc => ?_)
  · replace h := ift hc h
    refine lv_iload C.1 C.2.1 dX5_nextByte_28 (lv_at hl 3 rfl) ?_
    obtain rfl := som h
    exact x_iret C w hr hk dX5_nextByte_30
  · replace h := iff0 hc h
    refine lv_aload_n C.1 C.2.1 dX5_nextByte_9 rfl (lv_at hl 0 rfl) ?_
    refine x_getC C w 10 fX5_27 obC3 rfl dX5_nextByte_10 ?_
    refine lv_iload C.1 C.2.1 dX5_nextByte_13 (lv_at hl 3 rfl) ?_
    obtain ⟨v_1, hv_1, h⟩ := bnd h
    refine x_callVi (q := (RX6, TX6, 4)) (As := [.int x4]) (rest := []) C w (k_Row_at l D T ρ g H.size S obC10 hv_1) vX5_67 ⟨by decide, by decide⟩ obC10 (by decide) rfl rfl rfl hl.1 (Nat.le_of_ble_eq_true rfl) ⟨Nat.zero_le _, Nat.zero_le _⟩ dX5_nextByte_15 (fun H locs w => ?_)
    refine lv_iload_n C.1 C.2.1 dX5_nextByte_18 rfl (lv_at hl 1 rfl) ?_
    refine lv_icmp_eq (tgt := 28) C.1 C.2.1 dX5_nextByte_19 (by decide) (fun hc => ?_) (fun hc => ?_)
    · replace h := ift hc h
      refine lv_iload C.1 C.2.1 dX5_nextByte_28 (lv_at hl 3 rfl) ?_
      obtain rfl := som h
      exact x_iret C w hr hk dX5_nextByte_30
    · replace h := iff0 hc h
      obtain ⟨x4_2, ex4_2, h⟩ := lt_e h
      refine lv_iinc (v := x4_2) (lv' := [(4, .int x4_2), (0, .ref (ρ 3)), (1, .int x1), (3, .int x3)]) C.1 C.2.1 dX5_nextByte_22 hl (k := 3) rfl (by rw [ex4_2]; rfl) (by decide) rfl (fun ls hl => ?_)
      refine lv_goto (tgt := 3) C.1 C.2.1 dX5_nextByte_25 (by decide) ?_
      exact kk3 _ _ _ _ _ _ w (lv_sub hl [1, 2, 3, 0] rfl) h
theorem w_Rd_nextByte_3 {g : Nat} {S : St} (C : CallFix p m c cX5_nextByte 5 s args tb RX5) (hr : meth.sig.returnType = (some .int)) (hk : meth.locks = false) {r : Int32} (n : Nat) : ∀ (x1 : Int32) (x3 : Int32) (x4 : Int32) (H : Heap) (locs : List Loc) (ls : Array Slot), Wn Yc D T ρ S A s H locs → lv_has ls 5 [(0, .ref (ρ 3)), (1, .int x1), (3, .int x3), (4, .int x4)] → m_Rd_nextByte_3 g S n x1 x3 x4 = some r → W p l e (rmN 1 21) s m args below meth c H locs 0 0 (MQ below (Qi Yc D T ρ A S r) args s 0 0 A) (F0 m 3 ls []) := by
  induction n with
  | zero => intro x1 x3 x4 H locs ls w hl h; exact absurd h (fun q => by cases q)
  | succ n ih => intro x1 x3 x4 H locs ls w hl h; exact wb_Rd_nextByte_3 C hr hk ih w hl h
set_option maxRecDepth 100000 in
set_option maxHeartbeats 4000000 in
theorem w_Rd_nextByte_0  {g : Nat} {S : St} {x1 : Int32} {x2 : Int32} {x3 : Int32} (C : CallFix p m c cX5_nextByte 5 s args tb RX5) (hr : meth.sig.returnType = (some .int)) (hk : meth.locks = false) {r : Int32} (w : Wn Yc D T ρ S A s H locs) (hl : lv_has ls 5 [(0, .ref (ρ 3)), (1, .int x1), (2, .int x2), (3, .int x3)]) (h : m_Rd_nextByte g S x1 x2 x3 = some r) : W p l e (rmN 1 21) s m args below meth c H locs 0 0 (MQ below (Qi Yc D T ρ A S r) args s 0 0 A) (F0 m 0 ls []) := by
  unfold m_Rd_nextByte at h
  refine lv_iload_n C.1 C.2.1 dX5_nextByte_0 rfl (lv_at hl 2 rfl) ?_
  refine lv_istore (lv' := [(4, .int x2), (0, .ref (ρ 3)), (1, .int x1), (2, .int x2), (3, .int x3)]) C.1 C.2.1 dX5_nextByte_1 hl (by decide) rfl (fun ls hl => ?_)
  exact w_Rd_nextByte_3 C hr hk g _ _ _ _ _ _ w (lv_sub hl [1, 2, 4, 0] rfl) h
end S_Rd_nextByte
set_option maxRecDepth 100000 in
theorem k_Rd_nextByte (l : Launch) (D : va_G) (T : Cy) (ρ : Nat → Nat) (g sz : Nat) (S : St) {x1 : Int32} {x2 : Int32} {x3 : Int32} {r : Int32} (h : m_Rd_nextByte g S x1 x2 x3 = some r) : Mi l Yc D T ρ yX5_nextByte cX5_nextByte 5 (some .int) 1 21 S S r [.ref (ρ 3), .int x1, .int x2, .int x3] sz :=
  x_in (by decide) (Nat.le_of_ble_eq_true rfl) (fun p e s m below meth c ls C hr hk w hl => w_Rd_nextByte_0 C hr hk w hl h)

theorem dX5_skipBlanks_0 : decode cX5_skipBlanks 0 = .ok (.aload_n 0, 1) := by decide +kernel
theorem dX5_skipBlanks_1 : decode cX5_skipBlanks 1 = .ok (.getfield 20, 3) := by decide +kernel
theorem dX5_skipBlanks_4 : decode cX5_skipBlanks 4 = .ok (.aload_n 0, 1) := by decide +kernel
theorem dX5_skipBlanks_5 : decode cX5_skipBlanks 5 = .ok (.getfield 24, 3) := by decide +kernel
theorem dX5_skipBlanks_8 : decode cX5_skipBlanks 8 = .ok (.if_icmp .ge 32, 3) := by decide +kernel
theorem dX5_skipBlanks_11 : decode cX5_skipBlanks 11 = .ok (.aload_n 0, 1) := by decide +kernel
theorem dX5_skipBlanks_12 : decode cX5_skipBlanks 12 = .ok (.getfield 27, 3) := by decide +kernel
theorem dX5_skipBlanks_15 : decode cX5_skipBlanks 15 = .ok (.aload_n 0, 1) := by decide +kernel
theorem dX5_skipBlanks_16 : decode cX5_skipBlanks 16 = .ok (.getfield 20, 3) := by decide +kernel
theorem dX5_skipBlanks_19 : decode cX5_skipBlanks 19 = .ok (.invokevirtual 67, 3) := by decide +kernel
theorem dX5_skipBlanks_22 : decode cX5_skipBlanks 22 = .ok (.bipush 32, 2) := by decide +kernel
theorem dX5_skipBlanks_24 : decode cX5_skipBlanks 24 = .ok (.if_icmp .ne 16, 3) := by decide +kernel
theorem dX5_skipBlanks_27 : decode cX5_skipBlanks 27 = .ok (.aload_n 0, 1) := by decide +kernel
theorem dX5_skipBlanks_28 : decode cX5_skipBlanks 28 = .ok (.dup, 1) := by decide +kernel
theorem dX5_skipBlanks_29 : decode cX5_skipBlanks 29 = .ok (.getfield 20, 3) := by decide +kernel
theorem dX5_skipBlanks_32 : decode cX5_skipBlanks 32 = .ok (.iconst 1, 1) := by decide +kernel
theorem dX5_skipBlanks_33 : decode cX5_skipBlanks 33 = .ok (.iadd, 1) := by decide +kernel
theorem dX5_skipBlanks_34 : decode cX5_skipBlanks 34 = .ok (.putfield 20, 3) := by decide +kernel
theorem dX5_skipBlanks_37 : decode cX5_skipBlanks 37 = .ok (.goto (-37), 3) := by decide +kernel
theorem dX5_skipBlanks_40 : decode cX5_skipBlanks 40 = .ok (.return_, 1) := by decide +kernel
def b_Rd_skipBlanks_0 (g : Nat) (k0 : St → Option St) (S : St) : Option St :=
if (gI S 3 4) ≤ (gI S 3 3) then (
  some S
) else (
  (m_Row_at g S 10 (gI S 3 3)).bind fun v_1 =>
  if v_1 = (32 : Int32) then (
    lt (sI S 3 3 ((gI S 3 3) + (1 : Int32))) fun S_2 =>
    k0 S_2
  ) else (
    some S
  )
)
def m_Rd_skipBlanks_0 (g : Nat) : Nat → St → Option St
  | 0, _ => none
  | n + 1, S => b_Rd_skipBlanks_0 g (m_Rd_skipBlanks_0 g n) S
def m_Rd_skipBlanks (g : Nat) (S : St) : Option St := m_Rd_skipBlanks_0 g g S
section S_Rd_skipBlanks
variable {p : Program} {l : Launch} {e : Env} {s : State} {m : MethodId} {args : Array Value} {below : List Frame} {meth : Method} {c : Code} {H : Heap} {locs : List Loc} {ls : Array Slot} {D : va_G} {T : Cy} {ρ : Nat → Nat} {A : Nat → Prop}
set_option maxRecDepth 100000 in
set_option maxHeartbeats 4000000 in
theorem wb_Rd_skipBlanks_0  {g : Nat} {S : St} (C : CallFix p m c cX5_skipBlanks 1 s args tb RX5) (hr : meth.sig.returnType = none) (hk : meth.locks = false) {S' : St} {k0 : St → Option St} (kk0 : ∀ (S : St) (H : Heap) (locs : List Loc) (ls : Array Slot), Wn Yc D T ρ S A s H locs → lv_has ls 1 [(0, .ref (ρ 3))] → k0 S = some S' → W p l e (rmN 1 21) s m args below meth c H locs 0 0 (MQ below (Qv Yc D T ρ A S') args s 0 0 A) (F0 m 0 ls [])) (w : Wn Yc D T ρ S A s H locs) (hl : lv_has ls 1 [(0, .ref (ρ 3))]) (h : b_Rd_skipBlanks_0 g k0 S = some S') : W p l e (rmN 1 21) s m args below meth c H locs 0 0 (MQ below (Qv Yc D T ρ A S') args s 0 0 A) (F0 m 0 ls []) := by
  unfold b_Rd_skipBlanks_0 at h
  refine lv_aload_n C.1 C.2.1 dX5_skipBlanks_0 rfl (lv_at hl 0 rfl) ?_
  refine x_getI C w fX5_20 obC3 dX5_skipBlanks_1 ?_
  refine lv_aload_n C.1 C.2.1 dX5_skipBlanks_4 rfl (lv_at hl 0 rfl) ?_
  refine x_getI C w fX5_24 obC3 dX5_skipBlanks_5 ?_
  refine lv_icmp_ge (tgt := 40) C.1 C.2.1 dX5_skipBlanks_8 (by decide) (fun hc => ?_) (fun hc => ?_)
  · replace h := ift hc h
    obtain rfl := som h
    exact x_vret C w hr hk dX5_skipBlanks_40
  · replace h := iff0 hc h
    refine lv_aload_n C.1 C.2.1 dX5_skipBlanks_11 rfl (lv_at hl 0 rfl) ?_
    refine x_getC C w 10 fX5_27 obC3 rfl dX5_skipBlanks_12 ?_
    refine lv_aload_n C.1 C.2.1 dX5_skipBlanks_15 rfl (lv_at hl 0 rfl) ?_
    refine x_getI C w fX5_20 obC3 dX5_skipBlanks_16 ?_
    obtain ⟨v_1, hv_1, h⟩ := bnd h
    refine x_callVi (q := (RX6, TX6, 4)) (As := [.int (gI S 3 3)]) (rest := []) C w (k_Row_at l D T ρ g H.size S obC10 hv_1) vX5_67 ⟨by decide, by decide⟩ obC10 (by decide) rfl rfl rfl hl.1 (Nat.le_of_ble_eq_true rfl) ⟨Nat.zero_le _, Nat.zero_le _⟩ dX5_skipBlanks_19 (fun H locs w => ?_)
    refine lv_bipush (v := 32) C.1 C.2.1 dX5_skipBlanks_22 (by decide) ?_
    refine lv_icmp_ne (tgt := 40) C.1 C.2.1 dX5_skipBlanks_24 (by decide) (fun hc => ?_) (fun hc => ?_)
    · replace h := iff0 hc h
      obtain rfl := som h
      exact x_vret C w hr hk dX5_skipBlanks_40
    · replace h := ift hc h
      refine lv_aload_n C.1 C.2.1 dX5_skipBlanks_27 rfl (lv_at hl 0 rfl) ?_
      refine lv_dup C.1 C.2.1 dX5_skipBlanks_28 rfl ?_
      refine x_getI C w fX5_20 obC3 dX5_skipBlanks_29 ?_
      refine lv_iconst (v := 1) C.1 C.2.1 dX5_skipBlanks_32 (by decide) ?_
      refine lv_iadd C.1 C.2.1 dX5_skipBlanks_33 ?_
      obtain ⟨S_2, eS_2, h⟩ := lt_e h
      refine y_putI C w eS_2 fX5_20 pX5_3 obC3 dX5_skipBlanks_34 (fun H locs w => ?_)
      refine lv_goto (tgt := 0) C.1 C.2.1 dX5_skipBlanks_37 (by decide) ?_
      exact kk0 _ _ _ _ w (lv_sub hl [0] rfl) h
theorem w_Rd_skipBlanks_0 {g : Nat} (C : CallFix p m c cX5_skipBlanks 1 s args tb RX5) (hr : meth.sig.returnType = none) (hk : meth.locks = false) {S' : St} (n : Nat) : ∀ (S : St) (H : Heap) (locs : List Loc) (ls : Array Slot), Wn Yc D T ρ S A s H locs → lv_has ls 1 [(0, .ref (ρ 3))] → m_Rd_skipBlanks_0 g n S = some S' → W p l e (rmN 1 21) s m args below meth c H locs 0 0 (MQ below (Qv Yc D T ρ A S') args s 0 0 A) (F0 m 0 ls []) := by
  induction n with
  | zero => intro S H locs ls w hl h; exact absurd h (fun q => by cases q)
  | succ n ih => intro S H locs ls w hl h; exact wb_Rd_skipBlanks_0 C hr hk ih w hl h
end S_Rd_skipBlanks
set_option maxRecDepth 100000 in
theorem k_Rd_skipBlanks (l : Launch) (D : va_G) (T : Cy) (ρ : Nat → Nat) (g sz : Nat) (S : St) {S' : St} (h : m_Rd_skipBlanks g S = some S') : Mv l Yc D T ρ yX5_skipBlanks cX5_skipBlanks 1 none 1 21 S S' [.ref (ρ 3)] sz :=
  x_in (by decide) (Nat.le_of_ble_eq_true rfl) (fun p e s m below meth c ls C hr hk w hl => w_Rd_skipBlanks_0 C hr hk g _ _ _ _ w (lv_sub hl [0] rfl) h)

theorem dX5_readCount_0 : decode cX5_readCount 0 = .ok (.aload_n 0, 1) := by decide +kernel
theorem dX5_readCount_1 : decode cX5_readCount 1 = .ok (.getfield 27, 3) := by decide +kernel
theorem dX5_readCount_4 : decode cX5_readCount 4 = .ok (.iload_n 1, 1) := by decide +kernel
theorem dX5_readCount_5 : decode cX5_readCount 5 = .ok (.iload_n 2, 1) := by decide +kernel
theorem dX5_readCount_6 : decode cX5_readCount 6 = .ok (.bipush 10, 2) := by decide +kernel
theorem dX5_readCount_8 : decode cX5_readCount 8 = .ok (.invokestatic 134, 3) := by decide +kernel
theorem dX5_readCount_11 : decode cX5_readCount 11 = .ok (.lstore_n 3, 1) := by decide +kernel
theorem dX5_readCount_12 : decode cX5_readCount 12 = .ok (.lload_n 3, 1) := by decide +kernel
theorem dX5_readCount_13 : decode cX5_readCount 13 = .ok (.lconst 0, 1) := by decide +kernel
theorem dX5_readCount_14 : decode cX5_readCount 14 = .ok (.lcmp, 1) := by decide +kernel
theorem dX5_readCount_15 : decode cX5_readCount 15 = .ok (.ifCond .gt 10, 3) := by decide +kernel
theorem dX5_readCount_18 : decode cX5_readCount 18 = .ok (.iload_n 2, 1) := by decide +kernel
theorem dX5_readCount_19 : decode cX5_readCount 19 = .ok (.iload_n 1, 1) := by decide +kernel
theorem dX5_readCount_20 : decode cX5_readCount 20 = .ok (.isub, 1) := by decide +kernel
theorem dX5_readCount_21 : decode cX5_readCount 21 = .ok (.iconst 2, 1) := by decide +kernel
theorem dX5_readCount_22 : decode cX5_readCount 22 = .ok (.if_icmp .le 5, 3) := by decide +kernel
theorem dX5_readCount_25 : decode cX5_readCount 25 = .ok (.iconst 0, 1) := by decide +kernel
theorem dX5_readCount_26 : decode cX5_readCount 26 = .ok (.ireturn, 1) := by decide +kernel
theorem dX5_readCount_27 : decode cX5_readCount 27 = .ok (.aload_n 0, 1) := by decide +kernel
theorem dX5_readCount_28 : decode cX5_readCount 28 = .ok (.getfield 30, 3) := by decide +kernel
theorem dX5_readCount_31 : decode cX5_readCount 31 = .ok (.bipush 48, 2) := by decide +kernel
theorem dX5_readCount_33 : decode cX5_readCount 33 = .ok (.bipush 32, 2) := by decide +kernel
theorem dX5_readCount_35 : decode cX5_readCount 35 = .ok (.lload_n 3, 1) := by decide +kernel
theorem dX5_readCount_36 : decode cX5_readCount 36 = .ok (.lneg, 1) := by decide +kernel
theorem dX5_readCount_37 : decode cX5_readCount 37 = .ok (.iload_n 1, 1) := by decide +kernel
theorem dX5_readCount_38 : decode cX5_readCount 38 = .ok (.invokevirtual 143, 3) := by decide +kernel
theorem dX5_readCount_41 : decode cX5_readCount 41 = .ok (.iconst 1, 1) := by decide +kernel
theorem dX5_readCount_42 : decode cX5_readCount 42 = .ok (.ireturn, 1) := by decide +kernel
def m_Rd_readCount (g : Nat) (S : St) (x1 : Int32) (x2 : Int32) : Option (St × Int32) :=
(m_Lt_minusTold g S 10 x1 x2 (10 : Int32)).bind fun v_1 =>
if (0 : Int64) < v_1 then (
  some (S, (0 : Int32))
) else (
  if (x2 - x1) ≤ (2 : Int32) then (
    if gR S 3 2 = 1 ∨ gR S 3 2 = 2 then
    lt (gR S 3 2) fun p_3 =>
    (m_Pg_addWord g S p_3 (48 : Int32) (32 : Int32) (-v_1) x1).bind fun S_4 =>
    some (S_4, (1 : Int32))
    else none
  ) else (
    some (S, (0 : Int32))
  )
)
section S_Rd_readCount
variable {p : Program} {l : Launch} {e : Env} {s : State} {m : MethodId} {args : Array Value} {below : List Frame} {meth : Method} {c : Code} {H : Heap} {locs : List Loc} {ls : Array Slot} {D : va_G} {T : Cy} {ρ : Nat → Nat} {A : Nat → Prop}
set_option maxRecDepth 100000 in
set_option maxHeartbeats 4000000 in
theorem w_Rd_readCount_0  {g : Nat} {S : St} {x1 : Int32} {x2 : Int32} (C : CallFix p m c cX5_readCount 5 s args tb RX5) (hr : meth.sig.returnType = (some .boolean)) (hk : meth.locks = false) {S' : St} {r : Int32} (w : Wn Yc D T ρ S A s H locs) (hl : lv_has ls 5 [(0, .ref (ρ 3)), (1, .int x1), (2, .int x2)]) (h : m_Rd_readCount g S x1 x2 = some (S', r)) : W p l e (rmN 2 49) s m args below meth c H locs 0 0 (MQ below (Qi Yc D T ρ A S' r) args s 0 0 A) (F0 m 0 ls []) := by
  unfold m_Rd_readCount at h
  refine lv_aload_n C.1 C.2.1 dX5_readCount_0 rfl (lv_at hl 0 rfl) ?_
  refine x_getC C w 10 fX5_27 obC3 rfl dX5_readCount_1 ?_
  refine lv_iload_n C.1 C.2.1 dX5_readCount_4 rfl (lv_at hl 1 rfl) ?_
  refine lv_iload_n C.1 C.2.1 dX5_readCount_5 rfl (lv_at hl 2 rfl) ?_
  refine lv_bipush (v := 10) C.1 C.2.1 dX5_readCount_6 (by decide) ?_
  obtain ⟨v_1, hv_1, h⟩ := bnd h
  refine x_callSj (As := [.ref (ρ 10), .int x1, .int x2, .int (10 : Int32)]) (rest := []) C w (k_Lt_minusTold l D T ρ g H.size S obC10 hv_1) vX5_134 ⟨by decide, by decide⟩ rfl rfl hl.1 (Nat.le_of_ble_eq_true rfl) ⟨Nat.zero_le _, Nat.zero_le _⟩ dX5_readCount_8 (fun H locs w => ?_)
  refine lv_lstore_n (lv' := [(3, .long v_1), (0, .ref (ρ 3)), (1, .int x1), (2, .int x2)]) C.1 C.2.1 dX5_readCount_11 rfl hl (by decide) rfl (fun ls hl => ?_)
  refine lv_lload_n C.1 C.2.1 dX5_readCount_12 rfl (lv_at hl 0 rfl) ?_
  refine lv_lconst (v := 0) C.1 C.2.1 dX5_readCount_13 (by decide) ?_
  refine x_l_gt (tgt := 25) C dX5_readCount_14 dX5_readCount_15 (by decide) (fun hc => ?_) (fun hc => ?_)
  · replace h := ift hc h
    refine lv_iconst (v := 0) C.1 C.2.1 dX5_readCount_25 (by decide) ?_
    obtain ⟨rfl, rfl⟩ := prI h
    exact x_zret C w hr hk (by decide) dX5_readCount_26
  · replace h := iff0 hc h
    refine lv_iload_n C.1 C.2.1 dX5_readCount_18 rfl (lv_at hl 3 rfl) ?_
    refine lv_iload_n C.1 C.2.1 dX5_readCount_19 rfl (lv_at hl 2 rfl) ?_
    refine lv_isub C.1 C.2.1 dX5_readCount_20 ?_
    refine lv_iconst (v := 2) C.1 C.2.1 dX5_readCount_21 (by decide) ?_
    refine lv_icmp_le (tgt := 27) C.1 C.2.1 dX5_readCount_22 (by decide) (fun hc => ?_) (fun hc => ?_)
    · replace h := ift hc h
      refine lv_aload_n C.1 C.2.1 dX5_readCount_27 rfl (lv_at hl 1 rfl) ?_
      by_cases hz_2 : gR S 3 2 = 1 ∨ gR S 3 2 = 2
      case neg => exact absurd (iff0 hz_2 h) (fun q => by cases q)
      replace h := ift hz_2 h
      obtain ⟨p_3, ep_3, h⟩ := lt_e h
      have ho_p_3 : Ob Yc p_3 2 := obPg (by rw [ep_3]; exact hz_2)
      refine x_getR C w fX5_30 obC3 dX5_readCount_28 ?_
      refine x_nmR ep_3 ?_
      refine lv_bipush (v := 48) C.1 C.2.1 dX5_readCount_31 (by decide) ?_
      refine lv_bipush (v := 32) C.1 C.2.1 dX5_readCount_33 (by decide) ?_
      refine lv_lload_n C.1 C.2.1 dX5_readCount_35 rfl (lv_at hl 0 rfl) ?_
      refine lv_lneg C.1 C.2.1 dX5_readCount_36 ?_
      refine lv_iload_n C.1 C.2.1 dX5_readCount_37 rfl (lv_at hl 2 rfl) ?_
      obtain ⟨S_4, hS_4, h⟩ := bnd h
      refine x_callVv (q := (RX4, TX4, 16)) (As := [.int (48 : Int32), .int (32 : Int32), .long (-v_1), .int x1]) (rest := []) C w (k_Pg_addWord l D T ρ g H.size S ho_p_3 hS_4) vX5_143 ⟨by decide, by decide⟩ ho_p_3 (by decide) rfl rfl rfl hl.1 (Nat.le_of_ble_eq_true rfl) ⟨Nat.zero_le _, Nat.zero_le _⟩ dX5_readCount_38 (fun H locs w => ?_)
      refine lv_iconst (v := 1) C.1 C.2.1 dX5_readCount_41 (by decide) ?_
      obtain ⟨rfl, rfl⟩ := prI h
      exact x_zret C w hr hk (by decide) dX5_readCount_42
    · replace h := iff0 hc h
      refine lv_iconst (v := 0) C.1 C.2.1 dX5_readCount_25 (by decide) ?_
      obtain ⟨rfl, rfl⟩ := prI h
      exact x_zret C w hr hk (by decide) dX5_readCount_26
end S_Rd_readCount
set_option maxRecDepth 100000 in
theorem k_Rd_readCount (l : Launch) (D : va_G) (T : Cy) (ρ : Nat → Nat) (g sz : Nat) (S : St) {x1 : Int32} {x2 : Int32} {S' : St} {r : Int32} (h : m_Rd_readCount g S x1 x2 = some (S', r)) : Mi l Yc D T ρ yX5_readCount cX5_readCount 5 (some .boolean) 2 49 S S' r [.ref (ρ 3), .int x1, .int x2] sz :=
  x_in (by decide) (Nat.le_of_ble_eq_true rfl) (fun p e s m below meth c ls C hr hk w hl => w_Rd_readCount_0 C hr hk w hl h)

theorem dX5_readCode_0 : decode cX5_readCode 0 = .ok (.iconst 0, 1) := by decide +kernel
theorem dX5_readCode_1 : decode cX5_readCode 1 = .ok (.istore_n 1, 1) := by decide +kernel
theorem dX5_readCode_2 : decode cX5_readCode 2 = .ok (.iconst 0, 1) := by decide +kernel
theorem dX5_readCode_3 : decode cX5_readCode 3 = .ok (.istore_n 2, 1) := by decide +kernel
theorem dX5_readCode_4 : decode cX5_readCode 4 = .ok (.iload_n 2, 1) := by decide +kernel
theorem dX5_readCode_5 : decode cX5_readCode 5 = .ok (.iconst 4, 1) := by decide +kernel
theorem dX5_readCode_6 : decode cX5_readCode 6 = .ok (.if_icmp .ge 65, 3) := by decide +kernel
theorem dX5_readCode_9 : decode cX5_readCode 9 = .ok (.aload_n 0, 1) := by decide +kernel
theorem dX5_readCode_10 : decode cX5_readCode 10 = .ok (.dup, 1) := by decide +kernel
theorem dX5_readCode_11 : decode cX5_readCode 11 = .ok (.getfield 20, 3) := by decide +kernel
theorem dX5_readCode_14 : decode cX5_readCode 14 = .ok (.iconst 1, 1) := by decide +kernel
theorem dX5_readCode_15 : decode cX5_readCode 15 = .ok (.iadd, 1) := by decide +kernel
theorem dX5_readCode_16 : decode cX5_readCode 16 = .ok (.putfield 20, 3) := by decide +kernel
theorem dX5_readCode_19 : decode cX5_readCode 19 = .ok (.aload_n 0, 1) := by decide +kernel
theorem dX5_readCode_20 : decode cX5_readCode 20 = .ok (.getfield 20, 3) := by decide +kernel
theorem dX5_readCode_23 : decode cX5_readCode 23 = .ok (.aload_n 0, 1) := by decide +kernel
theorem dX5_readCode_24 : decode cX5_readCode 24 = .ok (.getfield 24, 3) := by decide +kernel
theorem dX5_readCode_27 : decode cX5_readCode 27 = .ok (.if_icmp .ge 22, 3) := by decide +kernel
theorem dX5_readCode_30 : decode cX5_readCode 30 = .ok (.aload_n 0, 1) := by decide +kernel
theorem dX5_readCode_31 : decode cX5_readCode 31 = .ok (.getfield 27, 3) := by decide +kernel
theorem dX5_readCode_34 : decode cX5_readCode 34 = .ok (.aload_n 0, 1) := by decide +kernel
theorem dX5_readCode_35 : decode cX5_readCode 35 = .ok (.getfield 20, 3) := by decide +kernel
theorem dX5_readCode_38 : decode cX5_readCode 38 = .ok (.invokevirtual 67, 3) := by decide +kernel
theorem dX5_readCode_41 : decode cX5_readCode 41 = .ok (.bipush 16, 2) := by decide +kernel
theorem dX5_readCode_43 : decode cX5_readCode 43 = .ok (.invokestatic 167, 3) := by decide +kernel
theorem dX5_readCode_46 : decode cX5_readCode 46 = .ok (.goto 4, 3) := by decide +kernel
theorem dX5_readCode_49 : decode cX5_readCode 49 = .ok (.iconst (-1), 1) := by decide +kernel
theorem dX5_readCode_50 : decode cX5_readCode 50 = .ok (.istore_n 3, 1) := by decide +kernel
theorem dX5_readCode_51 : decode cX5_readCode 51 = .ok (.iload_n 3, 1) := by decide +kernel
theorem dX5_readCode_52 : decode cX5_readCode 52 = .ok (.iconst (-1), 1) := by decide +kernel
theorem dX5_readCode_53 : decode cX5_readCode 53 = .ok (.if_icmp .ne 5, 3) := by decide +kernel
theorem dX5_readCode_56 : decode cX5_readCode 56 = .ok (.iconst (-1), 1) := by decide +kernel
theorem dX5_readCode_57 : decode cX5_readCode 57 = .ok (.ireturn, 1) := by decide +kernel
theorem dX5_readCode_58 : decode cX5_readCode 58 = .ok (.bipush 16, 2) := by decide +kernel
theorem dX5_readCode_60 : decode cX5_readCode 60 = .ok (.iload_n 1, 1) := by decide +kernel
theorem dX5_readCode_61 : decode cX5_readCode 61 = .ok (.imul, 1) := by decide +kernel
theorem dX5_readCode_62 : decode cX5_readCode 62 = .ok (.iload_n 3, 1) := by decide +kernel
theorem dX5_readCode_63 : decode cX5_readCode 63 = .ok (.iadd, 1) := by decide +kernel
theorem dX5_readCode_64 : decode cX5_readCode 64 = .ok (.istore_n 1, 1) := by decide +kernel
theorem dX5_readCode_65 : decode cX5_readCode 65 = .ok (.iinc 2 1, 3) := by decide +kernel
theorem dX5_readCode_68 : decode cX5_readCode 68 = .ok (.goto (-64), 3) := by decide +kernel
theorem dX5_readCode_71 : decode cX5_readCode 71 = .ok (.iload_n 1, 1) := by decide +kernel
theorem dX5_readCode_72 : decode cX5_readCode 72 = .ok (.ireturn, 1) := by decide +kernel
def m_Rd_readCode_50 (g : Nat) (k4 : St → Int32 → Int32 → Option (St × Int32)) (S : St) (x1 : Int32) (x2 : Int32) (y0 : Int32) : Option (St × Int32) :=
if y0 = (-1 : Int32) then (
  some (S, (-1 : Int32))
) else (
  lt (((16 : Int32) * x1) + y0) fun x1_2 =>
  lt (x2 + (1 : Int32)) fun x2_3 =>
  k4 S x1_2 x2_3
)
def b_Rd_readCode_4 (g : Nat) (k4 : St → Int32 → Int32 → Option (St × Int32)) (S : St) (x1 : Int32) (x2 : Int32) : Option (St × Int32) :=
if (4 : Int32) ≤ x2 then (
  some (S, x1)
) else (
  lt (sI S 3 3 ((gI S 3 3) + (1 : Int32))) fun S_1 =>
  if (gI S_1 3 4) ≤ (gI S_1 3 3) then (
    m_Rd_readCode_50 g k4 S_1 x1 x2 (-1 : Int32)
  ) else (
    (m_Row_at g S_1 10 (gI S_1 3 3)).bind fun v_2 =>
    (m_Lt_digit g v_2 (16 : Int32)).bind fun v_3 =>
    m_Rd_readCode_50 g k4 S_1 x1 x2 v_3
  )
)
def m_Rd_readCode_4 (g : Nat) : Nat → St → Int32 → Int32 → Option (St × Int32)
  | 0, _, _, _ => none
  | n + 1, S, x1, x2 => b_Rd_readCode_4 g (m_Rd_readCode_4 g n) S x1 x2
def m_Rd_readCode (g : Nat) (S : St) : Option (St × Int32) :=
m_Rd_readCode_4 g g S (0 : Int32) (0 : Int32)
section S_Rd_readCode
variable {p : Program} {l : Launch} {e : Env} {s : State} {m : MethodId} {args : Array Value} {below : List Frame} {meth : Method} {c : Code} {H : Heap} {locs : List Loc} {ls : Array Slot} {D : va_G} {T : Cy} {ρ : Nat → Nat} {A : Nat → Prop}
set_option maxRecDepth 100000 in
set_option maxHeartbeats 4000000 in
theorem w_Rd_readCode_50  {g : Nat} {S : St} {x1 : Int32} {x2 : Int32} {y0 : Int32} (C : CallFix p m c cX5_readCode 4 s args tb RX5) (hr : meth.sig.returnType = (some .int)) (hk : meth.locks = false) {S' : St} {r : Int32} {k4 : St → Int32 → Int32 → Option (St × Int32)} (kk4 : ∀ (S : St) (x1 : Int32) (x2 : Int32) (H : Heap) (locs : List Loc) (ls : Array Slot), Wn Yc D T ρ S A s H locs → lv_has ls 4 [(0, .ref (ρ 3)), (1, .int x1), (2, .int x2)] → k4 S x1 x2 = some (S', r) → W p l e (rmN 1 22) s m args below meth c H locs 0 0 (MQ below (Qi Yc D T ρ A S' r) args s 0 0 A) (F0 m 4 ls [])) (w : Wn Yc D T ρ S A s H locs) (hl : lv_has ls 4 [(0, .ref (ρ 3)), (1, .int x1), (2, .int x2)]) (h : m_Rd_readCode_50 g k4 S x1 x2 y0 = some (S', r)) : W p l e (rmN 1 22) s m args below meth c H locs 0 0 (MQ below (Qi Yc D T ρ A S' r) args s 0 0 A) (F0 m 50 ls [.int y0]) := by
  unfold m_Rd_readCode_50 at h
  refine lv_istore_n (lv' := [(3, .int y0), (0, .ref (ρ 3)), (1, .int x1), (2, .int x2)]) C.1 C.2.1 dX5_readCode_50 rfl hl (by decide) rfl (fun ls hl => ?_)
  refine lv_iload_n C.1 C.2.1 dX5_readCode_51 rfl (lv_at hl 0 rfl) ?_
  refine lv_iconst (v := (-1)) C.1 C.2.1 dX5_readCode_52 (by decide) ?_
  refine lv_icmp_ne (tgt := 58) C.1 C.2.1 dX5_readCode_53 (by decide) (fun hc => ?_) (fun hc => ?_)
  · replace h := iff0 hc h
    refine lv_bipush (v := 16) C.1 C.2.1 dX5_readCode_58 (by decide) ?_
    refine lv_iload_n C.1 C.2.1 dX5_readCode_60 rfl (lv_at hl 2 rfl) ?_
    refine lv_imul C.1 C.2.1 dX5_readCode_61 ?_
    refine lv_iload_n C.1 C.2.1 dX5_readCode_62 rfl (lv_at hl 0 rfl) ?_
    refine lv_iadd C.1 C.2.1 dX5_readCode_63 ?_
    obtain ⟨x1_2, ex1_2, h⟩ := lt_e h
    refine x_nm ex1_2 ?_
    refine lv_istore_n (lv' := [(1, .int x1_2), (3, .int y0), (0, .ref (ρ 3)), (2, .int x2)]) C.1 C.2.1 dX5_readCode_64 rfl hl (by decide) rfl (fun ls hl => ?_)
    obtain ⟨x2_3, ex2_3, h⟩ := lt_e h
    refine lv_iinc (v := x2_3) (lv' := [(2, .int x2_3), (1, .int x1_2), (3, .int y0), (0, .ref (ρ 3))]) C.1 C.2.1 dX5_readCode_65 hl (k := 3) rfl (by rw [ex2_3]; rfl) (by decide) rfl (fun ls hl => ?_)
    refine lv_goto (tgt := 4) C.1 C.2.1 dX5_readCode_68 (by decide) ?_
    exact kk4 _ _ _ _ _ _ w (lv_sub hl [3, 1, 0] rfl) h
  · replace h := ift hc h
    refine lv_iconst (v := (-1)) C.1 C.2.1 dX5_readCode_56 (by decide) ?_
    obtain ⟨rfl, rfl⟩ := prI h
    exact x_iret C w hr hk dX5_readCode_57
set_option maxRecDepth 100000 in
set_option maxHeartbeats 4000000 in
theorem wb_Rd_readCode_4  {g : Nat} {S : St} {x1 : Int32} {x2 : Int32} (C : CallFix p m c cX5_readCode 4 s args tb RX5) (hr : meth.sig.returnType = (some .int)) (hk : meth.locks = false) {S' : St} {r : Int32} {k4 : St → Int32 → Int32 → Option (St × Int32)} (kk4 : ∀ (S : St) (x1 : Int32) (x2 : Int32) (H : Heap) (locs : List Loc) (ls : Array Slot), Wn Yc D T ρ S A s H locs → lv_has ls 4 [(0, .ref (ρ 3)), (1, .int x1), (2, .int x2)] → k4 S x1 x2 = some (S', r) → W p l e (rmN 1 22) s m args below meth c H locs 0 0 (MQ below (Qi Yc D T ρ A S' r) args s 0 0 A) (F0 m 4 ls [])) (w : Wn Yc D T ρ S A s H locs) (hl : lv_has ls 4 [(0, .ref (ρ 3)), (1, .int x1), (2, .int x2)]) (h : b_Rd_readCode_4 g k4 S x1 x2 = some (S', r)) : W p l e (rmN 1 22) s m args below meth c H locs 0 0 (MQ below (Qi Yc D T ρ A S' r) args s 0 0 A) (F0 m 4 ls []) := by
  unfold b_Rd_readCode_4 at h
  refine lv_iload_n C.1 C.2.1 dX5_readCode_4 rfl (lv_at hl 2 rfl) ?_
  refine lv_iconst (v := 4) C.1 C.2.1 dX5_readCode_5 (by decide) ?_
  refine lv_icmp_ge (tgt := 71) C.1 C.2.1 dX5_readCode_6 (by decide) (fun hc => ?_) (fun hc => ?_)
  · replace h := ift hc h
    refine lv_iload_n C.1 C.2.1 dX5_readCode_71 rfl (lv_at hl 1 rfl) ?_
    obtain ⟨rfl, rfl⟩ := prI h
    exact x_iret C w hr hk dX5_readCode_72
  · replace h := iff0 hc h
    refine lv_aload_n C.1 C.2.1 dX5_readCode_9 rfl (lv_at hl 0 rfl) ?_
    refine lv_dup C.1 C.2.1 dX5_readCode_10 rfl ?_
    refine x_getI C w fX5_20 obC3 dX5_readCode_11 ?_
    refine lv_iconst (v := 1) C.1 C.2.1 dX5_readCode_14 (by decide) ?_
    refine lv_iadd C.1 C.2.1 dX5_readCode_15 ?_
    obtain ⟨S_1, eS_1, h⟩ := lt_e h
    refine y_putI C w eS_1 fX5_20 pX5_3 obC3 dX5_readCode_16 (fun H locs w => ?_)
    refine lv_aload_n C.1 C.2.1 dX5_readCode_19 rfl (lv_at hl 0 rfl) ?_
    refine x_getI C w fX5_20 obC3 dX5_readCode_20 ?_
    refine lv_aload_n C.1 C.2.1 dX5_readCode_23 rfl (lv_at hl 0 rfl) ?_
    refine x_getI C w fX5_24 obC3 dX5_readCode_24 ?_
    refine lv_icmp_ge (tgt := 49) C.1 C.2.1 dX5_readCode_27 (by decide) (fun hc => ?_) (fun hc => ?_)
    · replace h := ift hc h
      refine lv_iconst (v := (-1)) C.1 C.2.1 dX5_readCode_49 (by decide) ?_
      exact w_Rd_readCode_50 C hr hk kk4 w (lv_sub hl [0, 1, 2] rfl) h
    · replace h := iff0 hc h
      refine lv_aload_n C.1 C.2.1 dX5_readCode_30 rfl (lv_at hl 0 rfl) ?_
      refine x_getC C w 10 fX5_27 obC3 rfl dX5_readCode_31 ?_
      refine lv_aload_n C.1 C.2.1 dX5_readCode_34 rfl (lv_at hl 0 rfl) ?_
      refine x_getI C w fX5_20 obC3 dX5_readCode_35 ?_
      obtain ⟨v_2, hv_2, h⟩ := bnd h
      refine x_callVi (q := (RX6, TX6, 4)) (As := [.int (gI S_1 3 3)]) (rest := []) C w (k_Row_at l D T ρ g H.size S_1 obC10 hv_2) vX5_67 ⟨by decide, by decide⟩ obC10 (by decide) rfl rfl rfl hl.1 (Nat.le_of_ble_eq_true rfl) ⟨Nat.zero_le _, Nat.zero_le _⟩ dX5_readCode_38 (fun H locs w => ?_)
      refine lv_bipush (v := 16) C.1 C.2.1 dX5_readCode_41 (by decide) ?_
      obtain ⟨v_3, hv_3, h⟩ := bnd h
      refine x_callSi (As := [.int v_2, .int (16 : Int32)]) (rest := []) C w (k_Lt_digit l D T ρ g H.size S_1 hv_3) vX5_167 ⟨by decide, by decide⟩ rfl rfl hl.1 (Nat.le_of_ble_eq_true rfl) ⟨Nat.zero_le _, Nat.zero_le _⟩ dX5_readCode_43 (fun H locs w => ?_)
      refine lv_goto (tgt := 50) C.1 C.2.1 dX5_readCode_46 (by decide) ?_
      exact w_Rd_readCode_50 C hr hk kk4 w (lv_sub hl [0, 1, 2] rfl) h
theorem w_Rd_readCode_4 {g : Nat} (C : CallFix p m c cX5_readCode 4 s args tb RX5) (hr : meth.sig.returnType = (some .int)) (hk : meth.locks = false) {S' : St} {r : Int32} (n : Nat) : ∀ (S : St) (x1 : Int32) (x2 : Int32) (H : Heap) (locs : List Loc) (ls : Array Slot), Wn Yc D T ρ S A s H locs → lv_has ls 4 [(0, .ref (ρ 3)), (1, .int x1), (2, .int x2)] → m_Rd_readCode_4 g n S x1 x2 = some (S', r) → W p l e (rmN 1 22) s m args below meth c H locs 0 0 (MQ below (Qi Yc D T ρ A S' r) args s 0 0 A) (F0 m 4 ls []) := by
  induction n with
  | zero => intro S x1 x2 H locs ls w hl h; exact absurd h (fun q => by cases q)
  | succ n ih => intro S x1 x2 H locs ls w hl h; exact wb_Rd_readCode_4 C hr hk ih w hl h
set_option maxRecDepth 100000 in
set_option maxHeartbeats 4000000 in
theorem w_Rd_readCode_0  {g : Nat} {S : St} (C : CallFix p m c cX5_readCode 4 s args tb RX5) (hr : meth.sig.returnType = (some .int)) (hk : meth.locks = false) {S' : St} {r : Int32} (w : Wn Yc D T ρ S A s H locs) (hl : lv_has ls 4 [(0, .ref (ρ 3))]) (h : m_Rd_readCode g S = some (S', r)) : W p l e (rmN 1 22) s m args below meth c H locs 0 0 (MQ below (Qi Yc D T ρ A S' r) args s 0 0 A) (F0 m 0 ls []) := by
  unfold m_Rd_readCode at h
  refine lv_iconst (v := 0) C.1 C.2.1 dX5_readCode_0 (by decide) ?_
  refine lv_istore_n (lv' := [(1, .int (0 : Int32)), (0, .ref (ρ 3))]) C.1 C.2.1 dX5_readCode_1 rfl hl (by decide) rfl (fun ls hl => ?_)
  refine lv_iconst (v := 0) C.1 C.2.1 dX5_readCode_2 (by decide) ?_
  refine lv_istore_n (lv' := [(2, .int (0 : Int32)), (1, .int (0 : Int32)), (0, .ref (ρ 3))]) C.1 C.2.1 dX5_readCode_3 rfl hl (by decide) rfl (fun ls hl => ?_)
  exact w_Rd_readCode_4 C hr hk g _ _ _ _ _ _ w (lv_sub hl [2, 1, 0] rfl) h
end S_Rd_readCode
set_option maxRecDepth 100000 in
theorem k_Rd_readCode (l : Launch) (D : va_G) (T : Cy) (ρ : Nat → Nat) (g sz : Nat) (S : St) {S' : St} {r : Int32} (h : m_Rd_readCode g S = some (S', r)) : Mi l Yc D T ρ yX5_readCode cX5_readCode 4 (some .int) 1 22 S S' r [.ref (ρ 3)] sz :=
  x_in (by decide) (Nat.le_of_ble_eq_true rfl) (fun p e s m below meth c ls C hr hk w hl => w_Rd_readCode_0 C hr hk w hl h)

theorem dX5_readSign_0 : decode cX5_readSign 0 = .ok (.aload_n 0, 1) := by decide +kernel
theorem dX5_readSign_1 : decode cX5_readSign 1 = .ok (.getfield 27, 3) := by decide +kernel
theorem dX5_readSign_4 : decode cX5_readSign 4 = .ok (.aload_n 0, 1) := by decide +kernel
theorem dX5_readSign_5 : decode cX5_readSign 5 = .ok (.getfield 20, 3) := by decide +kernel
theorem dX5_readSign_8 : decode cX5_readSign 8 = .ok (.invokevirtual 67, 3) := by decide +kernel
theorem dX5_readSign_11 : decode cX5_readSign 11 = .ok (.istore_n 1, 1) := by decide +kernel
theorem dX5_readSign_12 : decode cX5_readSign 12 = .ok (.iload_n 1, 1) := by decide +kernel
theorem dX5_readSign_13 : decode cX5_readSign 13 = .ok (.bipush 92, 2) := by decide +kernel
theorem dX5_readSign_15 : decode cX5_readSign 15 = .ok (.if_icmp .eq 21, 3) := by decide +kernel
theorem dX5_readSign_18 : decode cX5_readSign 18 = .ok (.iload_n 1, 1) := by decide +kernel
theorem dX5_readSign_19 : decode cX5_readSign 19 = .ok (.bipush 32, 2) := by decide +kernel
theorem dX5_readSign_21 : decode cX5_readSign 21 = .ok (.if_icmp .lt 13, 3) := by decide +kernel
theorem dX5_readSign_24 : decode cX5_readSign 24 = .ok (.iload_n 1, 1) := by decide +kernel
theorem dX5_readSign_25 : decode cX5_readSign 25 = .ok (.bipush 126, 2) := by decide +kernel
theorem dX5_readSign_27 : decode cX5_readSign 27 = .ok (.if_icmp .gt 7, 3) := by decide +kernel
theorem dX5_readSign_30 : decode cX5_readSign 30 = .ok (.iload_n 1, 1) := by decide +kernel
theorem dX5_readSign_31 : decode cX5_readSign 31 = .ok (.goto 4, 3) := by decide +kernel
theorem dX5_readSign_34 : decode cX5_readSign 34 = .ok (.iconst (-1), 1) := by decide +kernel
theorem dX5_readSign_35 : decode cX5_readSign 35 = .ok (.ireturn, 1) := by decide +kernel
theorem dX5_readSign_36 : decode cX5_readSign 36 = .ok (.aload_n 0, 1) := by decide +kernel
theorem dX5_readSign_37 : decode cX5_readSign 37 = .ok (.dup, 1) := by decide +kernel
theorem dX5_readSign_38 : decode cX5_readSign 38 = .ok (.getfield 20, 3) := by decide +kernel
theorem dX5_readSign_41 : decode cX5_readSign 41 = .ok (.iconst 1, 1) := by decide +kernel
theorem dX5_readSign_42 : decode cX5_readSign 42 = .ok (.iadd, 1) := by decide +kernel
theorem dX5_readSign_43 : decode cX5_readSign 43 = .ok (.putfield 20, 3) := by decide +kernel
theorem dX5_readSign_46 : decode cX5_readSign 46 = .ok (.aload_n 0, 1) := by decide +kernel
theorem dX5_readSign_47 : decode cX5_readSign 47 = .ok (.getfield 20, 3) := by decide +kernel
theorem dX5_readSign_50 : decode cX5_readSign 50 = .ok (.aload_n 0, 1) := by decide +kernel
theorem dX5_readSign_51 : decode cX5_readSign 51 = .ok (.getfield 24, 3) := by decide +kernel
theorem dX5_readSign_54 : decode cX5_readSign 54 = .ok (.if_icmp .ge 17, 3) := by decide +kernel
theorem dX5_readSign_57 : decode cX5_readSign 57 = .ok (.aload_n 0, 1) := by decide +kernel
theorem dX5_readSign_58 : decode cX5_readSign 58 = .ok (.getfield 27, 3) := by decide +kernel
theorem dX5_readSign_61 : decode cX5_readSign 61 = .ok (.aload_n 0, 1) := by decide +kernel
theorem dX5_readSign_62 : decode cX5_readSign 62 = .ok (.getfield 20, 3) := by decide +kernel
theorem dX5_readSign_65 : decode cX5_readSign 65 = .ok (.invokevirtual 67, 3) := by decide +kernel
theorem dX5_readSign_68 : decode cX5_readSign 68 = .ok (.goto 4, 3) := by decide +kernel
theorem dX5_readSign_71 : decode cX5_readSign 71 = .ok (.iconst (-1), 1) := by decide +kernel
theorem dX5_readSign_72 : decode cX5_readSign 72 = .ok (.istore_n 2, 1) := by decide +kernel
theorem dX5_readSign_73 : decode cX5_readSign 73 = .ok (.iload_n 2, 1) := by decide +kernel
theorem dX5_readSign_74 : decode cX5_readSign 74 = .ok (.lookupswitch 63 #[(34, 50), (92, 50), (110, 52), (116, 55), (117, 58)], 50) := by decide +kernel
theorem dX5_readSign_124 : decode cX5_readSign 124 = .ok (.iload_n 2, 1) := by decide +kernel
theorem dX5_readSign_125 : decode cX5_readSign 125 = .ok (.ireturn, 1) := by decide +kernel
theorem dX5_readSign_126 : decode cX5_readSign 126 = .ok (.bipush 10, 2) := by decide +kernel
theorem dX5_readSign_128 : decode cX5_readSign 128 = .ok (.ireturn, 1) := by decide +kernel
theorem dX5_readSign_129 : decode cX5_readSign 129 = .ok (.bipush 9, 2) := by decide +kernel
theorem dX5_readSign_131 : decode cX5_readSign 131 = .ok (.ireturn, 1) := by decide +kernel
theorem dX5_readSign_132 : decode cX5_readSign 132 = .ok (.aload_n 0, 1) := by decide +kernel
theorem dX5_readSign_133 : decode cX5_readSign 133 = .ok (.invokevirtual 164, 3) := by decide +kernel
theorem dX5_readSign_136 : decode cX5_readSign 136 = .ok (.ireturn, 1) := by decide +kernel
theorem dX5_readSign_137 : decode cX5_readSign 137 = .ok (.iconst (-1), 1) := by decide +kernel
theorem dX5_readSign_138 : decode cX5_readSign 138 = .ok (.ireturn, 1) := by decide +kernel
def m_Rd_readSign_72 (g : Nat) (S : St) (y0 : Int32) : Option (St × Int32) :=
if y0 = (34 : Int32) then (
  some (S, y0)
) else
if y0 = (92 : Int32) then (
  some (S, y0)
) else
if y0 = (110 : Int32) then (
  some (S, (10 : Int32))
) else
if y0 = (116 : Int32) then (
  some (S, (9 : Int32))
) else
if y0 = (117 : Int32) then (
  (m_Rd_readCode g S).bind fun (S_3, v_4) =>
  some (S_3, v_4)
) else
(
  some (S, (-1 : Int32))
)
def m_Rd_readSign (g : Nat) (S : St) : Option (St × Int32) :=
(m_Row_at g S 10 (gI S 3 3)).bind fun v_1 =>
if v_1 = (92 : Int32) then (
  lt (sI S 3 3 ((gI S 3 3) + (1 : Int32))) fun S_2 =>
  if (gI S_2 3 4) ≤ (gI S_2 3 3) then (
    m_Rd_readSign_72 g S_2 (-1 : Int32)
  ) else (
    (m_Row_at g S_2 10 (gI S_2 3 3)).bind fun v_3 =>
    m_Rd_readSign_72 g S_2 v_3
  )
) else (
  if v_1 < (32 : Int32) then (
    some (S, (-1 : Int32))
  ) else (
    if (126 : Int32) < v_1 then (
      some (S, (-1 : Int32))
    ) else (
      some (S, v_1)
    )
  )
)
section S_Rd_readSign
variable {p : Program} {l : Launch} {e : Env} {s : State} {m : MethodId} {args : Array Value} {below : List Frame} {meth : Method} {c : Code} {H : Heap} {locs : List Loc} {ls : Array Slot} {D : va_G} {T : Cy} {ρ : Nat → Nat} {A : Nat → Prop}
set_option maxRecDepth 100000 in
set_option maxHeartbeats 4000000 in
theorem w_Rd_readSign_72  {g : Nat} {S : St} {y0 : Int32} (C : CallFix p m c cX5_readSign 3 s args tb RX5) (hr : meth.sig.returnType = (some .int)) (hk : meth.locks = false) {S' : St} {r : Int32} (w : Wn Yc D T ρ S A s H locs) (hl : lv_has ls 3 [(0, .ref (ρ 3))]) (h : m_Rd_readSign_72 g S y0 = some (S', r)) : W p l e (rmN 2 45) s m args below meth c H locs 0 0 (MQ below (Qi Yc D T ρ A S' r) args s 0 0 A) (F0 m 72 ls [.int y0]) := by
  unfold m_Rd_readSign_72 at h
  refine lv_istore_n (lv' := [(2, .int y0), (0, .ref (ρ 3))]) C.1 C.2.1 dX5_readSign_72 rfl hl (by decide) rfl (fun ls hl => ?_)
  refine lv_iload_n C.1 C.2.1 dX5_readSign_73 rfl (lv_at hl 0 rfl) ?_
  by_cases hz74_0 : y0 = (34 : Int32)
  · replace h := ift hz74_0 h
    refine lv_lookup (off := 50) (tgt := 124) C.1 C.2.1 dX5_readSign_74 (by decide) (off_t (by rw [hz74_0]; decide)) (by decide) ?_
    refine lv_iload_n C.1 C.2.1 dX5_readSign_124 rfl (lv_at hl 0 rfl) ?_
    obtain ⟨rfl, rfl⟩ := prI h
    exact x_iret C w hr hk dX5_readSign_125
  replace h := iff0 hz74_0 h
  by_cases hz74_1 : y0 = (92 : Int32)
  · replace h := ift hz74_1 h
    refine lv_lookup (off := 50) (tgt := 124) C.1 C.2.1 dX5_readSign_74 (by decide) (off_f (i_ne (v := (34 : Int32)) (by decide) hz74_0) (off_t (by rw [hz74_1]; decide))) (by decide) ?_
    refine lv_iload_n C.1 C.2.1 dX5_readSign_124 rfl (lv_at hl 0 rfl) ?_
    obtain ⟨rfl, rfl⟩ := prI h
    exact x_iret C w hr hk dX5_readSign_125
  replace h := iff0 hz74_1 h
  by_cases hz74_2 : y0 = (110 : Int32)
  · replace h := ift hz74_2 h
    refine lv_lookup (off := 52) (tgt := 126) C.1 C.2.1 dX5_readSign_74 (by decide) (off_f (i_ne (v := (34 : Int32)) (by decide) hz74_0) (off_f (i_ne (v := (92 : Int32)) (by decide) hz74_1) (off_t (by rw [hz74_2]; decide)))) (by decide) ?_
    refine lv_bipush (v := 10) C.1 C.2.1 dX5_readSign_126 (by decide) ?_
    obtain ⟨rfl, rfl⟩ := prI h
    exact x_iret C w hr hk dX5_readSign_128
  replace h := iff0 hz74_2 h
  by_cases hz74_3 : y0 = (116 : Int32)
  · replace h := ift hz74_3 h
    refine lv_lookup (off := 55) (tgt := 129) C.1 C.2.1 dX5_readSign_74 (by decide) (off_f (i_ne (v := (34 : Int32)) (by decide) hz74_0) (off_f (i_ne (v := (92 : Int32)) (by decide) hz74_1) (off_f (i_ne (v := (110 : Int32)) (by decide) hz74_2) (off_t (by rw [hz74_3]; decide))))) (by decide) ?_
    refine lv_bipush (v := 9) C.1 C.2.1 dX5_readSign_129 (by decide) ?_
    obtain ⟨rfl, rfl⟩ := prI h
    exact x_iret C w hr hk dX5_readSign_131
  replace h := iff0 hz74_3 h
  by_cases hz74_4 : y0 = (117 : Int32)
  · replace h := ift hz74_4 h
    refine lv_lookup (off := 58) (tgt := 132) C.1 C.2.1 dX5_readSign_74 (by decide) (off_f (i_ne (v := (34 : Int32)) (by decide) hz74_0) (off_f (i_ne (v := (92 : Int32)) (by decide) hz74_1) (off_f (i_ne (v := (110 : Int32)) (by decide) hz74_2) (off_f (i_ne (v := (116 : Int32)) (by decide) hz74_3) (off_t (by rw [hz74_4]; decide)))))) (by decide) ?_
    refine lv_aload_n C.1 C.2.1 dX5_readSign_132 rfl (lv_at hl 1 rfl) ?_
    obtain ⟨⟨S_3, v_4⟩, hv_4, h⟩ := bnd h
    refine x_callVi (q := (RX5, TX5, 5)) (As := []) (rest := []) C w (k_Rd_readCode l D T ρ g H.size S hv_4) vX5_164 ⟨by decide, by decide⟩ obC3 (by decide) rfl rfl rfl hl.1 (Nat.le_of_ble_eq_true rfl) ⟨Nat.zero_le _, Nat.zero_le _⟩ dX5_readSign_133 (fun H locs w => ?_)
    obtain ⟨rfl, rfl⟩ := prI h
    exact x_iret C w hr hk dX5_readSign_136
  replace h := iff0 hz74_4 h
  refine lv_lookup (off := 63) (tgt := 137) C.1 C.2.1 dX5_readSign_74 (by decide) (off_f (i_ne (v := (34 : Int32)) (by decide) hz74_0) (off_f (i_ne (v := (92 : Int32)) (by decide) hz74_1) (off_f (i_ne (v := (110 : Int32)) (by decide) hz74_2) (off_f (i_ne (v := (116 : Int32)) (by decide) hz74_3) (off_f (i_ne (v := (117 : Int32)) (by decide) hz74_4) rfl))))) (by decide) ?_
  refine lv_iconst (v := (-1)) C.1 C.2.1 dX5_readSign_137 (by decide) ?_
  obtain ⟨rfl, rfl⟩ := prI h
  exact x_iret C w hr hk dX5_readSign_138
set_option maxRecDepth 100000 in
set_option maxHeartbeats 4000000 in
theorem w_Rd_readSign_0  {g : Nat} {S : St} (C : CallFix p m c cX5_readSign 3 s args tb RX5) (hr : meth.sig.returnType = (some .int)) (hk : meth.locks = false) {S' : St} {r : Int32} (w : Wn Yc D T ρ S A s H locs) (hl : lv_has ls 3 [(0, .ref (ρ 3))]) (h : m_Rd_readSign g S = some (S', r)) : W p l e (rmN 2 45) s m args below meth c H locs 0 0 (MQ below (Qi Yc D T ρ A S' r) args s 0 0 A) (F0 m 0 ls []) := by
  unfold m_Rd_readSign at h
  refine lv_aload_n C.1 C.2.1 dX5_readSign_0 rfl (lv_at hl 0 rfl) ?_
  refine x_getC C w 10 fX5_27 obC3 rfl dX5_readSign_1 ?_
  refine lv_aload_n C.1 C.2.1 dX5_readSign_4 rfl (lv_at hl 0 rfl) ?_
  refine x_getI C w fX5_20 obC3 dX5_readSign_5 ?_
  obtain ⟨v_1, hv_1, h⟩ := bnd h
  refine x_callVi (q := (RX6, TX6, 4)) (As := [.int (gI S 3 3)]) (rest := []) C w (k_Row_at l D T ρ g H.size S obC10 hv_1) vX5_67 ⟨by decide, by decide⟩ obC10 (by decide) rfl rfl rfl hl.1 (Nat.le_of_ble_eq_true rfl) ⟨Nat.zero_le _, Nat.zero_le _⟩ dX5_readSign_8 (fun H locs w => ?_)
  refine lv_istore_n (lv' := [(1, .int v_1), (0, .ref (ρ 3))]) C.1 C.2.1 dX5_readSign_11 rfl hl (by decide) rfl (fun ls hl => ?_)
  refine lv_iload_n C.1 C.2.1 dX5_readSign_12 rfl (lv_at hl 0 rfl) ?_
  refine lv_bipush (v := 92) C.1 C.2.1 dX5_readSign_13 (by decide) ?_
  refine lv_icmp_eq (tgt := 36) C.1 C.2.1 dX5_readSign_15 (by decide) (fun hc => ?_) (fun hc => ?_)
  · replace h := ift hc h
    refine lv_aload_n C.1 C.2.1 dX5_readSign_36 rfl (lv_at hl 1 rfl) ?_
    refine lv_dup C.1 C.2.1 dX5_readSign_37 rfl ?_
    refine x_getI C w fX5_20 obC3 dX5_readSign_38 ?_
    refine lv_iconst (v := 1) C.1 C.2.1 dX5_readSign_41 (by decide) ?_
    refine lv_iadd C.1 C.2.1 dX5_readSign_42 ?_
    obtain ⟨S_2, eS_2, h⟩ := lt_e h
    refine y_putI C w eS_2 fX5_20 pX5_3 obC3 dX5_readSign_43 (fun H locs w => ?_)
    refine lv_aload_n C.1 C.2.1 dX5_readSign_46 rfl (lv_at hl 1 rfl) ?_
    refine x_getI C w fX5_20 obC3 dX5_readSign_47 ?_
    refine lv_aload_n C.1 C.2.1 dX5_readSign_50 rfl (lv_at hl 1 rfl) ?_
    refine x_getI C w fX5_24 obC3 dX5_readSign_51 ?_
    refine lv_icmp_ge (tgt := 71) C.1 C.2.1 dX5_readSign_54 (by decide) (fun hc => ?_) (fun hc => ?_)
    · replace h := ift hc h
      refine lv_iconst (v := (-1)) C.1 C.2.1 dX5_readSign_71 (by decide) ?_
      exact w_Rd_readSign_72 C hr hk w (lv_sub hl [1] rfl) h
    · replace h := iff0 hc h
      refine lv_aload_n C.1 C.2.1 dX5_readSign_57 rfl (lv_at hl 1 rfl) ?_
      refine x_getC C w 10 fX5_27 obC3 rfl dX5_readSign_58 ?_
      refine lv_aload_n C.1 C.2.1 dX5_readSign_61 rfl (lv_at hl 1 rfl) ?_
      refine x_getI C w fX5_20 obC3 dX5_readSign_62 ?_
      obtain ⟨v_3, hv_3, h⟩ := bnd h
      refine x_callVi (q := (RX6, TX6, 4)) (As := [.int (gI S_2 3 3)]) (rest := []) C w (k_Row_at l D T ρ g H.size S_2 obC10 hv_3) vX5_67 ⟨by decide, by decide⟩ obC10 (by decide) rfl rfl rfl hl.1 (Nat.le_of_ble_eq_true rfl) ⟨Nat.zero_le _, Nat.zero_le _⟩ dX5_readSign_65 (fun H locs w => ?_)
      refine lv_goto (tgt := 72) C.1 C.2.1 dX5_readSign_68 (by decide) ?_
      exact w_Rd_readSign_72 C hr hk w (lv_sub hl [1] rfl) h
  · replace h := iff0 hc h
    refine lv_iload_n C.1 C.2.1 dX5_readSign_18 rfl (lv_at hl 0 rfl) ?_
    refine lv_bipush (v := 32) C.1 C.2.1 dX5_readSign_19 (by decide) ?_
    refine lv_icmp_lt (tgt := 34) C.1 C.2.1 dX5_readSign_21 (by decide) (fun hc => ?_) (fun hc => ?_)
    · replace h := ift hc h
      refine lv_iconst (v := (-1)) C.1 C.2.1 dX5_readSign_34 (by decide) ?_
      obtain ⟨rfl, rfl⟩ := prI h
      exact x_iret C w hr hk dX5_readSign_35
    · replace h := iff0 hc h
      refine lv_iload_n C.1 C.2.1 dX5_readSign_24 rfl (lv_at hl 0 rfl) ?_
      refine lv_bipush (v := 126) C.1 C.2.1 dX5_readSign_25 (by decide) ?_
      refine lv_icmp_gt (tgt := 34) C.1 C.2.1 dX5_readSign_27 (by decide) (fun hc => ?_) (fun hc => ?_)
      · replace h := ift hc h
        refine lv_iconst (v := (-1)) C.1 C.2.1 dX5_readSign_34 (by decide) ?_
        obtain ⟨rfl, rfl⟩ := prI h
        exact x_iret C w hr hk dX5_readSign_35
      · replace h := iff0 hc h
        refine lv_iload_n C.1 C.2.1 dX5_readSign_30 rfl (lv_at hl 0 rfl) ?_
        refine lv_goto (tgt := 35) C.1 C.2.1 dX5_readSign_31 (by decide) ?_
        obtain ⟨rfl, rfl⟩ := prI h
        exact x_iret C w hr hk dX5_readSign_35
end S_Rd_readSign
set_option maxRecDepth 100000 in
theorem k_Rd_readSign (l : Launch) (D : va_G) (T : Cy) (ρ : Nat → Nat) (g sz : Nat) (S : St) {S' : St} {r : Int32} (h : m_Rd_readSign g S = some (S', r)) : Mi l Yc D T ρ yX5_readSign cX5_readSign 3 (some .int) 2 45 S S' r [.ref (ρ 3)] sz :=
  x_in (by decide) (Nat.le_of_ble_eq_true rfl) (fun p e s m below meth c ls C hr hk w hl => w_Rd_readSign_0 C hr hk w hl h)

theorem dX5_countOf_0 : decode cX5_countOf 0 = .ok (.iload_n 0, 1) := by decide +kernel
theorem dX5_countOf_1 : decode cX5_countOf 1 = .ok (.bipush 118, 2) := by decide +kernel
theorem dX5_countOf_3 : decode cX5_countOf 3 = .ok (.if_icmp .ne 6, 3) := by decide +kernel
theorem dX5_countOf_6 : decode cX5_countOf 6 = .ok (.bipush 20, 2) := by decide +kernel
theorem dX5_countOf_8 : decode cX5_countOf 8 = .ok (.ireturn, 1) := by decide +kernel
theorem dX5_countOf_9 : decode cX5_countOf 9 = .ok (.iload_n 0, 1) := by decide +kernel
theorem dX5_countOf_10 : decode cX5_countOf 10 = .ok (.bipush 119, 2) := by decide +kernel
theorem dX5_countOf_12 : decode cX5_countOf 12 = .ok (.if_icmp .ne 8, 3) := by decide +kernel
theorem dX5_countOf_15 : decode cX5_countOf 15 = .ok (.bipush 12, 2) := by decide +kernel
theorem dX5_countOf_17 : decode cX5_countOf 17 = .ok (.goto 5, 3) := by decide +kernel
theorem dX5_countOf_20 : decode cX5_countOf 20 = .ok (.bipush 6, 2) := by decide +kernel
theorem dX5_countOf_22 : decode cX5_countOf 22 = .ok (.ireturn, 1) := by decide +kernel
def m_Rd_countOf (g : Nat) (x0 : Int32) : Option Int32 :=
if x0 = (118 : Int32) then (
  some (20 : Int32)
) else (
  if x0 = (119 : Int32) then (
    some (12 : Int32)
  ) else (
    some (6 : Int32)
  )
)
section S_Rd_countOf
variable {p : Program} {l : Launch} {e : Env} {s : State} {m : MethodId} {args : Array Value} {below : List Frame} {meth : Method} {c : Code} {H : Heap} {locs : List Loc} {ls : Array Slot} {D : va_G} {T : Cy} {ρ : Nat → Nat} {A : Nat → Prop}
set_option maxRecDepth 100000 in
set_option maxHeartbeats 4000000 in
theorem w_Rd_countOf_0  {g : Nat} {S : St} {x0 : Int32} (C : CallFix p m c cX5_countOf 1 s args tb RX5) (hr : meth.sig.returnType = (some .int)) (hk : meth.locks = false) {r : Int32} (w : Wn Yc D T ρ S A s H locs) (hl : lv_has ls 1 [(0, .int x0)]) (h : m_Rd_countOf g x0 = some r) : W p l e (rmN 0 0) s m args below meth c H locs 0 0 (MQ below (Qi Yc D T ρ A S r) args s 0 0 A) (F0 m 0 ls []) := by
  unfold m_Rd_countOf at h
  refine lv_iload_n C.1 C.2.1 dX5_countOf_0 rfl (lv_at hl 0 rfl) ?_
  refine lv_bipush (v := 118) C.1 C.2.1 dX5_countOf_1 (by decide) ?_
  refine lv_icmp_ne (tgt := 9) C.1 C.2.1 dX5_countOf_3 (by decide) (fun hc => ?_) (fun hc => ?_)
  · replace h := iff0 hc h
    refine lv_iload_n C.1 C.2.1 dX5_countOf_9 rfl (lv_at hl 0 rfl) ?_
    refine lv_bipush (v := 119) C.1 C.2.1 dX5_countOf_10 (by decide) ?_
    refine lv_icmp_ne (tgt := 20) C.1 C.2.1 dX5_countOf_12 (by decide) (fun hc => ?_) (fun hc => ?_)
    · replace h := iff0 hc h
      refine lv_bipush (v := 6) C.1 C.2.1 dX5_countOf_20 (by decide) ?_
      obtain rfl := som h
      exact x_iret C w hr hk dX5_countOf_22
    · replace h := ift hc h
      refine lv_bipush (v := 12) C.1 C.2.1 dX5_countOf_15 (by decide) ?_
      refine lv_goto (tgt := 22) C.1 C.2.1 dX5_countOf_17 (by decide) ?_
      obtain rfl := som h
      exact x_iret C w hr hk dX5_countOf_22
  · replace h := ift hc h
    refine lv_bipush (v := 20) C.1 C.2.1 dX5_countOf_6 (by decide) ?_
    obtain rfl := som h
    exact x_iret C w hr hk dX5_countOf_8
end S_Rd_countOf
set_option maxRecDepth 100000 in
theorem k_Rd_countOf (l : Launch) (D : va_G) (T : Cy) (ρ : Nat → Nat) (g sz : Nat) (S : St) {x0 : Int32} {r : Int32} (h : m_Rd_countOf g x0 = some r) : Mi l Yc D T ρ yX5_countOf cX5_countOf 1 (some .int) 0 0 S S r [.int x0] sz :=
  x_in (by decide) (Nat.le_of_ble_eq_true rfl) (fun p e s m below meth c ls C hr hk w hl => w_Rd_countOf_0 C hr hk w hl h)

theorem dX5_readName_0 : decode cX5_readName 0 = .ok (.aload_n 0, 1) := by decide +kernel
theorem dX5_readName_1 : decode cX5_readName 1 = .ok (.getfield 27, 3) := by decide +kernel
theorem dX5_readName_4 : decode cX5_readName 4 = .ok (.iload_n 3, 1) := by decide +kernel
theorem dX5_readName_5 : decode cX5_readName 5 = .ok (.invokevirtual 67, 3) := by decide +kernel
theorem dX5_readName_8 : decode cX5_readName 8 = .ok (.istore 5, 2) := by decide +kernel
theorem dX5_readName_10 : decode cX5_readName 10 = .ok (.iload 4, 2) := by decide +kernel
theorem dX5_readName_12 : decode cX5_readName 12 = .ok (.iload_n 3, 1) := by decide +kernel
theorem dX5_readName_13 : decode cX5_readName 13 = .ok (.isub, 1) := by decide +kernel
theorem dX5_readName_14 : decode cX5_readName 14 = .ok (.iconst 1, 1) := by decide +kernel
theorem dX5_readName_15 : decode cX5_readName 15 = .ok (.isub, 1) := by decide +kernel
theorem dX5_readName_16 : decode cX5_readName 16 = .ok (.istore 6, 2) := by decide +kernel
theorem dX5_readName_18 : decode cX5_readName 18 = .ok (.iload 6, 2) := by decide +kernel
theorem dX5_readName_20 : decode cX5_readName 20 = .ok (.iconst 1, 1) := by decide +kernel
theorem dX5_readName_21 : decode cX5_readName 21 = .ok (.if_icmp .lt 30, 3) := by decide +kernel
theorem dX5_readName_24 : decode cX5_readName 24 = .ok (.iload 6, 2) := by decide +kernel
theorem dX5_readName_26 : decode cX5_readName 26 = .ok (.iconst 2, 1) := by decide +kernel
theorem dX5_readName_27 : decode cX5_readName 27 = .ok (.if_icmp .gt 24, 3) := by decide +kernel
theorem dX5_readName_30 : decode cX5_readName 30 = .ok (.iload 6, 2) := by decide +kernel
theorem dX5_readName_32 : decode cX5_readName 32 = .ok (.iconst 2, 1) := by decide +kernel
theorem dX5_readName_33 : decode cX5_readName 33 = .ok (.if_icmp .ne 20, 3) := by decide +kernel
theorem dX5_readName_36 : decode cX5_readName 36 = .ok (.aload_n 0, 1) := by decide +kernel
theorem dX5_readName_37 : decode cX5_readName 37 = .ok (.getfield 27, 3) := by decide +kernel
theorem dX5_readName_40 : decode cX5_readName 40 = .ok (.iload_n 3, 1) := by decide +kernel
theorem dX5_readName_41 : decode cX5_readName 41 = .ok (.iconst 1, 1) := by decide +kernel
theorem dX5_readName_42 : decode cX5_readName 42 = .ok (.iadd, 1) := by decide +kernel
theorem dX5_readName_43 : decode cX5_readName 43 = .ok (.invokevirtual 67, 3) := by decide +kernel
theorem dX5_readName_46 : decode cX5_readName 46 = .ok (.bipush 48, 2) := by decide +kernel
theorem dX5_readName_48 : decode cX5_readName 48 = .ok (.if_icmp .ne 5, 3) := by decide +kernel
theorem dX5_readName_51 : decode cX5_readName 51 = .ok (.iconst 0, 1) := by decide +kernel
theorem dX5_readName_52 : decode cX5_readName 52 = .ok (.ireturn, 1) := by decide +kernel
theorem dX5_readName_53 : decode cX5_readName 53 = .ok (.aload_n 0, 1) := by decide +kernel
theorem dX5_readName_54 : decode cX5_readName 54 = .ok (.getfield 27, 3) := by decide +kernel
theorem dX5_readName_57 : decode cX5_readName 57 = .ok (.iload_n 3, 1) := by decide +kernel
theorem dX5_readName_58 : decode cX5_readName 58 = .ok (.iconst 1, 1) := by decide +kernel
theorem dX5_readName_59 : decode cX5_readName 59 = .ok (.iadd, 1) := by decide +kernel
theorem dX5_readName_60 : decode cX5_readName 60 = .ok (.iload 4, 2) := by decide +kernel
theorem dX5_readName_62 : decode cX5_readName 62 = .ok (.bipush 10, 2) := by decide +kernel
theorem dX5_readName_64 : decode cX5_readName 64 = .ok (.invokestatic 134, 3) := by decide +kernel
theorem dX5_readName_67 : decode cX5_readName 67 = .ok (.lstore 7, 2) := by decide +kernel
theorem dX5_readName_69 : decode cX5_readName 69 = .ok (.lload 7, 2) := by decide +kernel
theorem dX5_readName_71 : decode cX5_readName 71 = .ok (.lconst 0, 1) := by decide +kernel
theorem dX5_readName_72 : decode cX5_readName 72 = .ok (.lcmp, 1) := by decide +kernel
theorem dX5_readName_73 : decode cX5_readName 73 = .ok (.ifCond .gt 16, 3) := by decide +kernel
theorem dX5_readName_76 : decode cX5_readName 76 = .ok (.lload 7, 2) := by decide +kernel
theorem dX5_readName_78 : decode cX5_readName 78 = .ok (.lneg, 1) := by decide +kernel
theorem dX5_readName_79 : decode cX5_readName 79 = .ok (.iload 5, 2) := by decide +kernel
theorem dX5_readName_81 : decode cX5_readName 81 = .ok (.invokestatic 140, 3) := by decide +kernel
theorem dX5_readName_84 : decode cX5_readName 84 = .ok (.i2l, 1) := by decide +kernel
theorem dX5_readName_85 : decode cX5_readName 85 = .ok (.lcmp, 1) := by decide +kernel
theorem dX5_readName_86 : decode cX5_readName 86 = .ok (.ifCond .lt 5, 3) := by decide +kernel
theorem dX5_readName_89 : decode cX5_readName 89 = .ok (.iconst 0, 1) := by decide +kernel
theorem dX5_readName_90 : decode cX5_readName 90 = .ok (.ireturn, 1) := by decide +kernel
theorem dX5_readName_91 : decode cX5_readName 91 = .ok (.aload_n 0, 1) := by decide +kernel
theorem dX5_readName_92 : decode cX5_readName 92 = .ok (.getfield 30, 3) := by decide +kernel
theorem dX5_readName_95 : decode cX5_readName 95 = .ok (.iload 5, 2) := by decide +kernel
theorem dX5_readName_97 : decode cX5_readName 97 = .ok (.iload_n 1, 1) := by decide +kernel
theorem dX5_readName_98 : decode cX5_readName 98 = .ok (.lload 7, 2) := by decide +kernel
theorem dX5_readName_100 : decode cX5_readName 100 = .ok (.lneg, 1) := by decide +kernel
theorem dX5_readName_101 : decode cX5_readName 101 = .ok (.iload_n 2, 1) := by decide +kernel
theorem dX5_readName_102 : decode cX5_readName 102 = .ok (.invokevirtual 143, 3) := by decide +kernel
theorem dX5_readName_105 : decode cX5_readName 105 = .ok (.iconst 1, 1) := by decide +kernel
theorem dX5_readName_106 : decode cX5_readName 106 = .ok (.ireturn, 1) := by decide +kernel
def m_Rd_readName_53 (g : Nat) (S : St) (x1 : Int32) (x2 : Int32) (x3 : Int32) (x4 : Int32) (x5 : Int32) : Option (St × Int32) :=
(m_Lt_minusTold g S 10 (x3 + (1 : Int32)) x4 (10 : Int32)).bind fun v_3 =>
if (0 : Int64) < v_3 then (
  some (S, (0 : Int32))
) else (
  (m_Rd_countOf g x5).bind fun v_4 =>
  if (-v_3) < (v_4.toInt64) then (
    if gR S 3 2 = 1 ∨ gR S 3 2 = 2 then
    lt (gR S 3 2) fun p_6 =>
    (m_Pg_addWord g S p_6 x5 x1 (-v_3) x2).bind fun S_7 =>
    some (S_7, (1 : Int32))
    else none
  ) else (
    some (S, (0 : Int32))
  )
)
def m_Rd_readName (g : Nat) (S : St) (x1 : Int32) (x2 : Int32) (x3 : Int32) (x4 : Int32) : Option (St × Int32) :=
(m_Row_at g S 10 x3).bind fun v_1 =>
lt ((x4 - x3) - (1 : Int32)) fun x6_2 =>
if x6_2 < (1 : Int32) then (
  some (S, (0 : Int32))
) else (
  if (2 : Int32) < x6_2 then (
    some (S, (0 : Int32))
  ) else (
    if x6_2 = (2 : Int32) then (
      (m_Row_at g S 10 (x3 + (1 : Int32))).bind fun v_3 =>
      if v_3 = (48 : Int32) then (
        some (S, (0 : Int32))
      ) else (
        m_Rd_readName_53 g S x1 x2 x3 x4 v_1
      )
    ) else (
      m_Rd_readName_53 g S x1 x2 x3 x4 v_1
    )
  )
)
section S_Rd_readName
variable {p : Program} {l : Launch} {e : Env} {s : State} {m : MethodId} {args : Array Value} {below : List Frame} {meth : Method} {c : Code} {H : Heap} {locs : List Loc} {ls : Array Slot} {D : va_G} {T : Cy} {ρ : Nat → Nat} {A : Nat → Prop}
set_option maxRecDepth 100000 in
set_option maxHeartbeats 4000000 in
theorem w_Rd_readName_53  {g : Nat} {S : St} {x1 : Int32} {x2 : Int32} {x3 : Int32} {x4 : Int32} {x5 : Int32} (C : CallFix p m c cX5_readName 9 s args tb RX5) (hr : meth.sig.returnType = (some .boolean)) (hk : meth.locks = false) {S' : St} {r : Int32} (w : Wn Yc D T ρ S A s H locs) (hl : lv_has ls 9 [(0, .ref (ρ 3)), (1, .int x1), (2, .int x2), (3, .int x3), (4, .int x4), (5, .int x5)]) (h : m_Rd_readName_53 g S x1 x2 x3 x4 x5 = some (S', r)) : W p l e (rmN 2 49) s m args below meth c H locs 0 0 (MQ below (Qi Yc D T ρ A S' r) args s 0 0 A) (F0 m 53 ls []) := by
  unfold m_Rd_readName_53 at h
  refine lv_aload_n C.1 C.2.1 dX5_readName_53 rfl (lv_at hl 0 rfl) ?_
  refine x_getC C w 10 fX5_27 obC3 rfl dX5_readName_54 ?_
  refine lv_iload_n C.1 C.2.1 dX5_readName_57 rfl (lv_at hl 3 rfl) ?_
  refine lv_iconst (v := 1) C.1 C.2.1 dX5_readName_58 (by decide) ?_
  refine lv_iadd C.1 C.2.1 dX5_readName_59 ?_
  refine lv_iload C.1 C.2.1 dX5_readName_60 (lv_at hl 4 rfl) ?_
  refine lv_bipush (v := 10) C.1 C.2.1 dX5_readName_62 (by decide) ?_
  obtain ⟨v_3, hv_3, h⟩ := bnd h
  refine x_callSj (As := [.ref (ρ 10), .int (x3 + (1 : Int32)), .int x4, .int (10 : Int32)]) (rest := []) C w (k_Lt_minusTold l D T ρ g H.size S obC10 hv_3) vX5_134 ⟨by decide, by decide⟩ rfl rfl hl.1 (Nat.le_of_ble_eq_true rfl) ⟨Nat.zero_le _, Nat.zero_le _⟩ dX5_readName_64 (fun H locs w => ?_)
  refine lv_lstore (lv' := [(7, .long v_3), (0, .ref (ρ 3)), (1, .int x1), (2, .int x2), (3, .int x3), (4, .int x4), (5, .int x5)]) C.1 C.2.1 dX5_readName_67 hl (by decide) rfl (fun ls hl => ?_)
  refine lv_lload C.1 C.2.1 dX5_readName_69 (lv_at hl 0 rfl) ?_
  refine lv_lconst (v := 0) C.1 C.2.1 dX5_readName_71 (by decide) ?_
  refine x_l_gt (tgt := 89) C dX5_readName_72 dX5_readName_73 (by decide) (fun hc => ?_) (fun hc => ?_)
  · replace h := ift hc h
    refine lv_iconst (v := 0) C.1 C.2.1 dX5_readName_89 (by decide) ?_
    obtain ⟨rfl, rfl⟩ := prI h
    exact x_zret C w hr hk (by decide) dX5_readName_90
  · replace h := iff0 hc h
    refine lv_lload C.1 C.2.1 dX5_readName_76 (lv_at hl 0 rfl) ?_
    refine lv_lneg C.1 C.2.1 dX5_readName_78 ?_
    refine lv_iload C.1 C.2.1 dX5_readName_79 (lv_at hl 6 rfl) ?_
    obtain ⟨v_4, hv_4, h⟩ := bnd h
    refine x_callSi (As := [.int x5]) (rest := [.long (-v_3)]) C w (k_Rd_countOf l D T ρ g H.size S hv_4) vX5_140 ⟨by decide, by decide⟩ rfl rfl hl.1 (Nat.le_of_ble_eq_true rfl) ⟨Nat.zero_le _, Nat.zero_le _⟩ dX5_readName_81 (fun H locs w => ?_)
    refine lv_i2l C.1 C.2.1 dX5_readName_84 rfl ?_
    refine x_l_lt (tgt := 91) C dX5_readName_85 dX5_readName_86 (by decide) (fun hc => ?_) (fun hc => ?_)
    · replace h := ift hc h
      refine lv_aload_n C.1 C.2.1 dX5_readName_91 rfl (lv_at hl 1 rfl) ?_
      by_cases hz_5 : gR S 3 2 = 1 ∨ gR S 3 2 = 2
      case neg => exact absurd (iff0 hz_5 h) (fun q => by cases q)
      replace h := ift hz_5 h
      obtain ⟨p_6, ep_6, h⟩ := lt_e h
      have ho_p_6 : Ob Yc p_6 2 := obPg (by rw [ep_6]; exact hz_5)
      refine x_getR C w fX5_30 obC3 dX5_readName_92 ?_
      refine x_nmR ep_6 ?_
      refine lv_iload C.1 C.2.1 dX5_readName_95 (lv_at hl 6 rfl) ?_
      refine lv_iload_n C.1 C.2.1 dX5_readName_97 rfl (lv_at hl 2 rfl) ?_
      refine lv_lload C.1 C.2.1 dX5_readName_98 (lv_at hl 0 rfl) ?_
      refine lv_lneg C.1 C.2.1 dX5_readName_100 ?_
      refine lv_iload_n C.1 C.2.1 dX5_readName_101 rfl (lv_at hl 3 rfl) ?_
      obtain ⟨S_7, hS_7, h⟩ := bnd h
      refine x_callVv (q := (RX4, TX4, 16)) (As := [.int x5, .int x1, .long (-v_3), .int x2]) (rest := []) C w (k_Pg_addWord l D T ρ g H.size S ho_p_6 hS_7) vX5_143 ⟨by decide, by decide⟩ ho_p_6 (by decide) rfl rfl rfl hl.1 (Nat.le_of_ble_eq_true rfl) ⟨Nat.zero_le _, Nat.zero_le _⟩ dX5_readName_102 (fun H locs w => ?_)
      refine lv_iconst (v := 1) C.1 C.2.1 dX5_readName_105 (by decide) ?_
      obtain ⟨rfl, rfl⟩ := prI h
      exact x_zret C w hr hk (by decide) dX5_readName_106
    · replace h := iff0 hc h
      refine lv_iconst (v := 0) C.1 C.2.1 dX5_readName_89 (by decide) ?_
      obtain ⟨rfl, rfl⟩ := prI h
      exact x_zret C w hr hk (by decide) dX5_readName_90
set_option maxRecDepth 100000 in
set_option maxHeartbeats 4000000 in
theorem w_Rd_readName_0  {g : Nat} {S : St} {x1 : Int32} {x2 : Int32} {x3 : Int32} {x4 : Int32} (C : CallFix p m c cX5_readName 9 s args tb RX5) (hr : meth.sig.returnType = (some .boolean)) (hk : meth.locks = false) {S' : St} {r : Int32} (w : Wn Yc D T ρ S A s H locs) (hl : lv_has ls 9 [(0, .ref (ρ 3)), (1, .int x1), (2, .int x2), (3, .int x3), (4, .int x4)]) (h : m_Rd_readName g S x1 x2 x3 x4 = some (S', r)) : W p l e (rmN 2 49) s m args below meth c H locs 0 0 (MQ below (Qi Yc D T ρ A S' r) args s 0 0 A) (F0 m 0 ls []) := by
  unfold m_Rd_readName at h
  refine lv_aload_n C.1 C.2.1 dX5_readName_0 rfl (lv_at hl 0 rfl) ?_
  refine x_getC C w 10 fX5_27 obC3 rfl dX5_readName_1 ?_
  refine lv_iload_n C.1 C.2.1 dX5_readName_4 rfl (lv_at hl 3 rfl) ?_
  obtain ⟨v_1, hv_1, h⟩ := bnd h
  refine x_callVi (q := (RX6, TX6, 4)) (As := [.int x3]) (rest := []) C w (k_Row_at l D T ρ g H.size S obC10 hv_1) vX5_67 ⟨by decide, by decide⟩ obC10 (by decide) rfl rfl rfl hl.1 (Nat.le_of_ble_eq_true rfl) ⟨Nat.zero_le _, Nat.zero_le _⟩ dX5_readName_5 (fun H locs w => ?_)
  refine lv_istore (lv' := [(5, .int v_1), (0, .ref (ρ 3)), (1, .int x1), (2, .int x2), (3, .int x3), (4, .int x4)]) C.1 C.2.1 dX5_readName_8 hl (by decide) rfl (fun ls hl => ?_)
  refine lv_iload C.1 C.2.1 dX5_readName_10 (lv_at hl 5 rfl) ?_
  refine lv_iload_n C.1 C.2.1 dX5_readName_12 rfl (lv_at hl 4 rfl) ?_
  refine lv_isub C.1 C.2.1 dX5_readName_13 ?_
  refine lv_iconst (v := 1) C.1 C.2.1 dX5_readName_14 (by decide) ?_
  refine lv_isub C.1 C.2.1 dX5_readName_15 ?_
  obtain ⟨x6_2, ex6_2, h⟩ := lt_e h
  refine x_nm ex6_2 ?_
  refine lv_istore (lv' := [(6, .int x6_2), (5, .int v_1), (0, .ref (ρ 3)), (1, .int x1), (2, .int x2), (3, .int x3), (4, .int x4)]) C.1 C.2.1 dX5_readName_16 hl (by decide) rfl (fun ls hl => ?_)
  refine lv_iload C.1 C.2.1 dX5_readName_18 (lv_at hl 0 rfl) ?_
  refine lv_iconst (v := 1) C.1 C.2.1 dX5_readName_20 (by decide) ?_
  refine lv_icmp_lt (tgt := 51) C.1 C.2.1 dX5_readName_21 (by decide) (fun hc => ?_) (fun hc => ?_)
  · replace h := ift hc h
    refine lv_iconst (v := 0) C.1 C.2.1 dX5_readName_51 (by decide) ?_
    obtain ⟨rfl, rfl⟩ := prI h
    exact x_zret C w hr hk (by decide) dX5_readName_52
  · replace h := iff0 hc h
    refine lv_iload C.1 C.2.1 dX5_readName_24 (lv_at hl 0 rfl) ?_
    refine lv_iconst (v := 2) C.1 C.2.1 dX5_readName_26 (by decide) ?_
    refine lv_icmp_gt (tgt := 51) C.1 C.2.1 dX5_readName_27 (by decide) (fun hc => ?_) (fun hc => ?_)
    · replace h := ift hc h
      refine lv_iconst (v := 0) C.1 C.2.1 dX5_readName_51 (by decide) ?_
      obtain ⟨rfl, rfl⟩ := prI h
      exact x_zret C w hr hk (by decide) dX5_readName_52
    · replace h := iff0 hc h
      refine lv_iload C.1 C.2.1 dX5_readName_30 (lv_at hl 0 rfl) ?_
      refine lv_iconst (v := 2) C.1 C.2.1 dX5_readName_32 (by decide) ?_
      refine lv_icmp_ne (tgt := 53) C.1 C.2.1 dX5_readName_33 (by decide) (fun hc => ?_) (fun hc => ?_)
      · replace h := iff0 hc h
        exact w_Rd_readName_53 C hr hk w (lv_sub hl [2, 3, 4, 5, 6, 1] rfl) h
      · replace h := ift hc h
        refine lv_aload_n C.1 C.2.1 dX5_readName_36 rfl (lv_at hl 2 rfl) ?_
        refine x_getC C w 10 fX5_27 obC3 rfl dX5_readName_37 ?_
        refine lv_iload_n C.1 C.2.1 dX5_readName_40 rfl (lv_at hl 5 rfl) ?_
        refine lv_iconst (v := 1) C.1 C.2.1 dX5_readName_41 (by decide) ?_
        refine lv_iadd C.1 C.2.1 dX5_readName_42 ?_
        obtain ⟨v_3, hv_3, h⟩ := bnd h
        refine x_callVi (q := (RX6, TX6, 4)) (As := [.int (x3 + (1 : Int32))]) (rest := []) C w (k_Row_at l D T ρ g H.size S obC10 hv_3) vX5_67 ⟨by decide, by decide⟩ obC10 (by decide) rfl rfl rfl hl.1 (Nat.le_of_ble_eq_true rfl) ⟨Nat.zero_le _, Nat.zero_le _⟩ dX5_readName_43 (fun H locs w => ?_)
        refine lv_bipush (v := 48) C.1 C.2.1 dX5_readName_46 (by decide) ?_
        refine lv_icmp_ne (tgt := 53) C.1 C.2.1 dX5_readName_48 (by decide) (fun hc => ?_) (fun hc => ?_)
        · replace h := iff0 hc h
          exact w_Rd_readName_53 C hr hk w (lv_sub hl [2, 3, 4, 5, 6, 1] rfl) h
        · replace h := ift hc h
          refine lv_iconst (v := 0) C.1 C.2.1 dX5_readName_51 (by decide) ?_
          obtain ⟨rfl, rfl⟩ := prI h
          exact x_zret C w hr hk (by decide) dX5_readName_52
end S_Rd_readName
set_option maxRecDepth 100000 in
theorem k_Rd_readName (l : Launch) (D : va_G) (T : Cy) (ρ : Nat → Nat) (g sz : Nat) (S : St) {x1 : Int32} {x2 : Int32} {x3 : Int32} {x4 : Int32} {S' : St} {r : Int32} (h : m_Rd_readName g S x1 x2 x3 x4 = some (S', r)) : Mi l Yc D T ρ yX5_readName cX5_readName 9 (some .boolean) 2 49 S S' r [.ref (ρ 3), .int x1, .int x2, .int x3, .int x4] sz :=
  x_in (by decide) (Nat.le_of_ble_eq_true rfl) (fun p e s m below meth c ls C hr hk w hl => w_Rd_readName_0 C hr hk w hl h)

theorem dX5_readNumber_0 : decode cX5_readNumber 0 = .ok (.iload_n 3, 1) := by decide +kernel
theorem dX5_readNumber_1 : decode cX5_readNumber 1 = .ok (.iload 4, 2) := by decide +kernel
theorem dX5_readNumber_3 : decode cX5_readNumber 3 = .ok (.if_icmp .ge 20, 3) := by decide +kernel
theorem dX5_readNumber_6 : decode cX5_readNumber 6 = .ok (.aload_n 0, 1) := by decide +kernel
theorem dX5_readNumber_7 : decode cX5_readNumber 7 = .ok (.getfield 27, 3) := by decide +kernel
theorem dX5_readNumber_10 : decode cX5_readNumber 10 = .ok (.iload_n 3, 1) := by decide +kernel
theorem dX5_readNumber_11 : decode cX5_readNumber 11 = .ok (.invokevirtual 67, 3) := by decide +kernel
theorem dX5_readNumber_14 : decode cX5_readNumber 14 = .ok (.bipush 45, 2) := by decide +kernel
theorem dX5_readNumber_16 : decode cX5_readNumber 16 = .ok (.if_icmp .ne 7, 3) := by decide +kernel
theorem dX5_readNumber_19 : decode cX5_readNumber 19 = .ok (.iconst 1, 1) := by decide +kernel
theorem dX5_readNumber_20 : decode cX5_readNumber 20 = .ok (.goto 4, 3) := by decide +kernel
theorem dX5_readNumber_23 : decode cX5_readNumber 23 = .ok (.iconst 0, 1) := by decide +kernel
theorem dX5_readNumber_24 : decode cX5_readNumber 24 = .ok (.istore 5, 2) := by decide +kernel
theorem dX5_readNumber_26 : decode cX5_readNumber 26 = .ok (.aload_n 0, 1) := by decide +kernel
theorem dX5_readNumber_27 : decode cX5_readNumber 27 = .ok (.getfield 27, 3) := by decide +kernel
theorem dX5_readNumber_30 : decode cX5_readNumber 30 = .ok (.iload 5, 2) := by decide +kernel
theorem dX5_readNumber_32 : decode cX5_readNumber 32 = .ok (.ifCond .eq 9, 3) := by decide +kernel
theorem dX5_readNumber_35 : decode cX5_readNumber 35 = .ok (.iload_n 3, 1) := by decide +kernel
theorem dX5_readNumber_36 : decode cX5_readNumber 36 = .ok (.iconst 1, 1) := by decide +kernel
theorem dX5_readNumber_37 : decode cX5_readNumber 37 = .ok (.iadd, 1) := by decide +kernel
theorem dX5_readNumber_38 : decode cX5_readNumber 38 = .ok (.goto 4, 3) := by decide +kernel
theorem dX5_readNumber_41 : decode cX5_readNumber 41 = .ok (.iload_n 3, 1) := by decide +kernel
theorem dX5_readNumber_42 : decode cX5_readNumber 42 = .ok (.iload 4, 2) := by decide +kernel
theorem dX5_readNumber_44 : decode cX5_readNumber 44 = .ok (.bipush 10, 2) := by decide +kernel
theorem dX5_readNumber_46 : decode cX5_readNumber 46 = .ok (.invokestatic 134, 3) := by decide +kernel
theorem dX5_readNumber_49 : decode cX5_readNumber 49 = .ok (.lstore 6, 2) := by decide +kernel
theorem dX5_readNumber_51 : decode cX5_readNumber 51 = .ok (.lload 6, 2) := by decide +kernel
theorem dX5_readNumber_53 : decode cX5_readNumber 53 = .ok (.lconst 0, 1) := by decide +kernel
theorem dX5_readNumber_54 : decode cX5_readNumber 54 = .ok (.lcmp, 1) := by decide +kernel
theorem dX5_readNumber_55 : decode cX5_readNumber 55 = .ok (.ifCond .gt 17, 3) := by decide +kernel
theorem dX5_readNumber_58 : decode cX5_readNumber 58 = .ok (.iload 5, 2) := by decide +kernel
theorem dX5_readNumber_60 : decode cX5_readNumber 60 = .ok (.ifCond .ne 14, 3) := by decide +kernel
theorem dX5_readNumber_63 : decode cX5_readNumber 63 = .ok (.lload 6, 2) := by decide +kernel
theorem dX5_readNumber_65 : decode cX5_readNumber 65 = .ok (.ldc2_w 147, 3) := by decide +kernel
theorem dX5_readNumber_68 : decode cX5_readNumber 68 = .ok (.lcmp, 1) := by decide +kernel
theorem dX5_readNumber_69 : decode cX5_readNumber 69 = .ok (.ifCond .ne 5, 3) := by decide +kernel
theorem dX5_readNumber_72 : decode cX5_readNumber 72 = .ok (.iconst 0, 1) := by decide +kernel
theorem dX5_readNumber_73 : decode cX5_readNumber 73 = .ok (.ireturn, 1) := by decide +kernel
theorem dX5_readNumber_74 : decode cX5_readNumber 74 = .ok (.aload_n 0, 1) := by decide +kernel
theorem dX5_readNumber_75 : decode cX5_readNumber 75 = .ok (.getfield 30, 3) := by decide +kernel
theorem dX5_readNumber_78 : decode cX5_readNumber 78 = .ok (.bipush 48, 2) := by decide +kernel
theorem dX5_readNumber_80 : decode cX5_readNumber 80 = .ok (.iload_n 1, 1) := by decide +kernel
theorem dX5_readNumber_81 : decode cX5_readNumber 81 = .ok (.iload 5, 2) := by decide +kernel
theorem dX5_readNumber_83 : decode cX5_readNumber 83 = .ok (.ifCond .eq 8, 3) := by decide +kernel
theorem dX5_readNumber_86 : decode cX5_readNumber 86 = .ok (.lload 6, 2) := by decide +kernel
theorem dX5_readNumber_88 : decode cX5_readNumber 88 = .ok (.goto 6, 3) := by decide +kernel
theorem dX5_readNumber_91 : decode cX5_readNumber 91 = .ok (.lload 6, 2) := by decide +kernel
theorem dX5_readNumber_93 : decode cX5_readNumber 93 = .ok (.lneg, 1) := by decide +kernel
theorem dX5_readNumber_94 : decode cX5_readNumber 94 = .ok (.iload_n 2, 1) := by decide +kernel
theorem dX5_readNumber_95 : decode cX5_readNumber 95 = .ok (.invokevirtual 143, 3) := by decide +kernel
theorem dX5_readNumber_98 : decode cX5_readNumber 98 = .ok (.iconst 1, 1) := by decide +kernel
theorem dX5_readNumber_99 : decode cX5_readNumber 99 = .ok (.ireturn, 1) := by decide +kernel
def m_Rd_readNumber_94 (g : Nat) (S : St) (x2 : Int32) (y0 : Nat) (y1 : Int32) (y2 : Int32) (y3 : Int64) : Option (St × Int32) :=
(m_Pg_addWord g S y0 y1 y2 y3 x2).bind fun S_4 =>
some (S_4, (1 : Int32))
def m_Rd_readNumber_74 (g : Nat) (S : St) (x1 : Int32) (x2 : Int32) (x5 : Int32) (x6 : Int64) : Option (St × Int32) :=
if gR S 3 2 = 1 ∨ gR S 3 2 = 2 then
lt (gR S 3 2) fun p_3 =>
if x5 = 0 then (
  m_Rd_readNumber_94 g S x2 p_3 (48 : Int32) x1 (-x6)
) else (
  m_Rd_readNumber_94 g S x2 p_3 (48 : Int32) x1 x6
)
else none
def m_Rd_readNumber_42 (g : Nat) (S : St) (x1 : Int32) (x2 : Int32) (x4 : Int32) (x5 : Int32) (y1 : Int32) : Option (St × Int32) :=
(m_Lt_minusTold g S 10 y1 x4 (10 : Int32)).bind fun v_1 =>
if (0 : Int64) < v_1 then (
  some (S, (0 : Int32))
) else (
  if x5 = 0 then (
    if v_1 = (-9223372036854775808 : Int64) then (
      some (S, (0 : Int32))
    ) else (
      m_Rd_readNumber_74 g S x1 x2 x5 v_1
    )
  ) else (
    m_Rd_readNumber_74 g S x1 x2 x5 v_1
  )
)
def m_Rd_readNumber_24 (g : Nat) (S : St) (x1 : Int32) (x2 : Int32) (x3 : Int32) (x4 : Int32) (y0 : Int32) : Option (St × Int32) :=
if y0 = 0 then (
  m_Rd_readNumber_42 g S x1 x2 x4 y0 x3
) else (
  m_Rd_readNumber_42 g S x1 x2 x4 y0 (x3 + (1 : Int32))
)
def m_Rd_readNumber_23 (g : Nat) (S : St) (x1 : Int32) (x2 : Int32) (x3 : Int32) (x4 : Int32) : Option (St × Int32) :=
m_Rd_readNumber_24 g S x1 x2 x3 x4 (0 : Int32)
def m_Rd_readNumber (g : Nat) (S : St) (x1 : Int32) (x2 : Int32) (x3 : Int32) (x4 : Int32) : Option (St × Int32) :=
if x4 ≤ x3 then (
  m_Rd_readNumber_23 g S x1 x2 x3 x4
) else (
  (m_Row_at g S 10 x3).bind fun v_1 =>
  if v_1 = (45 : Int32) then (
    m_Rd_readNumber_24 g S x1 x2 x3 x4 (1 : Int32)
  ) else (
    m_Rd_readNumber_23 g S x1 x2 x3 x4
  )
)
section S_Rd_readNumber
variable {p : Program} {l : Launch} {e : Env} {s : State} {m : MethodId} {args : Array Value} {below : List Frame} {meth : Method} {c : Code} {H : Heap} {locs : List Loc} {ls : Array Slot} {D : va_G} {T : Cy} {ρ : Nat → Nat} {A : Nat → Prop}
set_option maxRecDepth 100000 in
set_option maxHeartbeats 4000000 in
theorem w_Rd_readNumber_94  {g : Nat} {S : St} {x2 : Int32} {y0 : Nat} {y1 : Int32} {y2 : Int32} {y3 : Int64} (C : CallFix p m c cX5_readNumber 8 s args tb RX5) (hr : meth.sig.returnType = (some .boolean)) (hk : meth.locks = false) {S' : St} {r : Int32} (w : Wn Yc D T ρ S A s H locs) (hl : lv_has ls 8 [(2, .int x2)]) (ho_y0 : Ob Yc y0 2) (h : m_Rd_readNumber_94 g S x2 y0 y1 y2 y3 = some (S', r)) : W p l e (rmN 2 49) s m args below meth c H locs 0 0 (MQ below (Qi Yc D T ρ A S' r) args s 0 0 A) (F0 m 94 ls [.long y3, .int y2, .int y1, .ref (ρ y0)]) := by
  unfold m_Rd_readNumber_94 at h
  refine lv_iload_n C.1 C.2.1 dX5_readNumber_94 rfl (lv_at hl 0 rfl) ?_
  obtain ⟨S_4, hS_4, h⟩ := bnd h
  refine x_callVv (q := (RX4, TX4, 16)) (As := [.int y1, .int y2, .long y3, .int x2]) (rest := []) C w (k_Pg_addWord l D T ρ g H.size S ho_y0 hS_4) vX5_143 ⟨by decide, by decide⟩ ho_y0 (by decide) rfl rfl rfl hl.1 (Nat.le_of_ble_eq_true rfl) ⟨Nat.zero_le _, Nat.zero_le _⟩ dX5_readNumber_95 (fun H locs w => ?_)
  refine lv_iconst (v := 1) C.1 C.2.1 dX5_readNumber_98 (by decide) ?_
  obtain ⟨rfl, rfl⟩ := prI h
  exact x_zret C w hr hk (by decide) dX5_readNumber_99
set_option maxRecDepth 100000 in
set_option maxHeartbeats 4000000 in
theorem w_Rd_readNumber_74  {g : Nat} {S : St} {x1 : Int32} {x2 : Int32} {x5 : Int32} {x6 : Int64} (C : CallFix p m c cX5_readNumber 8 s args tb RX5) (hr : meth.sig.returnType = (some .boolean)) (hk : meth.locks = false) {S' : St} {r : Int32} (w : Wn Yc D T ρ S A s H locs) (hl : lv_has ls 8 [(0, .ref (ρ 3)), (1, .int x1), (2, .int x2), (5, .int x5), (6, .long x6)]) (h : m_Rd_readNumber_74 g S x1 x2 x5 x6 = some (S', r)) : W p l e (rmN 2 49) s m args below meth c H locs 0 0 (MQ below (Qi Yc D T ρ A S' r) args s 0 0 A) (F0 m 74 ls []) := by
  unfold m_Rd_readNumber_74 at h
  refine lv_aload_n C.1 C.2.1 dX5_readNumber_74 rfl (lv_at hl 0 rfl) ?_
  by_cases hz_2 : gR S 3 2 = 1 ∨ gR S 3 2 = 2
  case neg => exact absurd (iff0 hz_2 h) (fun q => by cases q)
  replace h := ift hz_2 h
  obtain ⟨p_3, ep_3, h⟩ := lt_e h
  have ho_p_3 : Ob Yc p_3 2 := obPg (by rw [ep_3]; exact hz_2)
  refine x_getR C w fX5_30 obC3 dX5_readNumber_75 ?_
  refine x_nmR ep_3 ?_
  refine lv_bipush (v := 48) C.1 C.2.1 dX5_readNumber_78 (by decide) ?_
  refine lv_iload_n C.1 C.2.1 dX5_readNumber_80 rfl (lv_at hl 1 rfl) ?_
  refine lv_iload C.1 C.2.1 dX5_readNumber_81 (lv_at hl 3 rfl) ?_
  refine lv_if_eq (tgt := 91) C.1 C.2.1 dX5_readNumber_83 (by decide) (fun hc => ?_) (fun hc => ?_)
  · replace h := ift hc h
    refine lv_lload C.1 C.2.1 dX5_readNumber_91 (lv_at hl 4 rfl) ?_
    refine lv_lneg C.1 C.2.1 dX5_readNumber_93 ?_
    exact w_Rd_readNumber_94 C hr hk w (lv_sub hl [2] rfl) ho_p_3 h
  · replace h := iff0 hc h
    refine lv_lload C.1 C.2.1 dX5_readNumber_86 (lv_at hl 4 rfl) ?_
    refine lv_goto (tgt := 94) C.1 C.2.1 dX5_readNumber_88 (by decide) ?_
    exact w_Rd_readNumber_94 C hr hk w (lv_sub hl [2] rfl) ho_p_3 h
set_option maxRecDepth 100000 in
set_option maxHeartbeats 4000000 in
theorem w_Rd_readNumber_42  {g : Nat} {S : St} {x1 : Int32} {x2 : Int32} {x4 : Int32} {x5 : Int32} {y1 : Int32} (C : CallFix p m c cX5_readNumber 8 s args tb RX5) (hr : meth.sig.returnType = (some .boolean)) (hk : meth.locks = false) {S' : St} {r : Int32} (w : Wn Yc D T ρ S A s H locs) (hl : lv_has ls 8 [(0, .ref (ρ 3)), (1, .int x1), (2, .int x2), (4, .int x4), (5, .int x5)]) (h : m_Rd_readNumber_42 g S x1 x2 x4 x5 y1 = some (S', r)) : W p l e (rmN 2 49) s m args below meth c H locs 0 0 (MQ below (Qi Yc D T ρ A S' r) args s 0 0 A) (F0 m 42 ls [.int y1, .ref (ρ 10)]) := by
  unfold m_Rd_readNumber_42 at h
  refine lv_iload C.1 C.2.1 dX5_readNumber_42 (lv_at hl 3 rfl) ?_
  refine lv_bipush (v := 10) C.1 C.2.1 dX5_readNumber_44 (by decide) ?_
  obtain ⟨v_1, hv_1, h⟩ := bnd h
  refine x_callSj (As := [.ref (ρ 10), .int y1, .int x4, .int (10 : Int32)]) (rest := []) C w (k_Lt_minusTold l D T ρ g H.size S obC10 hv_1) vX5_134 ⟨by decide, by decide⟩ rfl rfl hl.1 (Nat.le_of_ble_eq_true rfl) ⟨Nat.zero_le _, Nat.zero_le _⟩ dX5_readNumber_46 (fun H locs w => ?_)
  refine lv_lstore (lv' := [(6, .long v_1), (0, .ref (ρ 3)), (1, .int x1), (2, .int x2), (4, .int x4), (5, .int x5)]) C.1 C.2.1 dX5_readNumber_49 hl (by decide) rfl (fun ls hl => ?_)
  refine lv_lload C.1 C.2.1 dX5_readNumber_51 (lv_at hl 0 rfl) ?_
  refine lv_lconst (v := 0) C.1 C.2.1 dX5_readNumber_53 (by decide) ?_
  refine x_l_gt (tgt := 72) C dX5_readNumber_54 dX5_readNumber_55 (by decide) (fun hc => ?_) (fun hc => ?_)
  · replace h := ift hc h
    refine lv_iconst (v := 0) C.1 C.2.1 dX5_readNumber_72 (by decide) ?_
    obtain ⟨rfl, rfl⟩ := prI h
    exact x_zret C w hr hk (by decide) dX5_readNumber_73
  · replace h := iff0 hc h
    refine lv_iload C.1 C.2.1 dX5_readNumber_58 (lv_at hl 5 rfl) ?_
    refine lv_if_ne (tgt := 74) C.1 C.2.1 dX5_readNumber_60 (by decide) (fun hc => ?_) (fun hc => ?_)
    · replace h := iff0 hc h
      exact w_Rd_readNumber_74 C hr hk w (lv_sub hl [1, 2, 3, 5, 0] rfl) h
    · replace h := ift hc h
      refine lv_lload C.1 C.2.1 dX5_readNumber_63 (lv_at hl 0 rfl) ?_
      refine lv_ldc2 C.1 C.2.1 C.2.2.2.1 (C.2.2.2.2 _ nX5_147) dX5_readNumber_65 ?_
      refine x_l_ne (tgt := 74) C dX5_readNumber_68 dX5_readNumber_69 (by decide) (fun hc => ?_) (fun hc => ?_)
      · replace h := iff0 hc h
        exact w_Rd_readNumber_74 C hr hk w (lv_sub hl [1, 2, 3, 5, 0] rfl) h
      · replace h := ift hc h
        refine lv_iconst (v := 0) C.1 C.2.1 dX5_readNumber_72 (by decide) ?_
        obtain ⟨rfl, rfl⟩ := prI h
        exact x_zret C w hr hk (by decide) dX5_readNumber_73
set_option maxRecDepth 100000 in
set_option maxHeartbeats 4000000 in
theorem w_Rd_readNumber_24  {g : Nat} {S : St} {x1 : Int32} {x2 : Int32} {x3 : Int32} {x4 : Int32} {y0 : Int32} (C : CallFix p m c cX5_readNumber 8 s args tb RX5) (hr : meth.sig.returnType = (some .boolean)) (hk : meth.locks = false) {S' : St} {r : Int32} (w : Wn Yc D T ρ S A s H locs) (hl : lv_has ls 8 [(0, .ref (ρ 3)), (1, .int x1), (2, .int x2), (3, .int x3), (4, .int x4)]) (h : m_Rd_readNumber_24 g S x1 x2 x3 x4 y0 = some (S', r)) : W p l e (rmN 2 49) s m args below meth c H locs 0 0 (MQ below (Qi Yc D T ρ A S' r) args s 0 0 A) (F0 m 24 ls [.int y0]) := by
  unfold m_Rd_readNumber_24 at h
  refine lv_istore (lv' := [(5, .int y0), (0, .ref (ρ 3)), (1, .int x1), (2, .int x2), (3, .int x3), (4, .int x4)]) C.1 C.2.1 dX5_readNumber_24 hl (by decide) rfl (fun ls hl => ?_)
  refine lv_aload_n C.1 C.2.1 dX5_readNumber_26 rfl (lv_at hl 1 rfl) ?_
  refine x_getC C w 10 fX5_27 obC3 rfl dX5_readNumber_27 ?_
  refine lv_iload C.1 C.2.1 dX5_readNumber_30 (lv_at hl 0 rfl) ?_
  refine lv_if_eq (tgt := 41) C.1 C.2.1 dX5_readNumber_32 (by decide) (fun hc => ?_) (fun hc => ?_)
  · replace h := ift hc h
    refine lv_iload_n C.1 C.2.1 dX5_readNumber_41 rfl (lv_at hl 4 rfl) ?_
    exact w_Rd_readNumber_42 C hr hk w (lv_sub hl [1, 2, 3, 5, 0] rfl) h
  · replace h := iff0 hc h
    refine lv_iload_n C.1 C.2.1 dX5_readNumber_35 rfl (lv_at hl 4 rfl) ?_
    refine lv_iconst (v := 1) C.1 C.2.1 dX5_readNumber_36 (by decide) ?_
    refine lv_iadd C.1 C.2.1 dX5_readNumber_37 ?_
    refine lv_goto (tgt := 42) C.1 C.2.1 dX5_readNumber_38 (by decide) ?_
    exact w_Rd_readNumber_42 C hr hk w (lv_sub hl [1, 2, 3, 5, 0] rfl) h
set_option maxRecDepth 100000 in
set_option maxHeartbeats 4000000 in
theorem w_Rd_readNumber_23  {g : Nat} {S : St} {x1 : Int32} {x2 : Int32} {x3 : Int32} {x4 : Int32} (C : CallFix p m c cX5_readNumber 8 s args tb RX5) (hr : meth.sig.returnType = (some .boolean)) (hk : meth.locks = false) {S' : St} {r : Int32} (w : Wn Yc D T ρ S A s H locs) (hl : lv_has ls 8 [(0, .ref (ρ 3)), (1, .int x1), (2, .int x2), (3, .int x3), (4, .int x4)]) (h : m_Rd_readNumber_23 g S x1 x2 x3 x4 = some (S', r)) : W p l e (rmN 2 49) s m args below meth c H locs 0 0 (MQ below (Qi Yc D T ρ A S' r) args s 0 0 A) (F0 m 23 ls []) := by
  unfold m_Rd_readNumber_23 at h
  refine lv_iconst (v := 0) C.1 C.2.1 dX5_readNumber_23 (by decide) ?_
  exact w_Rd_readNumber_24 C hr hk w (lv_sub hl [0, 1, 2, 3, 4] rfl) h
set_option maxRecDepth 100000 in
set_option maxHeartbeats 4000000 in
theorem w_Rd_readNumber_0  {g : Nat} {S : St} {x1 : Int32} {x2 : Int32} {x3 : Int32} {x4 : Int32} (C : CallFix p m c cX5_readNumber 8 s args tb RX5) (hr : meth.sig.returnType = (some .boolean)) (hk : meth.locks = false) {S' : St} {r : Int32} (w : Wn Yc D T ρ S A s H locs) (hl : lv_has ls 8 [(0, .ref (ρ 3)), (1, .int x1), (2, .int x2), (3, .int x3), (4, .int x4)]) (h : m_Rd_readNumber g S x1 x2 x3 x4 = some (S', r)) : W p l e (rmN 2 49) s m args below meth c H locs 0 0 (MQ below (Qi Yc D T ρ A S' r) args s 0 0 A) (F0 m 0 ls []) := by
  unfold m_Rd_readNumber at h
  refine lv_iload_n C.1 C.2.1 dX5_readNumber_0 rfl (lv_at hl 3 rfl) ?_
  refine lv_iload C.1 C.2.1 dX5_readNumber_1 (lv_at hl 4 rfl) ?_
  refine lv_icmp_ge (tgt := 23) C.1 C.2.1 dX5_readNumber_3 (by decide) (fun hc => ?_) (fun hc => ?_)
  · replace h := ift hc h
    exact w_Rd_readNumber_23 C hr hk w (lv_sub hl [0, 1, 2, 3, 4] rfl) h
  · replace h := iff0 hc h
    refine lv_aload_n C.1 C.2.1 dX5_readNumber_6 rfl (lv_at hl 0 rfl) ?_
    refine x_getC C w 10 fX5_27 obC3 rfl dX5_readNumber_7 ?_
    refine lv_iload_n C.1 C.2.1 dX5_readNumber_10 rfl (lv_at hl 3 rfl) ?_
    obtain ⟨v_1, hv_1, h⟩ := bnd h
    refine x_callVi (q := (RX6, TX6, 4)) (As := [.int x3]) (rest := []) C w (k_Row_at l D T ρ g H.size S obC10 hv_1) vX5_67 ⟨by decide, by decide⟩ obC10 (by decide) rfl rfl rfl hl.1 (Nat.le_of_ble_eq_true rfl) ⟨Nat.zero_le _, Nat.zero_le _⟩ dX5_readNumber_11 (fun H locs w => ?_)
    refine lv_bipush (v := 45) C.1 C.2.1 dX5_readNumber_14 (by decide) ?_
    refine lv_icmp_ne (tgt := 23) C.1 C.2.1 dX5_readNumber_16 (by decide) (fun hc => ?_) (fun hc => ?_)
    · replace h := iff0 hc h
      exact w_Rd_readNumber_23 C hr hk w (lv_sub hl [0, 1, 2, 3, 4] rfl) h
    · replace h := ift hc h
      refine lv_iconst (v := 1) C.1 C.2.1 dX5_readNumber_19 (by decide) ?_
      refine lv_goto (tgt := 24) C.1 C.2.1 dX5_readNumber_20 (by decide) ?_
      exact w_Rd_readNumber_24 C hr hk w (lv_sub hl [0, 1, 2, 3, 4] rfl) h
end S_Rd_readNumber
set_option maxRecDepth 100000 in
theorem k_Rd_readNumber (l : Launch) (D : va_G) (T : Cy) (ρ : Nat → Nat) (g sz : Nat) (S : St) {x1 : Int32} {x2 : Int32} {x3 : Int32} {x4 : Int32} {S' : St} {r : Int32} (h : m_Rd_readNumber g S x1 x2 x3 x4 = some (S', r)) : Mi l Yc D T ρ yX5_readNumber cX5_readNumber 8 (some .boolean) 2 49 S S' r [.ref (ρ 3), .int x1, .int x2, .int x3, .int x4] sz :=
  x_in (by decide) (Nat.le_of_ble_eq_true rfl) (fun p e s m below meth c ls C hr hk w hl => w_Rd_readNumber_0 C hr hk w hl h)

theorem dX5_readWhole_0 : decode cX5_readWhole 0 = .ok (.iload_n 3, 1) := by decide +kernel
theorem dX5_readWhole_1 : decode cX5_readWhole 1 = .ok (.iload 4, 2) := by decide +kernel
theorem dX5_readWhole_3 : decode cX5_readWhole 3 = .ok (.if_icmp .ge 26, 3) := by decide +kernel
theorem dX5_readWhole_6 : decode cX5_readWhole 6 = .ok (.aload_n 0, 1) := by decide +kernel
theorem dX5_readWhole_7 : decode cX5_readWhole 7 = .ok (.getfield 27, 3) := by decide +kernel
theorem dX5_readWhole_10 : decode cX5_readWhole 10 = .ok (.iload_n 3, 1) := by decide +kernel
theorem dX5_readWhole_11 : decode cX5_readWhole 11 = .ok (.invokevirtual 67, 3) := by decide +kernel
theorem dX5_readWhole_14 : decode cX5_readWhole 14 = .ok (.bipush 119, 2) := by decide +kernel
theorem dX5_readWhole_16 : decode cX5_readWhole 16 = .ok (.if_icmp .ne 13, 3) := by decide +kernel
theorem dX5_readWhole_19 : decode cX5_readWhole 19 = .ok (.aload_n 0, 1) := by decide +kernel
theorem dX5_readWhole_20 : decode cX5_readWhole 20 = .ok (.iload_n 1, 1) := by decide +kernel
theorem dX5_readWhole_21 : decode cX5_readWhole 21 = .ok (.iload_n 2, 1) := by decide +kernel
theorem dX5_readWhole_22 : decode cX5_readWhole 22 = .ok (.iload_n 3, 1) := by decide +kernel
theorem dX5_readWhole_23 : decode cX5_readWhole 23 = .ok (.iload 4, 2) := by decide +kernel
theorem dX5_readWhole_25 : decode cX5_readWhole 25 = .ok (.invokevirtual 119, 3) := by decide +kernel
theorem dX5_readWhole_28 : decode cX5_readWhole 28 = .ok (.ireturn, 1) := by decide +kernel
theorem dX5_readWhole_29 : decode cX5_readWhole 29 = .ok (.aload_n 0, 1) := by decide +kernel
theorem dX5_readWhole_30 : decode cX5_readWhole 30 = .ok (.iload_n 1, 1) := by decide +kernel
theorem dX5_readWhole_31 : decode cX5_readWhole 31 = .ok (.iload_n 2, 1) := by decide +kernel
theorem dX5_readWhole_32 : decode cX5_readWhole 32 = .ok (.iload_n 3, 1) := by decide +kernel
theorem dX5_readWhole_33 : decode cX5_readWhole 33 = .ok (.iload 4, 2) := by decide +kernel
theorem dX5_readWhole_35 : decode cX5_readWhole 35 = .ok (.invokevirtual 128, 3) := by decide +kernel
theorem dX5_readWhole_38 : decode cX5_readWhole 38 = .ok (.ireturn, 1) := by decide +kernel
def m_Rd_readWhole_29 (g : Nat) (S : St) (x1 : Int32) (x2 : Int32) (x3 : Int32) (x4 : Int32) : Option (St × Int32) :=
(m_Rd_readNumber g S x1 x2 x3 x4).bind fun (S_1, v_2) =>
if v_2 = 0 ∨ v_2 = 1 then some (S_1, v_2) else none
def m_Rd_readWhole (g : Nat) (S : St) (x1 : Int32) (x2 : Int32) (x3 : Int32) (x4 : Int32) : Option (St × Int32) :=
if x4 ≤ x3 then (
  m_Rd_readWhole_29 g S x1 x2 x3 x4
) else (
  (m_Row_at g S 10 x3).bind fun v_1 =>
  if v_1 = (119 : Int32) then (
    (m_Rd_readName g S x1 x2 x3 x4).bind fun (S_2, v_3) =>
    if v_3 = 0 ∨ v_3 = 1 then some (S_2, v_3) else none
  ) else (
    m_Rd_readWhole_29 g S x1 x2 x3 x4
  )
)
section S_Rd_readWhole
variable {p : Program} {l : Launch} {e : Env} {s : State} {m : MethodId} {args : Array Value} {below : List Frame} {meth : Method} {c : Code} {H : Heap} {locs : List Loc} {ls : Array Slot} {D : va_G} {T : Cy} {ρ : Nat → Nat} {A : Nat → Prop}
set_option maxRecDepth 100000 in
set_option maxHeartbeats 4000000 in
theorem w_Rd_readWhole_29  {g : Nat} {S : St} {x1 : Int32} {x2 : Int32} {x3 : Int32} {x4 : Int32} (C : CallFix p m c cX5_readWhole 5 s args tb RX5) (hr : meth.sig.returnType = (some .boolean)) (hk : meth.locks = false) {S' : St} {r : Int32} (w : Wn Yc D T ρ S A s H locs) (hl : lv_has ls 5 [(0, .ref (ρ 3)), (1, .int x1), (2, .int x2), (3, .int x3), (4, .int x4)]) (h : m_Rd_readWhole_29 g S x1 x2 x3 x4 = some (S', r)) : W p l e (rmN 3 77) s m args below meth c H locs 0 0 (MQ below (Qi Yc D T ρ A S' r) args s 0 0 A) (F0 m 29 ls []) := by
  unfold m_Rd_readWhole_29 at h
  refine lv_aload_n C.1 C.2.1 dX5_readWhole_29 rfl (lv_at hl 0 rfl) ?_
  refine lv_iload_n C.1 C.2.1 dX5_readWhole_30 rfl (lv_at hl 1 rfl) ?_
  refine lv_iload_n C.1 C.2.1 dX5_readWhole_31 rfl (lv_at hl 2 rfl) ?_
  refine lv_iload_n C.1 C.2.1 dX5_readWhole_32 rfl (lv_at hl 3 rfl) ?_
  refine lv_iload C.1 C.2.1 dX5_readWhole_33 (lv_at hl 4 rfl) ?_
  obtain ⟨⟨S_1, v_2⟩, hv_2, h⟩ := bnd h
  refine x_callVi (q := (RX5, TX5, 5)) (As := [.int x1, .int x2, .int x3, .int x4]) (rest := []) C w (k_Rd_readNumber l D T ρ g H.size S hv_2) vX5_128 ⟨by decide, by decide⟩ obC3 (by decide) rfl rfl rfl hl.1 (Nat.le_of_ble_eq_true rfl) ⟨Nat.zero_le _, Nat.zero_le _⟩ dX5_readWhole_35 (fun H locs w => ?_)
  by_cases hz_3 : v_2 = 0 ∨ v_2 = 1
  case neg => exact absurd (iff0 hz_3 h) (fun q => by cases q)
  replace h := ift hz_3 h
  obtain ⟨rfl, rfl⟩ := prI h
  exact x_zret C w hr hk hz_3 dX5_readWhole_38
set_option maxRecDepth 100000 in
set_option maxHeartbeats 4000000 in
theorem w_Rd_readWhole_0  {g : Nat} {S : St} {x1 : Int32} {x2 : Int32} {x3 : Int32} {x4 : Int32} (C : CallFix p m c cX5_readWhole 5 s args tb RX5) (hr : meth.sig.returnType = (some .boolean)) (hk : meth.locks = false) {S' : St} {r : Int32} (w : Wn Yc D T ρ S A s H locs) (hl : lv_has ls 5 [(0, .ref (ρ 3)), (1, .int x1), (2, .int x2), (3, .int x3), (4, .int x4)]) (h : m_Rd_readWhole g S x1 x2 x3 x4 = some (S', r)) : W p l e (rmN 3 77) s m args below meth c H locs 0 0 (MQ below (Qi Yc D T ρ A S' r) args s 0 0 A) (F0 m 0 ls []) := by
  unfold m_Rd_readWhole at h
  refine lv_iload_n C.1 C.2.1 dX5_readWhole_0 rfl (lv_at hl 3 rfl) ?_
  refine lv_iload C.1 C.2.1 dX5_readWhole_1 (lv_at hl 4 rfl) ?_
  refine lv_icmp_ge (tgt := 29) C.1 C.2.1 dX5_readWhole_3 (by decide) (fun hc => ?_) (fun hc => ?_)
  · replace h := ift hc h
    exact w_Rd_readWhole_29 C hr hk w (lv_sub hl [0, 1, 2, 3, 4] rfl) h
  · replace h := iff0 hc h
    refine lv_aload_n C.1 C.2.1 dX5_readWhole_6 rfl (lv_at hl 0 rfl) ?_
    refine x_getC C w 10 fX5_27 obC3 rfl dX5_readWhole_7 ?_
    refine lv_iload_n C.1 C.2.1 dX5_readWhole_10 rfl (lv_at hl 3 rfl) ?_
    obtain ⟨v_1, hv_1, h⟩ := bnd h
    refine x_callVi (q := (RX6, TX6, 4)) (As := [.int x3]) (rest := []) C w (k_Row_at l D T ρ g H.size S obC10 hv_1) vX5_67 ⟨by decide, by decide⟩ obC10 (by decide) rfl rfl rfl hl.1 (Nat.le_of_ble_eq_true rfl) ⟨Nat.zero_le _, Nat.zero_le _⟩ dX5_readWhole_11 (fun H locs w => ?_)
    refine lv_bipush (v := 119) C.1 C.2.1 dX5_readWhole_14 (by decide) ?_
    refine lv_icmp_ne (tgt := 29) C.1 C.2.1 dX5_readWhole_16 (by decide) (fun hc => ?_) (fun hc => ?_)
    · replace h := iff0 hc h
      exact w_Rd_readWhole_29 C hr hk w (lv_sub hl [0, 1, 2, 3, 4] rfl) h
    · replace h := ift hc h
      refine lv_aload_n C.1 C.2.1 dX5_readWhole_19 rfl (lv_at hl 0 rfl) ?_
      refine lv_iload_n C.1 C.2.1 dX5_readWhole_20 rfl (lv_at hl 1 rfl) ?_
      refine lv_iload_n C.1 C.2.1 dX5_readWhole_21 rfl (lv_at hl 2 rfl) ?_
      refine lv_iload_n C.1 C.2.1 dX5_readWhole_22 rfl (lv_at hl 3 rfl) ?_
      refine lv_iload C.1 C.2.1 dX5_readWhole_23 (lv_at hl 4 rfl) ?_
      obtain ⟨⟨S_2, v_3⟩, hv_3, h⟩ := bnd h
      refine x_callVi (q := (RX5, TX5, 5)) (As := [.int x1, .int x2, .int x3, .int x4]) (rest := []) C w (k_Rd_readName l D T ρ g H.size S hv_3) vX5_119 ⟨by decide, by decide⟩ obC3 (by decide) rfl rfl rfl hl.1 (Nat.le_of_ble_eq_true rfl) ⟨Nat.zero_le _, Nat.zero_le _⟩ dX5_readWhole_25 (fun H locs w => ?_)
      by_cases hz_4 : v_3 = 0 ∨ v_3 = 1
      case neg => exact absurd (iff0 hz_4 h) (fun q => by cases q)
      replace h := ift hz_4 h
      obtain ⟨rfl, rfl⟩ := prI h
      exact x_zret C w hr hk hz_4 dX5_readWhole_28
end S_Rd_readWhole
set_option maxRecDepth 100000 in
theorem k_Rd_readWhole (l : Launch) (D : va_G) (T : Cy) (ρ : Nat → Nat) (g sz : Nat) (S : St) {x1 : Int32} {x2 : Int32} {x3 : Int32} {x4 : Int32} {S' : St} {r : Int32} (h : m_Rd_readWhole g S x1 x2 x3 x4 = some (S', r)) : Mi l Yc D T ρ yX5_readWhole cX5_readWhole 5 (some .boolean) 3 77 S S' r [.ref (ρ 3), .int x1, .int x2, .int x3, .int x4] sz :=
  x_in (by decide) (Nat.le_of_ble_eq_true rfl) (fun p e s m below meth c ls C hr hk w hl => w_Rd_readWhole_0 C hr hk w hl h)

theorem dX6_orderTo_0 : decode cX6_orderTo 0 = .ok (.iload_n 2, 1) := by decide +kernel
theorem dX6_orderTo_1 : decode cX6_orderTo 1 = .ok (.iload_n 1, 1) := by decide +kernel
theorem dX6_orderTo_2 : decode cX6_orderTo 2 = .ok (.isub, 1) := by decide +kernel
theorem dX6_orderTo_3 : decode cX6_orderTo 3 = .ok (.iload 5, 2) := by decide +kernel
theorem dX6_orderTo_5 : decode cX6_orderTo 5 = .ok (.iload 4, 2) := by decide +kernel
theorem dX6_orderTo_7 : decode cX6_orderTo 7 = .ok (.isub, 1) := by decide +kernel
theorem dX6_orderTo_8 : decode cX6_orderTo 8 = .ok (.invokestatic 77, 3) := by decide +kernel
theorem dX6_orderTo_11 : decode cX6_orderTo 11 = .ok (.istore 6, 2) := by decide +kernel
theorem dX6_orderTo_13 : decode cX6_orderTo 13 = .ok (.iconst 0, 1) := by decide +kernel
theorem dX6_orderTo_14 : decode cX6_orderTo 14 = .ok (.istore 7, 2) := by decide +kernel
theorem dX6_orderTo_16 : decode cX6_orderTo 16 = .ok (.iload 7, 2) := by decide +kernel
theorem dX6_orderTo_18 : decode cX6_orderTo 18 = .ok (.iload 6, 2) := by decide +kernel
theorem dX6_orderTo_20 : decode cX6_orderTo 20 = .ok (.if_icmp .ge 37, 3) := by decide +kernel
theorem dX6_orderTo_23 : decode cX6_orderTo 23 = .ok (.aload_n 0, 1) := by decide +kernel
theorem dX6_orderTo_24 : decode cX6_orderTo 24 = .ok (.iload_n 1, 1) := by decide +kernel
theorem dX6_orderTo_25 : decode cX6_orderTo 25 = .ok (.iload 7, 2) := by decide +kernel
theorem dX6_orderTo_27 : decode cX6_orderTo 27 = .ok (.iadd, 1) := by decide +kernel
theorem dX6_orderTo_28 : decode cX6_orderTo 28 = .ok (.invokevirtual 80, 3) := by decide +kernel
theorem dX6_orderTo_31 : decode cX6_orderTo 31 = .ok (.aload_n 3, 1) := by decide +kernel
theorem dX6_orderTo_32 : decode cX6_orderTo 32 = .ok (.iload 4, 2) := by decide +kernel
theorem dX6_orderTo_34 : decode cX6_orderTo 34 = .ok (.iload 7, 2) := by decide +kernel
theorem dX6_orderTo_36 : decode cX6_orderTo 36 = .ok (.iadd, 1) := by decide +kernel
theorem dX6_orderTo_37 : decode cX6_orderTo 37 = .ok (.invokevirtual 80, 3) := by decide +kernel
theorem dX6_orderTo_40 : decode cX6_orderTo 40 = .ok (.isub, 1) := by decide +kernel
theorem dX6_orderTo_41 : decode cX6_orderTo 41 = .ok (.istore 8, 2) := by decide +kernel
theorem dX6_orderTo_43 : decode cX6_orderTo 43 = .ok (.iload 8, 2) := by decide +kernel
theorem dX6_orderTo_45 : decode cX6_orderTo 45 = .ok (.ifCond .eq 6, 3) := by decide +kernel
theorem dX6_orderTo_48 : decode cX6_orderTo 48 = .ok (.iload 8, 2) := by decide +kernel
theorem dX6_orderTo_50 : decode cX6_orderTo 50 = .ok (.ireturn, 1) := by decide +kernel
theorem dX6_orderTo_51 : decode cX6_orderTo 51 = .ok (.iinc 7 1, 3) := by decide +kernel
theorem dX6_orderTo_54 : decode cX6_orderTo 54 = .ok (.goto (-38), 3) := by decide +kernel
theorem dX6_orderTo_57 : decode cX6_orderTo 57 = .ok (.iload_n 2, 1) := by decide +kernel
theorem dX6_orderTo_58 : decode cX6_orderTo 58 = .ok (.iload_n 1, 1) := by decide +kernel
theorem dX6_orderTo_59 : decode cX6_orderTo 59 = .ok (.isub, 1) := by decide +kernel
theorem dX6_orderTo_60 : decode cX6_orderTo 60 = .ok (.iload 5, 2) := by decide +kernel
theorem dX6_orderTo_62 : decode cX6_orderTo 62 = .ok (.iload 4, 2) := by decide +kernel
theorem dX6_orderTo_64 : decode cX6_orderTo 64 = .ok (.isub, 1) := by decide +kernel
theorem dX6_orderTo_65 : decode cX6_orderTo 65 = .ok (.isub, 1) := by decide +kernel
theorem dX6_orderTo_66 : decode cX6_orderTo 66 = .ok (.ireturn, 1) := by decide +kernel
def b_Row_orderTo_16 (g : Nat) (S : St) (k16 : Nat → Int32 → Int32 → Nat → Int32 → Int32 → Int32 → Int32 → Option Int32) (x0 : Nat) (x1 : Int32) (x2 : Int32) (x3 : Nat) (x4 : Int32) (x5 : Int32) (x6 : Int32) (x7 : Int32) : Option Int32 :=
if x6 ≤ x7 then (
  some ((x2 - x1) - (x5 - x4))
) else (
  (m_Row_at g S x0 (x1 + x7)).bind fun v_2 =>
  (m_Row_at g S x3 (x4 + x7)).bind fun v_3 =>
  lt (v_2 - v_3) fun x8_4 =>
  if x8_4 = 0 then (
    lt (x7 + (1 : Int32)) fun x7_5 =>
    k16 x0 x1 x2 x3 x4 x5 x6 x7_5
  ) else (
    some x8_4
  )
)
def m_Row_orderTo_16 (g : Nat) (S : St) : Nat → Nat → Int32 → Int32 → Nat → Int32 → Int32 → Int32 → Int32 → Option Int32
  | 0, _, _, _, _, _, _, _, _ => none
  | n + 1, x0, x1, x2, x3, x4, x5, x6, x7 => b_Row_orderTo_16 g S (m_Row_orderTo_16 g S n) x0 x1 x2 x3 x4 x5 x6 x7
def m_Row_orderTo (g : Nat) (S : St) (x0 : Nat) (x1 : Int32) (x2 : Int32) (x3 : Nat) (x4 : Int32) (x5 : Int32) : Option Int32 :=
lt (minI (x2 - x1) (x5 - x4)) fun x6_1 =>
m_Row_orderTo_16 g S g x0 x1 x2 x3 x4 x5 x6_1 (0 : Int32)
section S_Row_orderTo
variable {p : Program} {l : Launch} {e : Env} {s : State} {m : MethodId} {args : Array Value} {below : List Frame} {meth : Method} {c : Code} {H : Heap} {locs : List Loc} {ls : Array Slot} {D : va_G} {T : Cy} {ρ : Nat → Nat} {A : Nat → Prop}
set_option maxRecDepth 100000 in
set_option maxHeartbeats 4000000 in
theorem wb_Row_orderTo_16  {g : Nat} {S : St} {x0 : Nat} {x1 : Int32} {x2 : Int32} {x3 : Nat} {x4 : Int32} {x5 : Int32} {x6 : Int32} {x7 : Int32} (C : CallFix p m c cX6_orderTo 9 s args tb RX6) (hr : meth.sig.returnType = (some .int)) (hk : meth.locks = false) {r : Int32} {k16 : Nat → Int32 → Int32 → Nat → Int32 → Int32 → Int32 → Int32 → Option Int32} (kk16 : ∀ (x0 : Nat) (x1 : Int32) (x2 : Int32) (x3 : Nat) (x4 : Int32) (x5 : Int32) (x6 : Int32) (x7 : Int32) (H : Heap) (locs : List Loc) (ls : Array Slot), Wn Yc D T ρ S A s H locs → lv_has ls 9 [(0, .ref (ρ x0)), (1, .int x1), (2, .int x2), (3, .ref (ρ x3)), (4, .int x4), (5, .int x5), (6, .int x6), (7, .int x7)] → Ob Yc x0 4 → Ob Yc x3 4 → k16 x0 x1 x2 x3 x4 x5 x6 x7 = some r → W p l e (rmN 1 23) s m args below meth c H locs 0 0 (MQ below (Qi Yc D T ρ A S r) args s 0 0 A) (F0 m 16 ls [])) (w : Wn Yc D T ρ S A s H locs) (hl : lv_has ls 9 [(0, .ref (ρ x0)), (1, .int x1), (2, .int x2), (3, .ref (ρ x3)), (4, .int x4), (5, .int x5), (6, .int x6), (7, .int x7)]) (ho_x0 : Ob Yc x0 4) (ho_x3 : Ob Yc x3 4) (h : b_Row_orderTo_16 g S k16 x0 x1 x2 x3 x4 x5 x6 x7 = some r) : W p l e (rmN 1 23) s m args below meth c H locs 0 0 (MQ below (Qi Yc D T ρ A S r) args s 0 0 A) (F0 m 16 ls []) := by
  unfold b_Row_orderTo_16 at h
  refine lv_iload C.1 C.2.1 dX6_orderTo_16 (lv_at hl 7 rfl) ?_
  refine lv_iload C.1 C.2.1 dX6_orderTo_18 (lv_at hl 6 rfl) ?_
  refine lv_icmp_ge (tgt := 57) C.1 C.2.1 dX6_orderTo_20 (by decide) (fun hc => ?_) (fun hc => ?_)
  · replace h := ift hc h
    refine lv_iload_n C.1 C.2.1 dX6_orderTo_57 rfl (lv_at hl 2 rfl) ?_
    refine lv_iload_n C.1 C.2.1 dX6_orderTo_58 rfl (lv_at hl 1 rfl) ?_
    refine lv_isub C.1 C.2.1 dX6_orderTo_59 ?_
    refine lv_iload C.1 C.2.1 dX6_orderTo_60 (lv_at hl 5 rfl) ?_
    refine lv_iload C.1 C.2.1 dX6_orderTo_62 (lv_at hl 4 rfl) ?_
    refine lv_isub C.1 C.2.1 dX6_orderTo_64 ?_
    refine lv_isub C.1 C.2.1 dX6_orderTo_65 ?_
    obtain rfl := som h
    exact x_iret C w hr hk dX6_orderTo_66
  · replace h := iff0 hc h
    refine lv_aload_n C.1 C.2.1 dX6_orderTo_23 rfl (lv_at hl 0 rfl) ?_
    refine lv_iload_n C.1 C.2.1 dX6_orderTo_24 rfl (lv_at hl 1 rfl) ?_
    refine lv_iload C.1 C.2.1 dX6_orderTo_25 (lv_at hl 7 rfl) ?_
    refine lv_iadd C.1 C.2.1 dX6_orderTo_27 ?_
    obtain ⟨v_2, hv_2, h⟩ := bnd h
    refine x_callVi (q := (RX6, TX6, 4)) (As := [.int (x1 + x7)]) (rest := []) C w (k_Row_at l D T ρ g H.size S ho_x0 hv_2) vX6_80 ⟨by decide, by decide⟩ ho_x0 (by decide) rfl rfl rfl hl.1 (Nat.le_of_ble_eq_true rfl) ⟨Nat.zero_le _, Nat.zero_le _⟩ dX6_orderTo_28 (fun H locs w => ?_)
    refine lv_aload_n C.1 C.2.1 dX6_orderTo_31 rfl (lv_at hl 3 rfl) ?_
    refine lv_iload C.1 C.2.1 dX6_orderTo_32 (lv_at hl 4 rfl) ?_
    refine lv_iload C.1 C.2.1 dX6_orderTo_34 (lv_at hl 7 rfl) ?_
    refine lv_iadd C.1 C.2.1 dX6_orderTo_36 ?_
    obtain ⟨v_3, hv_3, h⟩ := bnd h
    refine x_callVi (q := (RX6, TX6, 4)) (As := [.int (x4 + x7)]) (rest := [.int v_2]) C w (k_Row_at l D T ρ g H.size S ho_x3 hv_3) vX6_80 ⟨by decide, by decide⟩ ho_x3 (by decide) rfl rfl rfl hl.1 (Nat.le_of_ble_eq_true rfl) ⟨Nat.zero_le _, Nat.zero_le _⟩ dX6_orderTo_37 (fun H locs w => ?_)
    refine lv_isub C.1 C.2.1 dX6_orderTo_40 ?_
    obtain ⟨x8_4, ex8_4, h⟩ := lt_e h
    refine x_nm ex8_4 ?_
    refine lv_istore (lv' := [(8, .int x8_4), (0, .ref (ρ x0)), (1, .int x1), (2, .int x2), (3, .ref (ρ x3)), (4, .int x4), (5, .int x5), (6, .int x6), (7, .int x7)]) C.1 C.2.1 dX6_orderTo_41 hl (by decide) rfl (fun ls hl => ?_)
    refine lv_iload C.1 C.2.1 dX6_orderTo_43 (lv_at hl 0 rfl) ?_
    refine lv_if_eq (tgt := 51) C.1 C.2.1 dX6_orderTo_45 (by decide) (fun hc => ?_) (fun hc => ?_)
    · replace h := ift hc h
      obtain ⟨x7_5, ex7_5, h⟩ := lt_e h
      refine lv_iinc (v := x7_5) (lv' := [(7, .int x7_5), (8, .int x8_4), (0, .ref (ρ x0)), (1, .int x1), (2, .int x2), (3, .ref (ρ x3)), (4, .int x4), (5, .int x5), (6, .int x6)]) C.1 C.2.1 dX6_orderTo_51 hl (k := 8) rfl (by rw [ex7_5]; rfl) (by decide) rfl (fun ls hl => ?_)
      refine lv_goto (tgt := 16) C.1 C.2.1 dX6_orderTo_54 (by decide) ?_
      exact kk16 _ _ _ _ _ _ _ _ _ _ _ w (lv_sub hl [2, 3, 4, 5, 6, 7, 8, 0] rfl) ho_x0 ho_x3 h
    · replace h := iff0 hc h
      refine lv_iload C.1 C.2.1 dX6_orderTo_48 (lv_at hl 0 rfl) ?_
      obtain rfl := som h
      exact x_iret C w hr hk dX6_orderTo_50
theorem w_Row_orderTo_16 {g : Nat} {S : St} (C : CallFix p m c cX6_orderTo 9 s args tb RX6) (hr : meth.sig.returnType = (some .int)) (hk : meth.locks = false) {r : Int32} (n : Nat) : ∀ (x0 : Nat) (x1 : Int32) (x2 : Int32) (x3 : Nat) (x4 : Int32) (x5 : Int32) (x6 : Int32) (x7 : Int32) (H : Heap) (locs : List Loc) (ls : Array Slot), Wn Yc D T ρ S A s H locs → lv_has ls 9 [(0, .ref (ρ x0)), (1, .int x1), (2, .int x2), (3, .ref (ρ x3)), (4, .int x4), (5, .int x5), (6, .int x6), (7, .int x7)] → Ob Yc x0 4 → Ob Yc x3 4 → m_Row_orderTo_16 g S n x0 x1 x2 x3 x4 x5 x6 x7 = some r → W p l e (rmN 1 23) s m args below meth c H locs 0 0 (MQ below (Qi Yc D T ρ A S r) args s 0 0 A) (F0 m 16 ls []) := by
  induction n with
  | zero => intro x0 x1 x2 x3 x4 x5 x6 x7 H locs ls w hl ho_x0 ho_x3 h; exact absurd h (fun q => by cases q)
  | succ n ih => intro x0 x1 x2 x3 x4 x5 x6 x7 H locs ls w hl ho_x0 ho_x3 h; exact wb_Row_orderTo_16 C hr hk ih w hl ho_x0 ho_x3 h
set_option maxRecDepth 100000 in
set_option maxHeartbeats 4000000 in
theorem w_Row_orderTo_0  {g : Nat} {S : St} {x0 : Nat} {x1 : Int32} {x2 : Int32} {x3 : Nat} {x4 : Int32} {x5 : Int32} (C : CallFix p m c cX6_orderTo 9 s args tb RX6) (hr : meth.sig.returnType = (some .int)) (hk : meth.locks = false) {r : Int32} (w : Wn Yc D T ρ S A s H locs) (hl : lv_has ls 9 [(0, .ref (ρ x0)), (1, .int x1), (2, .int x2), (3, .ref (ρ x3)), (4, .int x4), (5, .int x5)]) (ho_x0 : Ob Yc x0 4) (ho_x3 : Ob Yc x3 4) (h : m_Row_orderTo g S x0 x1 x2 x3 x4 x5 = some r) : W p l e (rmN 1 23) s m args below meth c H locs 0 0 (MQ below (Qi Yc D T ρ A S r) args s 0 0 A) (F0 m 0 ls []) := by
  unfold m_Row_orderTo at h
  refine lv_iload_n C.1 C.2.1 dX6_orderTo_0 rfl (lv_at hl 2 rfl) ?_
  refine lv_iload_n C.1 C.2.1 dX6_orderTo_1 rfl (lv_at hl 1 rfl) ?_
  refine lv_isub C.1 C.2.1 dX6_orderTo_2 ?_
  refine lv_iload C.1 C.2.1 dX6_orderTo_3 (lv_at hl 5 rfl) ?_
  refine lv_iload C.1 C.2.1 dX6_orderTo_5 (lv_at hl 4 rfl) ?_
  refine lv_isub C.1 C.2.1 dX6_orderTo_7 ?_
  refine x_minI C hl.1 vX6_77.1 ⟨by decide, by decide⟩ (Nat.le_of_ble_eq_true rfl) ⟨Nat.zero_le _, Nat.zero_le _⟩ dX6_orderTo_8 ?_
  obtain ⟨x6_1, ex6_1, h⟩ := lt_e h
  refine x_nm ex6_1 ?_
  refine lv_istore (lv' := [(6, .int x6_1), (0, .ref (ρ x0)), (1, .int x1), (2, .int x2), (3, .ref (ρ x3)), (4, .int x4), (5, .int x5)]) C.1 C.2.1 dX6_orderTo_11 hl (by decide) rfl (fun ls hl => ?_)
  refine lv_iconst (v := 0) C.1 C.2.1 dX6_orderTo_13 (by decide) ?_
  refine lv_istore (lv' := [(7, .int (0 : Int32)), (6, .int x6_1), (0, .ref (ρ x0)), (1, .int x1), (2, .int x2), (3, .ref (ρ x3)), (4, .int x4), (5, .int x5)]) C.1 C.2.1 dX6_orderTo_14 hl (by decide) rfl (fun ls hl => ?_)
  exact w_Row_orderTo_16 C hr hk g _ _ _ _ _ _ _ _ _ _ _ w (lv_sub hl [2, 3, 4, 5, 6, 7, 1, 0] rfl) ho_x0 ho_x3 h
end S_Row_orderTo
set_option maxRecDepth 100000 in
theorem k_Row_orderTo (l : Launch) (D : va_G) (T : Cy) (ρ : Nat → Nat) (g sz : Nat) (S : St) {x0 : Nat} {x1 : Int32} {x2 : Int32} {x3 : Nat} {x4 : Int32} {x5 : Int32} (ho_x0 : Ob Yc x0 4) (ho_x3 : Ob Yc x3 4) {r : Int32} (h : m_Row_orderTo g S x0 x1 x2 x3 x4 x5 = some r) : Mi l Yc D T ρ yX6_orderTo cX6_orderTo 9 (some .int) 1 23 S S r [.ref (ρ x0), .int x1, .int x2, .ref (ρ x3), .int x4, .int x5] sz :=
  x_in (by decide) (Nat.le_of_ble_eq_true rfl) (fun p e s m below meth c ls C hr hk w hl => w_Row_orderTo_0 C hr hk w hl ho_x0 ho_x3 h)

theorem dX6_pairAt_0 : decode cX6_pairAt 0 = .ok (.ldc 90, 2) := by decide +kernel
theorem dX6_pairAt_2 : decode cX6_pairAt 2 = .ok (.sipush 1024, 3) := by decide +kernel
theorem dX6_pairAt_5 : decode cX6_pairAt 5 = .ok (.aload_n 0, 1) := by decide +kernel
theorem dX6_pairAt_6 : decode cX6_pairAt 6 = .ok (.iload_n 1, 1) := by decide +kernel
theorem dX6_pairAt_7 : decode cX6_pairAt 7 = .ok (.invokevirtual 80, 3) := by decide +kernel
theorem dX6_pairAt_10 : decode cX6_pairAt 10 = .ok (.ldc 91, 2) := by decide +kernel
theorem dX6_pairAt_12 : decode cX6_pairAt 12 = .ok (.isub, 1) := by decide +kernel
theorem dX6_pairAt_13 : decode cX6_pairAt 13 = .ok (.imul, 1) := by decide +kernel
theorem dX6_pairAt_14 : decode cX6_pairAt 14 = .ok (.iadd, 1) := by decide +kernel
theorem dX6_pairAt_15 : decode cX6_pairAt 15 = .ok (.aload_n 0, 1) := by decide +kernel
theorem dX6_pairAt_16 : decode cX6_pairAt 16 = .ok (.iload_n 1, 1) := by decide +kernel
theorem dX6_pairAt_17 : decode cX6_pairAt 17 = .ok (.iconst 1, 1) := by decide +kernel
theorem dX6_pairAt_18 : decode cX6_pairAt 18 = .ok (.iadd, 1) := by decide +kernel
theorem dX6_pairAt_19 : decode cX6_pairAt 19 = .ok (.invokevirtual 80, 3) := by decide +kernel
theorem dX6_pairAt_22 : decode cX6_pairAt 22 = .ok (.ldc 92, 2) := by decide +kernel
theorem dX6_pairAt_24 : decode cX6_pairAt 24 = .ok (.isub, 1) := by decide +kernel
theorem dX6_pairAt_25 : decode cX6_pairAt 25 = .ok (.iadd, 1) := by decide +kernel
theorem dX6_pairAt_26 : decode cX6_pairAt 26 = .ok (.ireturn, 1) := by decide +kernel
def m_Row_pairAt (g : Nat) (S : St) (x0 : Nat) (x1 : Int32) : Option Int32 :=
(m_Row_at g S x0 x1).bind fun v_1 =>
(m_Row_at g S x0 (x1 + (1 : Int32))).bind fun v_2 =>
some (((65536 : Int32) + ((1024 : Int32) * (v_1 - (55296 : Int32)))) + (v_2 - (56320 : Int32)))
section S_Row_pairAt
variable {p : Program} {l : Launch} {e : Env} {s : State} {m : MethodId} {args : Array Value} {below : List Frame} {meth : Method} {c : Code} {H : Heap} {locs : List Loc} {ls : Array Slot} {D : va_G} {T : Cy} {ρ : Nat → Nat} {A : Nat → Prop}
set_option maxRecDepth 100000 in
set_option maxHeartbeats 4000000 in
theorem w_Row_pairAt_0  {g : Nat} {S : St} {x0 : Nat} {x1 : Int32} (C : CallFix p m c cX6_pairAt 2 s args tb RX6) (hr : meth.sig.returnType = (some .int)) (hk : meth.locks = false) {r : Int32} (w : Wn Yc D T ρ S A s H locs) (hl : lv_has ls 2 [(0, .ref (ρ x0)), (1, .int x1)]) (ho_x0 : Ob Yc x0 4) (h : m_Row_pairAt g S x0 x1 = some r) : W p l e (rmN 1 21) s m args below meth c H locs 0 0 (MQ below (Qi Yc D T ρ A S r) args s 0 0 A) (F0 m 0 ls []) := by
  unfold m_Row_pairAt at h
  refine lv_ldc C.1 C.2.1 C.2.2.2.1 (C.2.2.2.2 _ nX6_90) dX6_pairAt_0 ?_
  refine lv_sipush (v := 1024) C.1 C.2.1 dX6_pairAt_2 (by decide) ?_
  refine lv_aload_n C.1 C.2.1 dX6_pairAt_5 rfl (lv_at hl 0 rfl) ?_
  refine lv_iload_n C.1 C.2.1 dX6_pairAt_6 rfl (lv_at hl 1 rfl) ?_
  obtain ⟨v_1, hv_1, h⟩ := bnd h
  refine x_callVi (q := (RX6, TX6, 4)) (As := [.int x1]) (rest := [.int (1024 : Int32), .int (65536 : Int32)]) C w (k_Row_at l D T ρ g H.size S ho_x0 hv_1) vX6_80 ⟨by decide, by decide⟩ ho_x0 (by decide) rfl rfl rfl hl.1 (Nat.le_of_ble_eq_true rfl) ⟨Nat.zero_le _, Nat.zero_le _⟩ dX6_pairAt_7 (fun H locs w => ?_)
  refine lv_ldc C.1 C.2.1 C.2.2.2.1 (C.2.2.2.2 _ nX6_91) dX6_pairAt_10 ?_
  refine lv_isub C.1 C.2.1 dX6_pairAt_12 ?_
  refine lv_imul C.1 C.2.1 dX6_pairAt_13 ?_
  refine lv_iadd C.1 C.2.1 dX6_pairAt_14 ?_
  refine lv_aload_n C.1 C.2.1 dX6_pairAt_15 rfl (lv_at hl 0 rfl) ?_
  refine lv_iload_n C.1 C.2.1 dX6_pairAt_16 rfl (lv_at hl 1 rfl) ?_
  refine lv_iconst (v := 1) C.1 C.2.1 dX6_pairAt_17 (by decide) ?_
  refine lv_iadd C.1 C.2.1 dX6_pairAt_18 ?_
  obtain ⟨v_2, hv_2, h⟩ := bnd h
  refine x_callVi (q := (RX6, TX6, 4)) (As := [.int (x1 + (1 : Int32))]) (rest := [.int ((65536 : Int32) + ((1024 : Int32) * (v_1 - (55296 : Int32))))]) C w (k_Row_at l D T ρ g H.size S ho_x0 hv_2) vX6_80 ⟨by decide, by decide⟩ ho_x0 (by decide) rfl rfl rfl hl.1 (Nat.le_of_ble_eq_true rfl) ⟨Nat.zero_le _, Nat.zero_le _⟩ dX6_pairAt_19 (fun H locs w => ?_)
  refine lv_ldc C.1 C.2.1 C.2.2.2.1 (C.2.2.2.2 _ nX6_92) dX6_pairAt_22 ?_
  refine lv_isub C.1 C.2.1 dX6_pairAt_24 ?_
  refine lv_iadd C.1 C.2.1 dX6_pairAt_25 ?_
  obtain rfl := som h
  exact x_iret C w hr hk dX6_pairAt_26
end S_Row_pairAt
set_option maxRecDepth 100000 in
theorem k_Row_pairAt (l : Launch) (D : va_G) (T : Cy) (ρ : Nat → Nat) (g sz : Nat) (S : St) {x0 : Nat} {x1 : Int32} (ho_x0 : Ob Yc x0 4) {r : Int32} (h : m_Row_pairAt g S x0 x1 = some r) : Mi l Yc D T ρ yX6_pairAt cX6_pairAt 2 (some .int) 1 21 S S r [.ref (ρ x0), .int x1] sz :=
  x_in (by decide) (Nat.le_of_ble_eq_true rfl) (fun p e s m below meth c ls C hr hk w hl => w_Row_pairAt_0 C hr hk w hl ho_x0 h)

theorem dX7_leaveCatch_0 : decode cX7_leaveCatch 0 = .ok (.aload_n 0, 1) := by decide +kernel
theorem dX7_leaveCatch_1 : decode cX7_leaveCatch 1 = .ok (.getfield 23, 3) := by decide +kernel
theorem dX7_leaveCatch_4 : decode cX7_leaveCatch 4 = .ok (.getfield 124, 3) := by decide +kernel
theorem dX7_leaveCatch_7 : decode cX7_leaveCatch 7 = .ok (.iconst 1, 1) := by decide +kernel
theorem dX7_leaveCatch_8 : decode cX7_leaveCatch 8 = .ok (.isub, 1) := by decide +kernel
theorem dX7_leaveCatch_9 : decode cX7_leaveCatch 9 = .ok (.istore_n 2, 1) := by decide +kernel
theorem dX7_leaveCatch_10 : decode cX7_leaveCatch 10 = .ok (.aload_n 0, 1) := by decide +kernel
theorem dX7_leaveCatch_11 : decode cX7_leaveCatch 11 = .ok (.getfield 30, 3) := by decide +kernel
theorem dX7_leaveCatch_14 : decode cX7_leaveCatch 14 = .ok (.aload_n 0, 1) := by decide +kernel
theorem dX7_leaveCatch_15 : decode cX7_leaveCatch 15 = .ok (.getfield 27, 3) := by decide +kernel
theorem dX7_leaveCatch_18 : decode cX7_leaveCatch 18 = .ok (.iload_n 2, 1) := by decide +kernel
theorem dX7_leaveCatch_19 : decode cX7_leaveCatch 19 = .ok (.invokevirtual 127, 3) := by decide +kernel
theorem dX7_leaveCatch_22 : decode cX7_leaveCatch 22 = .ok (.iload_n 1, 1) := by decide +kernel
theorem dX7_leaveCatch_23 : decode cX7_leaveCatch 23 = .ok (.i2l, 1) := by decide +kernel
theorem dX7_leaveCatch_24 : decode cX7_leaveCatch 24 = .ok (.invokevirtual 153, 3) := by decide +kernel
theorem dX7_leaveCatch_27 : decode cX7_leaveCatch 27 = .ok (.aload_n 0, 1) := by decide +kernel
theorem dX7_leaveCatch_28 : decode cX7_leaveCatch 28 = .ok (.getfield 23, 3) := by decide +kernel
theorem dX7_leaveCatch_31 : decode cX7_leaveCatch 31 = .ok (.iload_n 2, 1) := by decide +kernel
theorem dX7_leaveCatch_32 : decode cX7_leaveCatch 32 = .ok (.invokevirtual 157, 3) := by decide +kernel
theorem dX7_leaveCatch_35 : decode cX7_leaveCatch 35 = .ok (.aload_n 0, 1) := by decide +kernel
theorem dX7_leaveCatch_36 : decode cX7_leaveCatch 36 = .ok (.getfield 27, 3) := by decide +kernel
theorem dX7_leaveCatch_39 : decode cX7_leaveCatch 39 = .ok (.iload_n 2, 1) := by decide +kernel
theorem dX7_leaveCatch_40 : decode cX7_leaveCatch 40 = .ok (.invokevirtual 157, 3) := by decide +kernel
theorem dX7_leaveCatch_43 : decode cX7_leaveCatch 43 = .ok (.return_, 1) := by decide +kernel
def m_Rn_leaveCatch (g : Nat) (S : St) (x1 : Int32) : Option St :=
lt ((gI S 32 2) - (1 : Int32)) fun x2_1 =>
(m_Row_at g S 33 x2_1).bind fun v_2 =>
(m_Bn_setWhole g S v_2 (x1.toInt64)).bind fun S_3 =>
(m_Row_shorten g S_3 32 x2_1).bind fun S_4 =>
(m_Row_shorten g S_4 33 x2_1).bind fun S_5 =>
some S_5
section S_Rn_leaveCatch
variable {p : Program} {l : Launch} {e : Env} {s : State} {m : MethodId} {args : Array Value} {below : List Frame} {meth : Method} {c : Code} {H : Heap} {locs : List Loc} {ls : Array Slot} {D : va_G} {T : Cy} {ρ : Nat → Nat} {A : Nat → Prop}
set_option maxRecDepth 100000 in
set_option maxHeartbeats 4000000 in
theorem w_Rn_leaveCatch_0  {g : Nat} {S : St} {x1 : Int32} (C : CallFix p m c cX7_leaveCatch 3 s args tb RX7) (hr : meth.sig.returnType = none) (hk : meth.locks = false) {S' : St} (w : Wn Yc D T ρ S A s H locs) (hl : lv_has ls 3 [(0, .ref (ρ 6)), (1, .int x1)]) (h : m_Rn_leaveCatch g S x1 = some S') : W p l e (rmN 1 23) s m args below meth c H locs 0 0 (MQ below (Qv Yc D T ρ A S') args s 0 0 A) (F0 m 0 ls []) := by
  unfold m_Rn_leaveCatch at h
  refine lv_aload_n C.1 C.2.1 dX7_leaveCatch_0 rfl (lv_at hl 0 rfl) ?_
  refine x_getC C w 32 fX7_23 obC6 rfl dX7_leaveCatch_1 ?_
  refine x_getI C w fX7_124 obC32 dX7_leaveCatch_4 ?_
  refine lv_iconst (v := 1) C.1 C.2.1 dX7_leaveCatch_7 (by decide) ?_
  refine lv_isub C.1 C.2.1 dX7_leaveCatch_8 ?_
  obtain ⟨x2_1, ex2_1, h⟩ := lt_e h
  refine x_nm ex2_1 ?_
  refine lv_istore_n (lv' := [(2, .int x2_1), (0, .ref (ρ 6)), (1, .int x1)]) C.1 C.2.1 dX7_leaveCatch_9 rfl hl (by decide) rfl (fun ls hl => ?_)
  refine lv_aload_n C.1 C.2.1 dX7_leaveCatch_10 rfl (lv_at hl 1 rfl) ?_
  refine x_getC C w 4 fX7_30 obC6 rfl dX7_leaveCatch_11 ?_
  refine lv_aload_n C.1 C.2.1 dX7_leaveCatch_14 rfl (lv_at hl 1 rfl) ?_
  refine x_getC C w 33 fX7_27 obC6 rfl dX7_leaveCatch_15 ?_
  refine lv_iload_n C.1 C.2.1 dX7_leaveCatch_18 rfl (lv_at hl 0 rfl) ?_
  obtain ⟨v_2, hv_2, h⟩ := bnd h
  refine x_callVi (q := (RX6, TX6, 4)) (As := [.int x2_1]) (rest := [.ref (ρ 4)]) C w (k_Row_at l D T ρ g H.size S obC33 hv_2) vX7_127 ⟨by decide, by decide⟩ obC33 (by decide) rfl rfl rfl hl.1 (Nat.le_of_ble_eq_true rfl) ⟨Nat.zero_le _, Nat.zero_le _⟩ dX7_leaveCatch_19 (fun H locs w => ?_)
  refine lv_iload_n C.1 C.2.1 dX7_leaveCatch_22 rfl (lv_at hl 2 rfl) ?_
  refine lv_i2l C.1 C.2.1 dX7_leaveCatch_23 rfl ?_
  obtain ⟨S_3, hS_3, h⟩ := bnd h
  refine x_callVv (q := (RX1, TX1, 12)) (As := [.int v_2, .long (x1.toInt64)]) (rest := []) C w (k_Bn_setWhole l D T ρ g H.size S hS_3) vX7_153 ⟨by decide, by decide⟩ obC4 (by decide) rfl rfl rfl hl.1 (Nat.le_of_ble_eq_true rfl) ⟨Nat.zero_le _, Nat.zero_le _⟩ dX7_leaveCatch_24 (fun H locs w => ?_)
  refine lv_aload_n C.1 C.2.1 dX7_leaveCatch_27 rfl (lv_at hl 1 rfl) ?_
  refine x_getC C w 32 fX7_23 obC6 rfl dX7_leaveCatch_28 ?_
  refine lv_iload_n C.1 C.2.1 dX7_leaveCatch_31 rfl (lv_at hl 0 rfl) ?_
  obtain ⟨S_4, hS_4, h⟩ := bnd h
  refine x_callVv (q := (RX6, TX6, 4)) (As := [.int x2_1]) (rest := []) C w (k_Row_shorten l D T ρ g H.size S_3 obC32 hS_4) vX7_157 ⟨by decide, by decide⟩ obC32 (by decide) rfl rfl rfl hl.1 (Nat.le_of_ble_eq_true rfl) ⟨Nat.zero_le _, Nat.zero_le _⟩ dX7_leaveCatch_32 (fun H locs w => ?_)
  refine lv_aload_n C.1 C.2.1 dX7_leaveCatch_35 rfl (lv_at hl 1 rfl) ?_
  refine x_getC C w 33 fX7_27 obC6 rfl dX7_leaveCatch_36 ?_
  refine lv_iload_n C.1 C.2.1 dX7_leaveCatch_39 rfl (lv_at hl 0 rfl) ?_
  obtain ⟨S_5, hS_5, h⟩ := bnd h
  refine x_callVv (q := (RX6, TX6, 4)) (As := [.int x2_1]) (rest := []) C w (k_Row_shorten l D T ρ g H.size S_4 obC33 hS_5) vX7_157 ⟨by decide, by decide⟩ obC33 (by decide) rfl rfl rfl hl.1 (Nat.le_of_ble_eq_true rfl) ⟨Nat.zero_le _, Nat.zero_le _⟩ dX7_leaveCatch_40 (fun H locs w => ?_)
  obtain rfl := som h
  exact x_vret C w hr hk dX7_leaveCatch_43
end S_Rn_leaveCatch
set_option maxRecDepth 100000 in
theorem k_Rn_leaveCatch (l : Launch) (D : va_G) (T : Cy) (ρ : Nat → Nat) (g sz : Nat) (S : St) {x1 : Int32} {S' : St} (h : m_Rn_leaveCatch g S x1 = some S') : Mv l Yc D T ρ yX7_leaveCatch cX7_leaveCatch 3 none 1 23 S S' [.ref (ρ 6), .int x1] sz :=
  x_in (by decide) (Nat.le_of_ble_eq_true rfl) (fun p e s m below meth c ls C hr hk w hl => w_Rn_leaveCatch_0 C hr hk w hl h)

theorem dX7_leaveCatches_0 : decode cX7_leaveCatches 0 = .ok (.aload_n 0, 1) := by decide +kernel
theorem dX7_leaveCatches_1 : decode cX7_leaveCatches 1 = .ok (.getfield 23, 3) := by decide +kernel
theorem dX7_leaveCatches_4 : decode cX7_leaveCatches 4 = .ok (.getfield 124, 3) := by decide +kernel
theorem dX7_leaveCatches_7 : decode cX7_leaveCatches 7 = .ok (.istore_n 2, 1) := by decide +kernel
theorem dX7_leaveCatches_8 : decode cX7_leaveCatches 8 = .ok (.iload_n 2, 1) := by decide +kernel
theorem dX7_leaveCatches_9 : decode cX7_leaveCatches 9 = .ok (.ifCond .le 28, 3) := by decide +kernel
theorem dX7_leaveCatches_12 : decode cX7_leaveCatches 12 = .ok (.aload_n 0, 1) := by decide +kernel
theorem dX7_leaveCatches_13 : decode cX7_leaveCatches 13 = .ok (.getfield 23, 3) := by decide +kernel
theorem dX7_leaveCatches_16 : decode cX7_leaveCatches 16 = .ok (.iload_n 2, 1) := by decide +kernel
theorem dX7_leaveCatches_17 : decode cX7_leaveCatches 17 = .ok (.iconst 1, 1) := by decide +kernel
theorem dX7_leaveCatches_18 : decode cX7_leaveCatches 18 = .ok (.isub, 1) := by decide +kernel
theorem dX7_leaveCatches_19 : decode cX7_leaveCatches 19 = .ok (.invokevirtual 127, 3) := by decide +kernel
theorem dX7_leaveCatches_22 : decode cX7_leaveCatches 22 = .ok (.iload_n 1, 1) := by decide +kernel
theorem dX7_leaveCatches_23 : decode cX7_leaveCatches 23 = .ok (.if_icmp .gt 14, 3) := by decide +kernel
theorem dX7_leaveCatches_26 : decode cX7_leaveCatches 26 = .ok (.aload_n 0, 1) := by decide +kernel
theorem dX7_leaveCatches_27 : decode cX7_leaveCatches 27 = .ok (.iconst 0, 1) := by decide +kernel
theorem dX7_leaveCatches_28 : decode cX7_leaveCatches 28 = .ok (.invokevirtual 131, 3) := by decide +kernel
theorem dX7_leaveCatches_31 : decode cX7_leaveCatches 31 = .ok (.iinc 2 (-1), 3) := by decide +kernel
theorem dX7_leaveCatches_34 : decode cX7_leaveCatches 34 = .ok (.goto (-26), 3) := by decide +kernel
theorem dX7_leaveCatches_37 : decode cX7_leaveCatches 37 = .ok (.return_, 1) := by decide +kernel
def b_Rn_leaveCatches_8 (g : Nat) (k8 : St → Int32 → Int32 → Option St) (S : St) (x1 : Int32) (x2 : Int32) : Option St :=
if x2 ≤ 0 then (
  some S
) else (
  (m_Row_at g S 32 (x2 - (1 : Int32))).bind fun v_2 =>
  if x1 < v_2 then (
    some S
  ) else (
    (m_Rn_leaveCatch g S (0 : Int32)).bind fun S_3 =>
    lt (x2 + (-1 : Int32)) fun x2_4 =>
    k8 S_3 x1 x2_4
  )
)
def m_Rn_leaveCatches_8 (g : Nat) : Nat → St → Int32 → Int32 → Option St
  | 0, _, _, _ => none
  | n + 1, S, x1, x2 => b_Rn_leaveCatches_8 g (m_Rn_leaveCatches_8 g n) S x1 x2
def m_Rn_leaveCatches (g : Nat) (S : St) (x1 : Int32) : Option St :=
lt (gI S 32 2) fun x2_1 =>
m_Rn_leaveCatches_8 g g S x1 x2_1
section S_Rn_leaveCatches
variable {p : Program} {l : Launch} {e : Env} {s : State} {m : MethodId} {args : Array Value} {below : List Frame} {meth : Method} {c : Code} {H : Heap} {locs : List Loc} {ls : Array Slot} {D : va_G} {T : Cy} {ρ : Nat → Nat} {A : Nat → Prop}
set_option maxRecDepth 100000 in
set_option maxHeartbeats 4000000 in
theorem wb_Rn_leaveCatches_8  {g : Nat} {S : St} {x1 : Int32} {x2 : Int32} (C : CallFix p m c cX7_leaveCatches 3 s args tb RX7) (hr : meth.sig.returnType = none) (hk : meth.locks = false) {S' : St} {k8 : St → Int32 → Int32 → Option St} (kk8 : ∀ (S : St) (x1 : Int32) (x2 : Int32) (H : Heap) (locs : List Loc) (ls : Array Slot), Wn Yc D T ρ S A s H locs → lv_has ls 3 [(0, .ref (ρ 6)), (1, .int x1), (2, .int x2)] → k8 S x1 x2 = some S' → W p l e (rmN 2 45) s m args below meth c H locs 0 0 (MQ below (Qv Yc D T ρ A S') args s 0 0 A) (F0 m 8 ls [])) (w : Wn Yc D T ρ S A s H locs) (hl : lv_has ls 3 [(0, .ref (ρ 6)), (1, .int x1), (2, .int x2)]) (h : b_Rn_leaveCatches_8 g k8 S x1 x2 = some S') : W p l e (rmN 2 45) s m args below meth c H locs 0 0 (MQ below (Qv Yc D T ρ A S') args s 0 0 A) (F0 m 8 ls []) := by
  unfold b_Rn_leaveCatches_8 at h
  refine lv_iload_n C.1 C.2.1 dX7_leaveCatches_8 rfl (lv_at hl 2 rfl) ?_
  refine lv_if_le (tgt := 37) C.1 C.2.1 dX7_leaveCatches_9 (by decide) (fun hc => ?_) (fun hc => ?_)
  · replace h := ift hc h
    obtain rfl := som h
    exact x_vret C w hr hk dX7_leaveCatches_37
  · replace h := iff0 hc h
    refine lv_aload_n C.1 C.2.1 dX7_leaveCatches_12 rfl (lv_at hl 0 rfl) ?_
    refine x_getC C w 32 fX7_23 obC6 rfl dX7_leaveCatches_13 ?_
    refine lv_iload_n C.1 C.2.1 dX7_leaveCatches_16 rfl (lv_at hl 2 rfl) ?_
    refine lv_iconst (v := 1) C.1 C.2.1 dX7_leaveCatches_17 (by decide) ?_
    refine lv_isub C.1 C.2.1 dX7_leaveCatches_18 ?_
    obtain ⟨v_2, hv_2, h⟩ := bnd h
    refine x_callVi (q := (RX6, TX6, 4)) (As := [.int (x2 - (1 : Int32))]) (rest := []) C w (k_Row_at l D T ρ g H.size S obC32 hv_2) vX7_127 ⟨by decide, by decide⟩ obC32 (by decide) rfl rfl rfl hl.1 (Nat.le_of_ble_eq_true rfl) ⟨Nat.zero_le _, Nat.zero_le _⟩ dX7_leaveCatches_19 (fun H locs w => ?_)
    refine lv_iload_n C.1 C.2.1 dX7_leaveCatches_22 rfl (lv_at hl 1 rfl) ?_
    refine lv_icmp_gt (tgt := 37) C.1 C.2.1 dX7_leaveCatches_23 (by decide) (fun hc => ?_) (fun hc => ?_)
    · replace h := ift hc h
      obtain rfl := som h
      exact x_vret C w hr hk dX7_leaveCatches_37
    · replace h := iff0 hc h
      refine lv_aload_n C.1 C.2.1 dX7_leaveCatches_26 rfl (lv_at hl 0 rfl) ?_
      refine lv_iconst (v := 0) C.1 C.2.1 dX7_leaveCatches_27 (by decide) ?_
      obtain ⟨S_3, hS_3, h⟩ := bnd h
      refine x_callVv (q := (RX7, TX7, 8)) (As := [.int (0 : Int32)]) (rest := []) C w (k_Rn_leaveCatch l D T ρ g H.size S hS_3) vX7_131 ⟨by decide, by decide⟩ obC6 (by decide) rfl rfl rfl hl.1 (Nat.le_of_ble_eq_true rfl) ⟨Nat.zero_le _, Nat.zero_le _⟩ dX7_leaveCatches_28 (fun H locs w => ?_)
      obtain ⟨x2_4, ex2_4, h⟩ := lt_e h
      refine lv_iinc (v := x2_4) (lv' := [(2, .int x2_4), (0, .ref (ρ 6)), (1, .int x1)]) C.1 C.2.1 dX7_leaveCatches_31 hl (k := 2) rfl (by rw [ex2_4]; rfl) (by decide) rfl (fun ls hl => ?_)
      refine lv_goto (tgt := 8) C.1 C.2.1 dX7_leaveCatches_34 (by decide) ?_
      exact kk8 _ _ _ _ _ _ w (lv_sub hl [1, 2, 0] rfl) h
theorem w_Rn_leaveCatches_8 {g : Nat} (C : CallFix p m c cX7_leaveCatches 3 s args tb RX7) (hr : meth.sig.returnType = none) (hk : meth.locks = false) {S' : St} (n : Nat) : ∀ (S : St) (x1 : Int32) (x2 : Int32) (H : Heap) (locs : List Loc) (ls : Array Slot), Wn Yc D T ρ S A s H locs → lv_has ls 3 [(0, .ref (ρ 6)), (1, .int x1), (2, .int x2)] → m_Rn_leaveCatches_8 g n S x1 x2 = some S' → W p l e (rmN 2 45) s m args below meth c H locs 0 0 (MQ below (Qv Yc D T ρ A S') args s 0 0 A) (F0 m 8 ls []) := by
  induction n with
  | zero => intro S x1 x2 H locs ls w hl h; exact absurd h (fun q => by cases q)
  | succ n ih => intro S x1 x2 H locs ls w hl h; exact wb_Rn_leaveCatches_8 C hr hk ih w hl h
set_option maxRecDepth 100000 in
set_option maxHeartbeats 4000000 in
theorem w_Rn_leaveCatches_0  {g : Nat} {S : St} {x1 : Int32} (C : CallFix p m c cX7_leaveCatches 3 s args tb RX7) (hr : meth.sig.returnType = none) (hk : meth.locks = false) {S' : St} (w : Wn Yc D T ρ S A s H locs) (hl : lv_has ls 3 [(0, .ref (ρ 6)), (1, .int x1)]) (h : m_Rn_leaveCatches g S x1 = some S') : W p l e (rmN 2 45) s m args below meth c H locs 0 0 (MQ below (Qv Yc D T ρ A S') args s 0 0 A) (F0 m 0 ls []) := by
  unfold m_Rn_leaveCatches at h
  refine lv_aload_n C.1 C.2.1 dX7_leaveCatches_0 rfl (lv_at hl 0 rfl) ?_
  refine x_getC C w 32 fX7_23 obC6 rfl dX7_leaveCatches_1 ?_
  refine x_getI C w fX7_124 obC32 dX7_leaveCatches_4 ?_
  obtain ⟨x2_1, ex2_1, h⟩ := lt_e h
  refine x_nm ex2_1 ?_
  refine lv_istore_n (lv' := [(2, .int x2_1), (0, .ref (ρ 6)), (1, .int x1)]) C.1 C.2.1 dX7_leaveCatches_7 rfl hl (by decide) rfl (fun ls hl => ?_)
  exact w_Rn_leaveCatches_8 C hr hk g _ _ _ _ _ _ w (lv_sub hl [1, 2, 0] rfl) h
end S_Rn_leaveCatches
set_option maxRecDepth 100000 in
theorem k_Rn_leaveCatches (l : Launch) (D : va_G) (T : Cy) (ρ : Nat → Nat) (g sz : Nat) (S : St) {x1 : Int32} {S' : St} (h : m_Rn_leaveCatches g S x1 = some S') : Mv l Yc D T ρ yX7_leaveCatches cX7_leaveCatches 3 none 2 45 S S' [.ref (ρ 6), .int x1] sz :=
  x_in (by decide) (Nat.le_of_ble_eq_true rfl) (fun p e s m below meth c ls C hr hk w hl => w_Rn_leaveCatches_0 C hr hk w hl h)

theorem dX10_sizeOf_0 : decode cX10_sizeOf 0 = .ok (.aload_n 0, 1) := by decide +kernel
theorem dX10_sizeOf_1 : decode cX10_sizeOf 1 = .ok (.iload_n 1, 1) := by decide +kernel
theorem dX10_sizeOf_2 : decode cX10_sizeOf 2 = .ok (.invokevirtual 84, 3) := by decide +kernel
theorem dX10_sizeOf_5 : decode cX10_sizeOf 5 = .ok (.aload_n 0, 1) := by decide +kernel
theorem dX10_sizeOf_6 : decode cX10_sizeOf 6 = .ok (.iload_n 1, 1) := by decide +kernel
theorem dX10_sizeOf_7 : decode cX10_sizeOf 7 = .ok (.invokevirtual 87, 3) := by decide +kernel
theorem dX10_sizeOf_10 : decode cX10_sizeOf 10 = .ok (.isub, 1) := by decide +kernel
theorem dX10_sizeOf_11 : decode cX10_sizeOf 11 = .ok (.ireturn, 1) := by decide +kernel
def m_Tx_sizeOf (g : Nat) (S : St) (x1 : Int32) : Option Int32 :=
(m_Tx_endOf g S x1).bind fun v_1 =>
(m_Tx_startOf g S x1).bind fun v_2 =>
some (v_1 - v_2)
section S_Tx_sizeOf
variable {p : Program} {l : Launch} {e : Env} {s : State} {m : MethodId} {args : Array Value} {below : List Frame} {meth : Method} {c : Code} {H : Heap} {locs : List Loc} {ls : Array Slot} {D : va_G} {T : Cy} {ρ : Nat → Nat} {A : Nat → Prop}
set_option maxRecDepth 100000 in
set_option maxHeartbeats 4000000 in
theorem w_Tx_sizeOf_0  {g : Nat} {S : St} {x1 : Int32} (C : CallFix p m c cX10_sizeOf 2 s args tb RX10) (hr : meth.sig.returnType = (some .int)) (hk : meth.locks = false) {r : Int32} (w : Wn Yc D T ρ S A s H locs) (hl : lv_has ls 2 [(0, .ref (ρ 5)), (1, .int x1)]) (h : m_Tx_sizeOf g S x1 = some r) : W p l e (rmN 1 21) s m args below meth c H locs 0 0 (MQ below (Qi Yc D T ρ A S r) args s 0 0 A) (F0 m 0 ls []) := by
  unfold m_Tx_sizeOf at h
  refine lv_aload_n C.1 C.2.1 dX10_sizeOf_0 rfl (lv_at hl 0 rfl) ?_
  refine lv_iload_n C.1 C.2.1 dX10_sizeOf_1 rfl (lv_at hl 1 rfl) ?_
  obtain ⟨v_1, hv_1, h⟩ := bnd h
  refine x_callVi (q := (RX10, TX10, 5)) (As := [.int x1]) (rest := []) C w (k_Tx_endOf l D T ρ g H.size S hv_1) vX10_84 ⟨by decide, by decide⟩ obC5 (by decide) rfl rfl rfl hl.1 (Nat.le_of_ble_eq_true rfl) ⟨Nat.zero_le _, Nat.zero_le _⟩ dX10_sizeOf_2 (fun H locs w => ?_)
  refine lv_aload_n C.1 C.2.1 dX10_sizeOf_5 rfl (lv_at hl 0 rfl) ?_
  refine lv_iload_n C.1 C.2.1 dX10_sizeOf_6 rfl (lv_at hl 1 rfl) ?_
  obtain ⟨v_2, hv_2, h⟩ := bnd h
  refine x_callVi (q := (RX10, TX10, 5)) (As := [.int x1]) (rest := [.int v_1]) C w (k_Tx_startOf l D T ρ g H.size S hv_2) vX10_87 ⟨by decide, by decide⟩ obC5 (by decide) rfl rfl rfl hl.1 (Nat.le_of_ble_eq_true rfl) ⟨Nat.zero_le _, Nat.zero_le _⟩ dX10_sizeOf_7 (fun H locs w => ?_)
  refine lv_isub C.1 C.2.1 dX10_sizeOf_10 ?_
  obtain rfl := som h
  exact x_iret C w hr hk dX10_sizeOf_11
end S_Tx_sizeOf
set_option maxRecDepth 100000 in
theorem k_Tx_sizeOf (l : Launch) (D : va_G) (T : Cy) (ρ : Nat → Nat) (g sz : Nat) (S : St) {x1 : Int32} {r : Int32} (h : m_Tx_sizeOf g S x1 = some r) : Mi l Yc D T ρ yX10_sizeOf cX10_sizeOf 2 (some .int) 1 21 S S r [.ref (ρ 5), .int x1] sz :=
  x_in (by decide) (Nat.le_of_ble_eq_true rfl) (fun p e s m below meth c ls C hr hk w hl => w_Tx_sizeOf_0 C hr hk w hl h)

theorem dX10_pooledWith_0 : decode cX10_pooledWith 0 = .ok (.iconst 0, 1) := by decide +kernel
theorem dX10_pooledWith_1 : decode cX10_pooledWith 1 = .ok (.istore 4, 2) := by decide +kernel
theorem dX10_pooledWith_3 : decode cX10_pooledWith 3 = .ok (.iload 4, 2) := by decide +kernel
theorem dX10_pooledWith_5 : decode cX10_pooledWith 5 = .ok (.aload_n 0, 1) := by decide +kernel
theorem dX10_pooledWith_6 : decode cX10_pooledWith 6 = .ok (.getfield 23, 3) := by decide +kernel
theorem dX10_pooledWith_9 : decode cX10_pooledWith 9 = .ok (.getfield 44, 3) := by decide +kernel
theorem dX10_pooledWith_12 : decode cX10_pooledWith 12 = .ok (.if_icmp .ge 54, 3) := by decide +kernel
theorem dX10_pooledWith_15 : decode cX10_pooledWith 15 = .ok (.aload_n 0, 1) := by decide +kernel
theorem dX10_pooledWith_16 : decode cX10_pooledWith 16 = .ok (.getfield 23, 3) := by decide +kernel
theorem dX10_pooledWith_19 : decode cX10_pooledWith 19 = .ok (.iload 4, 2) := by decide +kernel
theorem dX10_pooledWith_21 : decode cX10_pooledWith 21 = .ok (.invokevirtual 51, 3) := by decide +kernel
theorem dX10_pooledWith_24 : decode cX10_pooledWith 24 = .ok (.istore 5, 2) := by decide +kernel
theorem dX10_pooledWith_26 : decode cX10_pooledWith 26 = .ok (.aload_n 0, 1) := by decide +kernel
theorem dX10_pooledWith_27 : decode cX10_pooledWith 27 = .ok (.iload 5, 2) := by decide +kernel
theorem dX10_pooledWith_29 : decode cX10_pooledWith 29 = .ok (.invokevirtual 90, 3) := by decide +kernel
theorem dX10_pooledWith_32 : decode cX10_pooledWith 32 = .ok (.iload_n 3, 1) := by decide +kernel
theorem dX10_pooledWith_33 : decode cX10_pooledWith 33 = .ok (.iload_n 2, 1) := by decide +kernel
theorem dX10_pooledWith_34 : decode cX10_pooledWith 34 = .ok (.isub, 1) := by decide +kernel
theorem dX10_pooledWith_35 : decode cX10_pooledWith 35 = .ok (.if_icmp .ne 25, 3) := by decide +kernel
theorem dX10_pooledWith_38 : decode cX10_pooledWith 38 = .ok (.aload_n 0, 1) := by decide +kernel
theorem dX10_pooledWith_39 : decode cX10_pooledWith 39 = .ok (.getfield 14, 3) := by decide +kernel
theorem dX10_pooledWith_42 : decode cX10_pooledWith 42 = .ok (.aload_n 0, 1) := by decide +kernel
theorem dX10_pooledWith_43 : decode cX10_pooledWith 43 = .ok (.iload 5, 2) := by decide +kernel
theorem dX10_pooledWith_45 : decode cX10_pooledWith 45 = .ok (.invokevirtual 87, 3) := by decide +kernel
theorem dX10_pooledWith_48 : decode cX10_pooledWith 48 = .ok (.aload_n 1, 1) := by decide +kernel
theorem dX10_pooledWith_49 : decode cX10_pooledWith 49 = .ok (.iload_n 2, 1) := by decide +kernel
theorem dX10_pooledWith_50 : decode cX10_pooledWith 50 = .ok (.iload_n 3, 1) := by decide +kernel
theorem dX10_pooledWith_51 : decode cX10_pooledWith 51 = .ok (.invokevirtual 93, 3) := by decide +kernel
theorem dX10_pooledWith_54 : decode cX10_pooledWith 54 = .ok (.ifCond .eq 6, 3) := by decide +kernel
theorem dX10_pooledWith_57 : decode cX10_pooledWith 57 = .ok (.iload 5, 2) := by decide +kernel
theorem dX10_pooledWith_59 : decode cX10_pooledWith 59 = .ok (.ireturn, 1) := by decide +kernel
theorem dX10_pooledWith_60 : decode cX10_pooledWith 60 = .ok (.iinc 4 1, 3) := by decide +kernel
theorem dX10_pooledWith_63 : decode cX10_pooledWith 63 = .ok (.goto (-60), 3) := by decide +kernel
theorem dX10_pooledWith_66 : decode cX10_pooledWith 66 = .ok (.iconst (-1), 1) := by decide +kernel
theorem dX10_pooledWith_67 : decode cX10_pooledWith 67 = .ok (.ireturn, 1) := by decide +kernel
def b_Tx_pooledWith_3 (g : Nat) (S : St) (k3 : Nat → Int32 → Int32 → Int32 → Option Int32) (x1 : Nat) (x2 : Int32) (x3 : Int32) (x4 : Int32) : Option Int32 :=
if (gI S 20 2) ≤ x4 then (
  some (-1 : Int32)
) else (
  (m_Row_at g S 20 x4).bind fun v_1 =>
  (m_Tx_sizeOf g S v_1).bind fun v_2 =>
  if v_2 = (x3 - x2) then (
    (m_Tx_startOf g S v_1).bind fun v_4 =>
    (m_Row_holds g S 18 v_4 x1 x2 x3).bind fun v_5 =>
    if v_5 = 0 then (
      lt (x4 + (1 : Int32)) fun x4_6 =>
      k3 x1 x2 x3 x4_6
    ) else (
      some v_1
    )
  ) else (
    lt (x4 + (1 : Int32)) fun x4_3 =>
    k3 x1 x2 x3 x4_3
  )
)
def m_Tx_pooledWith_3 (g : Nat) (S : St) : Nat → Nat → Int32 → Int32 → Int32 → Option Int32
  | 0, _, _, _, _ => none
  | n + 1, x1, x2, x3, x4 => b_Tx_pooledWith_3 g S (m_Tx_pooledWith_3 g S n) x1 x2 x3 x4
def m_Tx_pooledWith (g : Nat) (S : St) (x1 : Nat) (x2 : Int32) (x3 : Int32) : Option Int32 :=
m_Tx_pooledWith_3 g S g x1 x2 x3 (0 : Int32)
section S_Tx_pooledWith
variable {p : Program} {l : Launch} {e : Env} {s : State} {m : MethodId} {args : Array Value} {below : List Frame} {meth : Method} {c : Code} {H : Heap} {locs : List Loc} {ls : Array Slot} {D : va_G} {T : Cy} {ρ : Nat → Nat} {A : Nat → Prop}
set_option maxRecDepth 100000 in
set_option maxHeartbeats 4000000 in
theorem wb_Tx_pooledWith_3  {g : Nat} {S : St} {x1 : Nat} {x2 : Int32} {x3 : Int32} {x4 : Int32} (C : CallFix p m c cX10_pooledWith 6 s args tb RX10) (hr : meth.sig.returnType = (some .int)) (hk : meth.locks = false) {r : Int32} {k3 : Nat → Int32 → Int32 → Int32 → Option Int32} (kk3 : ∀ (x1 : Nat) (x2 : Int32) (x3 : Int32) (x4 : Int32) (H : Heap) (locs : List Loc) (ls : Array Slot), Wn Yc D T ρ S A s H locs → lv_has ls 6 [(0, .ref (ρ 5)), (1, .ref (ρ x1)), (2, .int x2), (3, .int x3), (4, .int x4)] → Ob Yc x1 4 → k3 x1 x2 x3 x4 = some r → W p l e (rmN 2 42) s m args below meth c H locs 0 0 (MQ below (Qi Yc D T ρ A S r) args s 0 0 A) (F0 m 3 ls [])) (w : Wn Yc D T ρ S A s H locs) (hl : lv_has ls 6 [(0, .ref (ρ 5)), (1, .ref (ρ x1)), (2, .int x2), (3, .int x3), (4, .int x4)]) (ho_x1 : Ob Yc x1 4) (h : b_Tx_pooledWith_3 g S k3 x1 x2 x3 x4 = some r) : W p l e (rmN 2 42) s m args below meth c H locs 0 0 (MQ below (Qi Yc D T ρ A S r) args s 0 0 A) (F0 m 3 ls []) := by
  unfold b_Tx_pooledWith_3 at h
  refine lv_iload C.1 C.2.1 dX10_pooledWith_3 (lv_at hl 4 rfl) ?_
  refine lv_aload_n C.1 C.2.1 dX10_pooledWith_5 rfl (lv_at hl 0 rfl) ?_
  refine x_getC C w 20 fX10_23 obC5 rfl dX10_pooledWith_6 ?_
  refine x_getI C w fX10_44 obC20 dX10_pooledWith_9 ?_
  refine lv_icmp_ge (tgt := 66) C.1 C.2.1 dX10_pooledWith_12 (by decide) (fun hc => ?_) (fun hc => ?_)
  · replace h := ift hc h
    refine lv_iconst (v := (-1)) C.1 C.2.1 dX10_pooledWith_66 (by decide) ?_
    obtain rfl := som h
    exact x_iret C w hr hk dX10_pooledWith_67
  · replace h := iff0 hc h
    refine lv_aload_n C.1 C.2.1 dX10_pooledWith_15 rfl (lv_at hl 0 rfl) ?_
    refine x_getC C w 20 fX10_23 obC5 rfl dX10_pooledWith_16 ?_
    refine lv_iload C.1 C.2.1 dX10_pooledWith_19 (lv_at hl 4 rfl) ?_
    obtain ⟨v_1, hv_1, h⟩ := bnd h
    refine x_callVi (q := (RX6, TX6, 4)) (As := [.int x4]) (rest := []) C w (k_Row_at l D T ρ g H.size S obC20 hv_1) vX10_51 ⟨by decide, by decide⟩ obC20 (by decide) rfl rfl rfl hl.1 (Nat.le_of_ble_eq_true rfl) ⟨Nat.zero_le _, Nat.zero_le _⟩ dX10_pooledWith_21 (fun H locs w => ?_)
    refine lv_istore (lv' := [(5, .int v_1), (0, .ref (ρ 5)), (1, .ref (ρ x1)), (2, .int x2), (3, .int x3), (4, .int x4)]) C.1 C.2.1 dX10_pooledWith_24 hl (by decide) rfl (fun ls hl => ?_)
    refine lv_aload_n C.1 C.2.1 dX10_pooledWith_26 rfl (lv_at hl 1 rfl) ?_
    refine lv_iload C.1 C.2.1 dX10_pooledWith_27 (lv_at hl 0 rfl) ?_
    obtain ⟨v_2, hv_2, h⟩ := bnd h
    refine x_callVi (q := (RX10, TX10, 5)) (As := [.int v_1]) (rest := []) C w (k_Tx_sizeOf l D T ρ g H.size S hv_2) vX10_90 ⟨by decide, by decide⟩ obC5 (by decide) rfl rfl rfl hl.1 (Nat.le_of_ble_eq_true rfl) ⟨Nat.zero_le _, Nat.zero_le _⟩ dX10_pooledWith_29 (fun H locs w => ?_)
    refine lv_iload_n C.1 C.2.1 dX10_pooledWith_32 rfl (lv_at hl 4 rfl) ?_
    refine lv_iload_n C.1 C.2.1 dX10_pooledWith_33 rfl (lv_at hl 3 rfl) ?_
    refine lv_isub C.1 C.2.1 dX10_pooledWith_34 ?_
    refine lv_icmp_ne (tgt := 60) C.1 C.2.1 dX10_pooledWith_35 (by decide) (fun hc => ?_) (fun hc => ?_)
    · replace h := iff0 hc h
      obtain ⟨x4_3, ex4_3, h⟩ := lt_e h
      refine lv_iinc (v := x4_3) (lv' := [(4, .int x4_3), (5, .int v_1), (0, .ref (ρ 5)), (1, .ref (ρ x1)), (2, .int x2), (3, .int x3)]) C.1 C.2.1 dX10_pooledWith_60 hl (k := 5) rfl (by rw [ex4_3]; rfl) (by decide) rfl (fun ls hl => ?_)
      refine lv_goto (tgt := 3) C.1 C.2.1 dX10_pooledWith_63 (by decide) ?_
      exact kk3 _ _ _ _ _ _ _ w (lv_sub hl [2, 3, 4, 5, 0] rfl) ho_x1 h
    · replace h := ift hc h
      refine lv_aload_n C.1 C.2.1 dX10_pooledWith_38 rfl (lv_at hl 1 rfl) ?_
      refine x_getC C w 18 fX10_14 obC5 rfl dX10_pooledWith_39 ?_
      refine lv_aload_n C.1 C.2.1 dX10_pooledWith_42 rfl (lv_at hl 1 rfl) ?_
      refine lv_iload C.1 C.2.1 dX10_pooledWith_43 (lv_at hl 0 rfl) ?_
      obtain ⟨v_4, hv_4, h⟩ := bnd h
      refine x_callVi (q := (RX10, TX10, 5)) (As := [.int v_1]) (rest := [.ref (ρ 18)]) C w (k_Tx_startOf l D T ρ g H.size S hv_4) vX10_87 ⟨by decide, by decide⟩ obC5 (by decide) rfl rfl rfl hl.1 (Nat.le_of_ble_eq_true rfl) ⟨Nat.zero_le _, Nat.zero_le _⟩ dX10_pooledWith_45 (fun H locs w => ?_)
      refine lv_aload_n C.1 C.2.1 dX10_pooledWith_48 rfl (lv_at hl 2 rfl) ?_
      refine lv_iload_n C.1 C.2.1 dX10_pooledWith_49 rfl (lv_at hl 3 rfl) ?_
      refine lv_iload_n C.1 C.2.1 dX10_pooledWith_50 rfl (lv_at hl 4 rfl) ?_
      obtain ⟨v_5, hv_5, h⟩ := bnd h
      refine x_callVi (q := (RX6, TX6, 4)) (As := [.int v_4, .ref (ρ x1), .int x2, .int x3]) (rest := []) C w (k_Row_holds l D T ρ g H.size S obC18 ho_x1 hv_5) vX10_93 ⟨by decide, by decide⟩ obC18 (by decide) rfl rfl rfl hl.1 (Nat.le_of_ble_eq_true rfl) ⟨Nat.zero_le _, Nat.zero_le _⟩ dX10_pooledWith_51 (fun H locs w => ?_)
      refine lv_if_eq (tgt := 60) C.1 C.2.1 dX10_pooledWith_54 (by decide) (fun hc => ?_) (fun hc => ?_)
      · replace h := ift hc h
        obtain ⟨x4_6, ex4_6, h⟩ := lt_e h
        refine lv_iinc (v := x4_6) (lv' := [(4, .int x4_6), (5, .int v_1), (0, .ref (ρ 5)), (1, .ref (ρ x1)), (2, .int x2), (3, .int x3)]) C.1 C.2.1 dX10_pooledWith_60 hl (k := 5) rfl (by rw [ex4_6]; rfl) (by decide) rfl (fun ls hl => ?_)
        refine lv_goto (tgt := 3) C.1 C.2.1 dX10_pooledWith_63 (by decide) ?_
        exact kk3 _ _ _ _ _ _ _ w (lv_sub hl [2, 3, 4, 5, 0] rfl) ho_x1 h
      · replace h := iff0 hc h
        refine lv_iload C.1 C.2.1 dX10_pooledWith_57 (lv_at hl 0 rfl) ?_
        obtain rfl := som h
        exact x_iret C w hr hk dX10_pooledWith_59
theorem w_Tx_pooledWith_3 {g : Nat} {S : St} (C : CallFix p m c cX10_pooledWith 6 s args tb RX10) (hr : meth.sig.returnType = (some .int)) (hk : meth.locks = false) {r : Int32} (n : Nat) : ∀ (x1 : Nat) (x2 : Int32) (x3 : Int32) (x4 : Int32) (H : Heap) (locs : List Loc) (ls : Array Slot), Wn Yc D T ρ S A s H locs → lv_has ls 6 [(0, .ref (ρ 5)), (1, .ref (ρ x1)), (2, .int x2), (3, .int x3), (4, .int x4)] → Ob Yc x1 4 → m_Tx_pooledWith_3 g S n x1 x2 x3 x4 = some r → W p l e (rmN 2 42) s m args below meth c H locs 0 0 (MQ below (Qi Yc D T ρ A S r) args s 0 0 A) (F0 m 3 ls []) := by
  induction n with
  | zero => intro x1 x2 x3 x4 H locs ls w hl ho_x1 h; exact absurd h (fun q => by cases q)
  | succ n ih => intro x1 x2 x3 x4 H locs ls w hl ho_x1 h; exact wb_Tx_pooledWith_3 C hr hk ih w hl ho_x1 h
set_option maxRecDepth 100000 in
set_option maxHeartbeats 4000000 in
theorem w_Tx_pooledWith_0  {g : Nat} {S : St} {x1 : Nat} {x2 : Int32} {x3 : Int32} (C : CallFix p m c cX10_pooledWith 6 s args tb RX10) (hr : meth.sig.returnType = (some .int)) (hk : meth.locks = false) {r : Int32} (w : Wn Yc D T ρ S A s H locs) (hl : lv_has ls 6 [(0, .ref (ρ 5)), (1, .ref (ρ x1)), (2, .int x2), (3, .int x3)]) (ho_x1 : Ob Yc x1 4) (h : m_Tx_pooledWith g S x1 x2 x3 = some r) : W p l e (rmN 2 42) s m args below meth c H locs 0 0 (MQ below (Qi Yc D T ρ A S r) args s 0 0 A) (F0 m 0 ls []) := by
  unfold m_Tx_pooledWith at h
  refine lv_iconst (v := 0) C.1 C.2.1 dX10_pooledWith_0 (by decide) ?_
  refine lv_istore (lv' := [(4, .int (0 : Int32)), (0, .ref (ρ 5)), (1, .ref (ρ x1)), (2, .int x2), (3, .int x3)]) C.1 C.2.1 dX10_pooledWith_1 hl (by decide) rfl (fun ls hl => ?_)
  exact w_Tx_pooledWith_3 C hr hk g _ _ _ _ _ _ _ w (lv_sub hl [1, 2, 3, 4, 0] rfl) ho_x1 h
end S_Tx_pooledWith
set_option maxRecDepth 100000 in
theorem k_Tx_pooledWith (l : Launch) (D : va_G) (T : Cy) (ρ : Nat → Nat) (g sz : Nat) (S : St) {x1 : Nat} {x2 : Int32} {x3 : Int32} (ho_x1 : Ob Yc x1 4) {r : Int32} (h : m_Tx_pooledWith g S x1 x2 x3 = some r) : Mi l Yc D T ρ yX10_pooledWith cX10_pooledWith 6 (some .int) 2 42 S S r [.ref (ρ 5), .ref (ρ x1), .int x2, .int x3] sz :=
  x_in (by decide) (Nat.le_of_ble_eq_true rfl) (fun p e s m below meth c ls C hr hk w hl => w_Tx_pooledWith_0 C hr hk w hl ho_x1 h)

theorem dX9_isLeftOut_0 : decode cX9_isLeftOut 0 = .ok (.iload_n 1, 1) := by decide +kernel
theorem dX9_isLeftOut_1 : decode cX9_isLeftOut 1 = .ok (.ifCond .eq 10, 3) := by decide +kernel
theorem dX9_isLeftOut_4 : decode cX9_isLeftOut 4 = .ok (.iload_n 0, 1) := by decide +kernel
theorem dX9_isLeftOut_5 : decode cX9_isLeftOut 5 = .ok (.invokestatic 189, 3) := by decide +kernel
theorem dX9_isLeftOut_8 : decode cX9_isLeftOut 8 = .ok (.goto 14, 3) := by decide +kernel
theorem dX9_isLeftOut_11 : decode cX9_isLeftOut 11 = .ok (.iload_n 0, 1) := by decide +kernel
theorem dX9_isLeftOut_12 : decode cX9_isLeftOut 12 = .ok (.bipush 32, 2) := by decide +kernel
theorem dX9_isLeftOut_14 : decode cX9_isLeftOut 14 = .ok (.if_icmp .gt 7, 3) := by decide +kernel
theorem dX9_isLeftOut_17 : decode cX9_isLeftOut 17 = .ok (.iconst 1, 1) := by decide +kernel
theorem dX9_isLeftOut_18 : decode cX9_isLeftOut 18 = .ok (.goto 4, 3) := by decide +kernel
theorem dX9_isLeftOut_21 : decode cX9_isLeftOut 21 = .ok (.iconst 0, 1) := by decide +kernel
theorem dX9_isLeftOut_22 : decode cX9_isLeftOut 22 = .ok (.ireturn, 1) := by decide +kernel
def m_TS_isLeftOut (g : Nat) (x0 : Int32) (x1 : Int32) : Option Int32 :=
if x1 = 0 then (
  if (32 : Int32) < x0 then (
    some (0 : Int32)
  ) else (
    some (1 : Int32)
  )
) else (
  (m_Lt_isBlank g x0).bind fun v_1 =>
  if v_1 = 0 ∨ v_1 = 1 then some v_1 else none
)
section S_TS_isLeftOut
variable {p : Program} {l : Launch} {e : Env} {s : State} {m : MethodId} {args : Array Value} {below : List Frame} {meth : Method} {c : Code} {H : Heap} {locs : List Loc} {ls : Array Slot} {D : va_G} {T : Cy} {ρ : Nat → Nat} {A : Nat → Prop}
set_option maxRecDepth 100000 in
set_option maxHeartbeats 4000000 in
theorem w_TS_isLeftOut_0  {g : Nat} {S : St} {x0 : Int32} {x1 : Int32} (C : CallFix p m c cX9_isLeftOut 2 s args tb RX9) (hr : meth.sig.returnType = (some .boolean)) (hk : meth.locks = false) {r : Int32} (w : Wn Yc D T ρ S A s H locs) (hl : lv_has ls 2 [(0, .int x0), (1, .int x1)]) (h : m_TS_isLeftOut g x0 x1 = some r) : W p l e (rmN 1 20) s m args below meth c H locs 0 0 (MQ below (Qi Yc D T ρ A S r) args s 0 0 A) (F0 m 0 ls []) := by
  unfold m_TS_isLeftOut at h
  refine lv_iload_n C.1 C.2.1 dX9_isLeftOut_0 rfl (lv_at hl 1 rfl) ?_
  refine lv_if_eq (tgt := 11) C.1 C.2.1 dX9_isLeftOut_1 (by decide) (fun hc => ?_) (fun hc => ?_)
  · replace h := ift hc h
    refine lv_iload_n C.1 C.2.1 dX9_isLeftOut_11 rfl (lv_at hl 0 rfl) ?_
    refine lv_bipush (v := 32) C.1 C.2.1 dX9_isLeftOut_12 (by decide) ?_
    refine lv_icmp_gt (tgt := 21) C.1 C.2.1 dX9_isLeftOut_14 (by decide) (fun hc => ?_) (fun hc => ?_)
    · replace h := ift hc h
      refine lv_iconst (v := 0) C.1 C.2.1 dX9_isLeftOut_21 (by decide) ?_
      obtain rfl := som h
      exact x_zret C w hr hk (by decide) dX9_isLeftOut_22
    · replace h := iff0 hc h
      refine lv_iconst (v := 1) C.1 C.2.1 dX9_isLeftOut_17 (by decide) ?_
      refine lv_goto (tgt := 22) C.1 C.2.1 dX9_isLeftOut_18 (by decide) ?_
      obtain rfl := som h
      exact x_zret C w hr hk (by decide) dX9_isLeftOut_22
  · replace h := iff0 hc h
    refine lv_iload_n C.1 C.2.1 dX9_isLeftOut_4 rfl (lv_at hl 0 rfl) ?_
    obtain ⟨v_1, hv_1, h⟩ := bnd h
    refine x_callSi (As := [.int x0]) (rest := []) C w (k_Lt_isBlank l D T ρ g H.size S hv_1) vX9_189 ⟨by decide, by decide⟩ rfl rfl hl.1 (Nat.le_of_ble_eq_true rfl) ⟨Nat.zero_le _, Nat.zero_le _⟩ dX9_isLeftOut_5 (fun H locs w => ?_)
    refine lv_goto (tgt := 22) C.1 C.2.1 dX9_isLeftOut_8 (by decide) ?_
    by_cases hz_2 : v_1 = 0 ∨ v_1 = 1
    case neg => exact absurd (iff0 hz_2 h) (fun q => by cases q)
    replace h := ift hz_2 h
    obtain rfl := som h
    exact x_zret C w hr hk hz_2 dX9_isLeftOut_22
end S_TS_isLeftOut
set_option maxRecDepth 100000 in
theorem k_TS_isLeftOut (l : Launch) (D : va_G) (T : Cy) (ρ : Nat → Nat) (g sz : Nat) (S : St) {x0 : Int32} {x1 : Int32} {r : Int32} (h : m_TS_isLeftOut g x0 x1 = some r) : Mi l Yc D T ρ yX9_isLeftOut cX9_isLeftOut 2 (some .boolean) 1 20 S S r [.int x0, .int x1] sz :=
  x_in (by decide) (Nat.le_of_ble_eq_true rfl) (fun p e s m below meth c ls C hr hk w hl => w_TS_isLeftOut_0 C hr hk w hl h)

theorem dX10_stands_0 : decode cX10_stands 0 = .ok (.iload_n 2, 1) := by decide +kernel
theorem dX10_stands_1 : decode cX10_stands 1 = .ok (.ifCond .lt 53, 3) := by decide +kernel
theorem dX10_stands_4 : decode cX10_stands 4 = .ok (.iload_n 2, 1) := by decide +kernel
theorem dX10_stands_5 : decode cX10_stands 5 = .ok (.aload_n 0, 1) := by decide +kernel
theorem dX10_stands_6 : decode cX10_stands 6 = .ok (.iload_n 3, 1) := by decide +kernel
theorem dX10_stands_7 : decode cX10_stands 7 = .ok (.invokevirtual 90, 3) := by decide +kernel
theorem dX10_stands_10 : decode cX10_stands 10 = .ok (.aload_n 0, 1) := by decide +kernel
theorem dX10_stands_11 : decode cX10_stands 11 = .ok (.iload_n 1, 1) := by decide +kernel
theorem dX10_stands_12 : decode cX10_stands 12 = .ok (.invokevirtual 90, 3) := by decide +kernel
theorem dX10_stands_15 : decode cX10_stands 15 = .ok (.isub, 1) := by decide +kernel
theorem dX10_stands_16 : decode cX10_stands 16 = .ok (.if_icmp .gt 38, 3) := by decide +kernel
theorem dX10_stands_19 : decode cX10_stands 19 = .ok (.aload_n 0, 1) := by decide +kernel
theorem dX10_stands_20 : decode cX10_stands 20 = .ok (.getfield 14, 3) := by decide +kernel
theorem dX10_stands_23 : decode cX10_stands 23 = .ok (.aload_n 0, 1) := by decide +kernel
theorem dX10_stands_24 : decode cX10_stands 24 = .ok (.iload_n 3, 1) := by decide +kernel
theorem dX10_stands_25 : decode cX10_stands 25 = .ok (.invokevirtual 87, 3) := by decide +kernel
theorem dX10_stands_28 : decode cX10_stands 28 = .ok (.iload_n 2, 1) := by decide +kernel
theorem dX10_stands_29 : decode cX10_stands 29 = .ok (.iadd, 1) := by decide +kernel
theorem dX10_stands_30 : decode cX10_stands 30 = .ok (.aload_n 0, 1) := by decide +kernel
theorem dX10_stands_31 : decode cX10_stands 31 = .ok (.getfield 14, 3) := by decide +kernel
theorem dX10_stands_34 : decode cX10_stands 34 = .ok (.aload_n 0, 1) := by decide +kernel
theorem dX10_stands_35 : decode cX10_stands 35 = .ok (.iload_n 1, 1) := by decide +kernel
theorem dX10_stands_36 : decode cX10_stands 36 = .ok (.invokevirtual 87, 3) := by decide +kernel
theorem dX10_stands_39 : decode cX10_stands 39 = .ok (.aload_n 0, 1) := by decide +kernel
theorem dX10_stands_40 : decode cX10_stands 40 = .ok (.iload_n 1, 1) := by decide +kernel
theorem dX10_stands_41 : decode cX10_stands 41 = .ok (.invokevirtual 84, 3) := by decide +kernel
theorem dX10_stands_44 : decode cX10_stands 44 = .ok (.invokevirtual 93, 3) := by decide +kernel
theorem dX10_stands_47 : decode cX10_stands 47 = .ok (.ifCond .eq 7, 3) := by decide +kernel
theorem dX10_stands_50 : decode cX10_stands 50 = .ok (.iconst 1, 1) := by decide +kernel
theorem dX10_stands_51 : decode cX10_stands 51 = .ok (.goto 4, 3) := by decide +kernel
theorem dX10_stands_54 : decode cX10_stands 54 = .ok (.iconst 0, 1) := by decide +kernel
theorem dX10_stands_55 : decode cX10_stands 55 = .ok (.ireturn, 1) := by decide +kernel
def m_Tx_stands (g : Nat) (S : St) (x1 : Int32) (x2 : Int32) (x3 : Int32) : Option Int32 :=
if x2 < 0 then (
  some (0 : Int32)
) else (
  (m_Tx_sizeOf g S x3).bind fun v_1 =>
  (m_Tx_sizeOf g S x1).bind fun v_2 =>
  if (v_1 - v_2) < x2 then (
    some (0 : Int32)
  ) else (
    (m_Tx_startOf g S x3).bind fun v_3 =>
    (m_Tx_startOf g S x1).bind fun v_4 =>
    (m_Tx_endOf g S x1).bind fun v_5 =>
    (m_Row_holds g S 18 (v_3 + x2) 18 v_4 v_5).bind fun v_6 =>
    if v_6 = 0 then (
      some (0 : Int32)
    ) else (
      some (1 : Int32)
    )
  )
)
section S_Tx_stands
variable {p : Program} {l : Launch} {e : Env} {s : State} {m : MethodId} {args : Array Value} {below : List Frame} {meth : Method} {c : Code} {H : Heap} {locs : List Loc} {ls : Array Slot} {D : va_G} {T : Cy} {ρ : Nat → Nat} {A : Nat → Prop}
set_option maxRecDepth 100000 in
set_option maxHeartbeats 4000000 in
theorem w_Tx_stands_0  {g : Nat} {S : St} {x1 : Int32} {x2 : Int32} {x3 : Int32} (C : CallFix p m c cX10_stands 4 s args tb RX10) (hr : meth.sig.returnType = (some .boolean)) (hk : meth.locks = false) {r : Int32} (w : Wn Yc D T ρ S A s H locs) (hl : lv_has ls 4 [(0, .ref (ρ 5)), (1, .int x1), (2, .int x2), (3, .int x3)]) (h : m_Tx_stands g S x1 x2 x3 = some r) : W p l e (rmN 2 42) s m args below meth c H locs 0 0 (MQ below (Qi Yc D T ρ A S r) args s 0 0 A) (F0 m 0 ls []) := by
  unfold m_Tx_stands at h
  refine lv_iload_n C.1 C.2.1 dX10_stands_0 rfl (lv_at hl 2 rfl) ?_
  refine lv_if_lt (tgt := 54) C.1 C.2.1 dX10_stands_1 (by decide) (fun hc => ?_) (fun hc => ?_)
  · replace h := ift hc h
    refine lv_iconst (v := 0) C.1 C.2.1 dX10_stands_54 (by decide) ?_
    obtain rfl := som h
    exact x_zret C w hr hk (by decide) dX10_stands_55
  · replace h := iff0 hc h
    refine lv_iload_n C.1 C.2.1 dX10_stands_4 rfl (lv_at hl 2 rfl) ?_
    refine lv_aload_n C.1 C.2.1 dX10_stands_5 rfl (lv_at hl 0 rfl) ?_
    refine lv_iload_n C.1 C.2.1 dX10_stands_6 rfl (lv_at hl 3 rfl) ?_
    obtain ⟨v_1, hv_1, h⟩ := bnd h
    refine x_callVi (q := (RX10, TX10, 5)) (As := [.int x3]) (rest := [.int x2]) C w (k_Tx_sizeOf l D T ρ g H.size S hv_1) vX10_90 ⟨by decide, by decide⟩ obC5 (by decide) rfl rfl rfl hl.1 (Nat.le_of_ble_eq_true rfl) ⟨Nat.zero_le _, Nat.zero_le _⟩ dX10_stands_7 (fun H locs w => ?_)
    refine lv_aload_n C.1 C.2.1 dX10_stands_10 rfl (lv_at hl 0 rfl) ?_
    refine lv_iload_n C.1 C.2.1 dX10_stands_11 rfl (lv_at hl 1 rfl) ?_
    obtain ⟨v_2, hv_2, h⟩ := bnd h
    refine x_callVi (q := (RX10, TX10, 5)) (As := [.int x1]) (rest := [.int v_1, .int x2]) C w (k_Tx_sizeOf l D T ρ g H.size S hv_2) vX10_90 ⟨by decide, by decide⟩ obC5 (by decide) rfl rfl rfl hl.1 (Nat.le_of_ble_eq_true rfl) ⟨Nat.zero_le _, Nat.zero_le _⟩ dX10_stands_12 (fun H locs w => ?_)
    refine lv_isub C.1 C.2.1 dX10_stands_15 ?_
    refine lv_icmp_gt (tgt := 54) C.1 C.2.1 dX10_stands_16 (by decide) (fun hc => ?_) (fun hc => ?_)
    · replace h := ift hc h
      refine lv_iconst (v := 0) C.1 C.2.1 dX10_stands_54 (by decide) ?_
      obtain rfl := som h
      exact x_zret C w hr hk (by decide) dX10_stands_55
    · replace h := iff0 hc h
      refine lv_aload_n C.1 C.2.1 dX10_stands_19 rfl (lv_at hl 0 rfl) ?_
      refine x_getC C w 18 fX10_14 obC5 rfl dX10_stands_20 ?_
      refine lv_aload_n C.1 C.2.1 dX10_stands_23 rfl (lv_at hl 0 rfl) ?_
      refine lv_iload_n C.1 C.2.1 dX10_stands_24 rfl (lv_at hl 3 rfl) ?_
      obtain ⟨v_3, hv_3, h⟩ := bnd h
      refine x_callVi (q := (RX10, TX10, 5)) (As := [.int x3]) (rest := [.ref (ρ 18)]) C w (k_Tx_startOf l D T ρ g H.size S hv_3) vX10_87 ⟨by decide, by decide⟩ obC5 (by decide) rfl rfl rfl hl.1 (Nat.le_of_ble_eq_true rfl) ⟨Nat.zero_le _, Nat.zero_le _⟩ dX10_stands_25 (fun H locs w => ?_)
      refine lv_iload_n C.1 C.2.1 dX10_stands_28 rfl (lv_at hl 2 rfl) ?_
      refine lv_iadd C.1 C.2.1 dX10_stands_29 ?_
      refine lv_aload_n C.1 C.2.1 dX10_stands_30 rfl (lv_at hl 0 rfl) ?_
      refine x_getC C w 18 fX10_14 obC5 rfl dX10_stands_31 ?_
      refine lv_aload_n C.1 C.2.1 dX10_stands_34 rfl (lv_at hl 0 rfl) ?_
      refine lv_iload_n C.1 C.2.1 dX10_stands_35 rfl (lv_at hl 1 rfl) ?_
      obtain ⟨v_4, hv_4, h⟩ := bnd h
      refine x_callVi (q := (RX10, TX10, 5)) (As := [.int x1]) (rest := [.ref (ρ 18), .int (v_3 + x2), .ref (ρ 18)]) C w (k_Tx_startOf l D T ρ g H.size S hv_4) vX10_87 ⟨by decide, by decide⟩ obC5 (by decide) rfl rfl rfl hl.1 (Nat.le_of_ble_eq_true rfl) ⟨Nat.zero_le _, Nat.zero_le _⟩ dX10_stands_36 (fun H locs w => ?_)
      refine lv_aload_n C.1 C.2.1 dX10_stands_39 rfl (lv_at hl 0 rfl) ?_
      refine lv_iload_n C.1 C.2.1 dX10_stands_40 rfl (lv_at hl 1 rfl) ?_
      obtain ⟨v_5, hv_5, h⟩ := bnd h
      refine x_callVi (q := (RX10, TX10, 5)) (As := [.int x1]) (rest := [.int v_4, .ref (ρ 18), .int (v_3 + x2), .ref (ρ 18)]) C w (k_Tx_endOf l D T ρ g H.size S hv_5) vX10_84 ⟨by decide, by decide⟩ obC5 (by decide) rfl rfl rfl hl.1 (Nat.le_of_ble_eq_true rfl) ⟨Nat.zero_le _, Nat.zero_le _⟩ dX10_stands_41 (fun H locs w => ?_)
      obtain ⟨v_6, hv_6, h⟩ := bnd h
      refine x_callVi (q := (RX6, TX6, 4)) (As := [.int (v_3 + x2), .ref (ρ 18), .int v_4, .int v_5]) (rest := []) C w (k_Row_holds l D T ρ g H.size S obC18 obC18 hv_6) vX10_93 ⟨by decide, by decide⟩ obC18 (by decide) rfl rfl rfl hl.1 (Nat.le_of_ble_eq_true rfl) ⟨Nat.zero_le _, Nat.zero_le _⟩ dX10_stands_44 (fun H locs w => ?_)
      refine lv_if_eq (tgt := 54) C.1 C.2.1 dX10_stands_47 (by decide) (fun hc => ?_) (fun hc => ?_)
      · replace h := ift hc h
        refine lv_iconst (v := 0) C.1 C.2.1 dX10_stands_54 (by decide) ?_
        obtain rfl := som h
        exact x_zret C w hr hk (by decide) dX10_stands_55
      · replace h := iff0 hc h
        refine lv_iconst (v := 1) C.1 C.2.1 dX10_stands_50 (by decide) ?_
        refine lv_goto (tgt := 55) C.1 C.2.1 dX10_stands_51 (by decide) ?_
        obtain rfl := som h
        exact x_zret C w hr hk (by decide) dX10_stands_55
end S_Tx_stands
set_option maxRecDepth 100000 in
theorem k_Tx_stands (l : Launch) (D : va_G) (T : Cy) (ρ : Nat → Nat) (g sz : Nat) (S : St) {x1 : Int32} {x2 : Int32} {x3 : Int32} {r : Int32} (h : m_Tx_stands g S x1 x2 x3 = some r) : Mi l Yc D T ρ yX10_stands cX10_stands 4 (some .boolean) 2 42 S S r [.ref (ρ 5), .int x1, .int x2, .int x3] sz :=
  x_in (by decide) (Nat.le_of_ble_eq_true rfl) (fun p e s m below meth c ls C hr hk w hl => w_Tx_stands_0 C hr hk w hl h)

theorem dX10_unitOf_0 : decode cX10_unitOf 0 = .ok (.iload_n 2, 1) := by decide +kernel
theorem dX10_unitOf_1 : decode cX10_unitOf 1 = .ok (.ifCond .lt 12, 3) := by decide +kernel
theorem dX10_unitOf_4 : decode cX10_unitOf 4 = .ok (.iload_n 2, 1) := by decide +kernel
theorem dX10_unitOf_5 : decode cX10_unitOf 5 = .ok (.aload_n 0, 1) := by decide +kernel
theorem dX10_unitOf_6 : decode cX10_unitOf 6 = .ok (.iload_n 1, 1) := by decide +kernel
theorem dX10_unitOf_7 : decode cX10_unitOf 7 = .ok (.invokevirtual 90, 3) := by decide +kernel
theorem dX10_unitOf_10 : decode cX10_unitOf 10 = .ok (.if_icmp .lt 7, 3) := by decide +kernel
theorem dX10_unitOf_13 : decode cX10_unitOf 13 = .ok (.iconst (-1), 1) := by decide +kernel
theorem dX10_unitOf_14 : decode cX10_unitOf 14 = .ok (.goto 17, 3) := by decide +kernel
theorem dX10_unitOf_17 : decode cX10_unitOf 17 = .ok (.aload_n 0, 1) := by decide +kernel
theorem dX10_unitOf_18 : decode cX10_unitOf 18 = .ok (.getfield 14, 3) := by decide +kernel
theorem dX10_unitOf_21 : decode cX10_unitOf 21 = .ok (.aload_n 0, 1) := by decide +kernel
theorem dX10_unitOf_22 : decode cX10_unitOf 22 = .ok (.iload_n 1, 1) := by decide +kernel
theorem dX10_unitOf_23 : decode cX10_unitOf 23 = .ok (.invokevirtual 87, 3) := by decide +kernel
theorem dX10_unitOf_26 : decode cX10_unitOf 26 = .ok (.iload_n 2, 1) := by decide +kernel
theorem dX10_unitOf_27 : decode cX10_unitOf 27 = .ok (.iadd, 1) := by decide +kernel
theorem dX10_unitOf_28 : decode cX10_unitOf 28 = .ok (.invokevirtual 51, 3) := by decide +kernel
theorem dX10_unitOf_31 : decode cX10_unitOf 31 = .ok (.ireturn, 1) := by decide +kernel
def m_Tx_unitOf (g : Nat) (S : St) (x1 : Int32) (x2 : Int32) : Option Int32 :=
if x2 < 0 then (
  some (-1 : Int32)
) else (
  (m_Tx_sizeOf g S x1).bind fun v_1 =>
  if x2 < v_1 then (
    (m_Tx_startOf g S x1).bind fun v_2 =>
    (m_Row_at g S 18 (v_2 + x2)).bind fun v_3 =>
    some v_3
  ) else (
    some (-1 : Int32)
  )
)
section S_Tx_unitOf
variable {p : Program} {l : Launch} {e : Env} {s : State} {m : MethodId} {args : Array Value} {below : List Frame} {meth : Method} {c : Code} {H : Heap} {locs : List Loc} {ls : Array Slot} {D : va_G} {T : Cy} {ρ : Nat → Nat} {A : Nat → Prop}
set_option maxRecDepth 100000 in
set_option maxHeartbeats 4000000 in
theorem w_Tx_unitOf_0  {g : Nat} {S : St} {x1 : Int32} {x2 : Int32} (C : CallFix p m c cX10_unitOf 3 s args tb RX10) (hr : meth.sig.returnType = (some .int)) (hk : meth.locks = false) {r : Int32} (w : Wn Yc D T ρ S A s H locs) (hl : lv_has ls 3 [(0, .ref (ρ 5)), (1, .int x1), (2, .int x2)]) (h : m_Tx_unitOf g S x1 x2 = some r) : W p l e (rmN 2 42) s m args below meth c H locs 0 0 (MQ below (Qi Yc D T ρ A S r) args s 0 0 A) (F0 m 0 ls []) := by
  unfold m_Tx_unitOf at h
  refine lv_iload_n C.1 C.2.1 dX10_unitOf_0 rfl (lv_at hl 2 rfl) ?_
  refine lv_if_lt (tgt := 13) C.1 C.2.1 dX10_unitOf_1 (by decide) (fun hc => ?_) (fun hc => ?_)
  · replace h := ift hc h
    refine lv_iconst (v := (-1)) C.1 C.2.1 dX10_unitOf_13 (by decide) ?_
    refine lv_goto (tgt := 31) C.1 C.2.1 dX10_unitOf_14 (by decide) ?_
    obtain rfl := som h
    exact x_iret C w hr hk dX10_unitOf_31
  · replace h := iff0 hc h
    refine lv_iload_n C.1 C.2.1 dX10_unitOf_4 rfl (lv_at hl 2 rfl) ?_
    refine lv_aload_n C.1 C.2.1 dX10_unitOf_5 rfl (lv_at hl 0 rfl) ?_
    refine lv_iload_n C.1 C.2.1 dX10_unitOf_6 rfl (lv_at hl 1 rfl) ?_
    obtain ⟨v_1, hv_1, h⟩ := bnd h
    refine x_callVi (q := (RX10, TX10, 5)) (As := [.int x1]) (rest := [.int x2]) C w (k_Tx_sizeOf l D T ρ g H.size S hv_1) vX10_90 ⟨by decide, by decide⟩ obC5 (by decide) rfl rfl rfl hl.1 (Nat.le_of_ble_eq_true rfl) ⟨Nat.zero_le _, Nat.zero_le _⟩ dX10_unitOf_7 (fun H locs w => ?_)
    refine lv_icmp_lt (tgt := 17) C.1 C.2.1 dX10_unitOf_10 (by decide) (fun hc => ?_) (fun hc => ?_)
    · replace h := ift hc h
      refine lv_aload_n C.1 C.2.1 dX10_unitOf_17 rfl (lv_at hl 0 rfl) ?_
      refine x_getC C w 18 fX10_14 obC5 rfl dX10_unitOf_18 ?_
      refine lv_aload_n C.1 C.2.1 dX10_unitOf_21 rfl (lv_at hl 0 rfl) ?_
      refine lv_iload_n C.1 C.2.1 dX10_unitOf_22 rfl (lv_at hl 1 rfl) ?_
      obtain ⟨v_2, hv_2, h⟩ := bnd h
      refine x_callVi (q := (RX10, TX10, 5)) (As := [.int x1]) (rest := [.ref (ρ 18)]) C w (k_Tx_startOf l D T ρ g H.size S hv_2) vX10_87 ⟨by decide, by decide⟩ obC5 (by decide) rfl rfl rfl hl.1 (Nat.le_of_ble_eq_true rfl) ⟨Nat.zero_le _, Nat.zero_le _⟩ dX10_unitOf_23 (fun H locs w => ?_)
      refine lv_iload_n C.1 C.2.1 dX10_unitOf_26 rfl (lv_at hl 2 rfl) ?_
      refine lv_iadd C.1 C.2.1 dX10_unitOf_27 ?_
      obtain ⟨v_3, hv_3, h⟩ := bnd h
      refine x_callVi (q := (RX6, TX6, 4)) (As := [.int (v_2 + x2)]) (rest := []) C w (k_Row_at l D T ρ g H.size S obC18 hv_3) vX10_51 ⟨by decide, by decide⟩ obC18 (by decide) rfl rfl rfl hl.1 (Nat.le_of_ble_eq_true rfl) ⟨Nat.zero_le _, Nat.zero_le _⟩ dX10_unitOf_28 (fun H locs w => ?_)
      obtain rfl := som h
      exact x_iret C w hr hk dX10_unitOf_31
    · replace h := iff0 hc h
      refine lv_iconst (v := (-1)) C.1 C.2.1 dX10_unitOf_13 (by decide) ?_
      refine lv_goto (tgt := 31) C.1 C.2.1 dX10_unitOf_14 (by decide) ?_
      obtain rfl := som h
      exact x_iret C w hr hk dX10_unitOf_31
end S_Tx_unitOf
set_option maxRecDepth 100000 in
theorem k_Tx_unitOf (l : Launch) (D : va_G) (T : Cy) (ρ : Nat → Nat) (g sz : Nat) (S : St) {x1 : Int32} {x2 : Int32} {r : Int32} (h : m_Tx_unitOf g S x1 x2 = some r) : Mi l Yc D T ρ yX10_unitOf cX10_unitOf 3 (some .int) 2 42 S S r [.ref (ρ 5), .int x1, .int x2] sz :=
  x_in (by decide) (Nat.le_of_ble_eq_true rfl) (fun p e s m below meth c ls C hr hk w hl => w_Tx_unitOf_0 C hr hk w hl h)

theorem dX9_dropEmptyCuts_0 : decode cX9_dropEmptyCuts 0 = .ok (.aload_n 0, 1) := by decide +kernel
theorem dX9_dropEmptyCuts_1 : decode cX9_dropEmptyCuts 1 = .ok (.getfield 14, 3) := by decide +kernel
theorem dX9_dropEmptyCuts_4 : decode cX9_dropEmptyCuts 4 = .ok (.getfield 105, 3) := by decide +kernel
theorem dX9_dropEmptyCuts_7 : decode cX9_dropEmptyCuts 7 = .ok (.istore_n 1, 1) := by decide +kernel
theorem dX9_dropEmptyCuts_8 : decode cX9_dropEmptyCuts 8 = .ok (.iload_n 1, 1) := by decide +kernel
theorem dX9_dropEmptyCuts_9 : decode cX9_dropEmptyCuts 9 = .ok (.ifCond .le 32, 3) := by decide +kernel
theorem dX9_dropEmptyCuts_12 : decode cX9_dropEmptyCuts 12 = .ok (.aload_n 0, 1) := by decide +kernel
theorem dX9_dropEmptyCuts_13 : decode cX9_dropEmptyCuts 13 = .ok (.getfield 14, 3) := by decide +kernel
theorem dX9_dropEmptyCuts_16 : decode cX9_dropEmptyCuts 16 = .ok (.iload_n 1, 1) := by decide +kernel
theorem dX9_dropEmptyCuts_17 : decode cX9_dropEmptyCuts 17 = .ok (.iconst 1, 1) := by decide +kernel
theorem dX9_dropEmptyCuts_18 : decode cX9_dropEmptyCuts 18 = .ok (.isub, 1) := by decide +kernel
theorem dX9_dropEmptyCuts_19 : decode cX9_dropEmptyCuts 19 = .ok (.invokevirtual 182, 3) := by decide +kernel
theorem dX9_dropEmptyCuts_22 : decode cX9_dropEmptyCuts 22 = .ok (.aload_n 0, 1) := by decide +kernel
theorem dX9_dropEmptyCuts_23 : decode cX9_dropEmptyCuts 23 = .ok (.getfield 20, 3) := by decide +kernel
theorem dX9_dropEmptyCuts_26 : decode cX9_dropEmptyCuts 26 = .ok (.iload_n 1, 1) := by decide +kernel
theorem dX9_dropEmptyCuts_27 : decode cX9_dropEmptyCuts 27 = .ok (.iconst 1, 1) := by decide +kernel
theorem dX9_dropEmptyCuts_28 : decode cX9_dropEmptyCuts 28 = .ok (.isub, 1) := by decide +kernel
theorem dX9_dropEmptyCuts_29 : decode cX9_dropEmptyCuts 29 = .ok (.invokevirtual 182, 3) := by decide +kernel
theorem dX9_dropEmptyCuts_32 : decode cX9_dropEmptyCuts 32 = .ok (.if_icmp .ne 9, 3) := by decide +kernel
theorem dX9_dropEmptyCuts_35 : decode cX9_dropEmptyCuts 35 = .ok (.iinc 1 (-1), 3) := by decide +kernel
theorem dX9_dropEmptyCuts_38 : decode cX9_dropEmptyCuts 38 = .ok (.goto (-30), 3) := by decide +kernel
theorem dX9_dropEmptyCuts_41 : decode cX9_dropEmptyCuts 41 = .ok (.aload_n 0, 1) := by decide +kernel
theorem dX9_dropEmptyCuts_42 : decode cX9_dropEmptyCuts 42 = .ok (.getfield 14, 3) := by decide +kernel
theorem dX9_dropEmptyCuts_45 : decode cX9_dropEmptyCuts 45 = .ok (.iload_n 1, 1) := by decide +kernel
theorem dX9_dropEmptyCuts_46 : decode cX9_dropEmptyCuts 46 = .ok (.invokevirtual 236, 3) := by decide +kernel
theorem dX9_dropEmptyCuts_49 : decode cX9_dropEmptyCuts 49 = .ok (.aload_n 0, 1) := by decide +kernel
theorem dX9_dropEmptyCuts_50 : decode cX9_dropEmptyCuts 50 = .ok (.getfield 20, 3) := by decide +kernel
theorem dX9_dropEmptyCuts_53 : decode cX9_dropEmptyCuts 53 = .ok (.iload_n 1, 1) := by decide +kernel
theorem dX9_dropEmptyCuts_54 : decode cX9_dropEmptyCuts 54 = .ok (.invokevirtual 236, 3) := by decide +kernel
theorem dX9_dropEmptyCuts_57 : decode cX9_dropEmptyCuts 57 = .ok (.return_, 1) := by decide +kernel
def m_TS_dropEmptyCuts_41 (g : Nat) (S : St) (x1 : Int32) : Option St :=
(m_Row_shorten g S 30 x1).bind fun S_2 =>
(m_Row_shorten g S_2 31 x1).bind fun S_3 =>
some S_3
def b_TS_dropEmptyCuts_8 (g : Nat) (k8 : St → Int32 → Option St) (S : St) (x1 : Int32) : Option St :=
if x1 ≤ 0 then (
  m_TS_dropEmptyCuts_41 g S x1
) else (
  (m_Row_at g S 30 (x1 - (1 : Int32))).bind fun v_2 =>
  (m_Row_at g S 31 (x1 - (1 : Int32))).bind fun v_3 =>
  if v_2 = v_3 then (
    lt (x1 + (-1 : Int32)) fun x1_4 =>
    k8 S x1_4
  ) else (
    m_TS_dropEmptyCuts_41 g S x1
  )
)
def m_TS_dropEmptyCuts_8 (g : Nat) : Nat → St → Int32 → Option St
  | 0, _, _ => none
  | n + 1, S, x1 => b_TS_dropEmptyCuts_8 g (m_TS_dropEmptyCuts_8 g n) S x1
def m_TS_dropEmptyCuts (g : Nat) (S : St) : Option St :=
lt (gI S 30 2) fun x1_1 =>
m_TS_dropEmptyCuts_8 g g S x1_1
section S_TS_dropEmptyCuts
variable {p : Program} {l : Launch} {e : Env} {s : State} {m : MethodId} {args : Array Value} {below : List Frame} {meth : Method} {c : Code} {H : Heap} {locs : List Loc} {ls : Array Slot} {D : va_G} {T : Cy} {ρ : Nat → Nat} {A : Nat → Prop}
set_option maxRecDepth 100000 in
set_option maxHeartbeats 4000000 in
theorem w_TS_dropEmptyCuts_41  {g : Nat} {S : St} {x1 : Int32} (C : CallFix p m c cX9_dropEmptyCuts 2 s args tb RX9) (hr : meth.sig.returnType = none) (hk : meth.locks = false) {S' : St} (w : Wn Yc D T ρ S A s H locs) (hl : lv_has ls 2 [(0, .ref (ρ 7)), (1, .int x1)]) (h : m_TS_dropEmptyCuts_41 g S x1 = some S') : W p l e (rmN 1 21) s m args below meth c H locs 0 0 (MQ below (Qv Yc D T ρ A S') args s 0 0 A) (F0 m 41 ls []) := by
  unfold m_TS_dropEmptyCuts_41 at h
  refine lv_aload_n C.1 C.2.1 dX9_dropEmptyCuts_41 rfl (lv_at hl 0 rfl) ?_
  refine x_getC C w 30 fX9_14 obC7 rfl dX9_dropEmptyCuts_42 ?_
  refine lv_iload_n C.1 C.2.1 dX9_dropEmptyCuts_45 rfl (lv_at hl 1 rfl) ?_
  obtain ⟨S_2, hS_2, h⟩ := bnd h
  refine x_callVv (q := (RX6, TX6, 4)) (As := [.int x1]) (rest := []) C w (k_Row_shorten l D T ρ g H.size S obC30 hS_2) vX9_236 ⟨by decide, by decide⟩ obC30 (by decide) rfl rfl rfl hl.1 (Nat.le_of_ble_eq_true rfl) ⟨Nat.zero_le _, Nat.zero_le _⟩ dX9_dropEmptyCuts_46 (fun H locs w => ?_)
  refine lv_aload_n C.1 C.2.1 dX9_dropEmptyCuts_49 rfl (lv_at hl 0 rfl) ?_
  refine x_getC C w 31 fX9_20 obC7 rfl dX9_dropEmptyCuts_50 ?_
  refine lv_iload_n C.1 C.2.1 dX9_dropEmptyCuts_53 rfl (lv_at hl 1 rfl) ?_
  obtain ⟨S_3, hS_3, h⟩ := bnd h
  refine x_callVv (q := (RX6, TX6, 4)) (As := [.int x1]) (rest := []) C w (k_Row_shorten l D T ρ g H.size S_2 obC31 hS_3) vX9_236 ⟨by decide, by decide⟩ obC31 (by decide) rfl rfl rfl hl.1 (Nat.le_of_ble_eq_true rfl) ⟨Nat.zero_le _, Nat.zero_le _⟩ dX9_dropEmptyCuts_54 (fun H locs w => ?_)
  obtain rfl := som h
  exact x_vret C w hr hk dX9_dropEmptyCuts_57
set_option maxRecDepth 100000 in
set_option maxHeartbeats 4000000 in
theorem wb_TS_dropEmptyCuts_8  {g : Nat} {S : St} {x1 : Int32} (C : CallFix p m c cX9_dropEmptyCuts 2 s args tb RX9) (hr : meth.sig.returnType = none) (hk : meth.locks = false) {S' : St} {k8 : St → Int32 → Option St} (kk8 : ∀ (S : St) (x1 : Int32) (H : Heap) (locs : List Loc) (ls : Array Slot), Wn Yc D T ρ S A s H locs → lv_has ls 2 [(0, .ref (ρ 7)), (1, .int x1)] → k8 S x1 = some S' → W p l e (rmN 1 21) s m args below meth c H locs 0 0 (MQ below (Qv Yc D T ρ A S') args s 0 0 A) (F0 m 8 ls [])) (w : Wn Yc D T ρ S A s H locs) (hl : lv_has ls 2 [(0, .ref (ρ 7)), (1, .int x1)]) (h : b_TS_dropEmptyCuts_8 g k8 S x1 = some S') : W p l e (rmN 1 21) s m args below meth c H locs 0 0 (MQ below (Qv Yc D T ρ A S') args s 0 0 A) (F0 m 8 ls []) := by
  unfold b_TS_dropEmptyCuts_8 at h
  refine lv_iload_n C.1 C.2.1 dX9_dropEmptyCuts_8 rfl (lv_at hl 1 rfl) ?_
  refine lv_if_le (tgt := 41) C.1 C.2.1 dX9_dropEmptyCuts_9 (by decide) (fun hc => ?_) (fun hc => ?_)
  · replace h := ift hc h
    exact w_TS_dropEmptyCuts_41 C hr hk w (lv_sub hl [0, 1] rfl) h
  · replace h := iff0 hc h
    refine lv_aload_n C.1 C.2.1 dX9_dropEmptyCuts_12 rfl (lv_at hl 0 rfl) ?_
    refine x_getC C w 30 fX9_14 obC7 rfl dX9_dropEmptyCuts_13 ?_
    refine lv_iload_n C.1 C.2.1 dX9_dropEmptyCuts_16 rfl (lv_at hl 1 rfl) ?_
    refine lv_iconst (v := 1) C.1 C.2.1 dX9_dropEmptyCuts_17 (by decide) ?_
    refine lv_isub C.1 C.2.1 dX9_dropEmptyCuts_18 ?_
    obtain ⟨v_2, hv_2, h⟩ := bnd h
    refine x_callVi (q := (RX6, TX6, 4)) (As := [.int (x1 - (1 : Int32))]) (rest := []) C w (k_Row_at l D T ρ g H.size S obC30 hv_2) vX9_182 ⟨by decide, by decide⟩ obC30 (by decide) rfl rfl rfl hl.1 (Nat.le_of_ble_eq_true rfl) ⟨Nat.zero_le _, Nat.zero_le _⟩ dX9_dropEmptyCuts_19 (fun H locs w => ?_)
    refine lv_aload_n C.1 C.2.1 dX9_dropEmptyCuts_22 rfl (lv_at hl 0 rfl) ?_
    refine x_getC C w 31 fX9_20 obC7 rfl dX9_dropEmptyCuts_23 ?_
    refine lv_iload_n C.1 C.2.1 dX9_dropEmptyCuts_26 rfl (lv_at hl 1 rfl) ?_
    refine lv_iconst (v := 1) C.1 C.2.1 dX9_dropEmptyCuts_27 (by decide) ?_
    refine lv_isub C.1 C.2.1 dX9_dropEmptyCuts_28 ?_
    obtain ⟨v_3, hv_3, h⟩ := bnd h
    refine x_callVi (q := (RX6, TX6, 4)) (As := [.int (x1 - (1 : Int32))]) (rest := [.int v_2]) C w (k_Row_at l D T ρ g H.size S obC31 hv_3) vX9_182 ⟨by decide, by decide⟩ obC31 (by decide) rfl rfl rfl hl.1 (Nat.le_of_ble_eq_true rfl) ⟨Nat.zero_le _, Nat.zero_le _⟩ dX9_dropEmptyCuts_29 (fun H locs w => ?_)
    refine lv_icmp_ne (tgt := 41) C.1 C.2.1 dX9_dropEmptyCuts_32 (by decide) (fun hc => ?_) (fun hc => ?_)
    · replace h := iff0 hc h
      exact w_TS_dropEmptyCuts_41 C hr hk w (lv_sub hl [0, 1] rfl) h
    · replace h := ift hc h
      obtain ⟨x1_4, ex1_4, h⟩ := lt_e h
      refine lv_iinc (v := x1_4) (lv' := [(1, .int x1_4), (0, .ref (ρ 7))]) C.1 C.2.1 dX9_dropEmptyCuts_35 hl (k := 1) rfl (by rw [ex1_4]; rfl) (by decide) rfl (fun ls hl => ?_)
      refine lv_goto (tgt := 8) C.1 C.2.1 dX9_dropEmptyCuts_38 (by decide) ?_
      exact kk8 _ _ _ _ _ w (lv_sub hl [1, 0] rfl) h
theorem w_TS_dropEmptyCuts_8 {g : Nat} (C : CallFix p m c cX9_dropEmptyCuts 2 s args tb RX9) (hr : meth.sig.returnType = none) (hk : meth.locks = false) {S' : St} (n : Nat) : ∀ (S : St) (x1 : Int32) (H : Heap) (locs : List Loc) (ls : Array Slot), Wn Yc D T ρ S A s H locs → lv_has ls 2 [(0, .ref (ρ 7)), (1, .int x1)] → m_TS_dropEmptyCuts_8 g n S x1 = some S' → W p l e (rmN 1 21) s m args below meth c H locs 0 0 (MQ below (Qv Yc D T ρ A S') args s 0 0 A) (F0 m 8 ls []) := by
  induction n with
  | zero => intro S x1 H locs ls w hl h; exact absurd h (fun q => by cases q)
  | succ n ih => intro S x1 H locs ls w hl h; exact wb_TS_dropEmptyCuts_8 C hr hk ih w hl h
set_option maxRecDepth 100000 in
set_option maxHeartbeats 4000000 in
theorem w_TS_dropEmptyCuts_0  {g : Nat} {S : St} (C : CallFix p m c cX9_dropEmptyCuts 2 s args tb RX9) (hr : meth.sig.returnType = none) (hk : meth.locks = false) {S' : St} (w : Wn Yc D T ρ S A s H locs) (hl : lv_has ls 2 [(0, .ref (ρ 7))]) (h : m_TS_dropEmptyCuts g S = some S') : W p l e (rmN 1 21) s m args below meth c H locs 0 0 (MQ below (Qv Yc D T ρ A S') args s 0 0 A) (F0 m 0 ls []) := by
  unfold m_TS_dropEmptyCuts at h
  refine lv_aload_n C.1 C.2.1 dX9_dropEmptyCuts_0 rfl (lv_at hl 0 rfl) ?_
  refine x_getC C w 30 fX9_14 obC7 rfl dX9_dropEmptyCuts_1 ?_
  refine x_getI C w fX9_105 obC30 dX9_dropEmptyCuts_4 ?_
  obtain ⟨x1_1, ex1_1, h⟩ := lt_e h
  refine x_nm ex1_1 ?_
  refine lv_istore_n (lv' := [(1, .int x1_1), (0, .ref (ρ 7))]) C.1 C.2.1 dX9_dropEmptyCuts_7 rfl hl (by decide) rfl (fun ls hl => ?_)
  exact w_TS_dropEmptyCuts_8 C hr hk g _ _ _ _ _ w (lv_sub hl [1, 0] rfl) h
end S_TS_dropEmptyCuts
set_option maxRecDepth 100000 in
theorem k_TS_dropEmptyCuts (l : Launch) (D : va_G) (T : Cy) (ρ : Nat → Nat) (g sz : Nat) (S : St) {S' : St} (h : m_TS_dropEmptyCuts g S = some S') : Mv l Yc D T ρ yX9_dropEmptyCuts cX9_dropEmptyCuts 2 none 1 21 S S' [.ref (ρ 7)] sz :=
  x_in (by decide) (Nat.le_of_ble_eq_true rfl) (fun p e s m below meth c ls C hr hk w hl => w_TS_dropEmptyCuts_0 C hr hk w hl h)

theorem dX9_piece_0 : decode cX9_piece 0 = .ok (.aload_n 0, 1) := by decide +kernel
theorem dX9_piece_1 : decode cX9_piece 1 = .ok (.getfield 23, 3) := by decide +kernel
theorem dX9_piece_4 : decode cX9_piece 4 = .ok (.iconst 1, 1) := by decide +kernel
theorem dX9_piece_5 : decode cX9_piece 5 = .ok (.aload_n 0, 1) := by decide +kernel
theorem dX9_piece_6 : decode cX9_piece 6 = .ok (.getfield 41, 3) := by decide +kernel
theorem dX9_piece_9 : decode cX9_piece 9 = .ok (.getfield 105, 3) := by decide +kernel
theorem dX9_piece_12 : decode cX9_piece 12 = .ok (.invokevirtual 174, 3) := by decide +kernel
theorem dX9_piece_15 : decode cX9_piece 15 = .ok (.istore_n 1, 1) := by decide +kernel
theorem dX9_piece_16 : decode cX9_piece 16 = .ok (.iload_n 1, 1) := by decide +kernel
theorem dX9_piece_17 : decode cX9_piece 17 = .ok (.ifCond .lt 14, 3) := by decide +kernel
theorem dX9_piece_20 : decode cX9_piece 20 = .ok (.iload_n 1, 1) := by decide +kernel
theorem dX9_piece_21 : decode cX9_piece 21 = .ok (.aload_n 0, 1) := by decide +kernel
theorem dX9_piece_22 : decode cX9_piece 22 = .ok (.getfield 41, 3) := by decide +kernel
theorem dX9_piece_25 : decode cX9_piece 25 = .ok (.getfield 105, 3) := by decide +kernel
theorem dX9_piece_28 : decode cX9_piece 28 = .ok (.if_icmp .lt 7, 3) := by decide +kernel
theorem dX9_piece_31 : decode cX9_piece 31 = .ok (.iconst 1, 1) := by decide +kernel
theorem dX9_piece_32 : decode cX9_piece 32 = .ok (.goto 18, 3) := by decide +kernel
theorem dX9_piece_35 : decode cX9_piece 35 = .ok (.aload_n 0, 1) := by decide +kernel
theorem dX9_piece_36 : decode cX9_piece 36 = .ok (.getfield 23, 3) := by decide +kernel
theorem dX9_piece_39 : decode cX9_piece 39 = .ok (.aload_n 0, 1) := by decide +kernel
theorem dX9_piece_40 : decode cX9_piece 40 = .ok (.getfield 41, 3) := by decide +kernel
theorem dX9_piece_43 : decode cX9_piece 43 = .ok (.iload_n 1, 1) := by decide +kernel
theorem dX9_piece_44 : decode cX9_piece 44 = .ok (.invokevirtual 182, 3) := by decide +kernel
theorem dX9_piece_47 : decode cX9_piece 47 = .ok (.invokevirtual 61, 3) := by decide +kernel
theorem dX9_piece_50 : decode cX9_piece 50 = .ok (.ireturn, 1) := by decide +kernel
def m_TS_piece (g : Nat) (S : St) : Option (St × Int32) :=
(m_Bn_placeAt g S (1 : Int32) (gI S 22 2)).bind fun v_1 =>
if v_1 < 0 then (
  some (S, (1 : Int32))
) else (
  if v_1 < (gI S 22 2) then (
    (m_Row_at g S 22 v_1).bind fun v_2 =>
    (m_Bn_giveText g S v_2).bind fun (S_3, v_4) =>
    some (S_3, v_4)
  ) else (
    some (S, (1 : Int32))
  )
)
section S_TS_piece
variable {p : Program} {l : Launch} {e : Env} {s : State} {m : MethodId} {args : Array Value} {below : List Frame} {meth : Method} {c : Code} {H : Heap} {locs : List Loc} {ls : Array Slot} {D : va_G} {T : Cy} {ρ : Nat → Nat} {A : Nat → Prop}
set_option maxRecDepth 100000 in
set_option maxHeartbeats 4000000 in
theorem w_TS_piece_0  {g : Nat} {S : St} (C : CallFix p m c cX9_piece 2 s args tb RX9) (hr : meth.sig.returnType = (some .int)) (hk : meth.locks = false) {S' : St} {r : Int32} (w : Wn Yc D T ρ S A s H locs) (hl : lv_has ls 2 [(0, .ref (ρ 7))]) (h : m_TS_piece g S = some (S', r)) : W p l e (rmN 3 66) s m args below meth c H locs 0 0 (MQ below (Qi Yc D T ρ A S' r) args s 0 0 A) (F0 m 0 ls []) := by
  unfold m_TS_piece at h
  refine lv_aload_n C.1 C.2.1 dX9_piece_0 rfl (lv_at hl 0 rfl) ?_
  refine x_getC C w 4 fX9_23 obC7 rfl dX9_piece_1 ?_
  refine lv_iconst (v := 1) C.1 C.2.1 dX9_piece_4 (by decide) ?_
  refine lv_aload_n C.1 C.2.1 dX9_piece_5 rfl (lv_at hl 0 rfl) ?_
  refine x_getC C w 22 fX9_41 obC7 rfl dX9_piece_6 ?_
  refine x_getI C w fX9_105 obC22 dX9_piece_9 ?_
  obtain ⟨v_1, hv_1, h⟩ := bnd h
  refine x_callVi (q := (RX1, TX1, 12)) (As := [.int (1 : Int32), .int (gI S 22 2)]) (rest := []) C w (k_Bn_placeAt l D T ρ g H.size S hv_1) vX9_174 ⟨by decide, by decide⟩ obC4 (by decide) rfl rfl rfl hl.1 (Nat.le_of_ble_eq_true rfl) ⟨Nat.zero_le _, Nat.zero_le _⟩ dX9_piece_12 (fun H locs w => ?_)
  refine lv_istore_n (lv' := [(1, .int v_1), (0, .ref (ρ 7))]) C.1 C.2.1 dX9_piece_15 rfl hl (by decide) rfl (fun ls hl => ?_)
  refine lv_iload_n C.1 C.2.1 dX9_piece_16 rfl (lv_at hl 0 rfl) ?_
  refine lv_if_lt (tgt := 31) C.1 C.2.1 dX9_piece_17 (by decide) (fun hc => ?_) (fun hc => ?_)
  · replace h := ift hc h
    refine lv_iconst (v := 1) C.1 C.2.1 dX9_piece_31 (by decide) ?_
    refine lv_goto (tgt := 50) C.1 C.2.1 dX9_piece_32 (by decide) ?_
    obtain ⟨rfl, rfl⟩ := prI h
    exact x_iret C w hr hk dX9_piece_50
  · replace h := iff0 hc h
    refine lv_iload_n C.1 C.2.1 dX9_piece_20 rfl (lv_at hl 0 rfl) ?_
    refine lv_aload_n C.1 C.2.1 dX9_piece_21 rfl (lv_at hl 1 rfl) ?_
    refine x_getC C w 22 fX9_41 obC7 rfl dX9_piece_22 ?_
    refine x_getI C w fX9_105 obC22 dX9_piece_25 ?_
    refine lv_icmp_lt (tgt := 35) C.1 C.2.1 dX9_piece_28 (by decide) (fun hc => ?_) (fun hc => ?_)
    · replace h := ift hc h
      refine lv_aload_n C.1 C.2.1 dX9_piece_35 rfl (lv_at hl 1 rfl) ?_
      refine x_getC C w 4 fX9_23 obC7 rfl dX9_piece_36 ?_
      refine lv_aload_n C.1 C.2.1 dX9_piece_39 rfl (lv_at hl 1 rfl) ?_
      refine x_getC C w 22 fX9_41 obC7 rfl dX9_piece_40 ?_
      refine lv_iload_n C.1 C.2.1 dX9_piece_43 rfl (lv_at hl 0 rfl) ?_
      obtain ⟨v_2, hv_2, h⟩ := bnd h
      refine x_callVi (q := (RX6, TX6, 4)) (As := [.int v_1]) (rest := [.ref (ρ 4)]) C w (k_Row_at l D T ρ g H.size S obC22 hv_2) vX9_182 ⟨by decide, by decide⟩ obC22 (by decide) rfl rfl rfl hl.1 (Nat.le_of_ble_eq_true rfl) ⟨Nat.zero_le _, Nat.zero_le _⟩ dX9_piece_44 (fun H locs w => ?_)
      obtain ⟨⟨S_3, v_4⟩, hv_4, h⟩ := bnd h
      refine x_callVi (q := (RX1, TX1, 12)) (As := [.int v_2]) (rest := []) C w (k_Bn_giveText l D T ρ g H.size S hv_4) vX9_61 ⟨by decide, by decide⟩ obC4 (by decide) rfl rfl rfl hl.1 (Nat.le_of_ble_eq_true rfl) ⟨Nat.zero_le _, Nat.zero_le _⟩ dX9_piece_47 (fun H locs w => ?_)
      obtain ⟨rfl, rfl⟩ := prI h
      exact x_iret C w hr hk dX9_piece_50
    · replace h := iff0 hc h
      refine lv_iconst (v := 1) C.1 C.2.1 dX9_piece_31 (by decide) ?_
      refine lv_goto (tgt := 50) C.1 C.2.1 dX9_piece_32 (by decide) ?_
      obtain ⟨rfl, rfl⟩ := prI h
      exact x_iret C w hr hk dX9_piece_50
end S_TS_piece
set_option maxRecDepth 100000 in
theorem k_TS_piece (l : Launch) (D : va_G) (T : Cy) (ρ : Nat → Nat) (g sz : Nat) (S : St) {S' : St} {r : Int32} (h : m_TS_piece g S = some (S', r)) : Mi l Yc D T ρ yX9_piece cX9_piece 2 (some .int) 3 66 S S' r [.ref (ρ 7)] sz :=
  x_in (by decide) (Nat.le_of_ble_eq_true rfl) (fun p e s m below meth c ls C hr hk w hl => w_TS_piece_0 C hr hk w hl h)

theorem dX10_hashOf_0 : decode cX10_hashOf 0 = .ok (.iconst 0, 1) := by decide +kernel
theorem dX10_hashOf_1 : decode cX10_hashOf 1 = .ok (.istore_n 2, 1) := by decide +kernel
theorem dX10_hashOf_2 : decode cX10_hashOf 2 = .ok (.aload_n 0, 1) := by decide +kernel
theorem dX10_hashOf_3 : decode cX10_hashOf 3 = .ok (.iload_n 1, 1) := by decide +kernel
theorem dX10_hashOf_4 : decode cX10_hashOf 4 = .ok (.invokevirtual 84, 3) := by decide +kernel
theorem dX10_hashOf_7 : decode cX10_hashOf 7 = .ok (.istore_n 3, 1) := by decide +kernel
theorem dX10_hashOf_8 : decode cX10_hashOf 8 = .ok (.aload_n 0, 1) := by decide +kernel
theorem dX10_hashOf_9 : decode cX10_hashOf 9 = .ok (.iload_n 1, 1) := by decide +kernel
theorem dX10_hashOf_10 : decode cX10_hashOf 10 = .ok (.invokevirtual 87, 3) := by decide +kernel
theorem dX10_hashOf_13 : decode cX10_hashOf 13 = .ok (.istore 4, 2) := by decide +kernel
theorem dX10_hashOf_15 : decode cX10_hashOf 15 = .ok (.iload 4, 2) := by decide +kernel
theorem dX10_hashOf_17 : decode cX10_hashOf 17 = .ok (.iload_n 3, 1) := by decide +kernel
theorem dX10_hashOf_18 : decode cX10_hashOf 18 = .ok (.if_icmp .ge 24, 3) := by decide +kernel
theorem dX10_hashOf_21 : decode cX10_hashOf 21 = .ok (.bipush 31, 2) := by decide +kernel
theorem dX10_hashOf_23 : decode cX10_hashOf 23 = .ok (.iload_n 2, 1) := by decide +kernel
theorem dX10_hashOf_24 : decode cX10_hashOf 24 = .ok (.imul, 1) := by decide +kernel
theorem dX10_hashOf_25 : decode cX10_hashOf 25 = .ok (.aload_n 0, 1) := by decide +kernel
theorem dX10_hashOf_26 : decode cX10_hashOf 26 = .ok (.getfield 14, 3) := by decide +kernel
theorem dX10_hashOf_29 : decode cX10_hashOf 29 = .ok (.iload 4, 2) := by decide +kernel
theorem dX10_hashOf_31 : decode cX10_hashOf 31 = .ok (.invokevirtual 51, 3) := by decide +kernel
theorem dX10_hashOf_34 : decode cX10_hashOf 34 = .ok (.iadd, 1) := by decide +kernel
theorem dX10_hashOf_35 : decode cX10_hashOf 35 = .ok (.istore_n 2, 1) := by decide +kernel
theorem dX10_hashOf_36 : decode cX10_hashOf 36 = .ok (.iinc 4 1, 3) := by decide +kernel
theorem dX10_hashOf_39 : decode cX10_hashOf 39 = .ok (.goto (-24), 3) := by decide +kernel
theorem dX10_hashOf_42 : decode cX10_hashOf 42 = .ok (.iload_n 2, 1) := by decide +kernel
theorem dX10_hashOf_43 : decode cX10_hashOf 43 = .ok (.ireturn, 1) := by decide +kernel
def b_Tx_hashOf_15 (g : Nat) (S : St) (k15 : Int32 → Int32 → Int32 → Option Int32) (x2 : Int32) (x3 : Int32) (x4 : Int32) : Option Int32 :=
if x3 ≤ x4 then (
  some x2
) else (
  (m_Row_at g S 18 x4).bind fun v_3 =>
  lt (((31 : Int32) * x2) + v_3) fun x2_4 =>
  lt (x4 + (1 : Int32)) fun x4_5 =>
  k15 x2_4 x3 x4_5
)
def m_Tx_hashOf_15 (g : Nat) (S : St) : Nat → Int32 → Int32 → Int32 → Option Int32
  | 0, _, _, _ => none
  | n + 1, x2, x3, x4 => b_Tx_hashOf_15 g S (m_Tx_hashOf_15 g S n) x2 x3 x4
def m_Tx_hashOf (g : Nat) (S : St) (x1 : Int32) : Option Int32 :=
(m_Tx_endOf g S x1).bind fun v_1 =>
(m_Tx_startOf g S x1).bind fun v_2 =>
m_Tx_hashOf_15 g S g (0 : Int32) v_1 v_2
section S_Tx_hashOf
variable {p : Program} {l : Launch} {e : Env} {s : State} {m : MethodId} {args : Array Value} {below : List Frame} {meth : Method} {c : Code} {H : Heap} {locs : List Loc} {ls : Array Slot} {D : va_G} {T : Cy} {ρ : Nat → Nat} {A : Nat → Prop}
set_option maxRecDepth 100000 in
set_option maxHeartbeats 4000000 in
theorem wb_Tx_hashOf_15  {g : Nat} {S : St} {x2 : Int32} {x3 : Int32} {x4 : Int32} (C : CallFix p m c cX10_hashOf 5 s args tb RX10) (hr : meth.sig.returnType = (some .int)) (hk : meth.locks = false) {r : Int32} {k15 : Int32 → Int32 → Int32 → Option Int32} (kk15 : ∀ (x2 : Int32) (x3 : Int32) (x4 : Int32) (H : Heap) (locs : List Loc) (ls : Array Slot), Wn Yc D T ρ S A s H locs → lv_has ls 5 [(0, .ref (ρ 5)), (2, .int x2), (3, .int x3), (4, .int x4)] → k15 x2 x3 x4 = some r → W p l e (rmN 1 21) s m args below meth c H locs 0 0 (MQ below (Qi Yc D T ρ A S r) args s 0 0 A) (F0 m 15 ls [])) (w : Wn Yc D T ρ S A s H locs) (hl : lv_has ls 5 [(0, .ref (ρ 5)), (2, .int x2), (3, .int x3), (4, .int x4)]) (h : b_Tx_hashOf_15 g S k15 x2 x3 x4 = some r) : W p l e (rmN 1 21) s m args below meth c H locs 0 0 (MQ below (Qi Yc D T ρ A S r) args s 0 0 A) (F0 m 15 ls []) := by
  unfold b_Tx_hashOf_15 at h
  refine lv_iload C.1 C.2.1 dX10_hashOf_15 (lv_at hl 3 rfl) ?_
  refine lv_iload_n C.1 C.2.1 dX10_hashOf_17 rfl (lv_at hl 2 rfl) ?_
  refine lv_icmp_ge (tgt := 42) C.1 C.2.1 dX10_hashOf_18 (by decide) (fun hc => ?_) (fun hc => ?_)
  · replace h := ift hc h
    refine lv_iload_n C.1 C.2.1 dX10_hashOf_42 rfl (lv_at hl 1 rfl) ?_
    obtain rfl := som h
    exact x_iret C w hr hk dX10_hashOf_43
  · replace h := iff0 hc h
    refine lv_bipush (v := 31) C.1 C.2.1 dX10_hashOf_21 (by decide) ?_
    refine lv_iload_n C.1 C.2.1 dX10_hashOf_23 rfl (lv_at hl 1 rfl) ?_
    refine lv_imul C.1 C.2.1 dX10_hashOf_24 ?_
    refine lv_aload_n C.1 C.2.1 dX10_hashOf_25 rfl (lv_at hl 0 rfl) ?_
    refine x_getC C w 18 fX10_14 obC5 rfl dX10_hashOf_26 ?_
    refine lv_iload C.1 C.2.1 dX10_hashOf_29 (lv_at hl 3 rfl) ?_
    obtain ⟨v_3, hv_3, h⟩ := bnd h
    refine x_callVi (q := (RX6, TX6, 4)) (As := [.int x4]) (rest := [.int ((31 : Int32) * x2)]) C w (k_Row_at l D T ρ g H.size S obC18 hv_3) vX10_51 ⟨by decide, by decide⟩ obC18 (by decide) rfl rfl rfl hl.1 (Nat.le_of_ble_eq_true rfl) ⟨Nat.zero_le _, Nat.zero_le _⟩ dX10_hashOf_31 (fun H locs w => ?_)
    refine lv_iadd C.1 C.2.1 dX10_hashOf_34 ?_
    obtain ⟨x2_4, ex2_4, h⟩ := lt_e h
    refine x_nm ex2_4 ?_
    refine lv_istore_n (lv' := [(2, .int x2_4), (0, .ref (ρ 5)), (3, .int x3), (4, .int x4)]) C.1 C.2.1 dX10_hashOf_35 rfl hl (by decide) rfl (fun ls hl => ?_)
    obtain ⟨x4_5, ex4_5, h⟩ := lt_e h
    refine lv_iinc (v := x4_5) (lv' := [(4, .int x4_5), (2, .int x2_4), (0, .ref (ρ 5)), (3, .int x3)]) C.1 C.2.1 dX10_hashOf_36 hl (k := 3) rfl (by rw [ex4_5]; rfl) (by decide) rfl (fun ls hl => ?_)
    refine lv_goto (tgt := 15) C.1 C.2.1 dX10_hashOf_39 (by decide) ?_
    exact kk15 _ _ _ _ _ _ w (lv_sub hl [2, 1, 3, 0] rfl) h
theorem w_Tx_hashOf_15 {g : Nat} {S : St} (C : CallFix p m c cX10_hashOf 5 s args tb RX10) (hr : meth.sig.returnType = (some .int)) (hk : meth.locks = false) {r : Int32} (n : Nat) : ∀ (x2 : Int32) (x3 : Int32) (x4 : Int32) (H : Heap) (locs : List Loc) (ls : Array Slot), Wn Yc D T ρ S A s H locs → lv_has ls 5 [(0, .ref (ρ 5)), (2, .int x2), (3, .int x3), (4, .int x4)] → m_Tx_hashOf_15 g S n x2 x3 x4 = some r → W p l e (rmN 1 21) s m args below meth c H locs 0 0 (MQ below (Qi Yc D T ρ A S r) args s 0 0 A) (F0 m 15 ls []) := by
  induction n with
  | zero => intro x2 x3 x4 H locs ls w hl h; exact absurd h (fun q => by cases q)
  | succ n ih => intro x2 x3 x4 H locs ls w hl h; exact wb_Tx_hashOf_15 C hr hk ih w hl h
set_option maxRecDepth 100000 in
set_option maxHeartbeats 4000000 in
theorem w_Tx_hashOf_0  {g : Nat} {S : St} {x1 : Int32} (C : CallFix p m c cX10_hashOf 5 s args tb RX10) (hr : meth.sig.returnType = (some .int)) (hk : meth.locks = false) {r : Int32} (w : Wn Yc D T ρ S A s H locs) (hl : lv_has ls 5 [(0, .ref (ρ 5)), (1, .int x1)]) (h : m_Tx_hashOf g S x1 = some r) : W p l e (rmN 1 21) s m args below meth c H locs 0 0 (MQ below (Qi Yc D T ρ A S r) args s 0 0 A) (F0 m 0 ls []) := by
  unfold m_Tx_hashOf at h
  refine lv_iconst (v := 0) C.1 C.2.1 dX10_hashOf_0 (by decide) ?_
  refine lv_istore_n (lv' := [(2, .int (0 : Int32)), (0, .ref (ρ 5)), (1, .int x1)]) C.1 C.2.1 dX10_hashOf_1 rfl hl (by decide) rfl (fun ls hl => ?_)
  refine lv_aload_n C.1 C.2.1 dX10_hashOf_2 rfl (lv_at hl 1 rfl) ?_
  refine lv_iload_n C.1 C.2.1 dX10_hashOf_3 rfl (lv_at hl 2 rfl) ?_
  obtain ⟨v_1, hv_1, h⟩ := bnd h
  refine x_callVi (q := (RX10, TX10, 5)) (As := [.int x1]) (rest := []) C w (k_Tx_endOf l D T ρ g H.size S hv_1) vX10_84 ⟨by decide, by decide⟩ obC5 (by decide) rfl rfl rfl hl.1 (Nat.le_of_ble_eq_true rfl) ⟨Nat.zero_le _, Nat.zero_le _⟩ dX10_hashOf_4 (fun H locs w => ?_)
  refine lv_istore_n (lv' := [(3, .int v_1), (2, .int (0 : Int32)), (0, .ref (ρ 5)), (1, .int x1)]) C.1 C.2.1 dX10_hashOf_7 rfl hl (by decide) rfl (fun ls hl => ?_)
  refine lv_aload_n C.1 C.2.1 dX10_hashOf_8 rfl (lv_at hl 2 rfl) ?_
  refine lv_iload_n C.1 C.2.1 dX10_hashOf_9 rfl (lv_at hl 3 rfl) ?_
  obtain ⟨v_2, hv_2, h⟩ := bnd h
  refine x_callVi (q := (RX10, TX10, 5)) (As := [.int x1]) (rest := []) C w (k_Tx_startOf l D T ρ g H.size S hv_2) vX10_87 ⟨by decide, by decide⟩ obC5 (by decide) rfl rfl rfl hl.1 (Nat.le_of_ble_eq_true rfl) ⟨Nat.zero_le _, Nat.zero_le _⟩ dX10_hashOf_10 (fun H locs w => ?_)
  refine lv_istore (lv' := [(4, .int v_2), (3, .int v_1), (2, .int (0 : Int32)), (0, .ref (ρ 5)), (1, .int x1)]) C.1 C.2.1 dX10_hashOf_13 hl (by decide) rfl (fun ls hl => ?_)
  exact w_Tx_hashOf_15 C hr hk g _ _ _ _ _ _ w (lv_sub hl [3, 2, 1, 0] rfl) h
end S_Tx_hashOf
set_option maxRecDepth 100000 in
theorem k_Tx_hashOf (l : Launch) (D : va_G) (T : Cy) (ρ : Nat → Nat) (g sz : Nat) (S : St) {x1 : Int32} {r : Int32} (h : m_Tx_hashOf g S x1 = some r) : Mi l Yc D T ρ yX10_hashOf cX10_hashOf 5 (some .int) 1 21 S S r [.ref (ρ 5), .int x1] sz :=
  x_in (by decide) (Nat.le_of_ble_eq_true rfl) (fun p e s m below meth c ls C hr hk w hl => w_Tx_hashOf_0 C hr hk w hl h)

theorem dX10_areEqual_0 : decode cX10_areEqual 0 = .ok (.aload_n 0, 1) := by decide +kernel
theorem dX10_areEqual_1 : decode cX10_areEqual 1 = .ok (.iload_n 1, 1) := by decide +kernel
theorem dX10_areEqual_2 : decode cX10_areEqual 2 = .ok (.invokevirtual 90, 3) := by decide +kernel
theorem dX10_areEqual_5 : decode cX10_areEqual 5 = .ok (.aload_n 0, 1) := by decide +kernel
theorem dX10_areEqual_6 : decode cX10_areEqual 6 = .ok (.iload_n 2, 1) := by decide +kernel
theorem dX10_areEqual_7 : decode cX10_areEqual 7 = .ok (.invokevirtual 90, 3) := by decide +kernel
theorem dX10_areEqual_10 : decode cX10_areEqual 10 = .ok (.if_icmp .ne 36, 3) := by decide +kernel
theorem dX10_areEqual_13 : decode cX10_areEqual 13 = .ok (.aload_n 0, 1) := by decide +kernel
theorem dX10_areEqual_14 : decode cX10_areEqual 14 = .ok (.getfield 14, 3) := by decide +kernel
theorem dX10_areEqual_17 : decode cX10_areEqual 17 = .ok (.aload_n 0, 1) := by decide +kernel
theorem dX10_areEqual_18 : decode cX10_areEqual 18 = .ok (.iload_n 1, 1) := by decide +kernel
theorem dX10_areEqual_19 : decode cX10_areEqual 19 = .ok (.invokevirtual 87, 3) := by decide +kernel
theorem dX10_areEqual_22 : decode cX10_areEqual 22 = .ok (.aload_n 0, 1) := by decide +kernel
theorem dX10_areEqual_23 : decode cX10_areEqual 23 = .ok (.getfield 14, 3) := by decide +kernel
theorem dX10_areEqual_26 : decode cX10_areEqual 26 = .ok (.aload_n 0, 1) := by decide +kernel
theorem dX10_areEqual_27 : decode cX10_areEqual 27 = .ok (.iload_n 2, 1) := by decide +kernel
theorem dX10_areEqual_28 : decode cX10_areEqual 28 = .ok (.invokevirtual 87, 3) := by decide +kernel
theorem dX10_areEqual_31 : decode cX10_areEqual 31 = .ok (.aload_n 0, 1) := by decide +kernel
theorem dX10_areEqual_32 : decode cX10_areEqual 32 = .ok (.iload_n 2, 1) := by decide +kernel
theorem dX10_areEqual_33 : decode cX10_areEqual 33 = .ok (.invokevirtual 84, 3) := by decide +kernel
theorem dX10_areEqual_36 : decode cX10_areEqual 36 = .ok (.invokevirtual 93, 3) := by decide +kernel
theorem dX10_areEqual_39 : decode cX10_areEqual 39 = .ok (.ifCond .eq 7, 3) := by decide +kernel
theorem dX10_areEqual_42 : decode cX10_areEqual 42 = .ok (.iconst 1, 1) := by decide +kernel
theorem dX10_areEqual_43 : decode cX10_areEqual 43 = .ok (.goto 4, 3) := by decide +kernel
theorem dX10_areEqual_46 : decode cX10_areEqual 46 = .ok (.iconst 0, 1) := by decide +kernel
theorem dX10_areEqual_47 : decode cX10_areEqual 47 = .ok (.ireturn, 1) := by decide +kernel
def m_Tx_areEqual (g : Nat) (S : St) (x1 : Int32) (x2 : Int32) : Option Int32 :=
(m_Tx_sizeOf g S x1).bind fun v_1 =>
(m_Tx_sizeOf g S x2).bind fun v_2 =>
if v_1 = v_2 then (
  (m_Tx_startOf g S x1).bind fun v_3 =>
  (m_Tx_startOf g S x2).bind fun v_4 =>
  (m_Tx_endOf g S x2).bind fun v_5 =>
  (m_Row_holds g S 18 v_3 18 v_4 v_5).bind fun v_6 =>
  if v_6 = 0 then (
    some (0 : Int32)
  ) else (
    some (1 : Int32)
  )
) else (
  some (0 : Int32)
)
section S_Tx_areEqual
variable {p : Program} {l : Launch} {e : Env} {s : State} {m : MethodId} {args : Array Value} {below : List Frame} {meth : Method} {c : Code} {H : Heap} {locs : List Loc} {ls : Array Slot} {D : va_G} {T : Cy} {ρ : Nat → Nat} {A : Nat → Prop}
set_option maxRecDepth 100000 in
set_option maxHeartbeats 4000000 in
theorem w_Tx_areEqual_0  {g : Nat} {S : St} {x1 : Int32} {x2 : Int32} (C : CallFix p m c cX10_areEqual 3 s args tb RX10) (hr : meth.sig.returnType = (some .boolean)) (hk : meth.locks = false) {r : Int32} (w : Wn Yc D T ρ S A s H locs) (hl : lv_has ls 3 [(0, .ref (ρ 5)), (1, .int x1), (2, .int x2)]) (h : m_Tx_areEqual g S x1 x2 = some r) : W p l e (rmN 2 42) s m args below meth c H locs 0 0 (MQ below (Qi Yc D T ρ A S r) args s 0 0 A) (F0 m 0 ls []) := by
  unfold m_Tx_areEqual at h
  refine lv_aload_n C.1 C.2.1 dX10_areEqual_0 rfl (lv_at hl 0 rfl) ?_
  refine lv_iload_n C.1 C.2.1 dX10_areEqual_1 rfl (lv_at hl 1 rfl) ?_
  obtain ⟨v_1, hv_1, h⟩ := bnd h
  refine x_callVi (q := (RX10, TX10, 5)) (As := [.int x1]) (rest := []) C w (k_Tx_sizeOf l D T ρ g H.size S hv_1) vX10_90 ⟨by decide, by decide⟩ obC5 (by decide) rfl rfl rfl hl.1 (Nat.le_of_ble_eq_true rfl) ⟨Nat.zero_le _, Nat.zero_le _⟩ dX10_areEqual_2 (fun H locs w => ?_)
  refine lv_aload_n C.1 C.2.1 dX10_areEqual_5 rfl (lv_at hl 0 rfl) ?_
  refine lv_iload_n C.1 C.2.1 dX10_areEqual_6 rfl (lv_at hl 2 rfl) ?_
  obtain ⟨v_2, hv_2, h⟩ := bnd h
  refine x_callVi (q := (RX10, TX10, 5)) (As := [.int x2]) (rest := [.int v_1]) C w (k_Tx_sizeOf l D T ρ g H.size S hv_2) vX10_90 ⟨by decide, by decide⟩ obC5 (by decide) rfl rfl rfl hl.1 (Nat.le_of_ble_eq_true rfl) ⟨Nat.zero_le _, Nat.zero_le _⟩ dX10_areEqual_7 (fun H locs w => ?_)
  refine lv_icmp_ne (tgt := 46) C.1 C.2.1 dX10_areEqual_10 (by decide) (fun hc => ?_) (fun hc => ?_)
  · replace h := iff0 hc h
    refine lv_iconst (v := 0) C.1 C.2.1 dX10_areEqual_46 (by decide) ?_
    obtain rfl := som h
    exact x_zret C w hr hk (by decide) dX10_areEqual_47
  · replace h := ift hc h
    refine lv_aload_n C.1 C.2.1 dX10_areEqual_13 rfl (lv_at hl 0 rfl) ?_
    refine x_getC C w 18 fX10_14 obC5 rfl dX10_areEqual_14 ?_
    refine lv_aload_n C.1 C.2.1 dX10_areEqual_17 rfl (lv_at hl 0 rfl) ?_
    refine lv_iload_n C.1 C.2.1 dX10_areEqual_18 rfl (lv_at hl 1 rfl) ?_
    obtain ⟨v_3, hv_3, h⟩ := bnd h
    refine x_callVi (q := (RX10, TX10, 5)) (As := [.int x1]) (rest := [.ref (ρ 18)]) C w (k_Tx_startOf l D T ρ g H.size S hv_3) vX10_87 ⟨by decide, by decide⟩ obC5 (by decide) rfl rfl rfl hl.1 (Nat.le_of_ble_eq_true rfl) ⟨Nat.zero_le _, Nat.zero_le _⟩ dX10_areEqual_19 (fun H locs w => ?_)
    refine lv_aload_n C.1 C.2.1 dX10_areEqual_22 rfl (lv_at hl 0 rfl) ?_
    refine x_getC C w 18 fX10_14 obC5 rfl dX10_areEqual_23 ?_
    refine lv_aload_n C.1 C.2.1 dX10_areEqual_26 rfl (lv_at hl 0 rfl) ?_
    refine lv_iload_n C.1 C.2.1 dX10_areEqual_27 rfl (lv_at hl 2 rfl) ?_
    obtain ⟨v_4, hv_4, h⟩ := bnd h
    refine x_callVi (q := (RX10, TX10, 5)) (As := [.int x2]) (rest := [.ref (ρ 18), .int v_3, .ref (ρ 18)]) C w (k_Tx_startOf l D T ρ g H.size S hv_4) vX10_87 ⟨by decide, by decide⟩ obC5 (by decide) rfl rfl rfl hl.1 (Nat.le_of_ble_eq_true rfl) ⟨Nat.zero_le _, Nat.zero_le _⟩ dX10_areEqual_28 (fun H locs w => ?_)
    refine lv_aload_n C.1 C.2.1 dX10_areEqual_31 rfl (lv_at hl 0 rfl) ?_
    refine lv_iload_n C.1 C.2.1 dX10_areEqual_32 rfl (lv_at hl 2 rfl) ?_
    obtain ⟨v_5, hv_5, h⟩ := bnd h
    refine x_callVi (q := (RX10, TX10, 5)) (As := [.int x2]) (rest := [.int v_4, .ref (ρ 18), .int v_3, .ref (ρ 18)]) C w (k_Tx_endOf l D T ρ g H.size S hv_5) vX10_84 ⟨by decide, by decide⟩ obC5 (by decide) rfl rfl rfl hl.1 (Nat.le_of_ble_eq_true rfl) ⟨Nat.zero_le _, Nat.zero_le _⟩ dX10_areEqual_33 (fun H locs w => ?_)
    obtain ⟨v_6, hv_6, h⟩ := bnd h
    refine x_callVi (q := (RX6, TX6, 4)) (As := [.int v_3, .ref (ρ 18), .int v_4, .int v_5]) (rest := []) C w (k_Row_holds l D T ρ g H.size S obC18 obC18 hv_6) vX10_93 ⟨by decide, by decide⟩ obC18 (by decide) rfl rfl rfl hl.1 (Nat.le_of_ble_eq_true rfl) ⟨Nat.zero_le _, Nat.zero_le _⟩ dX10_areEqual_36 (fun H locs w => ?_)
    refine lv_if_eq (tgt := 46) C.1 C.2.1 dX10_areEqual_39 (by decide) (fun hc => ?_) (fun hc => ?_)
    · replace h := ift hc h
      refine lv_iconst (v := 0) C.1 C.2.1 dX10_areEqual_46 (by decide) ?_
      obtain rfl := som h
      exact x_zret C w hr hk (by decide) dX10_areEqual_47
    · replace h := iff0 hc h
      refine lv_iconst (v := 1) C.1 C.2.1 dX10_areEqual_42 (by decide) ?_
      refine lv_goto (tgt := 47) C.1 C.2.1 dX10_areEqual_43 (by decide) ?_
      obtain rfl := som h
      exact x_zret C w hr hk (by decide) dX10_areEqual_47
end S_Tx_areEqual
set_option maxRecDepth 100000 in
theorem k_Tx_areEqual (l : Launch) (D : va_G) (T : Cy) (ρ : Nat → Nat) (g sz : Nat) (S : St) {x1 : Int32} {x2 : Int32} {r : Int32} (h : m_Tx_areEqual g S x1 x2 = some r) : Mi l Yc D T ρ yX10_areEqual cX10_areEqual 3 (some .boolean) 2 42 S S r [.ref (ρ 5), .int x1, .int x2] sz :=
  x_in (by decide) (Nat.le_of_ble_eq_true rfl) (fun p e s m below meth c ls C hr hk w hl => w_Tx_areEqual_0 C hr hk w hl h)

theorem dX10_areAlike_0 : decode cX10_areAlike 0 = .ok (.aload_n 0, 1) := by decide +kernel
theorem dX10_areAlike_1 : decode cX10_areAlike 1 = .ok (.iload_n 1, 1) := by decide +kernel
theorem dX10_areAlike_2 : decode cX10_areAlike 2 = .ok (.invokevirtual 90, 3) := by decide +kernel
theorem dX10_areAlike_5 : decode cX10_areAlike 5 = .ok (.istore_n 3, 1) := by decide +kernel
theorem dX10_areAlike_6 : decode cX10_areAlike 6 = .ok (.iload_n 3, 1) := by decide +kernel
theorem dX10_areAlike_7 : decode cX10_areAlike 7 = .ok (.aload_n 0, 1) := by decide +kernel
theorem dX10_areAlike_8 : decode cX10_areAlike 8 = .ok (.iload_n 2, 1) := by decide +kernel
theorem dX10_areAlike_9 : decode cX10_areAlike 9 = .ok (.invokevirtual 90, 3) := by decide +kernel
theorem dX10_areAlike_12 : decode cX10_areAlike 12 = .ok (.if_icmp .eq 5, 3) := by decide +kernel
theorem dX10_areAlike_15 : decode cX10_areAlike 15 = .ok (.iconst 0, 1) := by decide +kernel
theorem dX10_areAlike_16 : decode cX10_areAlike 16 = .ok (.ireturn, 1) := by decide +kernel
theorem dX10_areAlike_17 : decode cX10_areAlike 17 = .ok (.iconst 0, 1) := by decide +kernel
theorem dX10_areAlike_18 : decode cX10_areAlike 18 = .ok (.istore 4, 2) := by decide +kernel
theorem dX10_areAlike_20 : decode cX10_areAlike 20 = .ok (.iload 4, 2) := by decide +kernel
theorem dX10_areAlike_22 : decode cX10_areAlike 22 = .ok (.iload_n 3, 1) := by decide +kernel
theorem dX10_areAlike_23 : decode cX10_areAlike 23 = .ok (.if_icmp .ge 31, 3) := by decide +kernel
theorem dX10_areAlike_26 : decode cX10_areAlike 26 = .ok (.aload_n 0, 1) := by decide +kernel
theorem dX10_areAlike_27 : decode cX10_areAlike 27 = .ok (.iload_n 1, 1) := by decide +kernel
theorem dX10_areAlike_28 : decode cX10_areAlike 28 = .ok (.iload 4, 2) := by decide +kernel
theorem dX10_areAlike_30 : decode cX10_areAlike 30 = .ok (.invokevirtual 97, 3) := by decide +kernel
theorem dX10_areAlike_33 : decode cX10_areAlike 33 = .ok (.aload_n 0, 1) := by decide +kernel
theorem dX10_areAlike_34 : decode cX10_areAlike 34 = .ok (.iload_n 2, 1) := by decide +kernel
theorem dX10_areAlike_35 : decode cX10_areAlike 35 = .ok (.iload 4, 2) := by decide +kernel
theorem dX10_areAlike_37 : decode cX10_areAlike 37 = .ok (.invokevirtual 97, 3) := by decide +kernel
theorem dX10_areAlike_40 : decode cX10_areAlike 40 = .ok (.invokestatic 101, 3) := by decide +kernel
theorem dX10_areAlike_43 : decode cX10_areAlike 43 = .ok (.ifCond .ne 5, 3) := by decide +kernel
theorem dX10_areAlike_46 : decode cX10_areAlike 46 = .ok (.iconst 0, 1) := by decide +kernel
theorem dX10_areAlike_47 : decode cX10_areAlike 47 = .ok (.ireturn, 1) := by decide +kernel
theorem dX10_areAlike_48 : decode cX10_areAlike 48 = .ok (.iinc 4 1, 3) := by decide +kernel
theorem dX10_areAlike_51 : decode cX10_areAlike 51 = .ok (.goto (-31), 3) := by decide +kernel
theorem dX10_areAlike_54 : decode cX10_areAlike 54 = .ok (.iconst 1, 1) := by decide +kernel
theorem dX10_areAlike_55 : decode cX10_areAlike 55 = .ok (.ireturn, 1) := by decide +kernel
def b_Tx_areAlike_20 (g : Nat) (S : St) (k20 : Int32 → Int32 → Int32 → Int32 → Option Int32) (x1 : Int32) (x2 : Int32) (x3 : Int32) (x4 : Int32) : Option Int32 :=
if x3 ≤ x4 then (
  some (1 : Int32)
) else (
  (m_Tx_unitOf g S x1 x4).bind fun v_3 =>
  (m_Tx_unitOf g S x2 x4).bind fun v_4 =>
  (m_Lt_areAlike g v_3 v_4).bind fun v_5 =>
  if v_5 = 0 then (
    some (0 : Int32)
  ) else (
    lt (x4 + (1 : Int32)) fun x4_6 =>
    k20 x1 x2 x3 x4_6
  )
)
def m_Tx_areAlike_20 (g : Nat) (S : St) : Nat → Int32 → Int32 → Int32 → Int32 → Option Int32
  | 0, _, _, _, _ => none
  | n + 1, x1, x2, x3, x4 => b_Tx_areAlike_20 g S (m_Tx_areAlike_20 g S n) x1 x2 x3 x4
def m_Tx_areAlike (g : Nat) (S : St) (x1 : Int32) (x2 : Int32) : Option Int32 :=
(m_Tx_sizeOf g S x1).bind fun v_1 =>
(m_Tx_sizeOf g S x2).bind fun v_2 =>
if v_1 = v_2 then (
  m_Tx_areAlike_20 g S g x1 x2 v_1 (0 : Int32)
) else (
  some (0 : Int32)
)
section S_Tx_areAlike
variable {p : Program} {l : Launch} {e : Env} {s : State} {m : MethodId} {args : Array Value} {below : List Frame} {meth : Method} {c : Code} {H : Heap} {locs : List Loc} {ls : Array Slot} {D : va_G} {T : Cy} {ρ : Nat → Nat} {A : Nat → Prop}
set_option maxRecDepth 100000 in
set_option maxHeartbeats 4000000 in
theorem wb_Tx_areAlike_20  {g : Nat} {S : St} {x1 : Int32} {x2 : Int32} {x3 : Int32} {x4 : Int32} (C : CallFix p m c cX10_areAlike 5 s args tb RX10) (hr : meth.sig.returnType = (some .boolean)) (hk : meth.locks = false) {r : Int32} {k20 : Int32 → Int32 → Int32 → Int32 → Option Int32} (kk20 : ∀ (x1 : Int32) (x2 : Int32) (x3 : Int32) (x4 : Int32) (H : Heap) (locs : List Loc) (ls : Array Slot), Wn Yc D T ρ S A s H locs → lv_has ls 5 [(0, .ref (ρ 5)), (1, .int x1), (2, .int x2), (3, .int x3), (4, .int x4)] → k20 x1 x2 x3 x4 = some r → W p l e (rmN 3 64) s m args below meth c H locs 0 0 (MQ below (Qi Yc D T ρ A S r) args s 0 0 A) (F0 m 20 ls [])) (w : Wn Yc D T ρ S A s H locs) (hl : lv_has ls 5 [(0, .ref (ρ 5)), (1, .int x1), (2, .int x2), (3, .int x3), (4, .int x4)]) (h : b_Tx_areAlike_20 g S k20 x1 x2 x3 x4 = some r) : W p l e (rmN 3 64) s m args below meth c H locs 0 0 (MQ below (Qi Yc D T ρ A S r) args s 0 0 A) (F0 m 20 ls []) := by
  unfold b_Tx_areAlike_20 at h
  refine lv_iload C.1 C.2.1 dX10_areAlike_20 (lv_at hl 4 rfl) ?_
  refine lv_iload_n C.1 C.2.1 dX10_areAlike_22 rfl (lv_at hl 3 rfl) ?_
  refine lv_icmp_ge (tgt := 54) C.1 C.2.1 dX10_areAlike_23 (by decide) (fun hc => ?_) (fun hc => ?_)
  · replace h := ift hc h
    refine lv_iconst (v := 1) C.1 C.2.1 dX10_areAlike_54 (by decide) ?_
    obtain rfl := som h
    exact x_zret C w hr hk (by decide) dX10_areAlike_55
  · replace h := iff0 hc h
    refine lv_aload_n C.1 C.2.1 dX10_areAlike_26 rfl (lv_at hl 0 rfl) ?_
    refine lv_iload_n C.1 C.2.1 dX10_areAlike_27 rfl (lv_at hl 1 rfl) ?_
    refine lv_iload C.1 C.2.1 dX10_areAlike_28 (lv_at hl 4 rfl) ?_
    obtain ⟨v_3, hv_3, h⟩ := bnd h
    refine x_callVi (q := (RX10, TX10, 5)) (As := [.int x1, .int x4]) (rest := []) C w (k_Tx_unitOf l D T ρ g H.size S hv_3) vX10_97 ⟨by decide, by decide⟩ obC5 (by decide) rfl rfl rfl hl.1 (Nat.le_of_ble_eq_true rfl) ⟨Nat.zero_le _, Nat.zero_le _⟩ dX10_areAlike_30 (fun H locs w => ?_)
    refine lv_aload_n C.1 C.2.1 dX10_areAlike_33 rfl (lv_at hl 0 rfl) ?_
    refine lv_iload_n C.1 C.2.1 dX10_areAlike_34 rfl (lv_at hl 2 rfl) ?_
    refine lv_iload C.1 C.2.1 dX10_areAlike_35 (lv_at hl 4 rfl) ?_
    obtain ⟨v_4, hv_4, h⟩ := bnd h
    refine x_callVi (q := (RX10, TX10, 5)) (As := [.int x2, .int x4]) (rest := [.int v_3]) C w (k_Tx_unitOf l D T ρ g H.size S hv_4) vX10_97 ⟨by decide, by decide⟩ obC5 (by decide) rfl rfl rfl hl.1 (Nat.le_of_ble_eq_true rfl) ⟨Nat.zero_le _, Nat.zero_le _⟩ dX10_areAlike_37 (fun H locs w => ?_)
    obtain ⟨v_5, hv_5, h⟩ := bnd h
    refine x_callSi (As := [.int v_3, .int v_4]) (rest := []) C w (k_Lt_areAlike l D T ρ g H.size S hv_5) vX10_101 ⟨by decide, by decide⟩ rfl rfl hl.1 (Nat.le_of_ble_eq_true rfl) ⟨Nat.zero_le _, Nat.zero_le _⟩ dX10_areAlike_40 (fun H locs w => ?_)
    refine lv_if_ne (tgt := 48) C.1 C.2.1 dX10_areAlike_43 (by decide) (fun hc => ?_) (fun hc => ?_)
    · replace h := iff0 hc h
      obtain ⟨x4_6, ex4_6, h⟩ := lt_e h
      refine lv_iinc (v := x4_6) (lv' := [(4, .int x4_6), (0, .ref (ρ 5)), (1, .int x1), (2, .int x2), (3, .int x3)]) C.1 C.2.1 dX10_areAlike_48 hl (k := 4) rfl (by rw [ex4_6]; rfl) (by decide) rfl (fun ls hl => ?_)
      refine lv_goto (tgt := 20) C.1 C.2.1 dX10_areAlike_51 (by decide) ?_
      exact kk20 _ _ _ _ _ _ _ w (lv_sub hl [1, 2, 3, 4, 0] rfl) h
    · replace h := ift hc h
      refine lv_iconst (v := 0) C.1 C.2.1 dX10_areAlike_46 (by decide) ?_
      obtain rfl := som h
      exact x_zret C w hr hk (by decide) dX10_areAlike_47
theorem w_Tx_areAlike_20 {g : Nat} {S : St} (C : CallFix p m c cX10_areAlike 5 s args tb RX10) (hr : meth.sig.returnType = (some .boolean)) (hk : meth.locks = false) {r : Int32} (n : Nat) : ∀ (x1 : Int32) (x2 : Int32) (x3 : Int32) (x4 : Int32) (H : Heap) (locs : List Loc) (ls : Array Slot), Wn Yc D T ρ S A s H locs → lv_has ls 5 [(0, .ref (ρ 5)), (1, .int x1), (2, .int x2), (3, .int x3), (4, .int x4)] → m_Tx_areAlike_20 g S n x1 x2 x3 x4 = some r → W p l e (rmN 3 64) s m args below meth c H locs 0 0 (MQ below (Qi Yc D T ρ A S r) args s 0 0 A) (F0 m 20 ls []) := by
  induction n with
  | zero => intro x1 x2 x3 x4 H locs ls w hl h; exact absurd h (fun q => by cases q)
  | succ n ih => intro x1 x2 x3 x4 H locs ls w hl h; exact wb_Tx_areAlike_20 C hr hk ih w hl h
set_option maxRecDepth 100000 in
set_option maxHeartbeats 4000000 in
theorem w_Tx_areAlike_0  {g : Nat} {S : St} {x1 : Int32} {x2 : Int32} (C : CallFix p m c cX10_areAlike 5 s args tb RX10) (hr : meth.sig.returnType = (some .boolean)) (hk : meth.locks = false) {r : Int32} (w : Wn Yc D T ρ S A s H locs) (hl : lv_has ls 5 [(0, .ref (ρ 5)), (1, .int x1), (2, .int x2)]) (h : m_Tx_areAlike g S x1 x2 = some r) : W p l e (rmN 3 64) s m args below meth c H locs 0 0 (MQ below (Qi Yc D T ρ A S r) args s 0 0 A) (F0 m 0 ls []) := by
  unfold m_Tx_areAlike at h
  refine lv_aload_n C.1 C.2.1 dX10_areAlike_0 rfl (lv_at hl 0 rfl) ?_
  refine lv_iload_n C.1 C.2.1 dX10_areAlike_1 rfl (lv_at hl 1 rfl) ?_
  obtain ⟨v_1, hv_1, h⟩ := bnd h
  refine x_callVi (q := (RX10, TX10, 5)) (As := [.int x1]) (rest := []) C w (k_Tx_sizeOf l D T ρ g H.size S hv_1) vX10_90 ⟨by decide, by decide⟩ obC5 (by decide) rfl rfl rfl hl.1 (Nat.le_of_ble_eq_true rfl) ⟨Nat.zero_le _, Nat.zero_le _⟩ dX10_areAlike_2 (fun H locs w => ?_)
  refine lv_istore_n (lv' := [(3, .int v_1), (0, .ref (ρ 5)), (1, .int x1), (2, .int x2)]) C.1 C.2.1 dX10_areAlike_5 rfl hl (by decide) rfl (fun ls hl => ?_)
  refine lv_iload_n C.1 C.2.1 dX10_areAlike_6 rfl (lv_at hl 0 rfl) ?_
  refine lv_aload_n C.1 C.2.1 dX10_areAlike_7 rfl (lv_at hl 1 rfl) ?_
  refine lv_iload_n C.1 C.2.1 dX10_areAlike_8 rfl (lv_at hl 3 rfl) ?_
  obtain ⟨v_2, hv_2, h⟩ := bnd h
  refine x_callVi (q := (RX10, TX10, 5)) (As := [.int x2]) (rest := [.int v_1]) C w (k_Tx_sizeOf l D T ρ g H.size S hv_2) vX10_90 ⟨by decide, by decide⟩ obC5 (by decide) rfl rfl rfl hl.1 (Nat.le_of_ble_eq_true rfl) ⟨Nat.zero_le _, Nat.zero_le _⟩ dX10_areAlike_9 (fun H locs w => ?_)
  refine lv_icmp_eq (tgt := 17) C.1 C.2.1 dX10_areAlike_12 (by decide) (fun hc => ?_) (fun hc => ?_)
  · replace h := ift hc h
    refine lv_iconst (v := 0) C.1 C.2.1 dX10_areAlike_17 (by decide) ?_
    refine lv_istore (lv' := [(4, .int (0 : Int32)), (3, .int v_1), (0, .ref (ρ 5)), (1, .int x1), (2, .int x2)]) C.1 C.2.1 dX10_areAlike_18 hl (by decide) rfl (fun ls hl => ?_)
    exact w_Tx_areAlike_20 C hr hk g _ _ _ _ _ _ _ w (lv_sub hl [2, 3, 4, 1, 0] rfl) h
  · replace h := iff0 hc h
    refine lv_iconst (v := 0) C.1 C.2.1 dX10_areAlike_15 (by decide) ?_
    obtain rfl := som h
    exact x_zret C w hr hk (by decide) dX10_areAlike_16
end S_Tx_areAlike
set_option maxRecDepth 100000 in
theorem k_Tx_areAlike (l : Launch) (D : va_G) (T : Cy) (ρ : Nat → Nat) (g sz : Nat) (S : St) {x1 : Int32} {x2 : Int32} {r : Int32} (h : m_Tx_areAlike g S x1 x2 = some r) : Mi l Yc D T ρ yX10_areAlike cX10_areAlike 5 (some .boolean) 3 64 S S r [.ref (ρ 5), .int x1, .int x2] sz :=
  x_in (by decide) (Nat.le_of_ble_eq_true rfl) (fun p e s m below meth c ls C hr hk w hl => w_Tx_areAlike_0 C hr hk w hl h)
