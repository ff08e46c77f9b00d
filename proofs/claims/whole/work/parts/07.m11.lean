theorem dX13_partUnit_0 : decode cX13_partUnit 0 = .ok (.iload_n 1, 1) := by decide +kernel
theorem dX13_partUnit_1 : decode cX13_partUnit 1 = .ok (.i2l, 1) := by decide +kernel
theorem dX13_partUnit_2 : decode cX13_partUnit 2 = .ok (.lconst 0, 1) := by decide +kernel
theorem dX13_partUnit_3 : decode cX13_partUnit 3 = .ok (.aload_n 0, 1) := by decide +kernel
theorem dX13_partUnit_4 : decode cX13_partUnit 4 = .ok (.getfield 419, 3) := by decide +kernel
theorem dX13_partUnit_7 : decode cX13_partUnit 7 = .ok (.iconst 1, 1) := by decide +kernel
theorem dX13_partUnit_8 : decode cX13_partUnit 8 = .ok (.isub, 1) := by decide +kernel
theorem dX13_partUnit_9 : decode cX13_partUnit 9 = .ok (.i2l, 1) := by decide +kernel
theorem dX13_partUnit_10 : decode cX13_partUnit 10 = .ok (.invokestatic 318, 3) := by decide +kernel
theorem dX13_partUnit_13 : decode cX13_partUnit 13 = .ok (.ifCond .ne 5, 3) := by decide +kernel
theorem dX13_partUnit_16 : decode cX13_partUnit 16 = .ok (.iconst (-1), 1) := by decide +kernel
theorem dX13_partUnit_17 : decode cX13_partUnit 17 = .ok (.ireturn, 1) := by decide +kernel
theorem dX13_partUnit_18 : decode cX13_partUnit 18 = .ok (.aload_n 0, 1) := by decide +kernel
theorem dX13_partUnit_19 : decode cX13_partUnit 19 = .ok (.getfield 202, 3) := by decide +kernel
theorem dX13_partUnit_22 : decode cX13_partUnit 22 = .ok (.iload_n 1, 1) := by decide +kernel
theorem dX13_partUnit_23 : decode cX13_partUnit 23 = .ok (.iaload, 1) := by decide +kernel
theorem dX13_partUnit_24 : decode cX13_partUnit 24 = .ok (.istore_n 3, 1) := by decide +kernel
theorem dX13_partUnit_25 : decode cX13_partUnit 25 = .ok (.iload_n 2, 1) := by decide +kernel
theorem dX13_partUnit_26 : decode cX13_partUnit 26 = .ok (.i2l, 1) := by decide +kernel
theorem dX13_partUnit_27 : decode cX13_partUnit 27 = .ok (.lconst 0, 1) := by decide +kernel
theorem dX13_partUnit_28 : decode cX13_partUnit 28 = .ok (.aload_n 0, 1) := by decide +kernel
theorem dX13_partUnit_29 : decode cX13_partUnit 29 = .ok (.getfield 193, 3) := by decide +kernel
theorem dX13_partUnit_32 : decode cX13_partUnit 32 = .ok (.iload_n 3, 1) := by decide +kernel
theorem dX13_partUnit_33 : decode cX13_partUnit 33 = .ok (.iaload, 1) := by decide +kernel
theorem dX13_partUnit_34 : decode cX13_partUnit 34 = .ok (.iconst 1, 1) := by decide +kernel
theorem dX13_partUnit_35 : decode cX13_partUnit 35 = .ok (.isub, 1) := by decide +kernel
theorem dX13_partUnit_36 : decode cX13_partUnit 36 = .ok (.i2l, 1) := by decide +kernel
theorem dX13_partUnit_37 : decode cX13_partUnit 37 = .ok (.invokestatic 318, 3) := by decide +kernel
theorem dX13_partUnit_40 : decode cX13_partUnit 40 = .ok (.ifCond .eq 12, 3) := by decide +kernel
theorem dX13_partUnit_43 : decode cX13_partUnit 43 = .ok (.aload_n 0, 1) := by decide +kernel
theorem dX13_partUnit_44 : decode cX13_partUnit 44 = .ok (.iload_n 3, 1) := by decide +kernel
theorem dX13_partUnit_45 : decode cX13_partUnit 45 = .ok (.iload_n 2, 1) := by decide +kernel
theorem dX13_partUnit_46 : decode cX13_partUnit 46 = .ok (.invokevirtual 470, 3) := by decide +kernel
theorem dX13_partUnit_49 : decode cX13_partUnit 49 = .ok (.goto 4, 3) := by decide +kernel
theorem dX13_partUnit_52 : decode cX13_partUnit 52 = .ok (.iconst (-1), 1) := by decide +kernel
theorem dX13_partUnit_53 : decode cX13_partUnit 53 = .ok (.ireturn, 1) := by decide +kernel
def m_partUnit (g : Nat) (S : St) (x1 : Int32) (x2 : Int32) : Option Int32 :=
(m_isIn g (x1.toInt64) (0 : Int64) (((gI S 0 50) - (1 : Int32)).toInt64)).bind fun v_1 =>
if v_1 = 0 then (
  some (-1 : Int32)
) else (
  (aI S 27 x1).bind fun v_2 =>
  (aI S 24 v_2).bind fun v_3 =>
  (m_isIn g (x2.toInt64) (0 : Int64) ((v_3 - (1 : Int32)).toInt64)).bind fun v_4 =>
  if v_4 = 0 then (
    some (-1 : Int32)
  ) else (
    (m_unitAt g S v_2 x2).bind fun v_5 =>
    some v_5
  )
)
section S_partUnit
variable {p : Program} {l : Launch} {e : Env} {s : State} {m : MethodId} {args : Array Value} {below : List Frame} {meth : Method} {c : Code} {H : Heap} {locs : List Loc} {ls : Array Slot} {D : va_G} {T : Cy} {ρ : Nat → Nat} {A : Nat → Prop}
set_option maxRecDepth 100000 in
set_option maxHeartbeats 4000000 in
theorem w_partUnit_0  {g : Nat} {S : St} {x1 : Int32} {x2 : Int32} (C : CallFix p m c cX13_partUnit 4 s args tb RX13) (hr : meth.sig.returnType = (some .int)) (hk : meth.locks = false) {r : Int32} (w : Wn Ym D T ρ S A s H locs) (hl : lv_has ls 4 [(0, .ref (ρ 0)), (1, .int x1), (2, .int x2)]) (h : m_partUnit g S x1 x2 = some r) : W p l e (rmN 1 25) s m args below meth c H locs 0 0 (MQ below (Qi Ym D T ρ A S r) args s 0 0 A) (F0 m 0 ls []) := by
  unfold m_partUnit at h
  refine lv_iload_n C.1 C.2.1 dX13_partUnit_0 rfl (lv_at hl 1 rfl) ?_
  refine lv_i2l C.1 C.2.1 dX13_partUnit_1 rfl ?_
  refine lv_lconst (v := 0) C.1 C.2.1 dX13_partUnit_2 (by decide) ?_
  refine lv_aload_n C.1 C.2.1 dX13_partUnit_3 rfl (lv_at hl 0 rfl) ?_
  refine x_getI C w fM419 obM dX13_partUnit_4 ?_
  refine lv_iconst (v := 1) C.1 C.2.1 dX13_partUnit_7 (by decide) ?_
  refine lv_isub C.1 C.2.1 dX13_partUnit_8 ?_
  refine lv_i2l C.1 C.2.1 dX13_partUnit_9 rfl ?_
  obtain ⟨v_1, hv_1, h⟩ := bnd h
  refine x_callSi (As := [.long (x1.toInt64), .long (0 : Int64), .long (((gI S 0 50) - (1 : Int32)).toInt64)]) (rest := []) C w (k_isIn l D T ρ g H.size S hv_1) vM318 ⟨by decide, by decide⟩ rfl rfl hl.1 (Nat.le_of_ble_eq_true rfl) ⟨Nat.zero_le _, Nat.zero_le _⟩ dX13_partUnit_10 (fun H locs w => ?_)
  refine lv_if_ne (tgt := 18) C.1 C.2.1 dX13_partUnit_13 (by decide) (fun hc => ?_) (fun hc => ?_)
  · replace h := iff0 hc h
    refine lv_aload_n C.1 C.2.1 dX13_partUnit_18 rfl (lv_at hl 0 rfl) ?_
    refine x_getC C w 27 fM202 obM rfl dX13_partUnit_19 ?_
    refine lv_iload_n C.1 C.2.1 dX13_partUnit_22 rfl (lv_at hl 1 rfl) ?_
    obtain ⟨v_2, hv_2, h⟩ := bnd h
    refine x_iald C w obM27 hv_2 dX13_partUnit_23 ?_
    refine lv_istore_n (lv' := [(3, .int v_2), (0, .ref (ρ 0)), (1, .int x1), (2, .int x2)]) C.1 C.2.1 dX13_partUnit_24 rfl hl (by decide) rfl (fun ls hl => ?_)
    refine lv_iload_n C.1 C.2.1 dX13_partUnit_25 rfl (lv_at hl 3 rfl) ?_
    refine lv_i2l C.1 C.2.1 dX13_partUnit_26 rfl ?_
    refine lv_lconst (v := 0) C.1 C.2.1 dX13_partUnit_27 (by decide) ?_
    refine lv_aload_n C.1 C.2.1 dX13_partUnit_28 rfl (lv_at hl 1 rfl) ?_
    refine x_getC C w 24 fM193 obM rfl dX13_partUnit_29 ?_
    refine lv_iload_n C.1 C.2.1 dX13_partUnit_32 rfl (lv_at hl 0 rfl) ?_
    obtain ⟨v_3, hv_3, h⟩ := bnd h
    refine x_iald C w obM24 hv_3 dX13_partUnit_33 ?_
    refine lv_iconst (v := 1) C.1 C.2.1 dX13_partUnit_34 (by decide) ?_
    refine lv_isub C.1 C.2.1 dX13_partUnit_35 ?_
    refine lv_i2l C.1 C.2.1 dX13_partUnit_36 rfl ?_
    obtain ⟨v_4, hv_4, h⟩ := bnd h
    refine x_callSi (As := [.long (x2.toInt64), .long (0 : Int64), .long ((v_3 - (1 : Int32)).toInt64)]) (rest := []) C w (k_isIn l D T ρ g H.size S hv_4) vM318 ⟨by decide, by decide⟩ rfl rfl hl.1 (Nat.le_of_ble_eq_true rfl) ⟨Nat.zero_le _, Nat.zero_le _⟩ dX13_partUnit_37 (fun H locs w => ?_)
    refine lv_if_eq (tgt := 52) C.1 C.2.1 dX13_partUnit_40 (by decide) (fun hc => ?_) (fun hc => ?_)
    · replace h := ift hc h
      refine lv_iconst (v := (-1)) C.1 C.2.1 dX13_partUnit_52 (by decide) ?_
      obtain rfl := som h
      exact x_iret C w hr hk dX13_partUnit_53
    · replace h := iff0 hc h
      refine lv_aload_n C.1 C.2.1 dX13_partUnit_43 rfl (lv_at hl 1 rfl) ?_
      refine lv_iload_n C.1 C.2.1 dX13_partUnit_44 rfl (lv_at hl 0 rfl) ?_
      refine lv_iload_n C.1 C.2.1 dX13_partUnit_45 rfl (lv_at hl 3 rfl) ?_
      obtain ⟨v_5, hv_5, h⟩ := bnd h
      refine x_callVi (q := (RX13, TX13, 68)) (As := [.int v_2, .int x2]) (rest := []) C w (k_unitAt l D T ρ g H.size S hv_5) vM470 ⟨by decide, by decide⟩ obM (by decide) rfl rfl rfl hl.1 (Nat.le_of_ble_eq_true rfl) ⟨Nat.zero_le _, Nat.zero_le _⟩ dX13_partUnit_46 (fun H locs w => ?_)
      refine lv_goto (tgt := 53) C.1 C.2.1 dX13_partUnit_49 (by decide) ?_
      obtain rfl := som h
      exact x_iret C w hr hk dX13_partUnit_53
  · replace h := ift hc h
    refine lv_iconst (v := (-1)) C.1 C.2.1 dX13_partUnit_16 (by decide) ?_
    obtain rfl := som h
    exact x_iret C w hr hk dX13_partUnit_17
end S_partUnit
set_option maxRecDepth 100000 in
theorem k_partUnit (l : Launch) (D : va_G) (T : Cy) (ρ : Nat → Nat) (g sz : Nat) (S : St) {x1 : Int32} {x2 : Int32} {r : Int32} (h : m_partUnit g S x1 x2 = some r) : Mi l Ym D T ρ yX13_partUnit cX13_partUnit 4 (some .int) 1 25 S S r [.ref (ρ 0), .int x1, .int x2] sz :=
  x_in (by decide) (Nat.le_of_ble_eq_true rfl) (fun p e s m below meth c ls C hr hk w hl => w_partUnit_0 C hr hk w hl h)

theorem dX13_partOf_0 : decode cX13_partOf 0 = .ok (.iload_n 1, 1) := by decide +kernel
theorem dX13_partOf_1 : decode cX13_partOf 1 = .ok (.i2l, 1) := by decide +kernel
theorem dX13_partOf_2 : decode cX13_partOf 2 = .ok (.lconst 0, 1) := by decide +kernel
theorem dX13_partOf_3 : decode cX13_partOf 3 = .ok (.aload_n 0, 1) := by decide +kernel
theorem dX13_partOf_4 : decode cX13_partOf 4 = .ok (.getfield 419, 3) := by decide +kernel
theorem dX13_partOf_7 : decode cX13_partOf 7 = .ok (.iconst 1, 1) := by decide +kernel
theorem dX13_partOf_8 : decode cX13_partOf 8 = .ok (.isub, 1) := by decide +kernel
theorem dX13_partOf_9 : decode cX13_partOf 9 = .ok (.i2l, 1) := by decide +kernel
theorem dX13_partOf_10 : decode cX13_partOf 10 = .ok (.invokestatic 318, 3) := by decide +kernel
theorem dX13_partOf_13 : decode cX13_partOf 13 = .ok (.ifCond .ne 5, 3) := by decide +kernel
theorem dX13_partOf_16 : decode cX13_partOf 16 = .ok (.iconst (-1), 1) := by decide +kernel
theorem dX13_partOf_17 : decode cX13_partOf 17 = .ok (.ireturn, 1) := by decide +kernel
theorem dX13_partOf_18 : decode cX13_partOf 18 = .ok (.iconst 0, 1) := by decide +kernel
theorem dX13_partOf_19 : decode cX13_partOf 19 = .ok (.istore_n 2, 1) := by decide +kernel
theorem dX13_partOf_20 : decode cX13_partOf 20 = .ok (.iload_n 2, 1) := by decide +kernel
theorem dX13_partOf_21 : decode cX13_partOf 21 = .ok (.bipush 20, 2) := by decide +kernel
theorem dX13_partOf_23 : decode cX13_partOf 23 = .ok (.if_icmp .ge 26, 3) := by decide +kernel
theorem dX13_partOf_26 : decode cX13_partOf 26 = .ok (.aload_n 0, 1) := by decide +kernel
theorem dX13_partOf_27 : decode cX13_partOf 27 = .ok (.getfield 199, 3) := by decide +kernel
theorem dX13_partOf_30 : decode cX13_partOf 30 = .ok (.iload_n 2, 1) := by decide +kernel
theorem dX13_partOf_31 : decode cX13_partOf 31 = .ok (.iaload, 1) := by decide +kernel
theorem dX13_partOf_32 : decode cX13_partOf 32 = .ok (.aload_n 0, 1) := by decide +kernel
theorem dX13_partOf_33 : decode cX13_partOf 33 = .ok (.getfield 202, 3) := by decide +kernel
theorem dX13_partOf_36 : decode cX13_partOf 36 = .ok (.iload_n 1, 1) := by decide +kernel
theorem dX13_partOf_37 : decode cX13_partOf 37 = .ok (.iaload, 1) := by decide +kernel
theorem dX13_partOf_38 : decode cX13_partOf 38 = .ok (.if_icmp .ne 5, 3) := by decide +kernel
theorem dX13_partOf_41 : decode cX13_partOf 41 = .ok (.iload_n 2, 1) := by decide +kernel
theorem dX13_partOf_42 : decode cX13_partOf 42 = .ok (.ireturn, 1) := by decide +kernel
theorem dX13_partOf_43 : decode cX13_partOf 43 = .ok (.iinc 2 1, 3) := by decide +kernel
theorem dX13_partOf_46 : decode cX13_partOf 46 = .ok (.goto (-26), 3) := by decide +kernel
theorem dX13_partOf_49 : decode cX13_partOf 49 = .ok (.iconst (-1), 1) := by decide +kernel
theorem dX13_partOf_50 : decode cX13_partOf 50 = .ok (.ireturn, 1) := by decide +kernel
def b_partOf_20 (g : Nat) (S : St) (k20 : Int32 → Int32 → Option Int32) (x1 : Int32) (x2 : Int32) : Option Int32 :=
if (20 : Int32) ≤ x2 then (
  some (-1 : Int32)
) else (
  (aI S 26 x2).bind fun v_2 =>
  (aI S 27 x1).bind fun v_3 =>
  if v_2 = v_3 then (
    some x2
  ) else (
    lt (x2 + (1 : Int32)) fun x2_4 =>
    k20 x1 x2_4
  )
)
def m_partOf_20 (g : Nat) (S : St) : Nat → Int32 → Int32 → Option Int32
  | 0, _, _ => none
  | n + 1, x1, x2 => b_partOf_20 g S (m_partOf_20 g S n) x1 x2
def m_partOf (g : Nat) (S : St) (x1 : Int32) : Option Int32 :=
(m_isIn g (x1.toInt64) (0 : Int64) (((gI S 0 50) - (1 : Int32)).toInt64)).bind fun v_1 =>
if v_1 = 0 then (
  some (-1 : Int32)
) else (
  m_partOf_20 g S g x1 (0 : Int32)
)
section S_partOf
variable {p : Program} {l : Launch} {e : Env} {s : State} {m : MethodId} {args : Array Value} {below : List Frame} {meth : Method} {c : Code} {H : Heap} {locs : List Loc} {ls : Array Slot} {D : va_G} {T : Cy} {ρ : Nat → Nat} {A : Nat → Prop}
set_option maxRecDepth 100000 in
set_option maxHeartbeats 4000000 in
theorem wb_partOf_20  {g : Nat} {S : St} {x1 : Int32} {x2 : Int32} (C : CallFix p m c cX13_partOf 3 s args tb RX13) (hr : meth.sig.returnType = (some .int)) (hk : meth.locks = false) {r : Int32} {k20 : Int32 → Int32 → Option Int32} (kk20 : ∀ (x1 : Int32) (x2 : Int32) (H : Heap) (locs : List Loc) (ls : Array Slot), Wn Ym D T ρ S A s H locs → lv_has ls 3 [(0, .ref (ρ 0)), (1, .int x1), (2, .int x2)] → k20 x1 x2 = some r → W p l e (rmN 1 25) s m args below meth c H locs 0 0 (MQ below (Qi Ym D T ρ A S r) args s 0 0 A) (F0 m 20 ls [])) (w : Wn Ym D T ρ S A s H locs) (hl : lv_has ls 3 [(0, .ref (ρ 0)), (1, .int x1), (2, .int x2)]) (h : b_partOf_20 g S k20 x1 x2 = some r) : W p l e (rmN 1 25) s m args below meth c H locs 0 0 (MQ below (Qi Ym D T ρ A S r) args s 0 0 A) (F0 m 20 ls []) := by
  unfold b_partOf_20 at h
  refine lv_iload_n C.1 C.2.1 dX13_partOf_20 rfl (lv_at hl 2 rfl) ?_
  refine lv_bipush (v := 20) C.1 C.2.1 dX13_partOf_21 (by decide) ?_
  refine lv_icmp_ge (tgt := 49) C.1 C.2.1 dX13_partOf_23 (by decide) (fun hc => ?_) (fun hc => ?_)
  · replace h := ift hc h
    refine lv_iconst (v := (-1)) C.1 C.2.1 dX13_partOf_49 (by decide) ?_
    obtain rfl := som h
    exact x_iret C w hr hk dX13_partOf_50
  · replace h := iff0 hc h
    refine lv_aload_n C.1 C.2.1 dX13_partOf_26 rfl (lv_at hl 0 rfl) ?_
    refine x_getC C w 26 fM199 obM rfl dX13_partOf_27 ?_
    refine lv_iload_n C.1 C.2.1 dX13_partOf_30 rfl (lv_at hl 2 rfl) ?_
    obtain ⟨v_2, hv_2, h⟩ := bnd h
    refine x_iald C w obM26 hv_2 dX13_partOf_31 ?_
    refine lv_aload_n C.1 C.2.1 dX13_partOf_32 rfl (lv_at hl 0 rfl) ?_
    refine x_getC C w 27 fM202 obM rfl dX13_partOf_33 ?_
    refine lv_iload_n C.1 C.2.1 dX13_partOf_36 rfl (lv_at hl 1 rfl) ?_
    obtain ⟨v_3, hv_3, h⟩ := bnd h
    refine x_iald C w obM27 hv_3 dX13_partOf_37 ?_
    refine lv_icmp_ne (tgt := 43) C.1 C.2.1 dX13_partOf_38 (by decide) (fun hc => ?_) (fun hc => ?_)
    · replace h := iff0 hc h
      obtain ⟨x2_4, ex2_4, h⟩ := lt_e h
      refine lv_iinc (v := x2_4) (lv' := [(2, .int x2_4), (0, .ref (ρ 0)), (1, .int x1)]) C.1 C.2.1 dX13_partOf_43 hl (k := 2) rfl (by rw [ex2_4]; rfl) (by decide) rfl (fun ls hl => ?_)
      refine lv_goto (tgt := 20) C.1 C.2.1 dX13_partOf_46 (by decide) ?_
      exact kk20 _ _ _ _ _ w (lv_sub hl [1, 2, 0] rfl) h
    · replace h := ift hc h
      refine lv_iload_n C.1 C.2.1 dX13_partOf_41 rfl (lv_at hl 2 rfl) ?_
      obtain rfl := som h
      exact x_iret C w hr hk dX13_partOf_42
theorem w_partOf_20 {g : Nat} {S : St} (C : CallFix p m c cX13_partOf 3 s args tb RX13) (hr : meth.sig.returnType = (some .int)) (hk : meth.locks = false) {r : Int32} (n : Nat) : ∀ (x1 : Int32) (x2 : Int32) (H : Heap) (locs : List Loc) (ls : Array Slot), Wn Ym D T ρ S A s H locs → lv_has ls 3 [(0, .ref (ρ 0)), (1, .int x1), (2, .int x2)] → m_partOf_20 g S n x1 x2 = some r → W p l e (rmN 1 25) s m args below meth c H locs 0 0 (MQ below (Qi Ym D T ρ A S r) args s 0 0 A) (F0 m 20 ls []) := by
  induction n with
  | zero => intro x1 x2 H locs ls w hl h; exact absurd h (fun q => by cases q)
  | succ n ih => intro x1 x2 H locs ls w hl h; exact wb_partOf_20 C hr hk ih w hl h
set_option maxRecDepth 100000 in
set_option maxHeartbeats 4000000 in
theorem w_partOf_0  {g : Nat} {S : St} {x1 : Int32} (C : CallFix p m c cX13_partOf 3 s args tb RX13) (hr : meth.sig.returnType = (some .int)) (hk : meth.locks = false) {r : Int32} (w : Wn Ym D T ρ S A s H locs) (hl : lv_has ls 3 [(0, .ref (ρ 0)), (1, .int x1)]) (h : m_partOf g S x1 = some r) : W p l e (rmN 1 25) s m args below meth c H locs 0 0 (MQ below (Qi Ym D T ρ A S r) args s 0 0 A) (F0 m 0 ls []) := by
  unfold m_partOf at h
  refine lv_iload_n C.1 C.2.1 dX13_partOf_0 rfl (lv_at hl 1 rfl) ?_
  refine lv_i2l C.1 C.2.1 dX13_partOf_1 rfl ?_
  refine lv_lconst (v := 0) C.1 C.2.1 dX13_partOf_2 (by decide) ?_
  refine lv_aload_n C.1 C.2.1 dX13_partOf_3 rfl (lv_at hl 0 rfl) ?_
  refine x_getI C w fM419 obM dX13_partOf_4 ?_
  refine lv_iconst (v := 1) C.1 C.2.1 dX13_partOf_7 (by decide) ?_
  refine lv_isub C.1 C.2.1 dX13_partOf_8 ?_
  refine lv_i2l C.1 C.2.1 dX13_partOf_9 rfl ?_
  obtain ⟨v_1, hv_1, h⟩ := bnd h
  refine x_callSi (As := [.long (x1.toInt64), .long (0 : Int64), .long (((gI S 0 50) - (1 : Int32)).toInt64)]) (rest := []) C w (k_isIn l D T ρ g H.size S hv_1) vM318 ⟨by decide, by decide⟩ rfl rfl hl.1 (Nat.le_of_ble_eq_true rfl) ⟨Nat.zero_le _, Nat.zero_le _⟩ dX13_partOf_10 (fun H locs w => ?_)
  refine lv_if_ne (tgt := 18) C.1 C.2.1 dX13_partOf_13 (by decide) (fun hc => ?_) (fun hc => ?_)
  · replace h := iff0 hc h
    refine lv_iconst (v := 0) C.1 C.2.1 dX13_partOf_18 (by decide) ?_
    refine lv_istore_n (lv' := [(2, .int (0 : Int32)), (0, .ref (ρ 0)), (1, .int x1)]) C.1 C.2.1 dX13_partOf_19 rfl hl (by decide) rfl (fun ls hl => ?_)
    exact w_partOf_20 C hr hk g _ _ _ _ _ w (lv_sub hl [1, 2, 0] rfl) h
  · replace h := ift hc h
    refine lv_iconst (v := (-1)) C.1 C.2.1 dX13_partOf_16 (by decide) ?_
    obtain rfl := som h
    exact x_iret C w hr hk dX13_partOf_17
end S_partOf
set_option maxRecDepth 100000 in
theorem k_partOf (l : Launch) (D : va_G) (T : Cy) (ρ : Nat → Nat) (g sz : Nat) (S : St) {x1 : Int32} {r : Int32} (h : m_partOf g S x1 = some r) : Mi l Ym D T ρ yX13_partOf cX13_partOf 3 (some .int) 1 25 S S r [.ref (ρ 0), .int x1] sz :=
  x_in (by decide) (Nat.le_of_ble_eq_true rfl) (fun p e s m below meth c ls C hr hk w hl => w_partOf_0 C hr hk w hl h)

theorem dX13_marks_0 : decode cX13_marks 0 = .ok (.aload_n 0, 1) := by decide +kernel
theorem dX13_marks_1 : decode cX13_marks 1 = .ok (.getfield 422, 3) := by decide +kernel
theorem dX13_marks_4 : decode cX13_marks 4 = .ok (.ireturn, 1) := by decide +kernel
def m_marks (g : Nat) (S : St) : Option Int32 :=
some (gI S 0 51)
section S_marks
variable {p : Program} {l : Launch} {e : Env} {s : State} {m : MethodId} {args : Array Value} {below : List Frame} {meth : Method} {c : Code} {H : Heap} {locs : List Loc} {ls : Array Slot} {D : va_G} {T : Cy} {ρ : Nat → Nat} {A : Nat → Prop}
set_option maxRecDepth 100000 in
set_option maxHeartbeats 4000000 in
theorem w_marks_0  {g : Nat} {S : St} (C : CallFix p m c cX13_marks 1 s args tb RX13) (hr : meth.sig.returnType = (some .int)) (hk : meth.locks = false) {r : Int32} (w : Wn Ym D T ρ S A s H locs) (hl : lv_has ls 1 [(0, .ref (ρ 0))]) (h : m_marks g S = some r) : W p l e (rmN 0 0) s m args below meth c H locs 0 0 (MQ below (Qi Ym D T ρ A S r) args s 0 0 A) (F0 m 0 ls []) := by
  unfold m_marks at h
  refine lv_aload_n C.1 C.2.1 dX13_marks_0 rfl (lv_at hl 0 rfl) ?_
  refine x_getI C w fM422 obM dX13_marks_1 ?_
  obtain rfl := som h
  exact x_iret C w hr hk dX13_marks_4
end S_marks
set_option maxRecDepth 100000 in
theorem k_marks (l : Launch) (D : va_G) (T : Cy) (ρ : Nat → Nat) (g sz : Nat) (S : St) {r : Int32} (h : m_marks g S = some r) : Mi l Ym D T ρ yX13_marks cX13_marks 1 (some .int) 0 0 S S r [.ref (ρ 0)] sz :=
  x_in (by decide) (Nat.le_of_ble_eq_true rfl) (fun p e s m below meth c ls C hr hk w hl => w_marks_0 C hr hk w hl h)

theorem dX13_mark_0 : decode cX13_mark 0 = .ok (.iload_n 1, 1) := by decide +kernel
theorem dX13_mark_1 : decode cX13_mark 1 = .ok (.i2l, 1) := by decide +kernel
theorem dX13_mark_2 : decode cX13_mark 2 = .ok (.lconst 0, 1) := by decide +kernel
theorem dX13_mark_3 : decode cX13_mark 3 = .ok (.aload_n 0, 1) := by decide +kernel
theorem dX13_mark_4 : decode cX13_mark 4 = .ok (.getfield 422, 3) := by decide +kernel
theorem dX13_mark_7 : decode cX13_mark 7 = .ok (.iconst 1, 1) := by decide +kernel
theorem dX13_mark_8 : decode cX13_mark 8 = .ok (.isub, 1) := by decide +kernel
theorem dX13_mark_9 : decode cX13_mark 9 = .ok (.i2l, 1) := by decide +kernel
theorem dX13_mark_10 : decode cX13_mark 10 = .ok (.invokestatic 318, 3) := by decide +kernel
theorem dX13_mark_13 : decode cX13_mark 13 = .ok (.ifCond .eq 12, 3) := by decide +kernel
theorem dX13_mark_16 : decode cX13_mark 16 = .ok (.aload_n 0, 1) := by decide +kernel
theorem dX13_mark_17 : decode cX13_mark 17 = .ok (.getfield 220, 3) := by decide +kernel
theorem dX13_mark_20 : decode cX13_mark 20 = .ok (.iload_n 1, 1) := by decide +kernel
theorem dX13_mark_21 : decode cX13_mark 21 = .ok (.laload, 1) := by decide +kernel
theorem dX13_mark_22 : decode cX13_mark 22 = .ok (.goto 4, 3) := by decide +kernel
theorem dX13_mark_25 : decode cX13_mark 25 = .ok (.lconst 0, 1) := by decide +kernel
theorem dX13_mark_26 : decode cX13_mark 26 = .ok (.lreturn, 1) := by decide +kernel
def m_mark (g : Nat) (S : St) (x1 : Int32) : Option Int64 :=
(m_isIn g (x1.toInt64) (0 : Int64) (((gI S 0 51) - (1 : Int32)).toInt64)).bind fun v_1 =>
if v_1 = 0 then (
  some (0 : Int64)
) else (
  (aJ S 33 x1).bind fun v_2 =>
  some v_2
)
section S_mark
variable {p : Program} {l : Launch} {e : Env} {s : State} {m : MethodId} {args : Array Value} {below : List Frame} {meth : Method} {c : Code} {H : Heap} {locs : List Loc} {ls : Array Slot} {D : va_G} {T : Cy} {ρ : Nat → Nat} {A : Nat → Prop}
set_option maxRecDepth 100000 in
set_option maxHeartbeats 4000000 in
theorem w_mark_0  {g : Nat} {S : St} {x1 : Int32} (C : CallFix p m c cX13_mark 2 s args tb RX13) (hr : meth.sig.returnType = (some .long)) (hk : meth.locks = false) {r : Int64} (w : Wn Ym D T ρ S A s H locs) (hl : lv_has ls 2 [(0, .ref (ρ 0)), (1, .int x1)]) (h : m_mark g S x1 = some r) : W p l e (rmN 1 25) s m args below meth c H locs 0 0 (MQ below (Qj Ym D T ρ A S r) args s 0 0 A) (F0 m 0 ls []) := by
  unfold m_mark at h
  refine lv_iload_n C.1 C.2.1 dX13_mark_0 rfl (lv_at hl 1 rfl) ?_
  refine lv_i2l C.1 C.2.1 dX13_mark_1 rfl ?_
  refine lv_lconst (v := 0) C.1 C.2.1 dX13_mark_2 (by decide) ?_
  refine lv_aload_n C.1 C.2.1 dX13_mark_3 rfl (lv_at hl 0 rfl) ?_
  refine x_getI C w fM422 obM dX13_mark_4 ?_
  refine lv_iconst (v := 1) C.1 C.2.1 dX13_mark_7 (by decide) ?_
  refine lv_isub C.1 C.2.1 dX13_mark_8 ?_
  refine lv_i2l C.1 C.2.1 dX13_mark_9 rfl ?_
  obtain ⟨v_1, hv_1, h⟩ := bnd h
  refine x_callSi (As := [.long (x1.toInt64), .long (0 : Int64), .long (((gI S 0 51) - (1 : Int32)).toInt64)]) (rest := []) C w (k_isIn l D T ρ g H.size S hv_1) vM318 ⟨by decide, by decide⟩ rfl rfl hl.1 (Nat.le_of_ble_eq_true rfl) ⟨Nat.zero_le _, Nat.zero_le _⟩ dX13_mark_10 (fun H locs w => ?_)
  refine lv_if_eq (tgt := 25) C.1 C.2.1 dX13_mark_13 (by decide) (fun hc => ?_) (fun hc => ?_)
  · replace h := ift hc h
    refine lv_lconst (v := 0) C.1 C.2.1 dX13_mark_25 (by decide) ?_
    obtain rfl := som h
    exact x_lret C w hr hk dX13_mark_26
  · replace h := iff0 hc h
    refine lv_aload_n C.1 C.2.1 dX13_mark_16 rfl (lv_at hl 0 rfl) ?_
    refine x_getC C w 33 fM220 obM rfl dX13_mark_17 ?_
    refine lv_iload_n C.1 C.2.1 dX13_mark_20 rfl (lv_at hl 1 rfl) ?_
    obtain ⟨v_2, hv_2, h⟩ := bnd h
    refine x_lald C w obM33 hv_2 dX13_mark_21 ?_
    refine lv_goto (tgt := 26) C.1 C.2.1 dX13_mark_22 (by decide) ?_
    obtain rfl := som h
    exact x_lret C w hr hk dX13_mark_26
end S_mark
set_option maxRecDepth 100000 in
theorem k_mark (l : Launch) (D : va_G) (T : Cy) (ρ : Nat → Nat) (g sz : Nat) (S : St) {x1 : Int32} {r : Int64} (h : m_mark g S x1 = some r) : Mj l Ym D T ρ yX13_mark cX13_mark 2 (some .long) 1 25 S S r [.ref (ρ 0), .int x1] sz :=
  x_in (by decide) (Nat.le_of_ble_eq_true rfl) (fun p e s m below meth c ls C hr hk w hl => w_mark_0 C hr hk w hl h)
