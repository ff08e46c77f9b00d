theorem dX13_isIn_0 : decode cX13_isIn 0 = .ok (.lload_n 0, 1) := by decide +kernel
theorem dX13_isIn_1 : decode cX13_isIn 1 = .ok (.lload_n 2, 1) := by decide +kernel
theorem dX13_isIn_2 : decode cX13_isIn 2 = .ok (.lcmp, 1) := by decide +kernel
theorem dX13_isIn_3 : decode cX13_isIn 3 = .ok (.ifCond .lt 14, 3) := by decide +kernel
theorem dX13_isIn_6 : decode cX13_isIn 6 = .ok (.lload_n 0, 1) := by decide +kernel
theorem dX13_isIn_7 : decode cX13_isIn 7 = .ok (.lload 4, 2) := by decide +kernel
theorem dX13_isIn_9 : decode cX13_isIn 9 = .ok (.lcmp, 1) := by decide +kernel
theorem dX13_isIn_10 : decode cX13_isIn 10 = .ok (.ifCond .gt 7, 3) := by decide +kernel
theorem dX13_isIn_13 : decode cX13_isIn 13 = .ok (.iconst 1, 1) := by decide +kernel
theorem dX13_isIn_14 : decode cX13_isIn 14 = .ok (.goto 4, 3) := by decide +kernel
theorem dX13_isIn_17 : decode cX13_isIn 17 = .ok (.iconst 0, 1) := by decide +kernel
theorem dX13_isIn_18 : decode cX13_isIn 18 = .ok (.ireturn, 1) := by decide +kernel
def m_isIn (g : Nat) (x0 : Int64) (x2 : Int64) (x4 : Int64) : Option Int32 :=
if x0 < x2 then (
  some (0 : Int32)
) else (
  if x4 < x0 then (
    some (0 : Int32)
  ) else (
    some (1 : Int32)
  )
)
section S_isIn
variable {p : Program} {l : Launch} {e : Env} {s : State} {m : MethodId} {args : Array Value} {below : List Frame} {meth : Method} {c : Code} {H : Heap} {locs : List Loc} {ls : Array Slot} {D : va_G} {T : Cy} {ρ : Nat → Nat} {A : Nat → Prop}
set_option maxRecDepth 100000 in
set_option maxHeartbeats 4000000 in
theorem w_isIn_0  {g : Nat} {S : St} {x0 : Int64} {x2 : Int64} {x4 : Int64} (C : CallFix p m c cX13_isIn 6 s args tb RX13) (hr : meth.sig.returnType = (some .boolean)) (hk : meth.locks = false) {r : Int32} (w : Wn Ym D T ρ S A s H locs) (hl : lv_has ls 6 [(0, .long x0), (2, .long x2), (4, .long x4)]) (h : m_isIn g x0 x2 x4 = some r) : W p l e (rmN 0 0) s m args below meth c H locs 0 0 (MQ below (Qi Ym D T ρ A S r) args s 0 0 A) (F0 m 0 ls []) := by
  unfold m_isIn at h
  refine lv_lload_n C.1 C.2.1 dX13_isIn_0 rfl (lv_at hl 0 rfl) ?_
  refine lv_lload_n C.1 C.2.1 dX13_isIn_1 rfl (lv_at hl 1 rfl) ?_
  refine x_l_lt (tgt := 17) C dX13_isIn_2 dX13_isIn_3 (by decide) (fun hc => ?_) (fun hc => ?_)
  · replace h := ift hc h
    refine lv_iconst (v := 0) C.1 C.2.1 dX13_isIn_17 (by decide) ?_
    obtain rfl := som h
    exact x_zret C w hr hk (by decide) dX13_isIn_18
  · replace h := iff0 hc h
    refine lv_lload_n C.1 C.2.1 dX13_isIn_6 rfl (lv_at hl 0 rfl) ?_
    refine lv_lload C.1 C.2.1 dX13_isIn_7 (lv_at hl 2 rfl) ?_
    refine x_l_gt (tgt := 17) C dX13_isIn_9 dX13_isIn_10 (by decide) (fun hc => ?_) (fun hc => ?_)
    · replace h := ift hc h
      refine lv_iconst (v := 0) C.1 C.2.1 dX13_isIn_17 (by decide) ?_
      obtain rfl := som h
      exact x_zret C w hr hk (by decide) dX13_isIn_18
    · replace h := iff0 hc h
      refine lv_iconst (v := 1) C.1 C.2.1 dX13_isIn_13 (by decide) ?_
      refine lv_goto (tgt := 18) C.1 C.2.1 dX13_isIn_14 (by decide) ?_
      obtain rfl := som h
      exact x_zret C w hr hk (by decide) dX13_isIn_18
end S_isIn
set_option maxRecDepth 100000 in
theorem k_isIn (l : Launch) (D : va_G) (T : Cy) (ρ : Nat → Nat) (g sz : Nat) (S : St) {x0 : Int64} {x2 : Int64} {x4 : Int64} {r : Int32} (h : m_isIn g x0 x2 x4 = some r) : Mi l Ym D T ρ yX13_isIn cX13_isIn 6 (some .boolean) 0 0 S S r [.long x0, .long x2, .long x4] sz :=
  x_in (by decide) (Nat.le_of_ble_eq_true rfl) (fun p e s m below meth c ls C hr hk w hl => w_isIn_0 C hr hk w hl h)

theorem dX13_put_0 : decode cX13_put 0 = .ok (.bipush 24, 2) := by decide +kernel
theorem dX13_put_2 : decode cX13_put 2 = .ok (.istore_n 2, 1) := by decide +kernel
theorem dX13_put_3 : decode cX13_put 3 = .ok (.iload_n 2, 1) := by decide +kernel
theorem dX13_put_4 : decode cX13_put 4 = .ok (.ifCond .lt 35, 3) := by decide +kernel
theorem dX13_put_7 : decode cX13_put 7 = .ok (.aload_n 0, 1) := by decide +kernel
theorem dX13_put_8 : decode cX13_put 8 = .ok (.getfield 135, 3) := by decide +kernel
theorem dX13_put_11 : decode cX13_put 11 = .ok (.aload_n 0, 1) := by decide +kernel
theorem dX13_put_12 : decode cX13_put 12 = .ok (.getfield 248, 3) := by decide +kernel
theorem dX13_put_15 : decode cX13_put 15 = .ok (.iload_n 1, 1) := by decide +kernel
theorem dX13_put_16 : decode cX13_put 16 = .ok (.iload_n 2, 1) := by decide +kernel
theorem dX13_put_17 : decode cX13_put 17 = .ok (.ishr, 1) := by decide +kernel
theorem dX13_put_18 : decode cX13_put 18 = .ok (.sipush 255, 3) := by decide +kernel
theorem dX13_put_21 : decode cX13_put 21 = .ok (.iand, 1) := by decide +kernel
theorem dX13_put_22 : decode cX13_put 22 = .ok (.iastore, 1) := by decide +kernel
theorem dX13_put_23 : decode cX13_put 23 = .ok (.aload_n 0, 1) := by decide +kernel
theorem dX13_put_24 : decode cX13_put 24 = .ok (.dup, 1) := by decide +kernel
theorem dX13_put_25 : decode cX13_put 25 = .ok (.getfield 248, 3) := by decide +kernel
theorem dX13_put_28 : decode cX13_put 28 = .ok (.iconst 1, 1) := by decide +kernel
theorem dX13_put_29 : decode cX13_put 29 = .ok (.iadd, 1) := by decide +kernel
theorem dX13_put_30 : decode cX13_put 30 = .ok (.putfield 248, 3) := by decide +kernel
theorem dX13_put_33 : decode cX13_put 33 = .ok (.iinc 2 (-8), 3) := by decide +kernel
theorem dX13_put_36 : decode cX13_put 36 = .ok (.goto (-33), 3) := by decide +kernel
theorem dX13_put_39 : decode cX13_put 39 = .ok (.return_, 1) := by decide +kernel
def b_put_3 (g : Nat) (k3 : St → Int32 → Int32 → Option St) (S : St) (x1 : Int32) (x2 : Int32) : Option St :=
if x2 < 0 then (
  some S
) else (
  (tI S 5 (gI S 0 5) ((x1 >>> (x2 &&& 31)) &&& (255 : Int32))).bind fun S_1 =>
  lt (sI S_1 0 5 ((gI S_1 0 5) + (1 : Int32))) fun S_2 =>
  lt (x2 + (-8 : Int32)) fun x2_3 =>
  k3 S_2 x1 x2_3
)
def m_put_3 (g : Nat) : Nat → St → Int32 → Int32 → Option St
  | 0, _, _, _ => none
  | n + 1, S, x1, x2 => b_put_3 g (m_put_3 g n) S x1 x2
def m_put (g : Nat) (S : St) (x1 : Int32) : Option St :=
m_put_3 g g S x1 (24 : Int32)
section S_put
variable {p : Program} {l : Launch} {e : Env} {s : State} {m : MethodId} {args : Array Value} {below : List Frame} {meth : Method} {c : Code} {H : Heap} {locs : List Loc} {ls : Array Slot} {D : va_G} {T : Cy} {ρ : Nat → Nat} {A : Nat → Prop}
set_option maxRecDepth 100000 in
set_option maxHeartbeats 4000000 in
theorem wb_put_3  {g : Nat} {S : St} {x1 : Int32} {x2 : Int32} (C : CallFix p m c cX13_put 3 s args tb RX13) (hr : meth.sig.returnType = none) (hk : meth.locks = false) {S' : St} {k3 : St → Int32 → Int32 → Option St} (kk3 : ∀ (S : St) (x1 : Int32) (x2 : Int32) (H : Heap) (locs : List Loc) (ls : Array Slot), Wn Ym D T ρ S A s H locs → lv_has ls 3 [(0, .ref (ρ 0)), (1, .int x1), (2, .int x2)] → k3 S x1 x2 = some S' → W p l e (rmN 0 0) s m args below meth c H locs 0 0 (MQ below (Qv Ym D T ρ A S') args s 0 0 A) (F0 m 3 ls [])) (w : Wn Ym D T ρ S A s H locs) (hl : lv_has ls 3 [(0, .ref (ρ 0)), (1, .int x1), (2, .int x2)]) (h : b_put_3 g k3 S x1 x2 = some S') : W p l e (rmN 0 0) s m args below meth c H locs 0 0 (MQ below (Qv Ym D T ρ A S') args s 0 0 A) (F0 m 3 ls []) := by
  unfold b_put_3 at h
  refine lv_iload_n C.1 C.2.1 dX13_put_3 rfl (lv_at hl 2 rfl) ?_
  refine lv_if_lt (tgt := 39) C.1 C.2.1 dX13_put_4 (by decide) (fun hc => ?_) (fun hc => ?_)
  · replace h := ift hc h
    obtain rfl := som h
    exact x_vret C w hr hk dX13_put_39
  · replace h := iff0 hc h
    refine lv_aload_n C.1 C.2.1 dX13_put_7 rfl (lv_at hl 0 rfl) ?_
    refine x_getC C w 5 fM135 obM rfl dX13_put_8 ?_
    refine lv_aload_n C.1 C.2.1 dX13_put_11 rfl (lv_at hl 0 rfl) ?_
    refine x_getI C w fM248 obM dX13_put_12 ?_
    refine lv_iload_n C.1 C.2.1 dX13_put_15 rfl (lv_at hl 1 rfl) ?_
    refine lv_iload_n C.1 C.2.1 dX13_put_16 rfl (lv_at hl 2 rfl) ?_
    refine lv_ishr C.1 C.2.1 dX13_put_17 ?_
    refine lv_sipush (v := 255) C.1 C.2.1 dX13_put_18 (by decide) ?_
    refine lv_iand C.1 C.2.1 dX13_put_21 ?_
    obtain ⟨S_1, hS_1, h⟩ := bnd h
    refine x_iast C w obM5 hS_1 dX13_put_22 (fun H locs w => ?_)
    refine lv_aload_n C.1 C.2.1 dX13_put_23 rfl (lv_at hl 0 rfl) ?_
    refine lv_dup C.1 C.2.1 dX13_put_24 rfl ?_
    refine x_getI C w fM248 obM dX13_put_25 ?_
    refine lv_iconst (v := 1) C.1 C.2.1 dX13_put_28 (by decide) ?_
    refine lv_iadd C.1 C.2.1 dX13_put_29 ?_
    obtain ⟨S_2, eS_2, h⟩ := lt_e h
    refine y_putI C w eS_2 fM248 pM5 obM dX13_put_30 (fun H locs w => ?_)
    obtain ⟨x2_3, ex2_3, h⟩ := lt_e h
    refine lv_iinc (v := x2_3) (lv' := [(2, .int x2_3), (0, .ref (ρ 0)), (1, .int x1)]) C.1 C.2.1 dX13_put_33 hl (k := 2) rfl (by rw [ex2_3]; rfl) (by decide) rfl (fun ls hl => ?_)
    refine lv_goto (tgt := 3) C.1 C.2.1 dX13_put_36 (by decide) ?_
    exact kk3 _ _ _ _ _ _ w (lv_sub hl [1, 2, 0] rfl) h
theorem w_put_3 {g : Nat} (C : CallFix p m c cX13_put 3 s args tb RX13) (hr : meth.sig.returnType = none) (hk : meth.locks = false) {S' : St} (n : Nat) : ∀ (S : St) (x1 : Int32) (x2 : Int32) (H : Heap) (locs : List Loc) (ls : Array Slot), Wn Ym D T ρ S A s H locs → lv_has ls 3 [(0, .ref (ρ 0)), (1, .int x1), (2, .int x2)] → m_put_3 g n S x1 x2 = some S' → W p l e (rmN 0 0) s m args below meth c H locs 0 0 (MQ below (Qv Ym D T ρ A S') args s 0 0 A) (F0 m 3 ls []) := by
  induction n with
  | zero => intro S x1 x2 H locs ls w hl h; exact absurd h (fun q => by cases q)
  | succ n ih => intro S x1 x2 H locs ls w hl h; exact wb_put_3 C hr hk ih w hl h
set_option maxRecDepth 100000 in
set_option maxHeartbeats 4000000 in
theorem w_put_0  {g : Nat} {S : St} {x1 : Int32} (C : CallFix p m c cX13_put 3 s args tb RX13) (hr : meth.sig.returnType = none) (hk : meth.locks = false) {S' : St} (w : Wn Ym D T ρ S A s H locs) (hl : lv_has ls 3 [(0, .ref (ρ 0)), (1, .int x1)]) (h : m_put g S x1 = some S') : W p l e (rmN 0 0) s m args below meth c H locs 0 0 (MQ below (Qv Ym D T ρ A S') args s 0 0 A) (F0 m 0 ls []) := by
  unfold m_put at h
  refine lv_bipush (v := 24) C.1 C.2.1 dX13_put_0 (by decide) ?_
  refine lv_istore_n (lv' := [(2, .int (24 : Int32)), (0, .ref (ρ 0)), (1, .int x1)]) C.1 C.2.1 dX13_put_2 rfl hl (by decide) rfl (fun ls hl => ?_)
  exact w_put_3 C hr hk g _ _ _ _ _ _ w (lv_sub hl [1, 2, 0] rfl) h
end S_put
set_option maxRecDepth 100000 in
theorem k_put (l : Launch) (D : va_G) (T : Cy) (ρ : Nat → Nat) (g sz : Nat) (S : St) {x1 : Int32} {S' : St} (h : m_put g S x1 = some S') : Mv l Ym D T ρ yX13_put cX13_put 3 none 0 0 S S' [.ref (ρ 0), .int x1] sz :=
  x_in (by decide) (Nat.le_of_ble_eq_true rfl) (fun p e s m below meth c ls C hr hk w hl => w_put_0 C hr hk w hl h)

theorem dX13_feed_0 : decode cX13_feed 0 = .ok (.aload_n 0, 1) := by decide +kernel
theorem dX13_feed_1 : decode cX13_feed 1 = .ok (.getfield 248, 3) := by decide +kernel
theorem dX13_feed_4 : decode cX13_feed 4 = .ok (.bipush 20, 2) := by decide +kernel
theorem dX13_feed_6 : decode cX13_feed 6 = .ok (.iadd, 1) := by decide +kernel
theorem dX13_feed_7 : decode cX13_feed 7 = .ok (.sipush 3000, 3) := by decide +kernel
theorem dX13_feed_10 : decode cX13_feed 10 = .ok (.if_icmp .le 5, 3) := by decide +kernel
theorem dX13_feed_13 : decode cX13_feed 13 = .ok (.iconst (-1), 1) := by decide +kernel
theorem dX13_feed_14 : decode cX13_feed 14 = .ok (.ireturn, 1) := by decide +kernel
theorem dX13_feed_15 : decode cX13_feed 15 = .ok (.aload_n 0, 1) := by decide +kernel
theorem dX13_feed_16 : decode cX13_feed 16 = .ok (.iload_n 1, 1) := by decide +kernel
theorem dX13_feed_17 : decode cX13_feed 17 = .ok (.invokevirtual 252, 3) := by decide +kernel
theorem dX13_feed_20 : decode cX13_feed 20 = .ok (.aload_n 0, 1) := by decide +kernel
theorem dX13_feed_21 : decode cX13_feed 21 = .ok (.iload_n 2, 1) := by decide +kernel
theorem dX13_feed_22 : decode cX13_feed 22 = .ok (.invokevirtual 252, 3) := by decide +kernel
theorem dX13_feed_25 : decode cX13_feed 25 = .ok (.aload_n 0, 1) := by decide +kernel
theorem dX13_feed_26 : decode cX13_feed 26 = .ok (.iload_n 3, 1) := by decide +kernel
theorem dX13_feed_27 : decode cX13_feed 27 = .ok (.invokevirtual 252, 3) := by decide +kernel
theorem dX13_feed_30 : decode cX13_feed 30 = .ok (.aload_n 0, 1) := by decide +kernel
theorem dX13_feed_31 : decode cX13_feed 31 = .ok (.iload 4, 2) := by decide +kernel
theorem dX13_feed_33 : decode cX13_feed 33 = .ok (.invokevirtual 252, 3) := by decide +kernel
theorem dX13_feed_36 : decode cX13_feed 36 = .ok (.aload_n 0, 1) := by decide +kernel
theorem dX13_feed_37 : decode cX13_feed 37 = .ok (.iload 5, 2) := by decide +kernel
theorem dX13_feed_39 : decode cX13_feed 39 = .ok (.invokevirtual 252, 3) := by decide +kernel
theorem dX13_feed_42 : decode cX13_feed 42 = .ok (.aload_n 0, 1) := by decide +kernel
theorem dX13_feed_43 : decode cX13_feed 43 = .ok (.getfield 248, 3) := by decide +kernel
theorem dX13_feed_46 : decode cX13_feed 46 = .ok (.ireturn, 1) := by decide +kernel
def m_feed (g : Nat) (S : St) (x1 : Int32) (x2 : Int32) (x3 : Int32) (x4 : Int32) (x5 : Int32) : Option (St × Int32) :=
if ((gI S 0 5) + (20 : Int32)) ≤ (3000 : Int32) then (
  (m_put g S x1).bind fun S_1 =>
  (m_put g S_1 x2).bind fun S_2 =>
  (m_put g S_2 x3).bind fun S_3 =>
  (m_put g S_3 x4).bind fun S_4 =>
  (m_put g S_4 x5).bind fun S_5 =>
  some (S_5, gI S_5 0 5)
) else (
  some (S, (-1 : Int32))
)
section S_feed
variable {p : Program} {l : Launch} {e : Env} {s : State} {m : MethodId} {args : Array Value} {below : List Frame} {meth : Method} {c : Code} {H : Heap} {locs : List Loc} {ls : Array Slot} {D : va_G} {T : Cy} {ρ : Nat → Nat} {A : Nat → Prop}
set_option maxRecDepth 100000 in
set_option maxHeartbeats 4000000 in
theorem w_feed_0  {g : Nat} {S : St} {x1 : Int32} {x2 : Int32} {x3 : Int32} {x4 : Int32} {x5 : Int32} (C : CallFix p m c cX13_feed 6 s args tb RX13) (hr : meth.sig.returnType = (some .int)) (hk : meth.locks = false) {S' : St} {r : Int32} (w : Wn Ym D T ρ S A s H locs) (hl : lv_has ls 6 [(0, .ref (ρ 0)), (1, .int x1), (2, .int x2), (3, .int x3), (4, .int x4), (5, .int x5)]) (h : m_feed g S x1 x2 x3 x4 x5 = some (S', r)) : W p l e (rmN 1 22) s m args below meth c H locs 0 0 (MQ below (Qi Ym D T ρ A S' r) args s 0 0 A) (F0 m 0 ls []) := by
  unfold m_feed at h
  refine lv_aload_n C.1 C.2.1 dX13_feed_0 rfl (lv_at hl 0 rfl) ?_
  refine x_getI C w fM248 obM dX13_feed_1 ?_
  refine lv_bipush (v := 20) C.1 C.2.1 dX13_feed_4 (by decide) ?_
  refine lv_iadd C.1 C.2.1 dX13_feed_6 ?_
  refine lv_sipush (v := 3000) C.1 C.2.1 dX13_feed_7 (by decide) ?_
  refine lv_icmp_le (tgt := 15) C.1 C.2.1 dX13_feed_10 (by decide) (fun hc => ?_) (fun hc => ?_)
  · replace h := ift hc h
    refine lv_aload_n C.1 C.2.1 dX13_feed_15 rfl (lv_at hl 0 rfl) ?_
    refine lv_iload_n C.1 C.2.1 dX13_feed_16 rfl (lv_at hl 1 rfl) ?_
    obtain ⟨S_1, hS_1, h⟩ := bnd h
    refine x_callVv (q := (RX13, TX13, 68)) (As := [.int x1]) (rest := []) C w (k_put l D T ρ g H.size S hS_1) vM252 ⟨by decide, by decide⟩ obM (by decide) rfl rfl rfl hl.1 (Nat.le_of_ble_eq_true rfl) ⟨Nat.zero_le _, Nat.zero_le _⟩ dX13_feed_17 (fun H locs w => ?_)
    refine lv_aload_n C.1 C.2.1 dX13_feed_20 rfl (lv_at hl 0 rfl) ?_
    refine lv_iload_n C.1 C.2.1 dX13_feed_21 rfl (lv_at hl 2 rfl) ?_
    obtain ⟨S_2, hS_2, h⟩ := bnd h
    refine x_callVv (q := (RX13, TX13, 68)) (As := [.int x2]) (rest := []) C w (k_put l D T ρ g H.size S_1 hS_2) vM252 ⟨by decide, by decide⟩ obM (by decide) rfl rfl rfl hl.1 (Nat.le_of_ble_eq_true rfl) ⟨Nat.zero_le _, Nat.zero_le _⟩ dX13_feed_22 (fun H locs w => ?_)
    refine lv_aload_n C.1 C.2.1 dX13_feed_25 rfl (lv_at hl 0 rfl) ?_
    refine lv_iload_n C.1 C.2.1 dX13_feed_26 rfl (lv_at hl 3 rfl) ?_
    obtain ⟨S_3, hS_3, h⟩ := bnd h
    refine x_callVv (q := (RX13, TX13, 68)) (As := [.int x3]) (rest := []) C w (k_put l D T ρ g H.size S_2 hS_3) vM252 ⟨by decide, by decide⟩ obM (by decide) rfl rfl rfl hl.1 (Nat.le_of_ble_eq_true rfl) ⟨Nat.zero_le _, Nat.zero_le _⟩ dX13_feed_27 (fun H locs w => ?_)
    refine lv_aload_n C.1 C.2.1 dX13_feed_30 rfl (lv_at hl 0 rfl) ?_
    refine lv_iload C.1 C.2.1 dX13_feed_31 (lv_at hl 4 rfl) ?_
    obtain ⟨S_4, hS_4, h⟩ := bnd h
    refine x_callVv (q := (RX13, TX13, 68)) (As := [.int x4]) (rest := []) C w (k_put l D T ρ g H.size S_3 hS_4) vM252 ⟨by decide, by decide⟩ obM (by decide) rfl rfl rfl hl.1 (Nat.le_of_ble_eq_true rfl) ⟨Nat.zero_le _, Nat.zero_le _⟩ dX13_feed_33 (fun H locs w => ?_)
    refine lv_aload_n C.1 C.2.1 dX13_feed_36 rfl (lv_at hl 0 rfl) ?_
    refine lv_iload C.1 C.2.1 dX13_feed_37 (lv_at hl 5 rfl) ?_
    obtain ⟨S_5, hS_5, h⟩ := bnd h
    refine x_callVv (q := (RX13, TX13, 68)) (As := [.int x5]) (rest := []) C w (k_put l D T ρ g H.size S_4 hS_5) vM252 ⟨by decide, by decide⟩ obM (by decide) rfl rfl rfl hl.1 (Nat.le_of_ble_eq_true rfl) ⟨Nat.zero_le _, Nat.zero_le _⟩ dX13_feed_39 (fun H locs w => ?_)
    refine lv_aload_n C.1 C.2.1 dX13_feed_42 rfl (lv_at hl 0 rfl) ?_
    refine x_getI C w fM248 obM dX13_feed_43 ?_
    obtain ⟨rfl, rfl⟩ := prI h
    exact x_iret C w hr hk dX13_feed_46
  · replace h := iff0 hc h
    refine lv_iconst (v := (-1)) C.1 C.2.1 dX13_feed_13 (by decide) ?_
    obtain ⟨rfl, rfl⟩ := prI h
    exact x_iret C w hr hk dX13_feed_14
end S_feed
set_option maxRecDepth 100000 in
theorem k_feed (l : Launch) (D : va_G) (T : Cy) (ρ : Nat → Nat) (g sz : Nat) (S : St) {x1 : Int32} {x2 : Int32} {x3 : Int32} {x4 : Int32} {x5 : Int32} {S' : St} {r : Int32} (h : m_feed g S x1 x2 x3 x4 x5 = some (S', r)) : Mi l Ym D T ρ yX13_feed cX13_feed 6 (some .int) 1 22 S S' r [.ref (ρ 0), .int x1, .int x2, .int x3, .int x4, .int x5] sz :=
  x_in (by decide) (Nat.le_of_ble_eq_true rfl) (fun p e s m below meth c ls C hr hk w hl => w_feed_0 C hr hk w hl h)

theorem dX13_cut_0 : decode cX13_cut 0 = .ok (.iload_n 1, 1) := by decide +kernel
theorem dX13_cut_1 : decode cX13_cut 1 = .ok (.ifCond .lt 11, 3) := by decide +kernel
theorem dX13_cut_4 : decode cX13_cut 4 = .ok (.iload_n 1, 1) := by decide +kernel
theorem dX13_cut_5 : decode cX13_cut 5 = .ok (.aload_n 0, 1) := by decide +kernel
theorem dX13_cut_6 : decode cX13_cut 6 = .ok (.getfield 248, 3) := by decide +kernel
theorem dX13_cut_9 : decode cX13_cut 9 = .ok (.if_icmp .le 5, 3) := by decide +kernel
theorem dX13_cut_12 : decode cX13_cut 12 = .ok (.iconst (-1), 1) := by decide +kernel
theorem dX13_cut_13 : decode cX13_cut 13 = .ok (.ireturn, 1) := by decide +kernel
theorem dX13_cut_14 : decode cX13_cut 14 = .ok (.aload_n 0, 1) := by decide +kernel
theorem dX13_cut_15 : decode cX13_cut 15 = .ok (.dup, 1) := by decide +kernel
theorem dX13_cut_16 : decode cX13_cut 16 = .ok (.getfield 248, 3) := by decide +kernel
theorem dX13_cut_19 : decode cX13_cut 19 = .ok (.iload_n 1, 1) := by decide +kernel
theorem dX13_cut_20 : decode cX13_cut 20 = .ok (.isub, 1) := by decide +kernel
theorem dX13_cut_21 : decode cX13_cut 21 = .ok (.putfield 248, 3) := by decide +kernel
theorem dX13_cut_24 : decode cX13_cut 24 = .ok (.aload_n 0, 1) := by decide +kernel
theorem dX13_cut_25 : decode cX13_cut 25 = .ok (.getfield 248, 3) := by decide +kernel
theorem dX13_cut_28 : decode cX13_cut 28 = .ok (.ireturn, 1) := by decide +kernel
def m_cut (g : Nat) (S : St) (x1 : Int32) : Option (St × Int32) :=
if x1 < 0 then (
  some (S, (-1 : Int32))
) else (
  if x1 ≤ (gI S 0 5) then (
    lt (sI S 0 5 ((gI S 0 5) - x1)) fun S_1 =>
    some (S_1, gI S_1 0 5)
  ) else (
    some (S, (-1 : Int32))
  )
)
section S_cut
variable {p : Program} {l : Launch} {e : Env} {s : State} {m : MethodId} {args : Array Value} {below : List Frame} {meth : Method} {c : Code} {H : Heap} {locs : List Loc} {ls : Array Slot} {D : va_G} {T : Cy} {ρ : Nat → Nat} {A : Nat → Prop}
set_option maxRecDepth 100000 in
set_option maxHeartbeats 4000000 in
theorem w_cut_0  {g : Nat} {S : St} {x1 : Int32} (C : CallFix p m c cX13_cut 2 s args tb RX13) (hr : meth.sig.returnType = (some .int)) (hk : meth.locks = false) {S' : St} {r : Int32} (w : Wn Ym D T ρ S A s H locs) (hl : lv_has ls 2 [(0, .ref (ρ 0)), (1, .int x1)]) (h : m_cut g S x1 = some (S', r)) : W p l e (rmN 0 0) s m args below meth c H locs 0 0 (MQ below (Qi Ym D T ρ A S' r) args s 0 0 A) (F0 m 0 ls []) := by
  unfold m_cut at h
  refine lv_iload_n C.1 C.2.1 dX13_cut_0 rfl (lv_at hl 1 rfl) ?_
  refine lv_if_lt (tgt := 12) C.1 C.2.1 dX13_cut_1 (by decide) (fun hc => ?_) (fun hc => ?_)
  · replace h := ift hc h
    refine lv_iconst (v := (-1)) C.1 C.2.1 dX13_cut_12 (by decide) ?_
    obtain ⟨rfl, rfl⟩ := prI h
    exact x_iret C w hr hk dX13_cut_13
  · replace h := iff0 hc h
    refine lv_iload_n C.1 C.2.1 dX13_cut_4 rfl (lv_at hl 1 rfl) ?_
    refine lv_aload_n C.1 C.2.1 dX13_cut_5 rfl (lv_at hl 0 rfl) ?_
    refine x_getI C w fM248 obM dX13_cut_6 ?_
    refine lv_icmp_le (tgt := 14) C.1 C.2.1 dX13_cut_9 (by decide) (fun hc => ?_) (fun hc => ?_)
    · replace h := ift hc h
      refine lv_aload_n C.1 C.2.1 dX13_cut_14 rfl (lv_at hl 0 rfl) ?_
      refine lv_dup C.1 C.2.1 dX13_cut_15 rfl ?_
      refine x_getI C w fM248 obM dX13_cut_16 ?_
      refine lv_iload_n C.1 C.2.1 dX13_cut_19 rfl (lv_at hl 1 rfl) ?_
      refine lv_isub C.1 C.2.1 dX13_cut_20 ?_
      obtain ⟨S_1, eS_1, h⟩ := lt_e h
      refine y_putI C w eS_1 fM248 pM5 obM dX13_cut_21 (fun H locs w => ?_)
      refine lv_aload_n C.1 C.2.1 dX13_cut_24 rfl (lv_at hl 0 rfl) ?_
      refine x_getI C w fM248 obM dX13_cut_25 ?_
      obtain ⟨rfl, rfl⟩ := prI h
      exact x_iret C w hr hk dX13_cut_28
    · replace h := iff0 hc h
      refine lv_iconst (v := (-1)) C.1 C.2.1 dX13_cut_12 (by decide) ?_
      obtain ⟨rfl, rfl⟩ := prI h
      exact x_iret C w hr hk dX13_cut_13
end S_cut
set_option maxRecDepth 100000 in
theorem k_cut (l : Launch) (D : va_G) (T : Cy) (ρ : Nat → Nat) (g sz : Nat) (S : St) {x1 : Int32} {S' : St} {r : Int32} (h : m_cut g S x1 = some (S', r)) : Mi l Ym D T ρ yX13_cut cX13_cut 2 (some .int) 0 0 S S' r [.ref (ρ 0), .int x1] sz :=
  x_in (by decide) (Nat.le_of_ble_eq_true rfl) (fun p e s m below meth c ls C hr hk w hl => w_cut_0 C hr hk w hl h)

theorem dX13_isLineEnd_0 : decode cX13_isLineEnd 0 = .ok (.iload_n 1, 1) := by decide +kernel
theorem dX13_isLineEnd_1 : decode cX13_isLineEnd 1 = .ok (.aload_n 0, 1) := by decide +kernel
theorem dX13_isLineEnd_2 : decode cX13_isLineEnd 2 = .ok (.getfield 248, 3) := by decide +kernel
theorem dX13_isLineEnd_5 : decode cX13_isLineEnd 5 = .ok (.if_icmp .ge 14, 3) := by decide +kernel
theorem dX13_isLineEnd_8 : decode cX13_isLineEnd 8 = .ok (.aload_n 0, 1) := by decide +kernel
theorem dX13_isLineEnd_9 : decode cX13_isLineEnd 9 = .ok (.getfield 135, 3) := by decide +kernel
theorem dX13_isLineEnd_12 : decode cX13_isLineEnd 12 = .ok (.iload_n 1, 1) := by decide +kernel
theorem dX13_isLineEnd_13 : decode cX13_isLineEnd 13 = .ok (.iaload, 1) := by decide +kernel
theorem dX13_isLineEnd_14 : decode cX13_isLineEnd 14 = .ok (.bipush 10, 2) := by decide +kernel
theorem dX13_isLineEnd_16 : decode cX13_isLineEnd 16 = .ok (.if_icmp .ne 7, 3) := by decide +kernel
theorem dX13_isLineEnd_19 : decode cX13_isLineEnd 19 = .ok (.iconst 1, 1) := by decide +kernel
theorem dX13_isLineEnd_20 : decode cX13_isLineEnd 20 = .ok (.goto 4, 3) := by decide +kernel
theorem dX13_isLineEnd_23 : decode cX13_isLineEnd 23 = .ok (.iconst 0, 1) := by decide +kernel
theorem dX13_isLineEnd_24 : decode cX13_isLineEnd 24 = .ok (.ireturn, 1) := by decide +kernel
def m_isLineEnd (g : Nat) (S : St) (x1 : Int32) : Option Int32 :=
if (gI S 0 5) ≤ x1 then (
  some (1 : Int32)
) else (
  (aI S 5 x1).bind fun v_1 =>
  if v_1 = (10 : Int32) then (
    some (1 : Int32)
  ) else (
    some (0 : Int32)
  )
)
section S_isLineEnd
variable {p : Program} {l : Launch} {e : Env} {s : State} {m : MethodId} {args : Array Value} {below : List Frame} {meth : Method} {c : Code} {H : Heap} {locs : List Loc} {ls : Array Slot} {D : va_G} {T : Cy} {ρ : Nat → Nat} {A : Nat → Prop}
set_option maxRecDepth 100000 in
set_option maxHeartbeats 4000000 in
theorem w_isLineEnd_0  {g : Nat} {S : St} {x1 : Int32} (C : CallFix p m c cX13_isLineEnd 2 s args tb RX13) (hr : meth.sig.returnType = (some .boolean)) (hk : meth.locks = false) {r : Int32} (w : Wn Ym D T ρ S A s H locs) (hl : lv_has ls 2 [(0, .ref (ρ 0)), (1, .int x1)]) (h : m_isLineEnd g S x1 = some r) : W p l e (rmN 0 0) s m args below meth c H locs 0 0 (MQ below (Qi Ym D T ρ A S r) args s 0 0 A) (F0 m 0 ls []) := by
  unfold m_isLineEnd at h
  refine lv_iload_n C.1 C.2.1 dX13_isLineEnd_0 rfl (lv_at hl 1 rfl) ?_
  refine lv_aload_n C.1 C.2.1 dX13_isLineEnd_1 rfl (lv_at hl 0 rfl) ?_
  refine x_getI C w fM248 obM dX13_isLineEnd_2 ?_
  refine lv_icmp_ge (tgt := 19) C.1 C.2.1 dX13_isLineEnd_5 (by decide) (fun hc => ?_) (fun hc => ?_)
  · replace h := ift hc h
    refine lv_iconst (v := 1) C.1 C.2.1 dX13_isLineEnd_19 (by decide) ?_
    refine lv_goto (tgt := 24) C.1 C.2.1 dX13_isLineEnd_20 (by decide) ?_
    obtain rfl := som h
    exact x_zret C w hr hk (by decide) dX13_isLineEnd_24
  · replace h := iff0 hc h
    refine lv_aload_n C.1 C.2.1 dX13_isLineEnd_8 rfl (lv_at hl 0 rfl) ?_
    refine x_getC C w 5 fM135 obM rfl dX13_isLineEnd_9 ?_
    refine lv_iload_n C.1 C.2.1 dX13_isLineEnd_12 rfl (lv_at hl 1 rfl) ?_
    obtain ⟨v_1, hv_1, h⟩ := bnd h
    refine x_iald C w obM5 hv_1 dX13_isLineEnd_13 ?_
    refine lv_bipush (v := 10) C.1 C.2.1 dX13_isLineEnd_14 (by decide) ?_
    refine lv_icmp_ne (tgt := 23) C.1 C.2.1 dX13_isLineEnd_16 (by decide) (fun hc => ?_) (fun hc => ?_)
    · replace h := iff0 hc h
      refine lv_iconst (v := 0) C.1 C.2.1 dX13_isLineEnd_23 (by decide) ?_
      obtain rfl := som h
      exact x_zret C w hr hk (by decide) dX13_isLineEnd_24
    · replace h := ift hc h
      refine lv_iconst (v := 1) C.1 C.2.1 dX13_isLineEnd_19 (by decide) ?_
      refine lv_goto (tgt := 24) C.1 C.2.1 dX13_isLineEnd_20 (by decide) ?_
      obtain rfl := som h
      exact x_zret C w hr hk (by decide) dX13_isLineEnd_24
end S_isLineEnd
set_option maxRecDepth 100000 in
theorem k_isLineEnd (l : Launch) (D : va_G) (T : Cy) (ρ : Nat → Nat) (g sz : Nat) (S : St) {x1 : Int32} {r : Int32} (h : m_isLineEnd g S x1 = some r) : Mi l Ym D T ρ yX13_isLineEnd cX13_isLineEnd 2 (some .boolean) 0 0 S S r [.ref (ρ 0), .int x1] sz :=
  x_in (by decide) (Nat.le_of_ble_eq_true rfl) (fun p e s m below meth c ls C hr hk w hl => w_isLineEnd_0 C hr hk w hl h)

theorem dX13_four_0 : decode cX13_four 0 = .ok (.iconst 0, 1) := by decide +kernel
theorem dX13_four_1 : decode cX13_four 1 = .ok (.istore_n 1, 1) := by decide +kernel
theorem dX13_four_2 : decode cX13_four 2 = .ok (.iconst 0, 1) := by decide +kernel
theorem dX13_four_3 : decode cX13_four 3 = .ok (.istore_n 2, 1) := by decide +kernel
theorem dX13_four_4 : decode cX13_four 4 = .ok (.iload_n 2, 1) := by decide +kernel
theorem dX13_four_5 : decode cX13_four 5 = .ok (.iconst 4, 1) := by decide +kernel
theorem dX13_four_6 : decode cX13_four 6 = .ok (.if_icmp .ge 125, 3) := by decide +kernel
theorem dX13_four_9 : decode cX13_four 9 = .ok (.aload_n 0, 1) := by decide +kernel
theorem dX13_four_10 : decode cX13_four 10 = .ok (.aload_n 0, 1) := by decide +kernel
theorem dX13_four_11 : decode cX13_four 11 = .ok (.getfield 255, 3) := by decide +kernel
theorem dX13_four_14 : decode cX13_four 14 = .ok (.invokevirtual 258, 3) := by decide +kernel
theorem dX13_four_17 : decode cX13_four 17 = .ok (.ifCond .eq 7, 3) := by decide +kernel
theorem dX13_four_20 : decode cX13_four 20 = .ok (.iconst 0, 1) := by decide +kernel
theorem dX13_four_21 : decode cX13_four 21 = .ok (.goto 12, 3) := by decide +kernel
theorem dX13_four_24 : decode cX13_four 24 = .ok (.aload_n 0, 1) := by decide +kernel
theorem dX13_four_25 : decode cX13_four 25 = .ok (.getfield 135, 3) := by decide +kernel
theorem dX13_four_28 : decode cX13_four 28 = .ok (.aload_n 0, 1) := by decide +kernel
theorem dX13_four_29 : decode cX13_four 29 = .ok (.getfield 255, 3) := by decide +kernel
theorem dX13_four_32 : decode cX13_four 32 = .ok (.iaload, 1) := by decide +kernel
theorem dX13_four_33 : decode cX13_four 33 = .ok (.istore_n 3, 1) := by decide +kernel
theorem dX13_four_34 : decode cX13_four 34 = .ok (.iload_n 3, 1) := by decide +kernel
theorem dX13_four_35 : decode cX13_four 35 = .ok (.bipush 48, 2) := by decide +kernel
theorem dX13_four_37 : decode cX13_four 37 = .ok (.if_icmp .lt 16, 3) := by decide +kernel
theorem dX13_four_40 : decode cX13_four 40 = .ok (.iload_n 3, 1) := by decide +kernel
theorem dX13_four_41 : decode cX13_four 41 = .ok (.bipush 57, 2) := by decide +kernel
theorem dX13_four_43 : decode cX13_four 43 = .ok (.if_icmp .gt 10, 3) := by decide +kernel
theorem dX13_four_46 : decode cX13_four 46 = .ok (.iload_n 3, 1) := by decide +kernel
theorem dX13_four_47 : decode cX13_four 47 = .ok (.bipush 48, 2) := by decide +kernel
theorem dX13_four_49 : decode cX13_four 49 = .ok (.isub, 1) := by decide +kernel
theorem dX13_four_50 : decode cX13_four 50 = .ok (.goto 48, 3) := by decide +kernel
theorem dX13_four_53 : decode cX13_four 53 = .ok (.iload_n 3, 1) := by decide +kernel
theorem dX13_four_54 : decode cX13_four 54 = .ok (.bipush 97, 2) := by decide +kernel
theorem dX13_four_56 : decode cX13_four 56 = .ok (.if_icmp .lt 19, 3) := by decide +kernel
theorem dX13_four_59 : decode cX13_four 59 = .ok (.iload_n 3, 1) := by decide +kernel
theorem dX13_four_60 : decode cX13_four 60 = .ok (.bipush 102, 2) := by decide +kernel
theorem dX13_four_62 : decode cX13_four 62 = .ok (.if_icmp .gt 13, 3) := by decide +kernel
theorem dX13_four_65 : decode cX13_four 65 = .ok (.iload_n 3, 1) := by decide +kernel
theorem dX13_four_66 : decode cX13_four 66 = .ok (.bipush 97, 2) := by decide +kernel
theorem dX13_four_68 : decode cX13_four 68 = .ok (.isub, 1) := by decide +kernel
theorem dX13_four_69 : decode cX13_four 69 = .ok (.bipush 10, 2) := by decide +kernel
theorem dX13_four_71 : decode cX13_four 71 = .ok (.iadd, 1) := by decide +kernel
theorem dX13_four_72 : decode cX13_four 72 = .ok (.goto 26, 3) := by decide +kernel
theorem dX13_four_75 : decode cX13_four 75 = .ok (.iload_n 3, 1) := by decide +kernel
theorem dX13_four_76 : decode cX13_four 76 = .ok (.bipush 65, 2) := by decide +kernel
theorem dX13_four_78 : decode cX13_four 78 = .ok (.if_icmp .lt 19, 3) := by decide +kernel
theorem dX13_four_81 : decode cX13_four 81 = .ok (.iload_n 3, 1) := by decide +kernel
theorem dX13_four_82 : decode cX13_four 82 = .ok (.bipush 70, 2) := by decide +kernel
theorem dX13_four_84 : decode cX13_four 84 = .ok (.if_icmp .gt 13, 3) := by decide +kernel
theorem dX13_four_87 : decode cX13_four 87 = .ok (.iload_n 3, 1) := by decide +kernel
theorem dX13_four_88 : decode cX13_four 88 = .ok (.bipush 65, 2) := by decide +kernel
theorem dX13_four_90 : decode cX13_four 90 = .ok (.isub, 1) := by decide +kernel
theorem dX13_four_91 : decode cX13_four 91 = .ok (.bipush 10, 2) := by decide +kernel
theorem dX13_four_93 : decode cX13_four 93 = .ok (.iadd, 1) := by decide +kernel
theorem dX13_four_94 : decode cX13_four 94 = .ok (.goto 4, 3) := by decide +kernel
theorem dX13_four_97 : decode cX13_four 97 = .ok (.iconst (-1), 1) := by decide +kernel
theorem dX13_four_98 : decode cX13_four 98 = .ok (.istore 4, 2) := by decide +kernel
theorem dX13_four_100 : decode cX13_four 100 = .ok (.iload 4, 2) := by decide +kernel
theorem dX13_four_102 : decode cX13_four 102 = .ok (.ifCond .ge 5, 3) := by decide +kernel
theorem dX13_four_105 : decode cX13_four 105 = .ok (.iconst (-1), 1) := by decide +kernel
theorem dX13_four_106 : decode cX13_four 106 = .ok (.ireturn, 1) := by decide +kernel
theorem dX13_four_107 : decode cX13_four 107 = .ok (.bipush 16, 2) := by decide +kernel
theorem dX13_four_109 : decode cX13_four 109 = .ok (.iload_n 1, 1) := by decide +kernel
theorem dX13_four_110 : decode cX13_four 110 = .ok (.imul, 1) := by decide +kernel
theorem dX13_four_111 : decode cX13_four 111 = .ok (.iload 4, 2) := by decide +kernel
theorem dX13_four_113 : decode cX13_four 113 = .ok (.iadd, 1) := by decide +kernel
theorem dX13_four_114 : decode cX13_four 114 = .ok (.istore_n 1, 1) := by decide +kernel
theorem dX13_four_115 : decode cX13_four 115 = .ok (.aload_n 0, 1) := by decide +kernel
theorem dX13_four_116 : decode cX13_four 116 = .ok (.dup, 1) := by decide +kernel
theorem dX13_four_117 : decode cX13_four 117 = .ok (.getfield 255, 3) := by decide +kernel
theorem dX13_four_120 : decode cX13_four 120 = .ok (.iconst 1, 1) := by decide +kernel
theorem dX13_four_121 : decode cX13_four 121 = .ok (.iadd, 1) := by decide +kernel
theorem dX13_four_122 : decode cX13_four 122 = .ok (.putfield 255, 3) := by decide +kernel
theorem dX13_four_125 : decode cX13_four 125 = .ok (.iinc 2 1, 3) := by decide +kernel
theorem dX13_four_128 : decode cX13_four 128 = .ok (.goto (-124), 3) := by decide +kernel
theorem dX13_four_131 : decode cX13_four 131 = .ok (.iload_n 1, 1) := by decide +kernel
theorem dX13_four_132 : decode cX13_four 132 = .ok (.ireturn, 1) := by decide +kernel
def m_four_98 (g : Nat) (k4 : St → Int32 → Int32 → Option (St × Int32)) (S : St) (x1 : Int32) (x2 : Int32) (y0 : Int32) : Option (St × Int32) :=
if 0 ≤ y0 then (
  lt (((16 : Int32) * x1) + y0) fun x1_3 =>
  lt (sI S 0 18 ((gI S 0 18) + (1 : Int32))) fun S_4 =>
  lt (x2 + (1 : Int32)) fun x2_5 =>
  k4 S_4 x1_3 x2_5
) else (
  some (S, (-1 : Int32))
)
def m_four_97 (g : Nat) (k4 : St → Int32 → Int32 → Option (St × Int32)) (S : St) (x1 : Int32) (x2 : Int32) : Option (St × Int32) :=
m_four_98 g k4 S x1 x2 (-1 : Int32)
def m_four_75 (g : Nat) (k4 : St → Int32 → Int32 → Option (St × Int32)) (S : St) (x1 : Int32) (x2 : Int32) (x3 : Int32) : Option (St × Int32) :=
if x3 < (65 : Int32) then (
  m_four_97 g k4 S x1 x2
) else (
  if (70 : Int32) < x3 then (
    m_four_97 g k4 S x1 x2
  ) else (
    m_four_98 g k4 S x1 x2 ((x3 - (65 : Int32)) + (10 : Int32))
  )
)
def m_four_53 (g : Nat) (k4 : St → Int32 → Int32 → Option (St × Int32)) (S : St) (x1 : Int32) (x2 : Int32) (x3 : Int32) : Option (St × Int32) :=
if x3 < (97 : Int32) then (
  m_four_75 g k4 S x1 x2 x3
) else (
  if (102 : Int32) < x3 then (
    m_four_75 g k4 S x1 x2 x3
  ) else (
    m_four_98 g k4 S x1 x2 ((x3 - (97 : Int32)) + (10 : Int32))
  )
)
def m_four_33 (g : Nat) (k4 : St → Int32 → Int32 → Option (St × Int32)) (S : St) (x1 : Int32) (x2 : Int32) (y0 : Int32) : Option (St × Int32) :=
if y0 < (48 : Int32) then (
  m_four_53 g k4 S x1 x2 y0
) else (
  if (57 : Int32) < y0 then (
    m_four_53 g k4 S x1 x2 y0
  ) else (
    m_four_98 g k4 S x1 x2 (y0 - (48 : Int32))
  )
)
def b_four_4 (g : Nat) (k4 : St → Int32 → Int32 → Option (St × Int32)) (S : St) (x1 : Int32) (x2 : Int32) : Option (St × Int32) :=
if (4 : Int32) ≤ x2 then (
  some (S, x1)
) else (
  (m_isLineEnd g S (gI S 0 18)).bind fun v_1 =>
  if v_1 = 0 then (
    (aI S 5 (gI S 0 18)).bind fun v_2 =>
    m_four_33 g k4 S x1 x2 v_2
  ) else (
    m_four_33 g k4 S x1 x2 (0 : Int32)
  )
)
def m_four_4 (g : Nat) : Nat → St → Int32 → Int32 → Option (St × Int32)
  | 0, _, _, _ => none
  | n + 1, S, x1, x2 => b_four_4 g (m_four_4 g n) S x1 x2
def m_four (g : Nat) (S : St) : Option (St × Int32) :=
m_four_4 g g S (0 : Int32) (0 : Int32)
section S_four
variable {p : Program} {l : Launch} {e : Env} {s : State} {m : MethodId} {args : Array Value} {below : List Frame} {meth : Method} {c : Code} {H : Heap} {locs : List Loc} {ls : Array Slot} {D : va_G} {T : Cy} {ρ : Nat → Nat} {A : Nat → Prop}
set_option maxRecDepth 100000 in
set_option maxHeartbeats 4000000 in
theorem w_four_98  {g : Nat} {S : St} {x1 : Int32} {x2 : Int32} {y0 : Int32} (C : CallFix p m c cX13_four 5 s args tb RX13) (hr : meth.sig.returnType = (some .int)) (hk : meth.locks = false) {S' : St} {r : Int32} {k4 : St → Int32 → Int32 → Option (St × Int32)} (kk4 : ∀ (S : St) (x1 : Int32) (x2 : Int32) (H : Heap) (locs : List Loc) (ls : Array Slot), Wn Ym D T ρ S A s H locs → lv_has ls 5 [(0, .ref (ρ 0)), (1, .int x1), (2, .int x2)] → k4 S x1 x2 = some (S', r) → W p l e (rmN 1 21) s m args below meth c H locs 0 0 (MQ below (Qi Ym D T ρ A S' r) args s 0 0 A) (F0 m 4 ls [])) (w : Wn Ym D T ρ S A s H locs) (hl : lv_has ls 5 [(0, .ref (ρ 0)), (1, .int x1), (2, .int x2)]) (h : m_four_98 g k4 S x1 x2 y0 = some (S', r)) : W p l e (rmN 1 21) s m args below meth c H locs 0 0 (MQ below (Qi Ym D T ρ A S' r) args s 0 0 A) (F0 m 98 ls [.int y0]) := by
  unfold m_four_98 at h
  refine lv_istore (lv' := [(4, .int y0), (0, .ref (ρ 0)), (1, .int x1), (2, .int x2)]) C.1 C.2.1 dX13_four_98 hl (by decide) rfl (fun ls hl => ?_)
  refine lv_iload C.1 C.2.1 dX13_four_100 (lv_at hl 0 rfl) ?_
  refine lv_if_ge (tgt := 107) C.1 C.2.1 dX13_four_102 (by decide) (fun hc => ?_) (fun hc => ?_)
  · replace h := ift hc h
    refine lv_bipush (v := 16) C.1 C.2.1 dX13_four_107 (by decide) ?_
    refine lv_iload_n C.1 C.2.1 dX13_four_109 rfl (lv_at hl 2 rfl) ?_
    refine lv_imul C.1 C.2.1 dX13_four_110 ?_
    refine lv_iload C.1 C.2.1 dX13_four_111 (lv_at hl 0 rfl) ?_
    refine lv_iadd C.1 C.2.1 dX13_four_113 ?_
    obtain ⟨x1_3, ex1_3, h⟩ := lt_e h
    refine x_nm ex1_3 ?_
    refine lv_istore_n (lv' := [(1, .int x1_3), (4, .int y0), (0, .ref (ρ 0)), (2, .int x2)]) C.1 C.2.1 dX13_four_114 rfl hl (by decide) rfl (fun ls hl => ?_)
    refine lv_aload_n C.1 C.2.1 dX13_four_115 rfl (lv_at hl 2 rfl) ?_
    refine lv_dup C.1 C.2.1 dX13_four_116 rfl ?_
    refine x_getI C w fM255 obM dX13_four_117 ?_
    refine lv_iconst (v := 1) C.1 C.2.1 dX13_four_120 (by decide) ?_
    refine lv_iadd C.1 C.2.1 dX13_four_121 ?_
    obtain ⟨S_4, eS_4, h⟩ := lt_e h
    refine y_putI C w eS_4 fM255 pM18 obM dX13_four_122 (fun H locs w => ?_)
    obtain ⟨x2_5, ex2_5, h⟩ := lt_e h
    refine lv_iinc (v := x2_5) (lv' := [(2, .int x2_5), (1, .int x1_3), (4, .int y0), (0, .ref (ρ 0))]) C.1 C.2.1 dX13_four_125 hl (k := 3) rfl (by rw [ex2_5]; rfl) (by decide) rfl (fun ls hl => ?_)
    refine lv_goto (tgt := 4) C.1 C.2.1 dX13_four_128 (by decide) ?_
    exact kk4 _ _ _ _ _ _ w (lv_sub hl [3, 1, 0] rfl) h
  · replace h := iff0 hc h
    refine lv_iconst (v := (-1)) C.1 C.2.1 dX13_four_105 (by decide) ?_
    obtain ⟨rfl, rfl⟩ := prI h
    exact x_iret C w hr hk dX13_four_106
set_option maxRecDepth 100000 in
set_option maxHeartbeats 4000000 in
theorem w_four_97  {g : Nat} {S : St} {x1 : Int32} {x2 : Int32} (C : CallFix p m c cX13_four 5 s args tb RX13) (hr : meth.sig.returnType = (some .int)) (hk : meth.locks = false) {S' : St} {r : Int32} {k4 : St → Int32 → Int32 → Option (St × Int32)} (kk4 : ∀ (S : St) (x1 : Int32) (x2 : Int32) (H : Heap) (locs : List Loc) (ls : Array Slot), Wn Ym D T ρ S A s H locs → lv_has ls 5 [(0, .ref (ρ 0)), (1, .int x1), (2, .int x2)] → k4 S x1 x2 = some (S', r) → W p l e (rmN 1 21) s m args below meth c H locs 0 0 (MQ below (Qi Ym D T ρ A S' r) args s 0 0 A) (F0 m 4 ls [])) (w : Wn Ym D T ρ S A s H locs) (hl : lv_has ls 5 [(0, .ref (ρ 0)), (1, .int x1), (2, .int x2)]) (h : m_four_97 g k4 S x1 x2 = some (S', r)) : W p l e (rmN 1 21) s m args below meth c H locs 0 0 (MQ below (Qi Ym D T ρ A S' r) args s 0 0 A) (F0 m 97 ls []) := by
  unfold m_four_97 at h
  refine lv_iconst (v := (-1)) C.1 C.2.1 dX13_four_97 (by decide) ?_
  exact w_four_98 C hr hk kk4 w (lv_sub hl [0, 1, 2] rfl) h
set_option maxRecDepth 100000 in
set_option maxHeartbeats 4000000 in
theorem w_four_75  {g : Nat} {S : St} {x1 : Int32} {x2 : Int32} {x3 : Int32} (C : CallFix p m c cX13_four 5 s args tb RX13) (hr : meth.sig.returnType = (some .int)) (hk : meth.locks = false) {S' : St} {r : Int32} {k4 : St → Int32 → Int32 → Option (St × Int32)} (kk4 : ∀ (S : St) (x1 : Int32) (x2 : Int32) (H : Heap) (locs : List Loc) (ls : Array Slot), Wn Ym D T ρ S A s H locs → lv_has ls 5 [(0, .ref (ρ 0)), (1, .int x1), (2, .int x2)] → k4 S x1 x2 = some (S', r) → W p l e (rmN 1 21) s m args below meth c H locs 0 0 (MQ below (Qi Ym D T ρ A S' r) args s 0 0 A) (F0 m 4 ls [])) (w : Wn Ym D T ρ S A s H locs) (hl : lv_has ls 5 [(0, .ref (ρ 0)), (1, .int x1), (2, .int x2), (3, .int x3)]) (h : m_four_75 g k4 S x1 x2 x3 = some (S', r)) : W p l e (rmN 1 21) s m args below meth c H locs 0 0 (MQ below (Qi Ym D T ρ A S' r) args s 0 0 A) (F0 m 75 ls []) := by
  unfold m_four_75 at h
  refine lv_iload_n C.1 C.2.1 dX13_four_75 rfl (lv_at hl 3 rfl) ?_
  refine lv_bipush (v := 65) C.1 C.2.1 dX13_four_76 (by decide) ?_
  refine lv_icmp_lt (tgt := 97) C.1 C.2.1 dX13_four_78 (by decide) (fun hc => ?_) (fun hc => ?_)
  · replace h := ift hc h
    exact w_four_97 C hr hk kk4 w (lv_sub hl [0, 1, 2] rfl) h
  · replace h := iff0 hc h
    refine lv_iload_n C.1 C.2.1 dX13_four_81 rfl (lv_at hl 3 rfl) ?_
    refine lv_bipush (v := 70) C.1 C.2.1 dX13_four_82 (by decide) ?_
    refine lv_icmp_gt (tgt := 97) C.1 C.2.1 dX13_four_84 (by decide) (fun hc => ?_) (fun hc => ?_)
    · replace h := ift hc h
      exact w_four_97 C hr hk kk4 w (lv_sub hl [0, 1, 2] rfl) h
    · replace h := iff0 hc h
      refine lv_iload_n C.1 C.2.1 dX13_four_87 rfl (lv_at hl 3 rfl) ?_
      refine lv_bipush (v := 65) C.1 C.2.1 dX13_four_88 (by decide) ?_
      refine lv_isub C.1 C.2.1 dX13_four_90 ?_
      refine lv_bipush (v := 10) C.1 C.2.1 dX13_four_91 (by decide) ?_
      refine lv_iadd C.1 C.2.1 dX13_four_93 ?_
      refine lv_goto (tgt := 98) C.1 C.2.1 dX13_four_94 (by decide) ?_
      exact w_four_98 C hr hk kk4 w (lv_sub hl [0, 1, 2] rfl) h
set_option maxRecDepth 100000 in
set_option maxHeartbeats 4000000 in
theorem w_four_53  {g : Nat} {S : St} {x1 : Int32} {x2 : Int32} {x3 : Int32} (C : CallFix p m c cX13_four 5 s args tb RX13) (hr : meth.sig.returnType = (some .int)) (hk : meth.locks = false) {S' : St} {r : Int32} {k4 : St → Int32 → Int32 → Option (St × Int32)} (kk4 : ∀ (S : St) (x1 : Int32) (x2 : Int32) (H : Heap) (locs : List Loc) (ls : Array Slot), Wn Ym D T ρ S A s H locs → lv_has ls 5 [(0, .ref (ρ 0)), (1, .int x1), (2, .int x2)] → k4 S x1 x2 = some (S', r) → W p l e (rmN 1 21) s m args below meth c H locs 0 0 (MQ below (Qi Ym D T ρ A S' r) args s 0 0 A) (F0 m 4 ls [])) (w : Wn Ym D T ρ S A s H locs) (hl : lv_has ls 5 [(0, .ref (ρ 0)), (1, .int x1), (2, .int x2), (3, .int x3)]) (h : m_four_53 g k4 S x1 x2 x3 = some (S', r)) : W p l e (rmN 1 21) s m args below meth c H locs 0 0 (MQ below (Qi Ym D T ρ A S' r) args s 0 0 A) (F0 m 53 ls []) := by
  unfold m_four_53 at h
  refine lv_iload_n C.1 C.2.1 dX13_four_53 rfl (lv_at hl 3 rfl) ?_
  refine lv_bipush (v := 97) C.1 C.2.1 dX13_four_54 (by decide) ?_
  refine lv_icmp_lt (tgt := 75) C.1 C.2.1 dX13_four_56 (by decide) (fun hc => ?_) (fun hc => ?_)
  · replace h := ift hc h
    exact w_four_75 C hr hk kk4 w (lv_sub hl [0, 1, 2, 3] rfl) h
  · replace h := iff0 hc h
    refine lv_iload_n C.1 C.2.1 dX13_four_59 rfl (lv_at hl 3 rfl) ?_
    refine lv_bipush (v := 102) C.1 C.2.1 dX13_four_60 (by decide) ?_
    refine lv_icmp_gt (tgt := 75) C.1 C.2.1 dX13_four_62 (by decide) (fun hc => ?_) (fun hc => ?_)
    · replace h := ift hc h
      exact w_four_75 C hr hk kk4 w (lv_sub hl [0, 1, 2, 3] rfl) h
    · replace h := iff0 hc h
      refine lv_iload_n C.1 C.2.1 dX13_four_65 rfl (lv_at hl 3 rfl) ?_
      refine lv_bipush (v := 97) C.1 C.2.1 dX13_four_66 (by decide) ?_
      refine lv_isub C.1 C.2.1 dX13_four_68 ?_
      refine lv_bipush (v := 10) C.1 C.2.1 dX13_four_69 (by decide) ?_
      refine lv_iadd C.1 C.2.1 dX13_four_71 ?_
      refine lv_goto (tgt := 98) C.1 C.2.1 dX13_four_72 (by decide) ?_
      exact w_four_98 C hr hk kk4 w (lv_sub hl [0, 1, 2] rfl) h
set_option maxRecDepth 100000 in
set_option maxHeartbeats 4000000 in
theorem w_four_33  {g : Nat} {S : St} {x1 : Int32} {x2 : Int32} {y0 : Int32} (C : CallFix p m c cX13_four 5 s args tb RX13) (hr : meth.sig.returnType = (some .int)) (hk : meth.locks = false) {S' : St} {r : Int32} {k4 : St → Int32 → Int32 → Option (St × Int32)} (kk4 : ∀ (S : St) (x1 : Int32) (x2 : Int32) (H : Heap) (locs : List Loc) (ls : Array Slot), Wn Ym D T ρ S A s H locs → lv_has ls 5 [(0, .ref (ρ 0)), (1, .int x1), (2, .int x2)] → k4 S x1 x2 = some (S', r) → W p l e (rmN 1 21) s m args below meth c H locs 0 0 (MQ below (Qi Ym D T ρ A S' r) args s 0 0 A) (F0 m 4 ls [])) (w : Wn Ym D T ρ S A s H locs) (hl : lv_has ls 5 [(0, .ref (ρ 0)), (1, .int x1), (2, .int x2)]) (h : m_four_33 g k4 S x1 x2 y0 = some (S', r)) : W p l e (rmN 1 21) s m args below meth c H locs 0 0 (MQ below (Qi Ym D T ρ A S' r) args s 0 0 A) (F0 m 33 ls [.int y0]) := by
  unfold m_four_33 at h
  refine lv_istore_n (lv' := [(3, .int y0), (0, .ref (ρ 0)), (1, .int x1), (2, .int x2)]) C.1 C.2.1 dX13_four_33 rfl hl (by decide) rfl (fun ls hl => ?_)
  refine lv_iload_n C.1 C.2.1 dX13_four_34 rfl (lv_at hl 0 rfl) ?_
  refine lv_bipush (v := 48) C.1 C.2.1 dX13_four_35 (by decide) ?_
  refine lv_icmp_lt (tgt := 53) C.1 C.2.1 dX13_four_37 (by decide) (fun hc => ?_) (fun hc => ?_)
  · replace h := ift hc h
    exact w_four_53 C hr hk kk4 w (lv_sub hl [1, 2, 3, 0] rfl) h
  · replace h := iff0 hc h
    refine lv_iload_n C.1 C.2.1 dX13_four_40 rfl (lv_at hl 0 rfl) ?_
    refine lv_bipush (v := 57) C.1 C.2.1 dX13_four_41 (by decide) ?_
    refine lv_icmp_gt (tgt := 53) C.1 C.2.1 dX13_four_43 (by decide) (fun hc => ?_) (fun hc => ?_)
    · replace h := ift hc h
      exact w_four_53 C hr hk kk4 w (lv_sub hl [1, 2, 3, 0] rfl) h
    · replace h := iff0 hc h
      refine lv_iload_n C.1 C.2.1 dX13_four_46 rfl (lv_at hl 0 rfl) ?_
      refine lv_bipush (v := 48) C.1 C.2.1 dX13_four_47 (by decide) ?_
      refine lv_isub C.1 C.2.1 dX13_four_49 ?_
      refine lv_goto (tgt := 98) C.1 C.2.1 dX13_four_50 (by decide) ?_
      exact w_four_98 C hr hk kk4 w (lv_sub hl [1, 2, 3] rfl) h
set_option maxRecDepth 100000 in
set_option maxHeartbeats 4000000 in
theorem wb_four_4  {g : Nat} {S : St} {x1 : Int32} {x2 : Int32} (C : CallFix p m c cX13_four 5 s args tb RX13) (hr : meth.sig.returnType = (some .int)) (hk : meth.locks = false) {S' : St} {r : Int32} {k4 : St → Int32 → Int32 → Option (St × Int32)} (kk4 : ∀ (S : St) (x1 : Int32) (x2 : Int32) (H : Heap) (locs : List Loc) (ls : Array Slot), Wn Ym D T ρ S A s H locs → lv_has ls 5 [(0, .ref (ρ 0)), (1, .int x1), (2, .int x2)] → k4 S x1 x2 = some (S', r) → W p l e (rmN 1 21) s m args below meth c H locs 0 0 (MQ below (Qi Ym D T ρ A S' r) args s 0 0 A) (F0 m 4 ls [])) (w : Wn Ym D T ρ S A s H locs) (hl : lv_has ls 5 [(0, .ref (ρ 0)), (1, .int x1), (2, .int x2)]) (h : b_four_4 g k4 S x1 x2 = some (S', r)) : W p l e (rmN 1 21) s m args below meth c H locs 0 0 (MQ below (Qi Ym D T ρ A S' r) args s 0 0 A) (F0 m 4 ls []) := by
  unfold b_four_4 at h
  refine lv_iload_n C.1 C.2.1 dX13_four_4 rfl (lv_at hl 2 rfl) ?_
  refine lv_iconst (v := 4) C.1 C.2.1 dX13_four_5 (by decide) ?_
  refine lv_icmp_ge (tgt := 131) C.1 C.2.1 dX13_four_6 (by decide) (fun hc => ?_) (fun hc => ?_)
  · replace h := ift hc h
    refine lv_iload_n C.1 C.2.1 dX13_four_131 rfl (lv_at hl 1 rfl) ?_
    obtain ⟨rfl, rfl⟩ := prI h
    exact x_iret C w hr hk dX13_four_132
  · replace h := iff0 hc h
    refine lv_aload_n C.1 C.2.1 dX13_four_9 rfl (lv_at hl 0 rfl) ?_
    refine lv_aload_n C.1 C.2.1 dX13_four_10 rfl (lv_at hl 0 rfl) ?_
    refine x_getI C w fM255 obM dX13_four_11 ?_
    obtain ⟨v_1, hv_1, h⟩ := bnd h
    refine x_callVi (q := (RX13, TX13, 68)) (As := [.int (gI S 0 18)]) (rest := []) C w (k_isLineEnd l D T ρ g H.size S hv_1) vM258 ⟨by decide, by decide⟩ obM (by decide) rfl rfl rfl hl.1 (Nat.le_of_ble_eq_true rfl) ⟨Nat.zero_le _, Nat.zero_le _⟩ dX13_four_14 (fun H locs w => ?_)
    refine lv_if_eq (tgt := 24) C.1 C.2.1 dX13_four_17 (by decide) (fun hc => ?_) (fun hc => ?_)
    · replace h := ift hc h
      refine lv_aload_n C.1 C.2.1 dX13_four_24 rfl (lv_at hl 0 rfl) ?_
      refine x_getC C w 5 fM135 obM rfl dX13_four_25 ?_
      refine lv_aload_n C.1 C.2.1 dX13_four_28 rfl (lv_at hl 0 rfl) ?_
      refine x_getI C w fM255 obM dX13_four_29 ?_
      obtain ⟨v_2, hv_2, h⟩ := bnd h
      refine x_iald C w obM5 hv_2 dX13_four_32 ?_
      exact w_four_33 C hr hk kk4 w (lv_sub hl [0, 1, 2] rfl) h
    · replace h := iff0 hc h
      refine lv_iconst (v := 0) C.1 C.2.1 dX13_four_20 (by decide) ?_
      refine lv_goto (tgt := 33) C.1 C.2.1 dX13_four_21 (by decide) ?_
      exact w_four_33 C hr hk kk4 w (lv_sub hl [0, 1, 2] rfl) h
theorem w_four_4 {g : Nat} (C : CallFix p m c cX13_four 5 s args tb RX13) (hr : meth.sig.returnType = (some .int)) (hk : meth.locks = false) {S' : St} {r : Int32} (n : Nat) : ∀ (S : St) (x1 : Int32) (x2 : Int32) (H : Heap) (locs : List Loc) (ls : Array Slot), Wn Ym D T ρ S A s H locs → lv_has ls 5 [(0, .ref (ρ 0)), (1, .int x1), (2, .int x2)] → m_four_4 g n S x1 x2 = some (S', r) → W p l e (rmN 1 21) s m args below meth c H locs 0 0 (MQ below (Qi Ym D T ρ A S' r) args s 0 0 A) (F0 m 4 ls []) := by
  induction n with
  | zero => intro S x1 x2 H locs ls w hl h; exact absurd h (fun q => by cases q)
  | succ n ih => intro S x1 x2 H locs ls w hl h; exact wb_four_4 C hr hk ih w hl h
set_option maxRecDepth 100000 in
set_option maxHeartbeats 4000000 in
theorem w_four_0  {g : Nat} {S : St} (C : CallFix p m c cX13_four 5 s args tb RX13) (hr : meth.sig.returnType = (some .int)) (hk : meth.locks = false) {S' : St} {r : Int32} (w : Wn Ym D T ρ S A s H locs) (hl : lv_has ls 5 [(0, .ref (ρ 0))]) (h : m_four g S = some (S', r)) : W p l e (rmN 1 21) s m args below meth c H locs 0 0 (MQ below (Qi Ym D T ρ A S' r) args s 0 0 A) (F0 m 0 ls []) := by
  unfold m_four at h
  refine lv_iconst (v := 0) C.1 C.2.1 dX13_four_0 (by decide) ?_
  refine lv_istore_n (lv' := [(1, .int (0 : Int32)), (0, .ref (ρ 0))]) C.1 C.2.1 dX13_four_1 rfl hl (by decide) rfl (fun ls hl => ?_)
  refine lv_iconst (v := 0) C.1 C.2.1 dX13_four_2 (by decide) ?_
  refine lv_istore_n (lv' := [(2, .int (0 : Int32)), (1, .int (0 : Int32)), (0, .ref (ρ 0))]) C.1 C.2.1 dX13_four_3 rfl hl (by decide) rfl (fun ls hl => ?_)
  exact w_four_4 C hr hk g _ _ _ _ _ _ w (lv_sub hl [2, 1, 0] rfl) h
end S_four
set_option maxRecDepth 100000 in
theorem k_four (l : Launch) (D : va_G) (T : Cy) (ρ : Nat → Nat) (g sz : Nat) (S : St) {S' : St} {r : Int32} (h : m_four g S = some (S', r)) : Mi l Ym D T ρ yX13_four cX13_four 5 (some .int) 1 21 S S' r [.ref (ρ 0)] sz :=
  x_in (by decide) (Nat.le_of_ble_eq_true rfl) (fun p e s m below meth c ls C hr hk w hl => w_four_0 C hr hk w hl h)
