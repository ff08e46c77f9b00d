theorem dX13_isIn_0 : decode cX13_isIn 0 = .ok (.lload_n 0, 1) := by decide +kernel
theorem dX13_isIn_1 : decode cX13_isIn 1 = .ok (.lload_n 2, 1) := by decide +kernel
theorem dX13_isIn_2 : decode cX13_isIn 2 = .ok (.lcmp, 1) := by decide +kernel
theorem dX13_isIn_3 : decode cX13_isIn 3 = .ok (.ifCond .lt 14, 3) := by decide +kernel
theorem dX13_isIn_6 : decode cX13_isIn 6 = .ok (.lload_n 0, 1) := by decide +kernel
theorem dX13_isIn_7 : decode cX13_isIn 7 = .ok (.lload 4, 2) := by decide +kernel
theorem dX13_isIn_9 : decode cX13_isIn 9 = .ok (.lcmp, 1) := by decide +kernel
theorem dX13_isIn_10 : decode cX13_isIn 10 = .ok (.ifCond .gt 7, 3) := by decide +kernel
theorem dX13_isIn_13 : decode cX13_isIn 13 = .ok (.iconst 1, 1) := by decide +kernel
theorem dX13_isIn_14 : decode cX13_isIn 14 = .ok (.goto 4, 3) := by decide +kernel
theorem dX13_isIn_17 : decode cX13_isIn 17 = .ok (.iconst 0, 1) := by decide +kernel
theorem dX13_isIn_18 : decode cX13_isIn 18 = .ok (.ireturn, 1) := by decide +kernel
def m_isIn (g : Nat) (x0 : Int64) (x2 : Int64) (x4 : Int64) : Option Int32 :=
if x0 < x2 then (
  some (0 : Int32)
) else (
  if x4 < x0 then (
    some (0 : Int32)
  ) else (
    some (1 : Int32)
  )
)
section S_isIn
variable {p : Program} {l : Launch} {e : Env} {s : State} {m : MethodId} {args : Array Value} {below : List Frame} {meth : Method} {c : Code} {H : Heap} {locs : List Loc} {ls : Array Slot} {D : va_G} {T : Cy} {ρ : Nat → Nat} {A : Nat → Prop}
set_option maxRecDepth 100000 in
set_option maxHeartbeats 4000000 in
theorem w_isIn_0  {g : Nat} {S : St} {x0 : Int64} {x2 : Int64} {x4 : Int64} (C : CallFix p m c cX13_isIn 6 s args tb RX13) (hr : meth.sig.returnType = (some .boolean)) (hk : meth.locks = false) {r : Int32} (w : Wn Ym D T ρ S A s H locs) (hl : lv_has ls 6 [(0, .long x0), (2, .long x2), (4, .long x4)]) (h : m_isIn g x0 x2 x4 = some r) : W p l e (rmN 0 0) s m args below meth c H locs 0 0 (MQ below (Qi Ym D T ρ A S r) args s 0 0 A) (F0 m 0 ls []) := by
  unfold m_isIn at h
  refine lv_lload_n C.1 C.2.1 dX13_isIn_0 rfl (lv_at hl 0 rfl) ?_
  refine lv_lload_n C.1 C.2.1 dX13_isIn_1 rfl (lv_at hl 1 rfl) ?_
  refine x_l_lt (tgt := 17) C dX13_isIn_2 dX13_isIn_3 (by decide) (fun hc => ?_) (fun hc => ?_)
  · replace h := ift hc h
    refine lv_iconst (v := 0) C.1 C.2.1 dX13_isIn_17 (by decide) ?_
    obtain rfl := som h
    exact x_zret C w hr hk (by decide) dX13_isIn_18
  · replace h := iff0 hc h
    refine lv_lload_n C.1 C.2.1 dX13_isIn_6 rfl (lv_at hl 0 rfl) ?_
    refine lv_lload C.1 C.2.1 dX13_isIn_7 (lv_at hl 2 rfl) ?_
    refine x_l_gt (tgt := 17) C dX13_isIn_9 dX13_isIn_10 (by decide) (fun hc => ?_) (fun hc => ?_)
    · replace h := ift hc h
      refine lv_iconst (v := 0) C.1 C.2.1 dX13_isIn_17 (by decide) ?_
      obtain rfl := som h
      exact x_zret C w hr hk (by decide) dX13_isIn_18
    · replace h := iff0 hc h
      refine lv_iconst (v := 1) C.1 C.2.1 dX13_isIn_13 (by decide) ?_
      refine lv_goto (tgt := 18) C.1 C.2.1 dX13_isIn_14 (by decide) ?_
      obtain rfl := som h
      exact x_zret C w hr hk (by decide) dX13_isIn_18
end S_isIn
set_option maxRecDepth 100000 in
theorem k_isIn (l : Launch) (D : va_G) (T : Cy) (ρ : Nat → Nat) (g sz : Nat) (S : St) {x0 : Int64} {x2 : Int64} {x4 : Int64} {r : Int32} (h : m_isIn g x0 x2 x4 = some r) : Mi l Ym D T ρ yX13_isIn cX13_isIn 6 (some .boolean) 0 0 S S r [.long x0, .long x2, .long x4] sz :=
  x_in (by decide) (Nat.le_of_ble_eq_true rfl) (fun p e s m below meth c ls C hr hk w hl => w_isIn_0 C hr hk w hl h)

theorem dX13_put_0 : decode cX13_put 0 = .ok (.bipush 24, 2) := by decide +kernel
theorem dX13_put_2 : decode cX13_put 2 = .ok (.istore_n 2, 1) := by decide +kernel
theorem dX13_put_3 : decode cX13_put 3 = .ok (.iload_n 2, 1) := by decide +kernel
theorem dX13_put_4 : decode cX13_put 4 = .ok (.ifCond .lt 35, 3) := by decide +kernel
theorem dX13_put_7 : decode cX13_put 7 = .ok (.aload_n 0, 1) := by decide +kernel
theorem dX13_put_8 : decode cX13_put 8 = .ok (.getfield 135, 3) := by decide +kernel
theorem dX13_put_11 : decode cX13_put 11 = .ok (.aload_n 0, 1) := by decide +kernel
theorem dX13_put_12 : decode cX13_put 12 = .ok (.getfield 248, 3) := by decide +kernel
theorem dX13_put_15 : decode cX13_put 15 = .ok (.iload_n 1, 1) := by decide +kernel
theorem dX13_put_16 : decode cX13_put 16 = .ok (.iload_n 2, 1) := by decide +kernel
theorem dX13_put_17 : decode cX13_put 17 = .ok (.ishr, 1) := by decide +kernel
theorem dX13_put_18 : decode cX13_put 18 = .ok (.sipush 255, 3) := by decide +kernel
theorem dX13_put_21 : decode cX13_put 21 = .ok (.iand, 1) := by decide +kernel
theorem dX13_put_22 : decode cX13_put 22 = .ok (.iastore, 1) := by decide +kernel
theorem dX13_put_23 : decode cX13_put 23 = .ok (.aload_n 0, 1) := by decide +kernel
theorem dX13_put_24 : decode cX13_put 24 = .ok (.dup, 1) := by decide +kernel
theorem dX13_put_25 : decode cX13_put 25 = .ok (.getfield 248, 3) := by decide +kernel
theorem dX13_put_28 : decode cX13_put 28 = .ok (.iconst 1, 1) := by decide +kernel
theorem dX13_put_29 : decode cX13_put 29 = .ok (.iadd, 1) := by decide +kernel
theorem dX13_put_30 : decode cX13_put 30 = .ok (.putfield 248, 3) := by decide +kernel
theorem dX13_put_33 : decode cX13_put 33 = .ok (.iinc 2 (-8), 3) := by decide +kernel
theorem dX13_put_36 : decode cX13_put 36 = .ok (.goto (-33), 3) := by decide +kernel
theorem dX13_put_39 : decode cX13_put 39 = .ok (.return_, 1) := by decide +kernel
def b_put_3 (g : Nat) (k3 : St → Int32 → Int32 → Option St) (S : St) (x1 : Int32) (x2 : Int32) : Option St :=
if x2 < 0 then (
  some S
) else (
  (tI S 5 (gI S 0 5) ((x1 >>> (x2 &&& 31)) &&& (255 : Int32))).bind fun S_1 =>
  lt (sI S_1 0 5 ((gI S_1 0 5) + (1 : Int32))) fun S_2 =>
  lt (x2 + (-8 : Int32)) fun x2_3 =>
  k3 S_2 x1 x2_3
)
def m_put_3 (g : Nat) : Nat → St → Int32 → Int32 → Option St
  | 0, _, _, _ => none
  | n + 1, S, x1, x2 => b_put_3 g (m_put_3 g n) S x1 x2
def m_put (g : Nat) (S : St) (x1 : Int32) : Option St :=
m_put_3 g g S x1 (24 : Int32)
section S_put
variable {p : Program} {l : Launch} {e : Env} {s : State} {m : MethodId} {args : Array Value} {below : List Frame} {meth : Method} {c : Code} {H : Heap} {locs : List Loc} {ls : Array Slot} {D : va_G} {T : Cy} {ρ : Nat → Nat} {A : Nat → Prop}
set_option maxRecDepth 100000 in
set_option maxHeartbeats 4000000 in
theorem wb_put_3  {g : Nat} {S : St} {x1 : Int32} {x2 : Int32} (C : CallFix p m c cX13_put 3 s args tb RX13) (hr : meth.sig.returnType = none) (hk : meth.locks = false) {S' : St} {k3 : St → Int32 → Int32 → Option St} (kk3 : ∀ (S : St) (x1 : Int32) (x2 : Int32) (H : Heap) (locs : List Loc) (ls : Array Slot), Wn Ym D T ρ S A s H locs → lv_has ls 3 [(0, .ref (ρ 0)), (1, .int x1), (2, .int x2)] → k3 S x1 x2 = some S' → W p l e (rmN 0 0) s m args below meth c H locs 0 0 (MQ below (Qv Ym D T ρ A S') args s 0 0 A) (F0 m 3 ls [])) (w : Wn Ym D T ρ S A s H locs) (hl : lv_has ls 3 [(0, .ref (ρ 0)), (1, .int x1), (2, .int x2)]) (h : b_put_3 g k3 S x1 x2 = some S') : W p l e (rmN 0 0) s m args below meth c H locs 0 0 (MQ below (Qv Ym D T ρ A S') args s 0 0 A) (F0 m 3 ls []) := by
  unfold b_put_3 at h
  refine lv_iload_n C.1 C.2.1 dX13_put_3 rfl (lv_at hl 2 rfl) ?_
  refine lv_if_lt (tgt := 39) C.1 C.2.1 dX13_put_4 (by decide) (fun hc => ?_) (fun hc => ?_)
  · replace h := ift hc h
    obtain rfl := som h
    exact x_vret C w hr hk dX13_put_39
  · replace h := iff0 hc h
    refine lv_aload_n C.1 C.2.1 dX13_put_7 rfl (lv_at hl 0 rfl) ?_
    refine x_getC C w 5 fM135 obM rfl dX13_put_8 ?_
    refine lv_aload_n C.1 C.2.1 dX13_put_11 rfl (lv_at hl 0 rfl) ?_
    refine x_getI C w fM248 obM dX13_put_12 ?_
    refine lv_iload_n C.1 C.2.1 dX13_put_15 rfl (lv_at hl 1 rfl) ?_
    refine lv_iload_n C.1 C.2.1 dX13_put_16 rfl (lv_at hl 2 rfl) ?_
    refine lv_ishr C.1 C.2.1 dX13_put_17 ?_
    refine lv_sipush (v := 255) C.1 C.2.1 dX13_put_18 (by decide) ?_
    refine lv_iand C.1 C.2.1 dX13_put_21 ?_
    obtain ⟨S_1, hS_1, h⟩ := bnd h
    refine x_iast C w obM5 hS_1 dX13_put_22 (fun H locs w => ?_)
    refine lv_aload_n C.1 C.2.1 dX13_put_23 rfl (lv_at hl 0 rfl) ?_
    refine lv_dup C.1 C.2.1 dX13_put_24 rfl ?_
    refine x_getI C w fM248 obM dX13_put_25 ?_
    refine lv_iconst (v := 1) C.1 C.2.1 dX13_put_28 (by decide) ?_
    refine lv_iadd C.1 C.2.1 dX13_put_29 ?_
    obtain ⟨S_2, eS_2, h⟩ := lt_e h
    refine y_putI C w eS_2 fM248 pM5 obM dX13_put_30 (fun H locs w => ?_)
    obtain ⟨x2_3, ex2_3, h⟩ := lt_e h
    refine lv_iinc (v := x2_3) (lv' := [(2, .int x2_3), (0, .ref (ρ 0)), (1, .int x1)]) C.1 C.2.1 dX13_put_33 hl (k := 2) rfl (by rw [ex2_3]; rfl) (by decide) rfl (fun ls hl => ?_)
    refine lv_goto (tgt := 3) C.1 C.2.1 dX13_put_36 (by decide) ?_
    exact kk3 _ _ _ _ _ _ w (lv_sub hl [1, 2, 0] rfl) h
theorem w_put_3 {g : Nat} (C : CallFix p m c cX13_put 3 s args tb RX13) (hr : meth.sig.returnType = none) (hk : meth.locks = false) {S' : St} (n : Nat) : ∀ (S : St) (x1 : Int32) (x2 : Int32) (H : Heap) (locs : List Loc) (ls : Array Slot), Wn Ym D T ρ S A s H locs → lv_has ls 3 [(0, .ref (ρ 0)), (1, .int x1), (2, .int x2)] → m_put_3 g n S x1 x2 = some S' → W p l e (rmN 0 0) s m args below meth c H locs 0 0 (MQ below (Qv Ym D T ρ A S') args s 0 0 A) (F0 m 3 ls []) := by
  induction n with
  | zero => intro S x1 x2 H locs ls w hl h; exact absurd h (fun q => by cases q)
  | succ n ih => intro S x1 x2 H locs ls w hl h; exact wb_put_3 C hr hk ih w hl h
set_option maxRecDepth 100000 in
set_option maxHeartbeats 4000000 in
theorem w_put_0  {g : Nat} {S : St} {x1 : Int32} (C : CallFix p m c cX13_put 3 s args tb RX13) (hr : meth.sig.returnType = none) (hk : meth.locks = false) {S' : St} (w : Wn Ym D T ρ S A s H locs) (hl : lv_has ls 3 [(0, .ref (ρ 0)), (1, .int x1)]) (h : m_put g S x1 = some S') : W p l e (rmN 0 0) s m args below meth c H locs 0 0 (MQ below (Qv Ym D T ρ A S') args s 0 0 A) (F0 m 0 ls []) := by
  unfold m_put at h
  refine lv_bipush (v := 24) C.1 C.2.1 dX13_put_0 (by decide) ?_
  refine lv_istore_n (lv' := [(2, .int (24 : Int32)), (0, .ref (ρ 0)), (1, .int x1)]) C.1 C.2.1 dX13_put_2 rfl hl (by decide) rfl (fun ls hl => ?_)
  exact w_put_3 C hr hk g _ _ _ _ _ _ w (lv_sub hl [1, 2, 0] rfl) h
end S_put
set_option maxRecDepth 100000 in
theorem k_put (l : Launch) (D : va_G) (T : Cy) (ρ : Nat → Nat) (g sz : Nat) (S : St) {x1 : Int32} {S' : St} (h : m_put g S x1 = some S') : Mv l Ym D T ρ yX13_put cX13_put 3 none 0 0 S S' [.ref (ρ 0), .int x1] sz :=
  x_in (by decide) (Nat.le_of_ble_eq_true rfl) (fun p e s m below meth c ls C hr hk w hl => w_put_0 C hr hk w hl h)

theorem dX13_feed_0 : decode cX13_feed 0 = .ok (.aload_n 0, 1) := by decide +kernel
theorem dX13_feed_1 : decode cX13_feed 1 = .ok (.getfield 248, 3) := by decide +kernel
theorem dX13_feed_4 : decode cX13_feed 4 = .ok (.bipush 20, 2) := by decide +kernel
theorem dX13_feed_6 : decode cX13_feed 6 = .ok (.iadd, 1) := by decide +kernel
theorem dX13_feed_7 : decode cX13_feed 7 = .ok (.sipush 3000, 3) := by decide +kernel
theorem dX13_feed_10 : decode cX13_feed 10 = .ok (.if_icmp .le 5, 3) := by decide +kernel
theorem dX13_feed_13 : decode cX13_feed 13 = .ok (.iconst (-1), 1) := by decide +kernel
theorem dX13_feed_14 : decode cX13_feed 14 = .ok (.ireturn, 1) := by decide +kernel
theorem dX13_feed_15 : decode cX13_feed 15 = .ok (.aload_n 0, 1) := by decide +kernel
theorem dX13_feed_16 : decode cX13_feed 16 = .ok (.iload_n 1, 1) := by decide +kernel
theorem dX13_feed_17 : decode cX13_feed 17 = .ok (.invokevirtual 252, 3) := by decide +kernel
theorem dX13_feed_20 : decode cX13_feed 20 = .ok (.aload_n 0, 1) := by decide +kernel
theorem dX13_feed_21 : decode cX13_feed 21 = .ok (.iload_n 2, 1) := by decide +kernel
theorem dX13_feed_22 : decode cX13_feed 22 = .ok (.invokevirtual 252, 3) := by decide +kernel
theorem dX13_feed_25 : decode cX13_feed 25 = .ok (.aload_n 0, 1) := by decide +kernel
theorem dX13_feed_26 : decode cX13_feed 26 = .ok (.iload_n 3, 1) := by decide +kernel
theorem dX13_feed_27 : decode cX13_feed 27 = .ok (.invokevirtual 252, 3) := by decide +kernel
theorem dX13_feed_30 : decode cX13_feed 30 = .ok (.aload_n 0, 1) := by decide +kernel
theorem dX13_feed_31 : decode cX13_feed 31 = .ok (.iload 4, 2) := by decide +kernel
theorem dX13_feed_33 : decode cX13_feed 33 = .ok (.invokevirtual 252, 3) := by decide +kernel
theorem dX13_feed_36 : decode cX13_feed 36 = .ok (.aload_n 0, 1) := by decide +kernel
theorem dX13_feed_37 : decode cX13_feed 37 = .ok (.iload 5, 2) := by decide +kernel
theorem dX13_feed_39 : decode cX13_feed 39 = .ok (.invokevirtual 252, 3) := by decide +kernel
theorem dX13_feed_42 : decode cX13_feed 42 = .ok (.aload_n 0, 1) := by decide +kernel
theorem dX13_feed_43 : decode cX13_feed 43 = .ok (.getfield 248, 3) := by decide +kernel
theorem dX13_feed_46 : decode cX13_feed 46 = .ok (.ireturn, 1) := by decide +kernel
def m_feed (g : Nat) (S : St) (x1 : Int32) (x2 : Int32) (x3 : Int32) (x4 : Int32) (x5 : Int32) : Option (St × Int32) :=
if ((gI S 0 5) + (20 : Int32)) ≤ (3000 : Int32) then (
  (m_put g S x1).bind fun S_1 =>
  (m_put g S_1 x2).bind fun S_2 =>
  (m_put g S_2 x3).bind fun S_3 =>
  (m_put g S_3 x4).bind fun S_4 =>
  (m_put g S_4 x5).bind fun S_5 =>
  some (S_5, gI S_5 0 5)
) else (
  some (S, (-1 : Int32))
)
section S_feed
variable {p : Program} {l : Launch} {e : Env} {s : State} {m : MethodId} {args : Array Value} {below : List Frame} {meth : Method} {c : Code} {H : Heap} {locs : List Loc} {ls : Array Slot} {D : va_G} {T : Cy} {ρ : Nat → Nat} {A : Nat → Prop}
set_option maxRecDepth 100000 in
set_option maxHeartbeats 4000000 in
theorem w_feed_0  {g : Nat} {S : St} {x1 : Int32} {x2 : Int32} {x3 : Int32} {x4 : Int32} {x5 : Int32} (C : CallFix p m c cX13_feed 6 s args tb RX13) (hr : meth.sig.returnType = (some .int)) (hk : meth.locks = false) {S' : St} {r : Int32} (w : Wn Ym D T ρ S A s H locs) (hl : lv_has ls 6 [(0, .ref (ρ 0)), (1, .int x1), (2, .int x2), (3, .int x3), (4, .int x4), (5, .int x5)]) (h : m_feed g S x1 x2 x3 x4 x5 = some (S', r)) : W p l e (rmN 1 22) s m args below meth c H locs 0 0 (MQ below (Qi Ym D T ρ A S' r) args s 0 0 A) (F0 m 0 ls []) := by
  unfold m_feed at h
  refine lv_aload_n C.1 C.2.1 dX13_feed_0 rfl (lv_at hl 0 rfl) ?_
  refine x_getI C w fM248 obM dX13_feed_1 ?_
  refine lv_bipush (v := 20) C.1 C.2.1 dX13_feed_4 (by decide) ?_
  refine lv_iadd C.1 C.2.1 dX13_feed_6 ?_
  refine lv_sipush (v := 3000) C.1 C.2.1 dX13_feed_7 (by decide) ?_
  refine lv_icmp_le (tgt := 15) C.1 C.2.1 dX13_feed_10 (by decide) (fun hc => ?_) (fun hc => ?_)
  · replace h := ift hc h
    refine lv_aload_n C.1 C.2.1 dX13_feed_15 rfl (lv_at hl 0 rfl) ?_
    refine lv_iload_n C.1 C.2.1 dX13_feed_16 rfl (lv_at hl 1 rfl) ?_
    obtain ⟨S_1, hS_1, h⟩ := bnd h
    refine x_callVv (q := (RX13, TX13, 68)) (As := [.int x1]) (rest := []) C w (k_put l D T ρ g H.size S hS_1) vM252 ⟨by decide, by decide⟩ obM (by decide) rfl rfl rfl hl.1 (Nat.le_of_ble_eq_true rfl) ⟨Nat.zero_le _, Nat.zero_le _⟩ dX13_feed_17 (fun H locs w => ?_)
    refine lv_aload_n C.1 C.2.1 dX13_feed_20 rfl (lv_at hl 0 rfl) ?_
    refine lv_iload_n C.1 C.2.1 dX13_feed_21 rfl (lv_at hl 2 rfl) ?_
    obtain ⟨S_2, hS_2, h⟩ := bnd h
    refine x_callVv (q := (RX13, TX13, 68)) (As := [.int x2]) (rest := []) C w (k_put l D T ρ g H.size S_1 hS_2) vM252 ⟨by decide, by decide⟩ obM (by decide) rfl rfl rfl hl.1 (Nat.le_of_ble_eq_true rfl) ⟨Nat.zero_le _, Nat.zero_le _⟩ dX13_feed_22 (fun H locs w => ?_)
    refine lv_aload_n C.1 C.2.1 dX13_feed_25 rfl (lv_at hl 0 rfl) ?_
    refine lv_iload_n C.1 C.2.1 dX13_feed_26 rfl (lv_at hl 3 rfl) ?_
    obtain ⟨S_3, hS_3, h⟩ := bnd h
    refine x_callVv (q := (RX13, TX13, 68)) (As := [.int x3]) (rest := []) C w (k_put l D T ρ g H.size S_2 hS_3) vM252 ⟨by decide, by decide⟩ obM (by decide) rfl rfl rfl hl.1 (Nat.le_of_ble_eq_true rfl) ⟨Nat.zero_le _, Nat.zero_le _⟩ dX13_feed_27 (fun H locs w => ?_)
    refine lv_aload_n C.1 C.2.1 dX13_feed_30 rfl (lv_at hl 0 rfl) ?_
    refine lv_iload C.1 C.2.1 dX13_feed_31 (lv_at hl 4 rfl) ?_
    obtain ⟨S_4, hS_4, h⟩ := bnd h
    refine x_callVv (q := (RX13, TX13, 68)) (As := [.int x4]) (rest := []) C w (k_put l D T ρ g H.size S_3 hS_4) vM252 ⟨by decide, by decide⟩ obM (by decide) rfl rfl rfl hl.1 (Nat.le_of_ble_eq_true rfl) ⟨Nat.zero_le _, Nat.zero_le _⟩ dX13_feed_33 (fun H locs w => ?_)
    refine lv_aload_n C.1 C.2.1 dX13_feed_36 rfl (lv_at hl 0 rfl) ?_
    refine lv_iload C.1 C.2.1 dX13_feed_37 (lv_at hl 5 rfl) ?_
    obtain ⟨S_5, hS_5, h⟩ := bnd h
    refine x_callVv (q := (RX13, TX13, 68)) (As := [.int x5]) (rest := []) C w (k_put l D T ρ g H.size S_4 hS_5) vM252 ⟨by decide, by decide⟩ obM (by decide) rfl rfl rfl hl.1 (Nat.le_of_ble_eq_true rfl) ⟨Nat.zero_le _, Nat.zero_le _⟩ dX13_feed_39 (fun H locs w => ?_)
    refine lv_aload_n C.1 C.2.1 dX13_feed_42 rfl (lv_at hl 0 rfl) ?_
    refine x_getI C w fM248 obM dX13_feed_43 ?_
    obtain ⟨rfl, rfl⟩ := prI h
    exact x_iret C w hr hk dX13_feed_46
  · replace h := iff0 hc h
    refine lv_iconst (v := (-1)) C.1 C.2.1 dX13_feed_13 (by decide) ?_
    obtain ⟨rfl, rfl⟩ := prI h
    exact x_iret C w hr hk dX13_feed_14
end S_feed
set_option maxRecDepth 100000 in
theorem k_feed (l : Launch) (D : va_G) (T : Cy) (ρ : Nat → Nat) (g sz : Nat) (S : St) {x1 : Int32} {x2 : Int32} {x3 : Int32} {x4 : Int32} {x5 : Int32} {S' : St} {r : Int32} (h : m_feed g S x1 x2 x3 x4 x5 = some (S', r)) : Mi l Ym D T ρ yX13_feed cX13_feed 6 (some .int) 1 22 S S' r [.ref (ρ 0), .int x1, .int x2, .int x3, .int x4, .int x5] sz :=
  x_in (by decide) (Nat.le_of_ble_eq_true rfl) (fun p e s m below meth c ls C hr hk w hl => w_feed_0 C hr hk w hl h)

theorem dX13_cut_0 : decode cX13_cut 0 = .ok (.iload_n 1, 1) := by decide +kernel
theorem dX13_cut_1 : decode cX13_cut 1 = .ok (.ifCond .lt 11, 3) := by decide +kernel
theorem dX13_cut_4 : decode cX13_cut 4 = .ok (.iload_n 1, 1) := by decide +kernel
theorem dX13_cut_5 : decode cX13_cut 5 = .ok (.aload_n 0, 1) := by decide +kernel
theorem dX13_cut_6 : decode cX13_cut 6 = .ok (.getfield 248, 3) := by decide +kernel
theorem dX13_cut_9 : decode cX13_cut 9 = .ok (.if_icmp .le 5, 3) := by decide +kernel
theorem dX13_cut_12 : decode cX13_cut 12 = .ok (.iconst (-1), 1) := by decide +kernel
theorem dX13_cut_13 : decode cX13_cut 13 = .ok (.ireturn, 1) := by decide +kernel
theorem dX13_cut_14 : decode cX13_cut 14 = .ok (.aload_n 0, 1) := by decide +kernel
theorem dX13_cut_15 : decode cX13_cut 15 = .ok (.dup, 1) := by decide +kernel
theorem dX13_cut_16 : decode cX13_cut 16 = .ok (.getfield 248, 3) := by decide +kernel
theorem dX13_cut_19 : decode cX13_cut 19 = .ok (.iload_n 1, 1) := by decide +kernel
theorem dX13_cut_20 : decode cX13_cut 20 = .ok (.isub, 1) := by decide +kernel
theorem dX13_cut_21 : decode cX13_cut 21 = .ok (.putfield 248, 3) := by decide +kernel
theorem dX13_cut_24 : decode cX13_cut 24 = .ok (.aload_n 0, 1) := by decide +kernel
theorem dX13_cut_25 : decode cX13_cut 25 = .ok (.getfield 248, 3) := by decide +kernel
theorem dX13_cut_28 : decode cX13_cut 28 = .ok (.ireturn, 1) := by decide +kernel
def m_cut (g : Nat) (S : St) (x1 : Int32) : Option (St × Int32) :=
if x1 < 0 then (
  some (S, (-1 : Int32))
) else (
  if x1 ≤ (gI S 0 5) then (
    lt (sI S 0 5 ((gI S 0 5) - x1)) fun S_1 =>
    some (S_1, gI S_1 0 5)
  ) else (
    some (S, (-1 : Int32))
  )
)
section S_cut
variable {p : Program} {l : Launch} {e : Env} {s : State} {m : MethodId} {args : Array Value} {below : List Frame} {meth : Method} {c : Code} {H : Heap} {locs : List Loc} {ls : Array Slot} {D : va_G} {T : Cy} {ρ : Nat → Nat} {A : Nat → Prop}
set_option maxRecDepth 100000 in
set_option maxHeartbeats 4000000 in
theorem w_cut_0  {g : Nat} {S : St} {x1 : Int32} (C : CallFix p m c cX13_cut 2 s args tb RX13) (hr : meth.sig.returnType = (some .int)) (hk : meth.locks = false) {S' : St} {r : Int32} (w : Wn Ym D T ρ S A s H locs) (hl : lv_has ls 2 [(0, .ref (ρ 0)), (1, .int x1)]) (h : m_cut g S x1 = some (S', r)) : W p l e (rmN 0 0) s m args below meth c H locs 0 0 (MQ below (Qi Ym D T ρ A S' r) args s 0 0 A) (F0 m 0 ls []) := by
  unfold m_cut at h
  refine lv_iload_n C.1 C.2.1 dX13_cut_0 rfl (lv_at hl 1 rfl) ?_
  refine lv_if_lt (tgt := 12) C.1 C.2.1 dX13_cut_1 (by decide) (fun hc => ?_) (fun hc => ?_)
  · replace h := ift hc h
    refine lv_iconst (v := (-1)) C.1 C.2.1 dX13_cut_12 (by decide) ?_
    obtain ⟨rfl, rfl⟩ := prI h
    exact x_iret C w hr hk dX13_cut_13
  · replace h := iff0 hc h
    refine lv_iload_n C.1 C.2.1 dX13_cut_4 rfl (lv_at hl 1 rfl) ?_
    refine lv_aload_n C.1 C.2.1 dX13_cut_5 rfl (lv_at hl 0 rfl) ?_
    refine x_getI C w fM248 obM dX13_cut_6 ?_
    refine lv_icmp_le (tgt := 14) C.1 C.2.1 dX13_cut_9 (by decide) (fun hc => ?_) (fun hc => ?_)
    · replace h := ift hc h
      refine lv_aload_n C.1 C.2.1 dX13_cut_14 rfl (lv_at hl 0 rfl) ?_
      refine lv_dup C.1 C.2.1 dX13_cut_15 rfl ?_
      refine x_getI C w fM248 obM dX13_cut_16 ?_
      refine lv_iload_n C.1 C.2.1 dX13_cut_19 rfl (lv_at hl 1 rfl) ?_
      refine lv_isub C.1 C.2.1 dX13_cut_20 ?_
      obtain ⟨S_1, eS_1, h⟩ := lt_e h
      refine y_putI C w eS_1 fM248 pM5 obM dX13_cut_21 (fun H locs w => ?_)
      refine lv_aload_n C.1 C.2.1 dX13_cut_24 rfl (lv_at hl 0 rfl) ?_
      refine x_getI C w fM248 obM dX13_cut_25 ?_
      obtain ⟨rfl, rfl⟩ := prI h
      exact x_iret C w hr hk dX13_cut_28
    · replace h := iff0 hc h
      refine lv_iconst (v := (-1)) C.1 C.2.1 dX13_cut_12 (by decide) ?_
      obtain ⟨rfl, rfl⟩ := prI h
      exact x_iret C w hr hk dX13_cut_13
end S_cut
set_option maxRecDepth 100000 in
theorem k_cut (l : Launch) (D : va_G) (T : Cy) (ρ : Nat → Nat) (g sz : Nat) (S : St) {x1 : Int32} {S' : St} {r : Int32} (h : m_cut g S x1 = some (S', r)) : Mi l Ym D T ρ yX13_cut cX13_cut 2 (some .int) 0 0 S S' r [.ref (ρ 0), .int x1] sz :=
  x_in (by decide) (Nat.le_of_ble_eq_true rfl) (fun p e s m below meth c ls C hr hk w hl => w_cut_0 C hr hk w hl h)

theorem dX13_isLineEnd_0 : decode cX13_isLineEnd 0 = .ok (.iload_n 1, 1) := by decide +kernel
theorem dX13_isLineEnd_1 : decode cX13_isLineEnd 1 = .ok (.aload_n 0, 1) := by decide +kernel
theorem dX13_isLineEnd_2 : decode cX13_isLineEnd 2 = .ok (.getfield 248, 3) := by decide +kernel
theorem dX13_isLineEnd_5 : decode cX13_isLineEnd 5 = .ok (.if_icmp .ge 14, 3) := by decide +kernel
theorem dX13_isLineEnd_8 : decode cX13_isLineEnd 8 = .ok (.aload_n 0, 1) := by decide +kernel
theorem dX13_isLineEnd_9 : decode cX13_isLineEnd 9 = .ok (.getfield 135, 3) := by decide +kernel
theorem dX13_isLineEnd_12 : decode cX13_isLineEnd 12 = .ok (.iload_n 1, 1) := by decide +kernel
theorem dX13_isLineEnd_13 : decode cX13_isLineEnd 13 = .ok (.iaload, 1) := by decide +kernel
theorem dX13_isLineEnd_14 : decode cX13_isLineEnd 14 = .ok (.bipush 10, 2) := by decide +kernel
theorem dX13_isLineEnd_16 : decode cX13_isLineEnd 16 = .ok (.if_icmp .ne 7, 3) := by decide +kernel
theorem dX13_isLineEnd_19 : decode cX13_isLineEnd 19 = .ok (.iconst 1, 1) := by decide +kernel
theorem dX13_isLineEnd_20 : decode cX13_isLineEnd 20 = .ok (.goto 4, 3) := by decide +kernel
theorem dX13_isLineEnd_23 : decode cX13_isLineEnd 23 = .ok (.iconst 0, 1) := by decide +kernel
theorem dX13_isLineEnd_24 : decode cX13_isLineEnd 24 = .ok (.ireturn, 1) := by decide +kernel
def m_isLineEnd (g : Nat) (S : St) (x1 : Int32) : Option Int32 :=
if (gI S 0 5) ≤ x1 then (
  some (1 : Int32)
) else (
  (aI S 5 x1).bind fun v_1 =>
  if v_1 = (10 : Int32) then (
    some (1 : Int32)
  ) else (
    some (0 : Int32)
  )
)
section S_isLineEnd
variable {p : Program} {l : Launch} {e : Env} {s : State} {m : MethodId} {args : Array Value} {below : List Frame} {meth : Method} {c : Code} {H : Heap} {locs : List Loc} {ls : Array Slot} {D : va_G} {T : Cy} {ρ : Nat → Nat} {A : Nat → Prop}
set_option maxRecDepth 100000 in
set_option maxHeartbeats 4000000 in
theorem w_isLineEnd_0  {g : Nat} {S : St} {x1 : Int32} (C : CallFix p m c cX13_isLineEnd 2 s args tb RX13) (hr : meth.sig.returnType = (some .boolean)) (hk : meth.locks = false) {r : Int32} (w : Wn Ym D T ρ S A s H locs) (hl : lv_has ls 2 [(0, .ref (ρ 0)), (1, .int x1)]) (h : m_isLineEnd g S x1 = some r) : W p l e (rmN 0 0) s m args below meth c H locs 0 0 (MQ below (Qi Ym D T ρ A S r) args s 0 0 A) (F0 m 0 ls []) := by
  unfold m_isLineEnd at h
  refine lv_iload_n C.1 C.2.1 dX13_isLineEnd_0 rfl (lv_at hl 1 rfl) ?_
  refine lv_aload_n C.1 C.2.1 dX13_isLineEnd_1 rfl (lv_at hl 0 rfl) ?_
  refine x_getI C w fM248 obM dX13_isLineEnd_2 ?_
  refine lv_icmp_ge (tgt := 19) C.1 C.2.1 dX13_isLineEnd_5 (by decide) (fun hc => ?_) (fun hc => ?_)
  · replace h := ift hc h
    refine lv_iconst (v := 1) C.1 C.2.1 dX13_isLineEnd_19 (by decide) ?_
    refine lv_goto (tgt := 24) C.1 C.2.1 dX13_isLineEnd_20 (by decide) ?_
    obtain rfl := som h
    exact x_zret C w hr hk (by decide) dX13_isLineEnd_24
  · replace h := iff0 hc h
    refine lv_aload_n C.1 C.2.1 dX13_isLineEnd_8 rfl (lv_at hl 0 rfl) ?_
    refine x_getC C w 5 fM135 obM rfl dX13_isLineEnd_9 ?_
    refine lv_iload_n C.1 C.2.1 dX13_isLineEnd_12 rfl (lv_at hl 1 rfl) ?_
    obtain ⟨v_1, hv_1, h⟩ := bnd h
    refine x_iald C w obM5 hv_1 dX13_isLineEnd_13 ?_
    refine lv_bipush (v := 10) C.1 C.2.1 dX13_isLineEnd_14 (by decide) ?_
    refine lv_icmp_ne (tgt := 23) C.1 C.2.1 dX13_isLineEnd_16 (by decide) (fun hc => ?_) (fun hc => ?_)
    · replace h := iff0 hc h
      refine lv_iconst (v := 0) C.1 C.2.1 dX13_isLineEnd_23 (by decide) ?_
      obtain rfl := som h
      exact x_zret C w hr hk (by decide) dX13_isLineEnd_24
    · replace h := ift hc h
      refine lv_iconst (v := 1) C.1 C.2.1 dX13_isLineEnd_19 (by decide) ?_
      refine lv_goto (tgt := 24) C.1 C.2.1 dX13_isLineEnd_20 (by decide) ?_
      obtain rfl := som h
      exact x_zret C w hr hk (by decide) dX13_isLineEnd_24
end S_isLineEnd
set_option maxRecDepth 100000 in
theorem k_isLineEnd (l : Launch) (D : va_G) (T : Cy) (ρ : Nat → Nat) (g sz : Nat) (S : St) {x1 : Int32} {r : Int32} (h : m_isLineEnd g S x1 = some r) : Mi l Ym D T ρ yX13_isLineEnd cX13_isLineEnd 2 (some .boolean) 0 0 S S r [.ref (ρ 0), .int x1] sz :=
  x_in (by decide) (Nat.le_of_ble_eq_true rfl) (fun p e s m below meth c ls C hr hk w hl => w_isLineEnd_0 C hr hk w hl h)

theorem dX13_four_0 : decode cX13_four 0 = .ok (.iconst 0, 1) := by decide +kernel
theorem dX13_four_1 : decode cX13_four 1 = .ok (.istore_n 1, 1) := by decide +kernel
theorem dX13_four_2 : decode cX13_four 2 = .ok (.iconst 0, 1) := by decide +kernel
theorem dX13_four_3 : decode cX13_four 3 = .ok (.istore_n 2, 1) := by decide +kernel
theorem dX13_four_4 : decode cX13_four 4 = .ok (.iload_n 2, 1) := by decide +kernel
theorem dX13_four_5 : decode cX13_four 5 = .ok (.iconst 4, 1) := by decide +kernel
theorem dX13_four_6 : decode cX13_four 6 = .ok (.if_icmp .ge 125, 3) := by decide +kernel
theorem dX13_four_9 : decode cX13_four 9 = .ok (.aload_n 0, 1) := by decide +kernel
theorem dX13_four_10 : decode cX13_four 10 = .ok (.aload_n 0, 1) := by decide +kernel
theorem dX13_four_11 : decode cX13_four 11 = .ok (.getfield 255, 3) := by decide +kernel
theorem dX13_four_14 : decode cX13_four 14 = .ok (.invokevirtual 258, 3) := by decide +kernel
theorem dX13_four_17 : decode cX13_four 17 = .ok (.ifCond .eq 7, 3) := by decide +kernel
theorem dX13_four_20 : decode cX13_four 20 = .ok (.iconst 0, 1) := by decide +kernel
theorem dX13_four_21 : decode cX13_four 21 = .ok (.goto 12, 3) := by decide +kernel
theorem dX13_four_24 : decode cX13_four 24 = .ok (.aload_n 0, 1) := by decide +kernel
theorem dX13_four_25 : decode cX13_four 25 = .ok (.getfield 135, 3) := by decide +kernel
theorem dX13_four_28 : decode cX13_four 28 = .ok (.aload_n 0, 1) := by decide +kernel
theorem dX13_four_29 : decode cX13_four 29 = .ok (.getfield 255, 3) := by decide +kernel
theorem dX13_four_32 : decode cX13_four 32 = .ok (.iaload, 1) := by decide +kernel
theorem dX13_four_33 : decode cX13_four 33 = .ok (.istore_n 3, 1) := by decide +kernel
theorem dX13_four_34 : decode cX13_four 34 = .ok (.iload_n 3, 1) := by decide +kernel
theorem dX13_four_35 : decode cX13_four 35 = .ok (.bipush 48, 2) := by decide +kernel
theorem dX13_four_37 : decode cX13_four 37 = .ok (.if_icmp .lt 16, 3) := by decide +kernel
theorem dX13_four_40 : decode cX13_four 40 = .ok (.iload_n 3, 1) := by decide +kernel
theorem dX13_four_41 : decode cX13_four 41 = .ok (.bipush 57, 2) := by decide +kernel
theorem dX13_four_43 : decode cX13_four 43 = .ok (.if_icmp .gt 10, 3) := by decide +kernel
theorem dX13_four_46 : decode cX13_four 46 = .ok (.iload_n 3, 1) := by decide +kernel
theorem dX13_four_47 : decode cX13_four 47 = .ok (.bipush 48, 2) := by decide +kernel
theorem dX13_four_49 : decode cX13_four 49 = .ok (.isub, 1) := by decide +kernel
theorem dX13_four_50 : decode cX13_four 50 = .ok (.goto 48, 3) := by decide +kernel
theorem dX13_four_53 : decode cX13_four 53 = .ok (.iload_n 3, 1) := by decide +kernel
theorem dX13_four_54 : decode cX13_four 54 = .ok (.bipush 97, 2) := by decide +kernel
theorem dX13_four_56 : decode cX13_four 56 = .ok (.if_icmp .lt 19, 3) := by decide +kernel
theorem dX13_four_59 : decode cX13_four 59 = .ok (.iload_n 3, 1) := by decide +kernel
theorem dX13_four_60 : decode cX13_four 60 = .ok (.bipush 102, 2) := by decide +kernel
theorem dX13_four_62 : decode cX13_four 62 = .ok (.if_icmp .gt 13, 3) := by decide +kernel
theorem dX13_four_65 : decode cX13_four 65 = .ok (.iload_n 3, 1) := by decide +kernel
theorem dX13_four_66 : decode cX13_four 66 = .ok (.bipush 97, 2) := by decide +kernel
theorem dX13_four_68 : decode cX13_four 68 = .ok (.isub, 1) := by decide +kernel
theorem dX13_four_69 : decode cX13_four 69 = .ok (.bipush 10, 2) := by decide +kernel
theorem dX13_four_71 : decode cX13_four 71 = .ok (.iadd, 1) := by decide +kernel
theorem dX13_four_72 : decode cX13_four 72 = .ok (.goto 26, 3) := by decide +kernel
theorem dX13_four_75 : decode cX13_four 75 = .ok (.iload_n 3, 1) := by decide +kernel
theorem dX13_four_76 : decode cX13_four 76 = .ok (.bipush 65, 2) := by decide +kernel
theorem dX13_four_78 : decode cX13_four 78 = .ok (.if_icmp .lt 19, 3) := by decide +kernel
theorem dX13_four_81 : decode cX13_four 81 = .ok (.iload_n 3, 1) := by decide +kernel
theorem dX13_four_82 : decode cX13_four 82 = .ok (.bipush 70, 2) := by decide +kernel
theorem dX13_four_84 : decode cX13_four 84 = .ok (.if_icmp .gt 13, 3) := by decide +kernel
theorem dX13_four_87 : decode cX13_four 87 = .ok (.iload_n 3, 1) := by decide +kernel
theorem dX13_four_88 : decode cX13_four 88 = .ok (.bipush 65, 2) := by decide +kernel
theorem dX13_four_90 : decode cX13_four 90 = .ok (.isub, 1) := by decide +kernel
theorem dX13_four_91 : decode cX13_four 91 = .ok (.bipush 10, 2) := by decide +kernel
theorem dX13_four_93 : decode cX13_four 93 = .ok (.iadd, 1) := by decide +kernel
theorem dX13_four_94 : decode cX13_four 94 = .ok (.goto 4, 3) := by decide +kernel
theorem dX13_four_97 : decode cX13_four 97 = .ok (.iconst (-1), 1) := by decide +kernel
theorem dX13_four_98 : decode cX13_four 98 = .ok (.istore 4, 2) := by decide +kernel
theorem dX13_four_100 : decode cX13_four 100 = .ok (.iload 4, 2) := by decide +kernel
theorem dX13_four_102 : decode cX13_four 102 = .ok (.ifCond .ge 5, 3) := by decide +kernel
theorem dX13_four_105 : decode cX13_four 105 = .ok (.iconst (-1), 1) := by decide +kernel
theorem dX13_four_106 : decode cX13_four 106 = .ok (.ireturn, 1) := by decide +kernel
theorem dX13_four_107 : decode cX13_four 107 = .ok (.bipush 16, 2) := by decide +kernel
theorem dX13_four_109 : decode cX13_four 109 = .ok (.iload_n 1, 1) := by decide +kernel
theorem dX13_four_110 : decode cX13_four 110 = .ok (.imul, 1) := by decide +kernel
theorem dX13_four_111 : decode cX13_four 111 = .ok (.iload 4, 2) := by decide +kernel
theorem dX13_four_113 : decode cX13_four 113 = .ok (.iadd, 1) := by decide +kernel
theorem dX13_four_114 : decode cX13_four 114 = .ok (.istore_n 1, 1) := by decide +kernel
theorem dX13_four_115 : decode cX13_four 115 = .ok (.aload_n 0, 1) := by decide +kernel
theorem dX13_four_116 : decode cX13_four 116 = .ok (.dup, 1) := by decide +kernel
theorem dX13_four_117 : decode cX13_four 117 = .ok (.getfield 255, 3) := by decide +kernel
theorem dX13_four_120 : decode cX13_four 120 = .ok (.iconst 1, 1) := by decide +kernel
theorem dX13_four_121 : decode cX13_four 121 = .ok (.iadd, 1) := by decide +kernel
theorem dX13_four_122 : decode cX13_four 122 = .ok (.putfield 255, 3) := by decide +kernel
theorem dX13_four_125 : decode cX13_four 125 = .ok (.iinc 2 1, 3) := by decide +kernel
theorem dX13_four_128 : decode cX13_four 128 = .ok (.goto (-124), 3) := by decide +kernel
theorem dX13_four_131 : decode cX13_four 131 = .ok (.iload_n 1, 1) := by decide +kernel
theorem dX13_four_132 : decode cX13_four 132 = .ok (.ireturn, 1) := by decide +kernel
def m_four_98 (g : Nat) (k4 : St → Int32 → Int32 → Option (St × Int32)) (S : St) (x1 : Int32) (x2 : Int32) (y0 : Int32) : Option (St × Int32) :=
if 0 ≤ y0 then (
  lt (((16 : Int32) * x1) + y0) fun x1_3 =>
  lt (sI S 0 18 ((gI S 0 18) + (1 : Int32))) fun S_4 =>
  lt (x2 + (1 : Int32)) fun x2_5 =>
  k4 S_4 x1_3 x2_5
) else (
  some (S, (-1 : Int32))
)
def m_four_97 (g : Nat) (k4 : St → Int32 → Int32 → Option (St × Int32)) (S : St) (x1 : Int32) (x2 : Int32) : Option (St × Int32) :=
m_four_98 g k4 S x1 x2 (-1 : Int32)
def m_four_75 (g : Nat) (k4 : St → Int32 → Int32 → Option (St × Int32)) (S : St) (x1 : Int32) (x2 : Int32) (x3 : Int32) : Option (St × Int32) :=
if x3 < (65 : Int32) then (
  m_four_97 g k4 S x1 x2
) else (
  if (70 : Int32) < x3 then (
    m_four_97 g k4 S x1 x2
  ) else (
    m_four_98 g k4 S x1 x2 ((x3 - (65 : Int32)) + (10 : Int32))
  )
)
def m_four_53 (g : Nat) (k4 : St → Int32 → Int32 → Option (St × Int32)) (S : St) (x1 : Int32) (x2 : Int32) (x3 : Int32) : Option (St × Int32) :=
if x3 < (97 : Int32) then (
  m_four_75 g k4 S x1 x2 x3
) else (
  if (102 : Int32) < x3 then (
    m_four_75 g k4 S x1 x2 x3
  ) else (
    m_four_98 g k4 S x1 x2 ((x3 - (97 : Int32)) + (10 : Int32))
  )
)
def m_four_33 (g : Nat) (k4 : St → Int32 → Int32 → Option (St × Int32)) (S : St) (x1 : Int32) (x2 : Int32) (y0 : Int32) : Option (St × Int32) :=
if y0 < (48 : Int32) then (
  m_four_53 g k4 S x1 x2 y0
) else (
  if (57 : Int32) < y0 then (
    m_four_53 g k4 S x1 x2 y0
  ) else (
    m_four_98 g k4 S x1 x2 (y0 - (48 : Int32))
  )
)
def b_four_4 (g : Nat) (k4 : St → Int32 → Int32 → Option (St × Int32)) (S : St) (x1 : Int32) (x2 : Int32) : Option (St × Int32) :=
if (4 : Int32) ≤ x2 then (
  some (S, x1)
) else (
  (m_isLineEnd g S (gI S 0 18)).bind fun v_1 =>
  if v_1 = 0 then (
    (aI S 5 (gI S 0 18)).bind fun v_2 =>
    m_four_33 g k4 S x1 x2 v_2
  ) else (
    m_four_33 g k4 S x1 x2 (0 : Int32)
  )
)
def m_four_4 (g : Nat) : Nat → St → Int32 → Int32 → Option (St × Int32)
  | 0, _, _, _ => none
  | n + 1, S, x1, x2 => b_four_4 g (m_four_4 g n) S x1 x2
def m_four (g : Nat) (S : St) : Option (St × Int32) :=
m_four_4 g g S (0 : Int32) (0 : Int32)
section S_four
variable {p : Program} {l : Launch} {e : Env} {s : State} {m : MethodId} {args : Array Value} {below : List Frame} {meth : Method} {c : Code} {H : Heap} {locs : List Loc} {ls : Array Slot} {D : va_G} {T : Cy} {ρ : Nat → Nat} {A : Nat → Prop}
set_option maxRecDepth 100000 in
set_option maxHeartbeats 4000000 in
theorem w_four_98  {g : Nat} {S : St} {x1 : Int32} {x2 : Int32} {y0 : Int32} (C : CallFix p m c cX13_four 5 s args tb RX13) (hr : meth.sig.returnType = (some .int)) (hk : meth.locks = false) {S' : St} {r : Int32} {k4 : St → Int32 → Int32 → Option (St × Int32)} (kk4 : ∀ (S : St) (x1 : Int32) (x2 : Int32) (H : Heap) (locs : List Loc) (ls : Array Slot), Wn Ym D T ρ S A s H locs → lv_has ls 5 [(0, .ref (ρ 0)), (1, .int x1), (2, .int x2)] → k4 S x1 x2 = some (S', r) → W p l e (rmN 1 21) s m args below meth c H locs 0 0 (MQ below (Qi Ym D T ρ A S' r) args s 0 0 A) (F0 m 4 ls [])) (w : Wn Ym D T ρ S A s H locs) (hl : lv_has ls 5 [(0, .ref (ρ 0)), (1, .int x1), (2, .int x2)]) (h : m_four_98 g k4 S x1 x2 y0 = some (S', r)) : W p l e (rmN 1 21) s m args below meth c H locs 0 0 (MQ below (Qi Ym D T ρ A S' r) args s 0 0 A) (F0 m 98 ls [.int y0]) := by
  unfold m_four_98 at h
  refine lv_istore (lv' := [(4, .int y0), (0, .ref (ρ 0)), (1, .int x1), (2, .int x2)]) C.1 C.2.1 dX13_four_98 hl (by decide) rfl (fun ls hl => ?_)
  refine lv_iload C.1 C.2.1 dX13_four_100 (lv_at hl 0 rfl) ?_
  refine lv_if_ge (tgt := 107) C.1 C.2.1 dX13_four_102 (by decide) (fun hc => ?_) (fun hc => ?_)
  · replace h := ift hc h
    refine lv_bipush (v := 16) C.1 C.2.1 dX13_four_107 (by decide) ?_
    refine lv_iload_n C.1 C.2.1 dX13_four_109 rfl (lv_at hl 2 rfl) ?_
    refine lv_imul C.1 C.2.1 dX13_four_110 ?_
    refine lv_iload C.1 C.2.1 dX13_four_111 (lv_at hl 0 rfl) ?_
    refine lv_iadd C.1 C.2.1 dX13_four_113 ?_
    obtain ⟨x1_3, ex1_3, h⟩ := lt_e h
    refine x_nm ex1_3 ?_
    refine lv_istore_n (lv' := [(1, .int x1_3), (4, .int y0), (0, .ref (ρ 0)), (2, .int x2)]) C.1 C.2.1 dX13_four_114 rfl hl (by decide) rfl (fun ls hl => ?_)
    refine lv_aload_n C.1 C.2.1 dX13_four_115 rfl (lv_at hl 2 rfl) ?_
    refine lv_dup C.1 C.2.1 dX13_four_116 rfl ?_
    refine x_getI C w fM255 obM dX13_four_117 ?_
    refine lv_iconst (v := 1) C.1 C.2.1 dX13_four_120 (by decide) ?_
    refine lv_iadd C.1 C.2.1 dX13_four_121 ?_
    obtain ⟨S_4, eS_4, h⟩ := lt_e h
    refine y_putI C w eS_4 fM255 pM18 obM dX13_four_122 (fun H locs w => ?_)
    obtain ⟨x2_5, ex2_5, h⟩ := lt_e h
    refine lv_iinc (v := x2_5) (lv' := [(2, .int x2_5), (1, .int x1_3), (4, .int y0), (0, .ref (ρ 0))]) C.1 C.2.1 dX13_four_125 hl (k := 3) rfl (by rw [ex2_5]; rfl) (by decide) rfl (fun ls hl => ?_)
    refine lv_goto (tgt := 4) C.1 C.2.1 dX13_four_128 (by decide) ?_
    exact kk4 _ _ _ _ _ _ w (lv_sub hl [3, 1, 0] rfl) h
  · replace h := iff0 hc h
    refine lv_iconst (v := (-1)) C.1 C.2.1 dX13_four_105 (by decide) ?_
    obtain ⟨rfl, rfl⟩ := prI h
    exact x_iret C w hr hk dX13_four_106
set_option maxRecDepth 100000 in
set_option maxHeartbeats 4000000 in
theorem w_four_97  {g : Nat} {S : St} {x1 : Int32} {x2 : Int32} (C : CallFix p m c cX13_four 5 s args tb RX13) (hr : meth.sig.returnType = (some .int)) (hk : meth.locks = false) {S' : St} {r : Int32} {k4 : St → Int32 → Int32 → Option (St × Int32)} (kk4 : ∀ (S : St) (x1 : Int32) (x2 : Int32) (H : Heap) (locs : List Loc) (ls : Array Slot), Wn Ym D T ρ S A s H locs → lv_has ls 5 [(0, .ref (ρ 0)), (1, .int x1), (2, .int x2)] → k4 S x1 x2 = some (S', r) → W p l e (rmN 1 21) s m args below meth c H locs 0 0 (MQ below (Qi Ym D T ρ A S' r) args s 0 0 A) (F0 m 4 ls [])) (w : Wn Ym D T ρ S A s H locs) (hl : lv_has ls 5 [(0, .ref (ρ 0)), (1, .int x1), (2, .int x2)]) (h : m_four_97 g k4 S x1 x2 = some (S', r)) : W p l e (rmN 1 21) s m args below meth c H locs 0 0 (MQ below (Qi Ym D T ρ A S' r) args s 0 0 A) (F0 m 97 ls []) := by
  unfold m_four_97 at h
  refine lv_iconst (v := (-1)) C.1 C.2.1 dX13_four_97 (by decide) ?_
  exact w_four_98 C hr hk kk4 w (lv_sub hl [0, 1, 2] rfl) h
set_option maxRecDepth 100000 in
set_option maxHeartbeats 4000000 in
theorem w_four_75  {g : Nat} {S : St} {x1 : Int32} {x2 : Int32} {x3 : Int32} (C : CallFix p m c cX13_four 5 s args tb RX13) (hr : meth.sig.returnType = (some .int)) (hk : meth.locks = false) {S' : St} {r : Int32} {k4 : St → Int32 → Int32 → Option (St × Int32)} (kk4 : ∀ (S : St) (x1 : Int32) (x2 : Int32) (H : Heap) (locs : List Loc) (ls : Array Slot), Wn Ym D T ρ S A s H locs → lv_has ls 5 [(0, .ref (ρ 0)), (1, .int x1), (2, .int x2)] → k4 S x1 x2 = some (S', r) → W p l e (rmN 1 21) s m args below meth c H locs 0 0 (MQ below (Qi Ym D T ρ A S' r) args s 0 0 A) (F0 m 4 ls [])) (w : Wn Ym D T ρ S A s H locs) (hl : lv_has ls 5 [(0, .ref (ρ 0)), (1, .int x1), (2, .int x2), (3, .int x3)]) (h : m_four_75 g k4 S x1 x2 x3 = some (S', r)) : W p l e (rmN 1 21) s m args below meth c H locs 0 0 (MQ below (Qi Ym D T ρ A S' r) args s 0 0 A) (F0 m 75 ls []) := by
  unfold m_four_75 at h
  refine lv_iload_n C.1 C.2.1 dX13_four_75 rfl (lv_at hl 3 rfl) ?_
  refine lv_bipush (v := 65) C.1 C.2.1 dX13_four_76 (by decide) ?_
  refine lv_icmp_lt (tgt := 97) C.1 C.2.1 dX13_four_78 (by decide) (fun hc => ?_) (fun hc => ?_)
  · replace h := ift hc h
    exact w_four_97 C hr hk kk4 w (lv_sub hl [0, 1, 2] rfl) h
  · replace h := iff0 hc h
    refine lv_iload_n C.1 C.2.1 dX13_four_81 rfl (lv_at hl 3 rfl) ?_
    refine lv_bipush (v := 70) C.1 C.2.1 dX13_four_82 (by decide) ?_
    refine lv_icmp_gt (tgt := 97) C.1 C.2.1 dX13_four_84 (by decide) (fun hc => ?_) (fun hc => ?_)
    · replace h := ift hc h
      exact w_four_97 C hr hk kk4 w (lv_sub hl [0, 1, 2] rfl) h
    · replace h := iff0 hc h
      refine lv_iload_n C.1 C.2.1 dX13_four_87 rfl (lv_at hl 3 rfl) ?_
      refine lv_bipush (v := 65) C.1 C.2.1 dX13_four_88 (by decide) ?_
      refine lv_isub C.1 C.2.1 dX13_four_90 ?_
      refine lv_bipush (v := 10) C.1 C.2.1 dX13_four_91 (by decide) ?_
      refine lv_iadd C.1 C.2.1 dX13_four_93 ?_
      refine lv_goto (tgt := 98) C.1 C.2.1 dX13_four_94 (by decide) ?_
      exact w_four_98 C hr hk kk4 w (lv_sub hl [0, 1, 2] rfl) h
set_option maxRecDepth 100000 in
set_option maxHeartbeats 4000000 in
theorem w_four_53  {g : Nat} {S : St} {x1 : Int32} {x2 : Int32} {x3 : Int32} (C : CallFix p m c cX13_four 5 s args tb RX13) (hr : meth.sig.returnType = (some .int)) (hk : meth.locks = false) {S' : St} {r : Int32} {k4 : St → Int32 → Int32 → Option (St × Int32)} (kk4 : ∀ (S : St) (x1 : Int32) (x2 : Int32) (H : Heap) (locs : List Loc) (ls : Array Slot), Wn Ym D T ρ S A s H locs → lv_has ls 5 [(0, .ref (ρ 0)), (1, .int x1), (2, .int x2)] → k4 S x1 x2 = some (S', r) → W p l e (rmN 1 21) s m args below meth c H locs 0 0 (MQ below (Qi Ym D T ρ A S' r) args s 0 0 A) (F0 m 4 ls [])) (w : Wn Ym D T ρ S A s H locs) (hl : lv_has ls 5 [(0, .ref (ρ 0)), (1, .int x1), (2, .int x2), (3, .int x3)]) (h : m_four_53 g k4 S x1 x2 x3 = some (S', r)) : W p l e (rmN 1 21) s m args below meth c H locs 0 0 (MQ below (Qi Ym D T ρ A S' r) args s 0 0 A) (F0 m 53 ls []) := by
  unfold m_four_53 at h
  refine lv_iload_n C.1 C.2.1 dX13_four_53 rfl (lv_at hl 3 rfl) ?_
  refine lv_bipush (v := 97) C.1 C.2.1 dX13_four_54 (by decide) ?_
  refine lv_icmp_lt (tgt := 75) C.1 C.2.1 dX13_four_56 (by decide) (fun hc => ?_) (fun hc => ?_)
  · replace h := ift hc h
    exact w_four_75 C hr hk kk4 w (lv_sub hl [0, 1, 2, 3] rfl) h
  · replace h := iff0 hc h
    refine lv_iload_n C.1 C.2.1 dX13_four_59 rfl (lv_at hl 3 rfl) ?_
    refine lv_bipush (v := 102) C.1 C.2.1 dX13_four_60 (by decide) ?_
    refine lv_icmp_gt (tgt := 75) C.1 C.2.1 dX13_four_62 (by decide) (fun hc => ?_) (fun hc => ?_)
    · replace h := ift hc h
      exact w_four_75 C hr hk kk4 w (lv_sub hl [0, 1, 2, 3] rfl) h
    · replace h := iff0 hc h
      refine lv_iload_n C.1 C.2.1 dX13_four_65 rfl (lv_at hl 3 rfl) ?_
      refine lv_bipush (v := 97) C.1 C.2.1 dX13_four_66 (by decide) ?_
      refine lv_isub C.1 C.2.1 dX13_four_68 ?_
      refine lv_bipush (v := 10) C.1 C.2.1 dX13_four_69 (by decide) ?_
      refine lv_iadd C.1 C.2.1 dX13_four_71 ?_
      refine lv_goto (tgt := 98) C.1 C.2.1 dX13_four_72 (by decide) ?_
      exact w_four_98 C hr hk kk4 w (lv_sub hl [0, 1, 2] rfl) h
set_option maxRecDepth 100000 in
set_option maxHeartbeats 4000000 in
theorem w_four_33  {g : Nat} {S : St} {x1 : Int32} {x2 : Int32} {y0 : Int32} (C : CallFix p m c cX13_four 5 s args tb RX13) (hr : meth.sig.returnType = (some .int)) (hk : meth.locks = false) {S' : St} {r : Int32} {k4 : St → Int32 → Int32 → Option (St × Int32)} (kk4 : ∀ (S : St) (x1 : Int32) (x2 : Int32) (H : Heap) (locs : List Loc) (ls : Array Slot), Wn Ym D T ρ S A s H locs → lv_has ls 5 [(0, .ref (ρ 0)), (1, .int x1), (2, .int x2)] → k4 S x1 x2 = some (S', r) → W p l e (rmN 1 21) s m args below meth c H locs 0 0 (MQ below (Qi Ym D T ρ A S' r) args s 0 0 A) (F0 m 4 ls [])) (w : Wn Ym D T ρ S A s H locs) (hl : lv_has ls 5 [(0, .ref (ρ 0)), (1, .int x1), (2, .int x2)]) (h : m_four_33 g k4 S x1 x2 y0 = some (S', r)) : W p l e (rmN 1 21) s m args below meth c H locs 0 0 (MQ below (Qi Ym D T ρ A S' r) args s 0 0 A) (F0 m 33 ls [.int y0]) := by
  unfold m_four_33 at h
  refine lv_istore_n (lv' := [(3, .int y0), (0, .ref (ρ 0)), (1, .int x1), (2, .int x2)]) C.1 C.2.1 dX13_four_33 rfl hl (by decide) rfl (fun ls hl => ?_)
  refine lv_iload_n C.1 C.2.1 dX13_four_34 rfl (lv_at hl 0 rfl) ?_
  refine lv_bipush (v := 48) C.1 C.2.1 dX13_four_35 (by decide) ?_
  refine lv_icmp_lt (tgt := 53) C.1 C.2.1 dX13_four_37 (by decide) (fun hc => ?_) (fun hc => ?_)
  · replace h := ift hc h
    exact w_four_53 C hr hk kk4 w (lv_sub hl [1, 2, 3, 0] rfl) h
  · replace h := iff0 hc h
    refine lv_iload_n C.1 C.2.1 dX13_four_40 rfl (lv_at hl 0 rfl) ?_
    refine lv_bipush (v := 57) C.1 C.2.1 dX13_four_41 (by decide) ?_
    refine lv_icmp_gt (tgt := 53) C.1 C.2.1 dX13_four_43 (by decide) (fun hc => ?_) (fun hc => ?_)
    · replace h := ift hc h
      exact w_four_53 C hr hk kk4 w (lv_sub hl [1, 2, 3, 0] rfl) h
    · replace h := iff0 hc h
      refine lv_iload_n C.1 C.2.1 dX13_four_46 rfl (lv_at hl 0 rfl) ?_
      refine lv_bipush (v := 48) C.1 C.2.1 dX13_four_47 (by decide) ?_
      refine lv_isub C.1 C.2.1 dX13_four_49 ?_
      refine lv_goto (tgt := 98) C.1 C.2.1 dX13_four_50 (by decide) ?_
      exact w_four_98 C hr hk kk4 w (lv_sub hl [1, 2, 3] rfl) h
set_option maxRecDepth 100000 in
set_option maxHeartbeats 4000000 in
theorem wb_four_4  {g : Nat} {S : St} {x1 : Int32} {x2 : Int32} (C : CallFix p m c cX13_four 5 s args tb RX13) (hr : meth.sig.returnType = (some .int)) (hk : meth.locks = false) {S' : St} {r : Int32} {k4 : St → Int32 → Int32 → Option (St × Int32)} (kk4 : ∀ (S : St) (x1 : Int32) (x2 : Int32) (H : Heap) (locs : List Loc) (ls : Array Slot), Wn Ym D T ρ S A s H locs → lv_has ls 5 [(0, .ref (ρ 0)), (1, .int x1), (2, .int x2)] → k4 S x1 x2 = some (S', r) → W p l e (rmN 1 21) s m args below meth c H locs 0 0 (MQ below (Qi Ym D T ρ A S' r) args s 0 0 A) (F0 m 4 ls [])) (w : Wn Ym D T ρ S A s H locs) (hl : lv_has ls 5 [(0, .ref (ρ 0)), (1, .int x1), (2, .int x2)]) (h : b_four_4 g k4 S x1 x2 = some (S', r)) : W p l e (rmN 1 21) s m args below meth c H locs 0 0 (MQ below (Qi Ym D T ρ A S' r) args s 0 0 A) (F0 m 4 ls []) := by
  unfold b_four_4 at h
  refine lv_iload_n C.1 C.2.1 dX13_four_4 rfl (lv_at hl 2 rfl) ?_
  refine lv_iconst (v := 4) C.1 C.2.1 dX13_four_5 (by decide) ?_
  refine lv_icmp_ge (tgt := 131) C.1 C.2.1 dX13_four_6 (by decide) (fun hc => ?_) (fun hc => ?_)
  · replace h := ift hc h
    refine lv_iload_n C.1 C.2.1 dX13_four_131 rfl (lv_at hl 1 rfl) ?_
    obtain ⟨rfl, rfl⟩ := prI h
    exact x_iret C w hr hk dX13_four_132
  · replace h := iff0 hc h
    refine lv_aload_n C.1 C.2.1 dX13_four_9 rfl (lv_at hl 0 rfl) ?_
    refine lv_aload_n C.1 C.2.1 dX13_four_10 rfl (lv_at hl 0 rfl) ?_
    refine x_getI C w fM255 obM dX13_four_11 ?_
    obtain ⟨v_1, hv_1, h⟩ := bnd h
    refine x_callVi (q := (RX13, TX13, 68)) (As := [.int (gI S 0 18)]) (rest := []) C w (k_isLineEnd l D T ρ g H.size S hv_1) vM258 ⟨by decide, by decide⟩ obM (by decide) rfl rfl rfl hl.1 (Nat.le_of_ble_eq_true rfl) ⟨Nat.zero_le _, Nat.zero_le _⟩ dX13_four_14 (fun H locs w => ?_)
    refine lv_if_eq (tgt := 24) C.1 C.2.1 dX13_four_17 (by decide) (fun hc => ?_) (fun hc => ?_)
    · replace h := ift hc h
      refine lv_aload_n C.1 C.2.1 dX13_four_24 rfl (lv_at hl 0 rfl) ?_
      refine x_getC C w 5 fM135 obM rfl dX13_four_25 ?_
      refine lv_aload_n C.1 C.2.1 dX13_four_28 rfl (lv_at hl 0 rfl) ?_
      refine x_getI C w fM255 obM dX13_four_29 ?_
      obtain ⟨v_2, hv_2, h⟩ := bnd h
      refine x_iald C w obM5 hv_2 dX13_four_32 ?_
      exact w_four_33 C hr hk kk4 w (lv_sub hl [0, 1, 2] rfl) h
    · replace h := iff0 hc h
      refine lv_iconst (v := 0) C.1 C.2.1 dX13_four_20 (by decide) ?_
      refine lv_goto (tgt := 33) C.1 C.2.1 dX13_four_21 (by decide) ?_
      exact w_four_33 C hr hk kk4 w (lv_sub hl [0, 1, 2] rfl) h
theorem w_four_4 {g : Nat} (C : CallFix p m c cX13_four 5 s args tb RX13) (hr : meth.sig.returnType = (some .int)) (hk : meth.locks = false) {S' : St} {r : Int32} (n : Nat) : ∀ (S : St) (x1 : Int32) (x2 : Int32) (H : Heap) (locs : List Loc) (ls : Array Slot), Wn Ym D T ρ S A s H locs → lv_has ls 5 [(0, .ref (ρ 0)), (1, .int x1), (2, .int x2)] → m_four_4 g n S x1 x2 = some (S', r) → W p l e (rmN 1 21) s m args below meth c H locs 0 0 (MQ below (Qi Ym D T ρ A S' r) args s 0 0 A) (F0 m 4 ls []) := by
  induction n with
  | zero => intro S x1 x2 H locs ls w hl h; exact absurd h (fun q => by cases q)
  | succ n ih => intro S x1 x2 H locs ls w hl h; exact wb_four_4 C hr hk ih w hl h
set_option maxRecDepth 100000 in
set_option maxHeartbeats 4000000 in
theorem w_four_0  {g : Nat} {S : St} (C : CallFix p m c cX13_four 5 s args tb RX13) (hr : meth.sig.returnType = (some .int)) (hk : meth.locks = false) {S' : St} {r : Int32} (w : Wn Ym D T ρ S A s H locs) (hl : lv_has ls 5 [(0, .ref (ρ 0))]) (h : m_four g S = some (S', r)) : W p l e (rmN 1 21) s m args below meth c H locs 0 0 (MQ below (Qi Ym D T ρ A S' r) args s 0 0 A) (F0 m 0 ls []) := by
  unfold m_four at h
  refine lv_iconst (v := 0) C.1 C.2.1 dX13_four_0 (by decide) ?_
  refine lv_istore_n (lv' := [(1, .int (0 : Int32)), (0, .ref (ρ 0))]) C.1 C.2.1 dX13_four_1 rfl hl (by decide) rfl (fun ls hl => ?_)
  refine lv_iconst (v := 0) C.1 C.2.1 dX13_four_2 (by decide) ?_
  refine lv_istore_n (lv' := [(2, .int (0 : Int32)), (1, .int (0 : Int32)), (0, .ref (ρ 0))]) C.1 C.2.1 dX13_four_3 rfl hl (by decide) rfl (fun ls hl => ?_)
  exact w_four_4 C hr hk g _ _ _ _ _ _ w (lv_sub hl [2, 1, 0] rfl) h
end S_four
set_option maxRecDepth 100000 in
theorem k_four (l : Launch) (D : va_G) (T : Cy) (ρ : Nat → Nat) (g sz : Nat) (S : St) {S' : St} {r : Int32} (h : m_four g S = some (S', r)) : Mi l Ym D T ρ yX13_four cX13_four 5 (some .int) 1 21 S S' r [.ref (ρ 0)] sz :=
  x_in (by decide) (Nat.le_of_ble_eq_true rfl) (fun p e s m below meth c ls C hr hk w hl => w_four_0 C hr hk w hl h)

theorem dX13_sign_0 : decode cX13_sign 0 = .ok (.aload_n 0, 1) := by decide +kernel
theorem dX13_sign_1 : decode cX13_sign 1 = .ok (.getfield 135, 3) := by decide +kernel
theorem dX13_sign_4 : decode cX13_sign 4 = .ok (.aload_n 0, 1) := by decide +kernel
theorem dX13_sign_5 : decode cX13_sign 5 = .ok (.getfield 255, 3) := by decide +kernel
theorem dX13_sign_8 : decode cX13_sign 8 = .ok (.iaload, 1) := by decide +kernel
theorem dX13_sign_9 : decode cX13_sign 9 = .ok (.istore_n 1, 1) := by decide +kernel
theorem dX13_sign_10 : decode cX13_sign 10 = .ok (.iload_n 1, 1) := by decide +kernel
theorem dX13_sign_11 : decode cX13_sign 11 = .ok (.istore_n 2, 1) := by decide +kernel
theorem dX13_sign_12 : decode cX13_sign 12 = .ok (.aload_n 0, 1) := by decide +kernel
theorem dX13_sign_13 : decode cX13_sign 13 = .ok (.iload_n 1, 1) := by decide +kernel
theorem dX13_sign_14 : decode cX13_sign 14 = .ok (.bipush 32, 2) := by decide +kernel
theorem dX13_sign_16 : decode cX13_sign 16 = .ok (.if_icmp .lt 23, 3) := by decide +kernel
theorem dX13_sign_19 : decode cX13_sign 19 = .ok (.iload_n 1, 1) := by decide +kernel
theorem dX13_sign_20 : decode cX13_sign 20 = .ok (.bipush 126, 2) := by decide +kernel
theorem dX13_sign_22 : decode cX13_sign 22 = .ok (.if_icmp .gt 17, 3) := by decide +kernel
theorem dX13_sign_25 : decode cX13_sign 25 = .ok (.aload_n 0, 1) := by decide +kernel
theorem dX13_sign_26 : decode cX13_sign 26 = .ok (.getfield 278, 3) := by decide +kernel
theorem dX13_sign_29 : decode cX13_sign 29 = .ok (.sipush 400, 3) := by decide +kernel
theorem dX13_sign_32 : decode cX13_sign 32 = .ok (.if_icmp .ge 7, 3) := by decide +kernel
theorem dX13_sign_35 : decode cX13_sign 35 = .ok (.iconst 1, 1) := by decide +kernel
theorem dX13_sign_36 : decode cX13_sign 36 = .ok (.goto 4, 3) := by decide +kernel
theorem dX13_sign_39 : decode cX13_sign 39 = .ok (.iconst 0, 1) := by decide +kernel
theorem dX13_sign_40 : decode cX13_sign 40 = .ok (.putfield 269, 3) := by decide +kernel
theorem dX13_sign_43 : decode cX13_sign 43 = .ok (.aload_n 0, 1) := by decide +kernel
theorem dX13_sign_44 : decode cX13_sign 44 = .ok (.dup, 1) := by decide +kernel
theorem dX13_sign_45 : decode cX13_sign 45 = .ok (.getfield 255, 3) := by decide +kernel
theorem dX13_sign_48 : decode cX13_sign 48 = .ok (.iconst 1, 1) := by decide +kernel
theorem dX13_sign_49 : decode cX13_sign 49 = .ok (.iadd, 1) := by decide +kernel
theorem dX13_sign_50 : decode cX13_sign 50 = .ok (.putfield 255, 3) := by decide +kernel
theorem dX13_sign_53 : decode cX13_sign 53 = .ok (.iload_n 1, 1) := by decide +kernel
theorem dX13_sign_54 : decode cX13_sign 54 = .ok (.bipush 92, 2) := by decide +kernel
theorem dX13_sign_56 : decode cX13_sign 56 = .ok (.if_icmp .ne 111, 3) := by decide +kernel
theorem dX13_sign_59 : decode cX13_sign 59 = .ok (.aload_n 0, 1) := by decide +kernel
theorem dX13_sign_60 : decode cX13_sign 60 = .ok (.getfield 269, 3) := by decide +kernel
theorem dX13_sign_63 : decode cX13_sign 63 = .ok (.ifCond .eq 104, 3) := by decide +kernel
theorem dX13_sign_66 : decode cX13_sign 66 = .ok (.aload_n 0, 1) := by decide +kernel
theorem dX13_sign_67 : decode cX13_sign 67 = .ok (.aload_n 0, 1) := by decide +kernel
theorem dX13_sign_68 : decode cX13_sign 68 = .ok (.getfield 255, 3) := by decide +kernel
theorem dX13_sign_71 : decode cX13_sign 71 = .ok (.invokevirtual 258, 3) := by decide +kernel
theorem dX13_sign_74 : decode cX13_sign 74 = .ok (.ifCond .eq 7, 3) := by decide +kernel
theorem dX13_sign_77 : decode cX13_sign 77 = .ok (.iconst 0, 1) := by decide +kernel
theorem dX13_sign_78 : decode cX13_sign 78 = .ok (.goto 12, 3) := by decide +kernel
theorem dX13_sign_81 : decode cX13_sign 81 = .ok (.aload_n 0, 1) := by decide +kernel
theorem dX13_sign_82 : decode cX13_sign 82 = .ok (.getfield 135, 3) := by decide +kernel
theorem dX13_sign_85 : decode cX13_sign 85 = .ok (.aload_n 0, 1) := by decide +kernel
theorem dX13_sign_86 : decode cX13_sign 86 = .ok (.getfield 255, 3) := by decide +kernel
theorem dX13_sign_89 : decode cX13_sign 89 = .ok (.iaload, 1) := by decide +kernel
theorem dX13_sign_90 : decode cX13_sign 90 = .ok (.istore_n 3, 1) := by decide +kernel
theorem dX13_sign_91 : decode cX13_sign 91 = .ok (.aload_n 0, 1) := by decide +kernel
theorem dX13_sign_92 : decode cX13_sign 92 = .ok (.dup, 1) := by decide +kernel
theorem dX13_sign_93 : decode cX13_sign 93 = .ok (.getfield 255, 3) := by decide +kernel
theorem dX13_sign_96 : decode cX13_sign 96 = .ok (.iconst 1, 1) := by decide +kernel
theorem dX13_sign_97 : decode cX13_sign 97 = .ok (.iadd, 1) := by decide +kernel
theorem dX13_sign_98 : decode cX13_sign 98 = .ok (.putfield 255, 3) := by decide +kernel
theorem dX13_sign_101 : decode cX13_sign 101 = .ok (.iload_n 3, 1) := by decide +kernel
theorem dX13_sign_102 : decode cX13_sign 102 = .ok (.bipush 34, 2) := by decide +kernel
theorem dX13_sign_104 : decode cX13_sign 104 = .ok (.if_icmp .eq 9, 3) := by decide +kernel
theorem dX13_sign_107 : decode cX13_sign 107 = .ok (.iload_n 3, 1) := by decide +kernel
theorem dX13_sign_108 : decode cX13_sign 108 = .ok (.bipush 92, 2) := by decide +kernel
theorem dX13_sign_110 : decode cX13_sign 110 = .ok (.if_icmp .ne 7, 3) := by decide +kernel
theorem dX13_sign_113 : decode cX13_sign 113 = .ok (.iload_n 3, 1) := by decide +kernel
theorem dX13_sign_114 : decode cX13_sign 114 = .ok (.goto 39, 3) := by decide +kernel
theorem dX13_sign_117 : decode cX13_sign 117 = .ok (.iload_n 3, 1) := by decide +kernel
theorem dX13_sign_118 : decode cX13_sign 118 = .ok (.bipush 110, 2) := by decide +kernel
theorem dX13_sign_120 : decode cX13_sign 120 = .ok (.if_icmp .ne 8, 3) := by decide +kernel
theorem dX13_sign_123 : decode cX13_sign 123 = .ok (.bipush 10, 2) := by decide +kernel
theorem dX13_sign_125 : decode cX13_sign 125 = .ok (.goto 28, 3) := by decide +kernel
theorem dX13_sign_128 : decode cX13_sign 128 = .ok (.iload_n 3, 1) := by decide +kernel
theorem dX13_sign_129 : decode cX13_sign 129 = .ok (.bipush 116, 2) := by decide +kernel
theorem dX13_sign_131 : decode cX13_sign 131 = .ok (.if_icmp .ne 8, 3) := by decide +kernel
theorem dX13_sign_134 : decode cX13_sign 134 = .ok (.bipush 9, 2) := by decide +kernel
theorem dX13_sign_136 : decode cX13_sign 136 = .ok (.goto 17, 3) := by decide +kernel
theorem dX13_sign_139 : decode cX13_sign 139 = .ok (.iload_n 3, 1) := by decide +kernel
theorem dX13_sign_140 : decode cX13_sign 140 = .ok (.bipush 117, 2) := by decide +kernel
theorem dX13_sign_142 : decode cX13_sign 142 = .ok (.if_icmp .ne 10, 3) := by decide +kernel
theorem dX13_sign_145 : decode cX13_sign 145 = .ok (.aload_n 0, 1) := by decide +kernel
theorem dX13_sign_146 : decode cX13_sign 146 = .ok (.invokevirtual 284, 3) := by decide +kernel
theorem dX13_sign_149 : decode cX13_sign 149 = .ok (.goto 4, 3) := by decide +kernel
theorem dX13_sign_152 : decode cX13_sign 152 = .ok (.iconst (-1), 1) := by decide +kernel
theorem dX13_sign_153 : decode cX13_sign 153 = .ok (.istore_n 2, 1) := by decide +kernel
theorem dX13_sign_154 : decode cX13_sign 154 = .ok (.aload_n 0, 1) := by decide +kernel
theorem dX13_sign_155 : decode cX13_sign 155 = .ok (.iload_n 2, 1) := by decide +kernel
theorem dX13_sign_156 : decode cX13_sign 156 = .ok (.ifCond .lt 7, 3) := by decide +kernel
theorem dX13_sign_159 : decode cX13_sign 159 = .ok (.iconst 1, 1) := by decide +kernel
theorem dX13_sign_160 : decode cX13_sign 160 = .ok (.goto 4, 3) := by decide +kernel
theorem dX13_sign_163 : decode cX13_sign 163 = .ok (.iconst 0, 1) := by decide +kernel
theorem dX13_sign_164 : decode cX13_sign 164 = .ok (.putfield 269, 3) := by decide +kernel
theorem dX13_sign_167 : decode cX13_sign 167 = .ok (.aload_n 0, 1) := by decide +kernel
theorem dX13_sign_168 : decode cX13_sign 168 = .ok (.getfield 269, 3) := by decide +kernel
theorem dX13_sign_171 : decode cX13_sign 171 = .ok (.ifCond .ne 4, 3) := by decide +kernel
theorem dX13_sign_174 : decode cX13_sign 174 = .ok (.return_, 1) := by decide +kernel
theorem dX13_sign_175 : decode cX13_sign 175 = .ok (.aload_n 0, 1) := by decide +kernel
theorem dX13_sign_176 : decode cX13_sign 176 = .ok (.getfield 171, 3) := by decide +kernel
theorem dX13_sign_179 : decode cX13_sign 179 = .ok (.aload_n 0, 1) := by decide +kernel
theorem dX13_sign_180 : decode cX13_sign 180 = .ok (.getfield 278, 3) := by decide +kernel
theorem dX13_sign_183 : decode cX13_sign 183 = .ok (.iload_n 2, 1) := by decide +kernel
theorem dX13_sign_184 : decode cX13_sign 184 = .ok (.iastore, 1) := by decide +kernel
theorem dX13_sign_185 : decode cX13_sign 185 = .ok (.aload_n 0, 1) := by decide +kernel
theorem dX13_sign_186 : decode cX13_sign 186 = .ok (.dup, 1) := by decide +kernel
theorem dX13_sign_187 : decode cX13_sign 187 = .ok (.getfield 278, 3) := by decide +kernel
theorem dX13_sign_190 : decode cX13_sign 190 = .ok (.iconst 1, 1) := by decide +kernel
theorem dX13_sign_191 : decode cX13_sign 191 = .ok (.iadd, 1) := by decide +kernel
theorem dX13_sign_192 : decode cX13_sign 192 = .ok (.putfield 278, 3) := by decide +kernel
theorem dX13_sign_195 : decode cX13_sign 195 = .ok (.return_, 1) := by decide +kernel
def m_sign_167 (g : Nat) (S : St) (x2 : Int32) : Option St :=
if (gI S 0 24) = 0 then (
  some S
) else (
  (tI S 17 (gI S 0 22) x2).bind fun S_5 =>
  lt (sI S_5 0 22 ((gI S_5 0 22) + (1 : Int32))) fun S_6 =>
  some S_6
)
def m_sign_164 (g : Nat) (S : St) (x2 : Int32) (y1 : Int32) : Option St :=
if y1 = 0 ∨ y1 = 1 then
lt (sI S 0 24 y1) fun S_9 =>
m_sign_167 g S_9 x2
else none
def m_sign_153 (g : Nat) (S : St) (y0 : Int32) : Option St :=
if y0 < 0 then (
  m_sign_164 g S y0 (0 : Int32)
) else (
  m_sign_164 g S y0 (1 : Int32)
)
def m_sign_113 (g : Nat) (S : St) (x3 : Int32) : Option St :=
m_sign_153 g S x3
def m_sign_90 (g : Nat) (S : St) (y0 : Int32) : Option St :=
lt (sI S 0 18 ((gI S 0 18) + (1 : Int32))) fun S_7 =>
if y0 = (34 : Int32) then (
  m_sign_113 g S_7 y0
) else (
  if y0 = (92 : Int32) then (
    m_sign_113 g S_7 y0
  ) else (
    if y0 = (110 : Int32) then (
      m_sign_153 g S_7 (10 : Int32)
    ) else (
      if y0 = (116 : Int32) then (
        m_sign_153 g S_7 (9 : Int32)
      ) else (
        if y0 = (117 : Int32) then (
          (m_four g S_7).bind fun (S_8, v_9) =>
          m_sign_153 g S_8 v_9
        ) else (
          m_sign_153 g S_7 (-1 : Int32)
        )
      )
    )
  )
)
def m_sign_40 (g : Nat) (S : St) (x1 : Int32) (x2 : Int32) (y1 : Int32) : Option St :=
if y1 = 0 ∨ y1 = 1 then
lt (sI S 0 24 y1) fun S_3 =>
lt (sI S_3 0 18 ((gI S_3 0 18) + (1 : Int32))) fun S_4 =>
if x1 = (92 : Int32) then (
  if (gI S_4 0 24) = 0 then (
    m_sign_167 g S_4 x2
  ) else (
    (m_isLineEnd g S_4 (gI S_4 0 18)).bind fun v_5 =>
    if v_5 = 0 then (
      (aI S_4 5 (gI S_4 0 18)).bind fun v_6 =>
      m_sign_90 g S_4 v_6
    ) else (
      m_sign_90 g S_4 (0 : Int32)
    )
  )
) else (
  m_sign_167 g S_4 x2
)
else none
def m_sign_39 (g : Nat) (S : St) (x1 : Int32) (x2 : Int32) : Option St :=
m_sign_40 g S x1 x2 (0 : Int32)
def m_sign (g : Nat) (S : St) : Option St :=
(aI S 5 (gI S 0 18)).bind fun v_1 =>
if v_1 < (32 : Int32) then (
  m_sign_39 g S v_1 v_1
) else (
  if (126 : Int32) < v_1 then (
    m_sign_39 g S v_1 v_1
  ) else (
    if (400 : Int32) ≤ (gI S 0 22) then (
      m_sign_39 g S v_1 v_1
    ) else (
      m_sign_40 g S v_1 v_1 (1 : Int32)
    )
  )
)
section S_sign
variable {p : Program} {l : Launch} {e : Env} {s : State} {m : MethodId} {args : Array Value} {below : List Frame} {meth : Method} {c : Code} {H : Heap} {locs : List Loc} {ls : Array Slot} {D : va_G} {T : Cy} {ρ : Nat → Nat} {A : Nat → Prop}
set_option maxRecDepth 100000 in
set_option maxHeartbeats 4000000 in
theorem w_sign_167  {g : Nat} {S : St} {x2 : Int32} (C : CallFix p m c cX13_sign 4 s args tb RX13) (hr : meth.sig.returnType = none) (hk : meth.locks = false) {S' : St} (w : Wn Ym D T ρ S A s H locs) (hl : lv_has ls 4 [(0, .ref (ρ 0)), (2, .int x2)]) (h : m_sign_167 g S x2 = some S') : W p l e (rmN 2 45) s m args below meth c H locs 0 0 (MQ below (Qv Ym D T ρ A S') args s 0 0 A) (F0 m 167 ls []) := by
  unfold m_sign_167 at h
  refine lv_aload_n C.1 C.2.1 dX13_sign_167 rfl (lv_at hl 0 rfl) ?_
  refine x_getI C w fM269 obM dX13_sign_168 ?_
  refine lv_if_ne (tgt := 175) C.1 C.2.1 dX13_sign_171 (by decide) (fun hc => ?_) (fun hc => ?_)
  · replace h := iff0 hc h
    refine lv_aload_n C.1 C.2.1 dX13_sign_175 rfl (lv_at hl 0 rfl) ?_
    refine x_getC C w 17 fM171 obM rfl dX13_sign_176 ?_
    refine lv_aload_n C.1 C.2.1 dX13_sign_179 rfl (lv_at hl 0 rfl) ?_
    refine x_getI C w fM278 obM dX13_sign_180 ?_
    refine lv_iload_n C.1 C.2.1 dX13_sign_183 rfl (lv_at hl 1 rfl) ?_
    obtain ⟨S_5, hS_5, h⟩ := bnd h
    refine x_iast C w obM17 hS_5 dX13_sign_184 (fun H locs w => ?_)
    refine lv_aload_n C.1 C.2.1 dX13_sign_185 rfl (lv_at hl 0 rfl) ?_
    refine lv_dup C.1 C.2.1 dX13_sign_186 rfl ?_
    refine x_getI C w fM278 obM dX13_sign_187 ?_
    refine lv_iconst (v := 1) C.1 C.2.1 dX13_sign_190 (by decide) ?_
    refine lv_iadd C.1 C.2.1 dX13_sign_191 ?_
    obtain ⟨S_6, eS_6, h⟩ := lt_e h
    refine y_putI C w eS_6 fM278 pM22 obM dX13_sign_192 (fun H locs w => ?_)
    obtain rfl := som h
    exact x_vret C w hr hk dX13_sign_195
  · replace h := ift hc h
    obtain rfl := som h
    exact x_vret C w hr hk dX13_sign_174
set_option maxRecDepth 100000 in
set_option maxHeartbeats 4000000 in
theorem w_sign_164  {g : Nat} {S : St} {x2 : Int32} {y1 : Int32} (C : CallFix p m c cX13_sign 4 s args tb RX13) (hr : meth.sig.returnType = none) (hk : meth.locks = false) {S' : St} (w : Wn Ym D T ρ S A s H locs) (hl : lv_has ls 4 [(0, .ref (ρ 0)), (2, .int x2)]) (h : m_sign_164 g S x2 y1 = some S') : W p l e (rmN 2 45) s m args below meth c H locs 0 0 (MQ below (Qv Ym D T ρ A S') args s 0 0 A) (F0 m 164 ls [.int y1, .ref (ρ 0)]) := by
  unfold m_sign_164 at h
  by_cases hz_8 : y1 = 0 ∨ y1 = 1
  case neg => exact absurd (iff0 hz_8 h) (fun q => by cases q)
  replace h := ift hz_8 h
  obtain ⟨S_9, eS_9, h⟩ := lt_e h
  refine y_putZ C w eS_9 fM269 pM24 hz_8 obM dX13_sign_164 (fun H locs w => ?_)
  exact w_sign_167 C hr hk w (lv_sub hl [0, 1] rfl) h
set_option maxRecDepth 100000 in
set_option maxHeartbeats 4000000 in
theorem w_sign_153  {g : Nat} {S : St} {y0 : Int32} (C : CallFix p m c cX13_sign 4 s args tb RX13) (hr : meth.sig.returnType = none) (hk : meth.locks = false) {S' : St} (w : Wn Ym D T ρ S A s H locs) (hl : lv_has ls 4 [(0, .ref (ρ 0))]) (h : m_sign_153 g S y0 = some S') : W p l e (rmN 2 45) s m args below meth c H locs 0 0 (MQ below (Qv Ym D T ρ A S') args s 0 0 A) (F0 m 153 ls [.int y0]) := by
  unfold m_sign_153 at h
  refine lv_istore_n (lv' := [(2, .int y0), (0, .ref (ρ 0))]) C.1 C.2.1 dX13_sign_153 rfl hl (by decide) rfl (fun ls hl => ?_)
  refine lv_aload_n C.1 C.2.1 dX13_sign_154 rfl (lv_at hl 1 rfl) ?_
  refine lv_iload_n C.1 C.2.1 dX13_sign_155 rfl (lv_at hl 0 rfl) ?_
  refine lv_if_lt (tgt := 163) C.1 C.2.1 dX13_sign_156 (by decide) (fun hc => ?_) (fun hc => ?_)
  · replace h := ift hc h
    refine lv_iconst (v := 0) C.1 C.2.1 dX13_sign_163 (by decide) ?_
    exact w_sign_164 C hr hk w (lv_sub hl [1, 0] rfl) h
  · replace h := iff0 hc h
    refine lv_iconst (v := 1) C.1 C.2.1 dX13_sign_159 (by decide) ?_
    refine lv_goto (tgt := 164) C.1 C.2.1 dX13_sign_160 (by decide) ?_
    exact w_sign_164 C hr hk w (lv_sub hl [1, 0] rfl) h
set_option maxRecDepth 100000 in
set_option maxHeartbeats 4000000 in
theorem w_sign_113  {g : Nat} {S : St} {x3 : Int32} (C : CallFix p m c cX13_sign 4 s args tb RX13) (hr : meth.sig.returnType = none) (hk : meth.locks = false) {S' : St} (w : Wn Ym D T ρ S A s H locs) (hl : lv_has ls 4 [(0, .ref (ρ 0)), (3, .int x3)]) (h : m_sign_113 g S x3 = some S') : W p l e (rmN 2 45) s m args below meth c H locs 0 0 (MQ below (Qv Ym D T ρ A S') args s 0 0 A) (F0 m 113 ls []) := by
  unfold m_sign_113 at h
  refine lv_iload_n C.1 C.2.1 dX13_sign_113 rfl (lv_at hl 1 rfl) ?_
  refine lv_goto (tgt := 153) C.1 C.2.1 dX13_sign_114 (by decide) ?_
  exact w_sign_153 C hr hk w (lv_sub hl [0] rfl) h
set_option maxRecDepth 100000 in
set_option maxHeartbeats 4000000 in
theorem w_sign_90  {g : Nat} {S : St} {y0 : Int32} (C : CallFix p m c cX13_sign 4 s args tb RX13) (hr : meth.sig.returnType = none) (hk : meth.locks = false) {S' : St} (w : Wn Ym D T ρ S A s H locs) (hl : lv_has ls 4 [(0, .ref (ρ 0))]) (h : m_sign_90 g S y0 = some S') : W p l e (rmN 2 45) s m args below meth c H locs 0 0 (MQ below (Qv Ym D T ρ A S') args s 0 0 A) (F0 m 90 ls [.int y0]) := by
  unfold m_sign_90 at h
  refine lv_istore_n (lv' := [(3, .int y0), (0, .ref (ρ 0))]) C.1 C.2.1 dX13_sign_90 rfl hl (by decide) rfl (fun ls hl => ?_)
  refine lv_aload_n C.1 C.2.1 dX13_sign_91 rfl (lv_at hl 1 rfl) ?_
  refine lv_dup C.1 C.2.1 dX13_sign_92 rfl ?_
  refine x_getI C w fM255 obM dX13_sign_93 ?_
  refine lv_iconst (v := 1) C.1 C.2.1 dX13_sign_96 (by decide) ?_
  refine lv_iadd C.1 C.2.1 dX13_sign_97 ?_
  obtain ⟨S_7, eS_7, h⟩ := lt_e h
  refine y_putI C w eS_7 fM255 pM18 obM dX13_sign_98 (fun H locs w => ?_)
  refine lv_iload_n C.1 C.2.1 dX13_sign_101 rfl (lv_at hl 0 rfl) ?_
  refine lv_bipush (v := 34) C.1 C.2.1 dX13_sign_102 (by decide) ?_
  refine lv_icmp_eq (tgt := 113) C.1 C.2.1 dX13_sign_104 (by decide) (fun hc => ?_) (fun hc => ?_)
  · replace h := ift hc h
    exact w_sign_113 C hr hk w (lv_sub hl [1, 0] rfl) h
  · replace h := iff0 hc h
    refine lv_iload_n C.1 C.2.1 dX13_sign_107 rfl (lv_at hl 0 rfl) ?_
    refine lv_bipush (v := 92) C.1 C.2.1 dX13_sign_108 (by decide) ?_
    refine lv_icmp_ne (tgt := 117) C.1 C.2.1 dX13_sign_110 (by decide) (fun hc => ?_) (fun hc => ?_)
    · replace h := iff0 hc h
      refine lv_iload_n C.1 C.2.1 dX13_sign_117 rfl (lv_at hl 0 rfl) ?_
      refine lv_bipush (v := 110) C.1 C.2.1 dX13_sign_118 (by decide) ?_
      refine lv_icmp_ne (tgt := 128) C.1 C.2.1 dX13_sign_120 (by decide) (fun hc => ?_) (fun hc => ?_)
      · replace h := iff0 hc h
        refine lv_iload_n C.1 C.2.1 dX13_sign_128 rfl (lv_at hl 0 rfl) ?_
        refine lv_bipush (v := 116) C.1 C.2.1 dX13_sign_129 (by decide) ?_
        refine lv_icmp_ne (tgt := 139) C.1 C.2.1 dX13_sign_131 (by decide) (fun hc => ?_) (fun hc => ?_)
        · replace h := iff0 hc h
          refine lv_iload_n C.1 C.2.1 dX13_sign_139 rfl (lv_at hl 0 rfl) ?_
          refine lv_bipush (v := 117) C.1 C.2.1 dX13_sign_140 (by decide) ?_
          refine lv_icmp_ne (tgt := 152) C.1 C.2.1 dX13_sign_142 (by decide) (fun hc => ?_) (fun hc => ?_)
          · replace h := iff0 hc h
            refine lv_iconst (v := (-1)) C.1 C.2.1 dX13_sign_152 (by decide) ?_
            exact w_sign_153 C hr hk w (lv_sub hl [1] rfl) h
          · replace h := ift hc h
            refine lv_aload_n C.1 C.2.1 dX13_sign_145 rfl (lv_at hl 1 rfl) ?_
            obtain ⟨⟨S_8, v_9⟩, hv_9, h⟩ := bnd h
            refine x_callVi (q := (RX13, TX13, 68)) (As := []) (rest := []) C w (k_four l D T ρ g H.size S_7 hv_9) vM284 ⟨by decide, by decide⟩ obM (by decide) rfl rfl rfl hl.1 (Nat.le_of_ble_eq_true rfl) ⟨Nat.zero_le _, Nat.zero_le _⟩ dX13_sign_146 (fun H locs w => ?_)
            refine lv_goto (tgt := 153) C.1 C.2.1 dX13_sign_149 (by decide) ?_
            exact w_sign_153 C hr hk w (lv_sub hl [1] rfl) h
        · replace h := ift hc h
          refine lv_bipush (v := 9) C.1 C.2.1 dX13_sign_134 (by decide) ?_
          refine lv_goto (tgt := 153) C.1 C.2.1 dX13_sign_136 (by decide) ?_
          exact w_sign_153 C hr hk w (lv_sub hl [1] rfl) h
      · replace h := ift hc h
        refine lv_bipush (v := 10) C.1 C.2.1 dX13_sign_123 (by decide) ?_
        refine lv_goto (tgt := 153) C.1 C.2.1 dX13_sign_125 (by decide) ?_
        exact w_sign_153 C hr hk w (lv_sub hl [1] rfl) h
    · replace h := ift hc h
      exact w_sign_113 C hr hk w (lv_sub hl [1, 0] rfl) h
set_option maxRecDepth 100000 in
set_option maxHeartbeats 4000000 in
theorem w_sign_40  {g : Nat} {S : St} {x1 : Int32} {x2 : Int32} {y1 : Int32} (C : CallFix p m c cX13_sign 4 s args tb RX13) (hr : meth.sig.returnType = none) (hk : meth.locks = false) {S' : St} (w : Wn Ym D T ρ S A s H locs) (hl : lv_has ls 4 [(0, .ref (ρ 0)), (1, .int x1), (2, .int x2)]) (h : m_sign_40 g S x1 x2 y1 = some S') : W p l e (rmN 2 45) s m args below meth c H locs 0 0 (MQ below (Qv Ym D T ρ A S') args s 0 0 A) (F0 m 40 ls [.int y1, .ref (ρ 0)]) := by
  unfold m_sign_40 at h
  by_cases hz_2 : y1 = 0 ∨ y1 = 1
  case neg => exact absurd (iff0 hz_2 h) (fun q => by cases q)
  replace h := ift hz_2 h
  obtain ⟨S_3, eS_3, h⟩ := lt_e h
  refine y_putZ C w eS_3 fM269 pM24 hz_2 obM dX13_sign_40 (fun H locs w => ?_)
  refine lv_aload_n C.1 C.2.1 dX13_sign_43 rfl (lv_at hl 0 rfl) ?_
  refine lv_dup C.1 C.2.1 dX13_sign_44 rfl ?_
  refine x_getI C w fM255 obM dX13_sign_45 ?_
  refine lv_iconst (v := 1) C.1 C.2.1 dX13_sign_48 (by decide) ?_
  refine lv_iadd C.1 C.2.1 dX13_sign_49 ?_
  obtain ⟨S_4, eS_4, h⟩ := lt_e h
  refine y_putI C w eS_4 fM255 pM18 obM dX13_sign_50 (fun H locs w => ?_)
  refine lv_iload_n C.1 C.2.1 dX13_sign_53 rfl (lv_at hl 1 rfl) ?_
  refine lv_bipush (v := 92) C.1 C.2.1 dX13_sign_54 (by decide) ?_
  refine lv_icmp_ne (tgt := 167) C.1 C.2.1 dX13_sign_56 (by decide) (fun hc => ?_) (fun hc => ?_)
  · replace h := iff0 hc h
    exact w_sign_167 C hr hk w (lv_sub hl [0, 2] rfl) h
  · replace h := ift hc h
    refine lv_aload_n C.1 C.2.1 dX13_sign_59 rfl (lv_at hl 0 rfl) ?_
    refine x_getI C w fM269 obM dX13_sign_60 ?_
    refine lv_if_eq (tgt := 167) C.1 C.2.1 dX13_sign_63 (by decide) (fun hc => ?_) (fun hc => ?_)
    · replace h := ift hc h
      exact w_sign_167 C hr hk w (lv_sub hl [0, 2] rfl) h
    · replace h := iff0 hc h
      refine lv_aload_n C.1 C.2.1 dX13_sign_66 rfl (lv_at hl 0 rfl) ?_
      refine lv_aload_n C.1 C.2.1 dX13_sign_67 rfl (lv_at hl 0 rfl) ?_
      refine x_getI C w fM255 obM dX13_sign_68 ?_
      obtain ⟨v_5, hv_5, h⟩ := bnd h
      refine x_callVi (q := (RX13, TX13, 68)) (As := [.int (gI S_4 0 18)]) (rest := []) C w (k_isLineEnd l D T ρ g H.size S_4 hv_5) vM258 ⟨by decide, by decide⟩ obM (by decide) rfl rfl rfl hl.1 (Nat.le_of_ble_eq_true rfl) ⟨Nat.zero_le _, Nat.zero_le _⟩ dX13_sign_71 (fun H locs w => ?_)
      refine lv_if_eq (tgt := 81) C.1 C.2.1 dX13_sign_74 (by decide) (fun hc => ?_) (fun hc => ?_)
      · replace h := ift hc h
        refine lv_aload_n C.1 C.2.1 dX13_sign_81 rfl (lv_at hl 0 rfl) ?_
        refine x_getC C w 5 fM135 obM rfl dX13_sign_82 ?_
        refine lv_aload_n C.1 C.2.1 dX13_sign_85 rfl (lv_at hl 0 rfl) ?_
        refine x_getI C w fM255 obM dX13_sign_86 ?_
        obtain ⟨v_6, hv_6, h⟩ := bnd h
        refine x_iald C w obM5 hv_6 dX13_sign_89 ?_
        exact w_sign_90 C hr hk w (lv_sub hl [0] rfl) h
      · replace h := iff0 hc h
        refine lv_iconst (v := 0) C.1 C.2.1 dX13_sign_77 (by decide) ?_
        refine lv_goto (tgt := 90) C.1 C.2.1 dX13_sign_78 (by decide) ?_
        exact w_sign_90 C hr hk w (lv_sub hl [0] rfl) h
set_option maxRecDepth 100000 in
set_option maxHeartbeats 4000000 in
theorem w_sign_39  {g : Nat} {S : St} {x1 : Int32} {x2 : Int32} (C : CallFix p m c cX13_sign 4 s args tb RX13) (hr : meth.sig.returnType = none) (hk : meth.locks = false) {S' : St} (w : Wn Ym D T ρ S A s H locs) (hl : lv_has ls 4 [(0, .ref (ρ 0)), (1, .int x1), (2, .int x2)]) (h : m_sign_39 g S x1 x2 = some S') : W p l e (rmN 2 45) s m args below meth c H locs 0 0 (MQ below (Qv Ym D T ρ A S') args s 0 0 A) (F0 m 39 ls [.ref (ρ 0)]) := by
  unfold m_sign_39 at h
  refine lv_iconst (v := 0) C.1 C.2.1 dX13_sign_39 (by decide) ?_
  exact w_sign_40 C hr hk w (lv_sub hl [0, 1, 2] rfl) h
set_option maxRecDepth 100000 in
set_option maxHeartbeats 4000000 in
theorem w_sign_0  {g : Nat} {S : St} (C : CallFix p m c cX13_sign 4 s args tb RX13) (hr : meth.sig.returnType = none) (hk : meth.locks = false) {S' : St} (w : Wn Ym D T ρ S A s H locs) (hl : lv_has ls 4 [(0, .ref (ρ 0))]) (h : m_sign g S = some S') : W p l e (rmN 2 45) s m args below meth c H locs 0 0 (MQ below (Qv Ym D T ρ A S') args s 0 0 A) (F0 m 0 ls []) := by
  unfold m_sign at h
  refine lv_aload_n C.1 C.2.1 dX13_sign_0 rfl (lv_at hl 0 rfl) ?_
  refine x_getC C w 5 fM135 obM rfl dX13_sign_1 ?_
  refine lv_aload_n C.1 C.2.1 dX13_sign_4 rfl (lv_at hl 0 rfl) ?_
  refine x_getI C w fM255 obM dX13_sign_5 ?_
  obtain ⟨v_1, hv_1, h⟩ := bnd h
  refine x_iald C w obM5 hv_1 dX13_sign_8 ?_
  refine lv_istore_n (lv' := [(1, .int v_1), (0, .ref (ρ 0))]) C.1 C.2.1 dX13_sign_9 rfl hl (by decide) rfl (fun ls hl => ?_)
  refine lv_iload_n C.1 C.2.1 dX13_sign_10 rfl (lv_at hl 0 rfl) ?_
  refine lv_istore_n (lv' := [(2, .int v_1), (1, .int v_1), (0, .ref (ρ 0))]) C.1 C.2.1 dX13_sign_11 rfl hl (by decide) rfl (fun ls hl => ?_)
  refine lv_aload_n C.1 C.2.1 dX13_sign_12 rfl (lv_at hl 2 rfl) ?_
  refine lv_iload_n C.1 C.2.1 dX13_sign_13 rfl (lv_at hl 1 rfl) ?_
  refine lv_bipush (v := 32) C.1 C.2.1 dX13_sign_14 (by decide) ?_
  refine lv_icmp_lt (tgt := 39) C.1 C.2.1 dX13_sign_16 (by decide) (fun hc => ?_) (fun hc => ?_)
  · replace h := ift hc h
    exact w_sign_39 C hr hk w (lv_sub hl [2, 1, 0] rfl) h
  · replace h := iff0 hc h
    refine lv_iload_n C.1 C.2.1 dX13_sign_19 rfl (lv_at hl 1 rfl) ?_
    refine lv_bipush (v := 126) C.1 C.2.1 dX13_sign_20 (by decide) ?_
    refine lv_icmp_gt (tgt := 39) C.1 C.2.1 dX13_sign_22 (by decide) (fun hc => ?_) (fun hc => ?_)
    · replace h := ift hc h
      exact w_sign_39 C hr hk w (lv_sub hl [2, 1, 0] rfl) h
    · replace h := iff0 hc h
      refine lv_aload_n C.1 C.2.1 dX13_sign_25 rfl (lv_at hl 2 rfl) ?_
      refine x_getI C w fM278 obM dX13_sign_26 ?_
      refine lv_sipush (v := 400) C.1 C.2.1 dX13_sign_29 (by decide) ?_
      refine lv_icmp_ge (tgt := 39) C.1 C.2.1 dX13_sign_32 (by decide) (fun hc => ?_) (fun hc => ?_)
      · replace h := ift hc h
        exact w_sign_39 C hr hk w (lv_sub hl [2, 1, 0] rfl) h
      · replace h := iff0 hc h
        refine lv_iconst (v := 1) C.1 C.2.1 dX13_sign_35 (by decide) ?_
        refine lv_goto (tgt := 40) C.1 C.2.1 dX13_sign_36 (by decide) ?_
        exact w_sign_40 C hr hk w (lv_sub hl [2, 1, 0] rfl) h
end S_sign
set_option maxRecDepth 100000 in
theorem k_sign (l : Launch) (D : va_G) (T : Cy) (ρ : Nat → Nat) (g sz : Nat) (S : St) {S' : St} (h : m_sign g S = some S') : Mv l Ym D T ρ yX13_sign cX13_sign 4 none 2 45 S S' [.ref (ρ 0)] sz :=
  x_in (by decide) (Nat.le_of_ble_eq_true rfl) (fun p e s m below meth c ls C hr hk w hl => w_sign_0 C hr hk w hl h)

theorem dX13_readLiteral_0 : decode cX13_readLiteral 0 = .ok (.aload_n 0, 1) := by decide +kernel
theorem dX13_readLiteral_1 : decode cX13_readLiteral 1 = .ok (.iconst 0, 1) := by decide +kernel
theorem dX13_readLiteral_2 : decode cX13_readLiteral 2 = .ok (.putfield 278, 3) := by decide +kernel
theorem dX13_readLiteral_5 : decode cX13_readLiteral 5 = .ok (.aload_n 0, 1) := by decide +kernel
theorem dX13_readLiteral_6 : decode cX13_readLiteral 6 = .ok (.dup, 1) := by decide +kernel
theorem dX13_readLiteral_7 : decode cX13_readLiteral 7 = .ok (.getfield 255, 3) := by decide +kernel
theorem dX13_readLiteral_10 : decode cX13_readLiteral 10 = .ok (.iconst 1, 1) := by decide +kernel
theorem dX13_readLiteral_11 : decode cX13_readLiteral 11 = .ok (.iadd, 1) := by decide +kernel
theorem dX13_readLiteral_12 : decode cX13_readLiteral 12 = .ok (.putfield 255, 3) := by decide +kernel
theorem dX13_readLiteral_15 : decode cX13_readLiteral 15 = .ok (.iconst 1, 1) := by decide +kernel
theorem dX13_readLiteral_16 : decode cX13_readLiteral 16 = .ok (.istore_n 1, 1) := by decide +kernel
theorem dX13_readLiteral_17 : decode cX13_readLiteral 17 = .ok (.iload_n 1, 1) := by decide +kernel
theorem dX13_readLiteral_18 : decode cX13_readLiteral 18 = .ok (.ifCond .eq 65, 3) := by decide +kernel
theorem dX13_readLiteral_21 : decode cX13_readLiteral 21 = .ok (.aload_n 0, 1) := by decide +kernel
theorem dX13_readLiteral_22 : decode cX13_readLiteral 22 = .ok (.getfield 269, 3) := by decide +kernel
theorem dX13_readLiteral_25 : decode cX13_readLiteral 25 = .ok (.ifCond .eq 58, 3) := by decide +kernel
theorem dX13_readLiteral_28 : decode cX13_readLiteral 28 = .ok (.aload_n 0, 1) := by decide +kernel
theorem dX13_readLiteral_29 : decode cX13_readLiteral 29 = .ok (.aload_n 0, 1) := by decide +kernel
theorem dX13_readLiteral_30 : decode cX13_readLiteral 30 = .ok (.getfield 255, 3) := by decide +kernel
theorem dX13_readLiteral_33 : decode cX13_readLiteral 33 = .ok (.invokevirtual 258, 3) := by decide +kernel
theorem dX13_readLiteral_36 : decode cX13_readLiteral 36 = .ok (.ifCond .eq 11, 3) := by decide +kernel
theorem dX13_readLiteral_39 : decode cX13_readLiteral 39 = .ok (.aload_n 0, 1) := by decide +kernel
theorem dX13_readLiteral_40 : decode cX13_readLiteral 40 = .ok (.iconst 0, 1) := by decide +kernel
theorem dX13_readLiteral_41 : decode cX13_readLiteral 41 = .ok (.putfield 269, 3) := by decide +kernel
theorem dX13_readLiteral_44 : decode cX13_readLiteral 44 = .ok (.goto (-27), 3) := by decide +kernel
theorem dX13_readLiteral_47 : decode cX13_readLiteral 47 = .ok (.aload_n 0, 1) := by decide +kernel
theorem dX13_readLiteral_48 : decode cX13_readLiteral 48 = .ok (.getfield 135, 3) := by decide +kernel
theorem dX13_readLiteral_51 : decode cX13_readLiteral 51 = .ok (.aload_n 0, 1) := by decide +kernel
theorem dX13_readLiteral_52 : decode cX13_readLiteral 52 = .ok (.getfield 255, 3) := by decide +kernel
theorem dX13_readLiteral_55 : decode cX13_readLiteral 55 = .ok (.iaload, 1) := by decide +kernel
theorem dX13_readLiteral_56 : decode cX13_readLiteral 56 = .ok (.bipush 34, 2) := by decide +kernel
theorem dX13_readLiteral_58 : decode cX13_readLiteral 58 = .ok (.if_icmp .ne 18, 3) := by decide +kernel
theorem dX13_readLiteral_61 : decode cX13_readLiteral 61 = .ok (.iconst 0, 1) := by decide +kernel
theorem dX13_readLiteral_62 : decode cX13_readLiteral 62 = .ok (.istore_n 1, 1) := by decide +kernel
theorem dX13_readLiteral_63 : decode cX13_readLiteral 63 = .ok (.aload_n 0, 1) := by decide +kernel
theorem dX13_readLiteral_64 : decode cX13_readLiteral 64 = .ok (.dup, 1) := by decide +kernel
theorem dX13_readLiteral_65 : decode cX13_readLiteral 65 = .ok (.getfield 255, 3) := by decide +kernel
theorem dX13_readLiteral_68 : decode cX13_readLiteral 68 = .ok (.iconst 1, 1) := by decide +kernel
theorem dX13_readLiteral_69 : decode cX13_readLiteral 69 = .ok (.iadd, 1) := by decide +kernel
theorem dX13_readLiteral_70 : decode cX13_readLiteral 70 = .ok (.putfield 255, 3) := by decide +kernel
theorem dX13_readLiteral_73 : decode cX13_readLiteral 73 = .ok (.goto (-56), 3) := by decide +kernel
theorem dX13_readLiteral_76 : decode cX13_readLiteral 76 = .ok (.aload_n 0, 1) := by decide +kernel
theorem dX13_readLiteral_77 : decode cX13_readLiteral 77 = .ok (.invokevirtual 281, 3) := by decide +kernel
theorem dX13_readLiteral_80 : decode cX13_readLiteral 80 = .ok (.goto (-63), 3) := by decide +kernel
theorem dX13_readLiteral_83 : decode cX13_readLiteral 83 = .ok (.aload_n 0, 1) := by decide +kernel
theorem dX13_readLiteral_84 : decode cX13_readLiteral 84 = .ok (.aload_n 0, 1) := by decide +kernel
theorem dX13_readLiteral_85 : decode cX13_readLiteral 85 = .ok (.getfield 269, 3) := by decide +kernel
theorem dX13_readLiteral_88 : decode cX13_readLiteral 88 = .ok (.ifCond .eq 32, 3) := by decide +kernel
theorem dX13_readLiteral_91 : decode cX13_readLiteral 91 = .ok (.aload_n 0, 1) := by decide +kernel
theorem dX13_readLiteral_92 : decode cX13_readLiteral 92 = .ok (.aload_n 0, 1) := by decide +kernel
theorem dX13_readLiteral_93 : decode cX13_readLiteral 93 = .ok (.getfield 255, 3) := by decide +kernel
theorem dX13_readLiteral_96 : decode cX13_readLiteral 96 = .ok (.invokevirtual 258, 3) := by decide +kernel
theorem dX13_readLiteral_99 : decode cX13_readLiteral 99 = .ok (.ifCond .ne 17, 3) := by decide +kernel
theorem dX13_readLiteral_102 : decode cX13_readLiteral 102 = .ok (.aload_n 0, 1) := by decide +kernel
theorem dX13_readLiteral_103 : decode cX13_readLiteral 103 = .ok (.getfield 135, 3) := by decide +kernel
theorem dX13_readLiteral_106 : decode cX13_readLiteral 106 = .ok (.aload_n 0, 1) := by decide +kernel
theorem dX13_readLiteral_107 : decode cX13_readLiteral 107 = .ok (.getfield 255, 3) := by decide +kernel
theorem dX13_readLiteral_110 : decode cX13_readLiteral 110 = .ok (.iaload, 1) := by decide +kernel
theorem dX13_readLiteral_111 : decode cX13_readLiteral 111 = .ok (.bipush 32, 2) := by decide +kernel
theorem dX13_readLiteral_113 : decode cX13_readLiteral 113 = .ok (.if_icmp .ne 7, 3) := by decide +kernel
theorem dX13_readLiteral_116 : decode cX13_readLiteral 116 = .ok (.iconst 1, 1) := by decide +kernel
theorem dX13_readLiteral_117 : decode cX13_readLiteral 117 = .ok (.goto 4, 3) := by decide +kernel
theorem dX13_readLiteral_120 : decode cX13_readLiteral 120 = .ok (.iconst 0, 1) := by decide +kernel
theorem dX13_readLiteral_121 : decode cX13_readLiteral 121 = .ok (.putfield 269, 3) := by decide +kernel
theorem dX13_readLiteral_124 : decode cX13_readLiteral 124 = .ok (.return_, 1) := by decide +kernel
def m_readLiteral_83 (g : Nat) (S : St) : Option St :=
if (gI S 0 24) = 0 then (
  lt (sI S 0 24 (0 : Int32)) fun S_3 =>
  some S_3
) else (
  (m_isLineEnd g S (gI S 0 18)).bind fun v_4 =>
  if v_4 = 0 then (
    (aI S 5 (gI S 0 18)).bind fun v_6 =>
    if v_6 = (32 : Int32) then (
      lt (sI S 0 24 (1 : Int32)) fun S_8 =>
      some S_8
    ) else (
      lt (sI S 0 24 (0 : Int32)) fun S_7 =>
      some S_7
    )
  ) else (
    lt (sI S 0 24 (1 : Int32)) fun S_5 =>
    some S_5
  )
)
def b_readLiteral_17 (g : Nat) (k17 : St → Int32 → Option St) (S : St) (x1 : Int32) : Option St :=
if x1 = 0 then (
  m_readLiteral_83 g S
) else (
  if (gI S 0 24) = 0 then (
    m_readLiteral_83 g S
  ) else (
    (m_isLineEnd g S (gI S 0 18)).bind fun v_3 =>
    if v_3 = 0 then (
      (aI S 5 (gI S 0 18)).bind fun v_4 =>
      if v_4 = (34 : Int32) then (
        lt (sI S 0 18 ((gI S 0 18) + (1 : Int32))) fun S_6 =>
        k17 S_6 (0 : Int32)
      ) else (
        (m_sign g S).bind fun S_5 =>
        k17 S_5 x1
      )
    ) else (
      lt (sI S 0 24 (0 : Int32)) fun S_7 =>
      k17 S_7 x1
    )
  )
)
def m_readLiteral_17 (g : Nat) : Nat → St → Int32 → Option St
  | 0, _, _ => none
  | n + 1, S, x1 => b_readLiteral_17 g (m_readLiteral_17 g n) S x1
def m_readLiteral (g : Nat) (S : St) : Option St :=
lt (sI S 0 22 (0 : Int32)) fun S_1 =>
lt (sI S_1 0 18 ((gI S_1 0 18) + (1 : Int32))) fun S_2 =>
m_readLiteral_17 g g S_2 (1 : Int32)
section S_readLiteral
variable {p : Program} {l : Launch} {e : Env} {s : State} {m : MethodId} {args : Array Value} {below : List Frame} {meth : Method} {c : Code} {H : Heap} {locs : List Loc} {ls : Array Slot} {D : va_G} {T : Cy} {ρ : Nat → Nat} {A : Nat → Prop}
set_option maxRecDepth 100000 in
set_option maxHeartbeats 4000000 in
theorem w_readLiteral_83  {g : Nat} {S : St} (C : CallFix p m c cX13_readLiteral 2 s args tb RX13) (hr : meth.sig.returnType = none) (hk : meth.locks = false) {S' : St} (w : Wn Ym D T ρ S A s H locs) (hl : lv_has ls 2 [(0, .ref (ρ 0))]) (h : m_readLiteral_83 g S = some S') : W p l e (rmN 3 68) s m args below meth c H locs 0 0 (MQ below (Qv Ym D T ρ A S') args s 0 0 A) (F0 m 83 ls []) := by
  unfold m_readLiteral_83 at h
  refine lv_aload_n C.1 C.2.1 dX13_readLiteral_83 rfl (lv_at hl 0 rfl) ?_
  refine lv_aload_n C.1 C.2.1 dX13_readLiteral_84 rfl (lv_at hl 0 rfl) ?_
  refine x_getI C w fM269 obM dX13_readLiteral_85 ?_
  refine lv_if_eq (tgt := 120) C.1 C.2.1 dX13_readLiteral_88 (by decide) (fun hc => ?_) (fun hc => ?_)
  · replace h := ift hc h
    refine lv_iconst (v := 0) C.1 C.2.1 dX13_readLiteral_120 (by decide) ?_
    obtain ⟨S_3, eS_3, h⟩ := lt_e h
    refine y_putZ C w eS_3 fM269 pM24 (by decide) obM dX13_readLiteral_121 (fun H locs w => ?_)
    obtain rfl := som h
    exact x_vret C w hr hk dX13_readLiteral_124
  · replace h := iff0 hc h
    refine lv_aload_n C.1 C.2.1 dX13_readLiteral_91 rfl (lv_at hl 0 rfl) ?_
    refine lv_aload_n C.1 C.2.1 dX13_readLiteral_92 rfl (lv_at hl 0 rfl) ?_
    refine x_getI C w fM255 obM dX13_readLiteral_93 ?_
    obtain ⟨v_4, hv_4, h⟩ := bnd h
    refine x_callVi (q := (RX13, TX13, 68)) (As := [.int (gI S 0 18)]) (rest := [.ref (ρ 0)]) C w (k_isLineEnd l D T ρ g H.size S hv_4) vM258 ⟨by decide, by decide⟩ obM (by decide) rfl rfl rfl hl.1 (Nat.le_of_ble_eq_true rfl) ⟨Nat.zero_le _, Nat.zero_le _⟩ dX13_readLiteral_96 (fun H locs w => ?_)
    refine lv_if_ne (tgt := 116) C.1 C.2.1 dX13_readLiteral_99 (by decide) (fun hc => ?_) (fun hc => ?_)
    · replace h := iff0 hc h
      refine lv_iconst (v := 1) C.1 C.2.1 dX13_readLiteral_116 (by decide) ?_
      refine lv_goto (tgt := 121) C.1 C.2.1 dX13_readLiteral_117 (by decide) ?_
      obtain ⟨S_5, eS_5, h⟩ := lt_e h
      refine y_putZ C w eS_5 fM269 pM24 (by decide) obM dX13_readLiteral_121 (fun H locs w => ?_)
      obtain rfl := som h
      exact x_vret C w hr hk dX13_readLiteral_124
    · replace h := ift hc h
      refine lv_aload_n C.1 C.2.1 dX13_readLiteral_102 rfl (lv_at hl 0 rfl) ?_
      refine x_getC C w 5 fM135 obM rfl dX13_readLiteral_103 ?_
      refine lv_aload_n C.1 C.2.1 dX13_readLiteral_106 rfl (lv_at hl 0 rfl) ?_
      refine x_getI C w fM255 obM dX13_readLiteral_107 ?_
      obtain ⟨v_6, hv_6, h⟩ := bnd h
      refine x_iald C w obM5 hv_6 dX13_readLiteral_110 ?_
      refine lv_bipush (v := 32) C.1 C.2.1 dX13_readLiteral_111 (by decide) ?_
      refine lv_icmp_ne (tgt := 120) C.1 C.2.1 dX13_readLiteral_113 (by decide) (fun hc => ?_) (fun hc => ?_)
      · replace h := iff0 hc h
        refine lv_iconst (v := 0) C.1 C.2.1 dX13_readLiteral_120 (by decide) ?_
        obtain ⟨S_7, eS_7, h⟩ := lt_e h
        refine y_putZ C w eS_7 fM269 pM24 (by decide) obM dX13_readLiteral_121 (fun H locs w => ?_)
        obtain rfl := som h
        exact x_vret C w hr hk dX13_readLiteral_124
      · replace h := ift hc h
        refine lv_iconst (v := 1) C.1 C.2.1 dX13_readLiteral_116 (by decide) ?_
        refine lv_goto (tgt := 121) C.1 C.2.1 dX13_readLiteral_117 (by decide) ?_
        obtain ⟨S_8, eS_8, h⟩ := lt_e h
        refine y_putZ C w eS_8 fM269 pM24 (by decide) obM dX13_readLiteral_121 (fun H locs w => ?_)
        obtain rfl := som h
        exact x_vret C w hr hk dX13_readLiteral_124
set_option maxRecDepth 100000 in
set_option maxHeartbeats 4000000 in
theorem wb_readLiteral_17  {g : Nat} {S : St} {x1 : Int32} (C : CallFix p m c cX13_readLiteral 2 s args tb RX13) (hr : meth.sig.returnType = none) (hk : meth.locks = false) {S' : St} {k17 : St → Int32 → Option St} (kk17 : ∀ (S : St) (x1 : Int32) (H : Heap) (locs : List Loc) (ls : Array Slot), Wn Ym D T ρ S A s H locs → lv_has ls 2 [(0, .ref (ρ 0)), (1, .int x1)] → k17 S x1 = some S' → W p l e (rmN 3 68) s m args below meth c H locs 0 0 (MQ below (Qv Ym D T ρ A S') args s 0 0 A) (F0 m 17 ls [])) (w : Wn Ym D T ρ S A s H locs) (hl : lv_has ls 2 [(0, .ref (ρ 0)), (1, .int x1)]) (h : b_readLiteral_17 g k17 S x1 = some S') : W p l e (rmN 3 68) s m args below meth c H locs 0 0 (MQ below (Qv Ym D T ρ A S') args s 0 0 A) (F0 m 17 ls []) := by
  unfold b_readLiteral_17 at h
  refine lv_iload_n C.1 C.2.1 dX13_readLiteral_17 rfl (lv_at hl 1 rfl) ?_
  refine lv_if_eq (tgt := 83) C.1 C.2.1 dX13_readLiteral_18 (by decide) (fun hc => ?_) (fun hc => ?_)
  · replace h := ift hc h
    exact w_readLiteral_83 C hr hk w (lv_sub hl [0] rfl) h
  · replace h := iff0 hc h
    refine lv_aload_n C.1 C.2.1 dX13_readLiteral_21 rfl (lv_at hl 0 rfl) ?_
    refine x_getI C w fM269 obM dX13_readLiteral_22 ?_
    refine lv_if_eq (tgt := 83) C.1 C.2.1 dX13_readLiteral_25 (by decide) (fun hc => ?_) (fun hc => ?_)
    · replace h := ift hc h
      exact w_readLiteral_83 C hr hk w (lv_sub hl [0] rfl) h
    · replace h := iff0 hc h
      refine lv_aload_n C.1 C.2.1 dX13_readLiteral_28 rfl (lv_at hl 0 rfl) ?_
      refine lv_aload_n C.1 C.2.1 dX13_readLiteral_29 rfl (lv_at hl 0 rfl) ?_
      refine x_getI C w fM255 obM dX13_readLiteral_30 ?_
      obtain ⟨v_3, hv_3, h⟩ := bnd h
      refine x_callVi (q := (RX13, TX13, 68)) (As := [.int (gI S 0 18)]) (rest := []) C w (k_isLineEnd l D T ρ g H.size S hv_3) vM258 ⟨by decide, by decide⟩ obM (by decide) rfl rfl rfl hl.1 (Nat.le_of_ble_eq_true rfl) ⟨Nat.zero_le _, Nat.zero_le _⟩ dX13_readLiteral_33 (fun H locs w => ?_)
      refine lv_if_eq (tgt := 47) C.1 C.2.1 dX13_readLiteral_36 (by decide) (fun hc => ?_) (fun hc => ?_)
      · replace h := ift hc h
        refine lv_aload_n C.1 C.2.1 dX13_readLiteral_47 rfl (lv_at hl 0 rfl) ?_
        refine x_getC C w 5 fM135 obM rfl dX13_readLiteral_48 ?_
        refine lv_aload_n C.1 C.2.1 dX13_readLiteral_51 rfl (lv_at hl 0 rfl) ?_
        refine x_getI C w fM255 obM dX13_readLiteral_52 ?_
        obtain ⟨v_4, hv_4, h⟩ := bnd h
        refine x_iald C w obM5 hv_4 dX13_readLiteral_55 ?_
        refine lv_bipush (v := 34) C.1 C.2.1 dX13_readLiteral_56 (by decide) ?_
        refine lv_icmp_ne (tgt := 76) C.1 C.2.1 dX13_readLiteral_58 (by decide) (fun hc => ?_) (fun hc => ?_)
        · replace h := iff0 hc h
          refine lv_aload_n C.1 C.2.1 dX13_readLiteral_76 rfl (lv_at hl 0 rfl) ?_
          obtain ⟨S_5, hS_5, h⟩ := bnd h
          refine x_callVv (q := (RX13, TX13, 68)) (As := []) (rest := []) C w (k_sign l D T ρ g H.size S hS_5) vM281 ⟨by decide, by decide⟩ obM (by decide) rfl rfl rfl hl.1 (Nat.le_of_ble_eq_true rfl) ⟨Nat.zero_le _, Nat.zero_le _⟩ dX13_readLiteral_77 (fun H locs w => ?_)
          refine lv_goto (tgt := 17) C.1 C.2.1 dX13_readLiteral_80 (by decide) ?_
          exact kk17 _ _ _ _ _ w (lv_sub hl [0, 1] rfl) h
        · replace h := ift hc h
          refine lv_iconst (v := 0) C.1 C.2.1 dX13_readLiteral_61 (by decide) ?_
          refine lv_istore_n (lv' := [(1, .int (0 : Int32)), (0, .ref (ρ 0))]) C.1 C.2.1 dX13_readLiteral_62 rfl hl (by decide) rfl (fun ls hl => ?_)
          refine lv_aload_n C.1 C.2.1 dX13_readLiteral_63 rfl (lv_at hl 1 rfl) ?_
          refine lv_dup C.1 C.2.1 dX13_readLiteral_64 rfl ?_
          refine x_getI C w fM255 obM dX13_readLiteral_65 ?_
          refine lv_iconst (v := 1) C.1 C.2.1 dX13_readLiteral_68 (by decide) ?_
          refine lv_iadd C.1 C.2.1 dX13_readLiteral_69 ?_
          obtain ⟨S_6, eS_6, h⟩ := lt_e h
          refine y_putI C w eS_6 fM255 pM18 obM dX13_readLiteral_70 (fun H locs w => ?_)
          refine lv_goto (tgt := 17) C.1 C.2.1 dX13_readLiteral_73 (by decide) ?_
          exact kk17 _ _ _ _ _ w (lv_sub hl [1, 0] rfl) h
      · replace h := iff0 hc h
        refine lv_aload_n C.1 C.2.1 dX13_readLiteral_39 rfl (lv_at hl 0 rfl) ?_
        refine lv_iconst (v := 0) C.1 C.2.1 dX13_readLiteral_40 (by decide) ?_
        obtain ⟨S_7, eS_7, h⟩ := lt_e h
        refine y_putZ C w eS_7 fM269 pM24 (by decide) obM dX13_readLiteral_41 (fun H locs w => ?_)
        refine lv_goto (tgt := 17) C.1 C.2.1 dX13_readLiteral_44 (by decide) ?_
        exact kk17 _ _ _ _ _ w (lv_sub hl [0, 1] rfl) h
theorem w_readLiteral_17 {g : Nat} (C : CallFix p m c cX13_readLiteral 2 s args tb RX13) (hr : meth.sig.returnType = none) (hk : meth.locks = false) {S' : St} (n : Nat) : ∀ (S : St) (x1 : Int32) (H : Heap) (locs : List Loc) (ls : Array Slot), Wn Ym D T ρ S A s H locs → lv_has ls 2 [(0, .ref (ρ 0)), (1, .int x1)] → m_readLiteral_17 g n S x1 = some S' → W p l e (rmN 3 68) s m args below meth c H locs 0 0 (MQ below (Qv Ym D T ρ A S') args s 0 0 A) (F0 m 17 ls []) := by
  induction n with
  | zero => intro S x1 H locs ls w hl h; exact absurd h (fun q => by cases q)
  | succ n ih => intro S x1 H locs ls w hl h; exact wb_readLiteral_17 C hr hk ih w hl h
set_option maxRecDepth 100000 in
set_option maxHeartbeats 4000000 in
theorem w_readLiteral_0  {g : Nat} {S : St} (C : CallFix p m c cX13_readLiteral 2 s args tb RX13) (hr : meth.sig.returnType = none) (hk : meth.locks = false) {S' : St} (w : Wn Ym D T ρ S A s H locs) (hl : lv_has ls 2 [(0, .ref (ρ 0))]) (h : m_readLiteral g S = some S') : W p l e (rmN 3 68) s m args below meth c H locs 0 0 (MQ below (Qv Ym D T ρ A S') args s 0 0 A) (F0 m 0 ls []) := by
  unfold m_readLiteral at h
  refine lv_aload_n C.1 C.2.1 dX13_readLiteral_0 rfl (lv_at hl 0 rfl) ?_
  refine lv_iconst (v := 0) C.1 C.2.1 dX13_readLiteral_1 (by decide) ?_
  obtain ⟨S_1, eS_1, h⟩ := lt_e h
  refine y_putI C w eS_1 fM278 pM22 obM dX13_readLiteral_2 (fun H locs w => ?_)
  refine lv_aload_n C.1 C.2.1 dX13_readLiteral_5 rfl (lv_at hl 0 rfl) ?_
  refine lv_dup C.1 C.2.1 dX13_readLiteral_6 rfl ?_
  refine x_getI C w fM255 obM dX13_readLiteral_7 ?_
  refine lv_iconst (v := 1) C.1 C.2.1 dX13_readLiteral_10 (by decide) ?_
  refine lv_iadd C.1 C.2.1 dX13_readLiteral_11 ?_
  obtain ⟨S_2, eS_2, h⟩ := lt_e h
  refine y_putI C w eS_2 fM255 pM18 obM dX13_readLiteral_12 (fun H locs w => ?_)
  refine lv_iconst (v := 1) C.1 C.2.1 dX13_readLiteral_15 (by decide) ?_
  refine lv_istore_n (lv' := [(1, .int (1 : Int32)), (0, .ref (ρ 0))]) C.1 C.2.1 dX13_readLiteral_16 rfl hl (by decide) rfl (fun ls hl => ?_)
  exact w_readLiteral_17 C hr hk g _ _ _ _ _ w (lv_sub hl [1, 0] rfl) h
end S_readLiteral
set_option maxRecDepth 100000 in
theorem k_readLiteral (l : Launch) (D : va_G) (T : Cy) (ρ : Nat → Nat) (g sz : Nat) (S : St) {S' : St} (h : m_readLiteral g S = some S') : Mv l Ym D T ρ yX13_readLiteral cX13_readLiteral 2 none 3 68 S S' [.ref (ρ 0)] sz :=
  x_in (by decide) (Nat.le_of_ble_eq_true rfl) (fun p e s m below meth c ls C hr hk w hl => w_readLiteral_0 C hr hk w hl h)

theorem dX13_nextWord_0 : decode cX13_nextWord 0 = .ok (.aload_n 0, 1) := by decide +kernel
theorem dX13_nextWord_1 : decode cX13_nextWord 1 = .ok (.aload_n 0, 1) := by decide +kernel
theorem dX13_nextWord_2 : decode cX13_nextWord 2 = .ok (.getfield 255, 3) := by decide +kernel
theorem dX13_nextWord_5 : decode cX13_nextWord 5 = .ok (.invokevirtual 258, 3) := by decide +kernel
theorem dX13_nextWord_8 : decode cX13_nextWord 8 = .ok (.ifCond .ne 30, 3) := by decide +kernel
theorem dX13_nextWord_11 : decode cX13_nextWord 11 = .ok (.aload_n 0, 1) := by decide +kernel
theorem dX13_nextWord_12 : decode cX13_nextWord 12 = .ok (.getfield 135, 3) := by decide +kernel
theorem dX13_nextWord_15 : decode cX13_nextWord 15 = .ok (.aload_n 0, 1) := by decide +kernel
theorem dX13_nextWord_16 : decode cX13_nextWord 16 = .ok (.getfield 255, 3) := by decide +kernel
theorem dX13_nextWord_19 : decode cX13_nextWord 19 = .ok (.iaload, 1) := by decide +kernel
theorem dX13_nextWord_20 : decode cX13_nextWord 20 = .ok (.bipush 32, 2) := by decide +kernel
theorem dX13_nextWord_22 : decode cX13_nextWord 22 = .ok (.if_icmp .ne 16, 3) := by decide +kernel
theorem dX13_nextWord_25 : decode cX13_nextWord 25 = .ok (.aload_n 0, 1) := by decide +kernel
theorem dX13_nextWord_26 : decode cX13_nextWord 26 = .ok (.dup, 1) := by decide +kernel
theorem dX13_nextWord_27 : decode cX13_nextWord 27 = .ok (.getfield 255, 3) := by decide +kernel
theorem dX13_nextWord_30 : decode cX13_nextWord 30 = .ok (.iconst 1, 1) := by decide +kernel
theorem dX13_nextWord_31 : decode cX13_nextWord 31 = .ok (.iadd, 1) := by decide +kernel
theorem dX13_nextWord_32 : decode cX13_nextWord 32 = .ok (.putfield 255, 3) := by decide +kernel
theorem dX13_nextWord_35 : decode cX13_nextWord 35 = .ok (.goto (-35), 3) := by decide +kernel
theorem dX13_nextWord_38 : decode cX13_nextWord 38 = .ok (.aload_n 0, 1) := by decide +kernel
theorem dX13_nextWord_39 : decode cX13_nextWord 39 = .ok (.aload_n 0, 1) := by decide +kernel
theorem dX13_nextWord_40 : decode cX13_nextWord 40 = .ok (.getfield 255, 3) := by decide +kernel
theorem dX13_nextWord_43 : decode cX13_nextWord 43 = .ok (.putfield 262, 3) := by decide +kernel
theorem dX13_nextWord_46 : decode cX13_nextWord 46 = .ok (.aload_n 0, 1) := by decide +kernel
theorem dX13_nextWord_47 : decode cX13_nextWord 47 = .ok (.aload_n 0, 1) := by decide +kernel
theorem dX13_nextWord_48 : decode cX13_nextWord 48 = .ok (.aload_n 0, 1) := by decide +kernel
theorem dX13_nextWord_49 : decode cX13_nextWord 49 = .ok (.getfield 255, 3) := by decide +kernel
theorem dX13_nextWord_52 : decode cX13_nextWord 52 = .ok (.invokevirtual 258, 3) := by decide +kernel
theorem dX13_nextWord_55 : decode cX13_nextWord 55 = .ok (.ifCond .ne 21, 3) := by decide +kernel
theorem dX13_nextWord_58 : decode cX13_nextWord 58 = .ok (.aload_n 0, 1) := by decide +kernel
theorem dX13_nextWord_59 : decode cX13_nextWord 59 = .ok (.getfield 135, 3) := by decide +kernel
theorem dX13_nextWord_62 : decode cX13_nextWord 62 = .ok (.aload_n 0, 1) := by decide +kernel
theorem dX13_nextWord_63 : decode cX13_nextWord 63 = .ok (.getfield 255, 3) := by decide +kernel
theorem dX13_nextWord_66 : decode cX13_nextWord 66 = .ok (.iaload, 1) := by decide +kernel
theorem dX13_nextWord_67 : decode cX13_nextWord 67 = .ok (.bipush 34, 2) := by decide +kernel
theorem dX13_nextWord_69 : decode cX13_nextWord 69 = .ok (.if_icmp .ne 7, 3) := by decide +kernel
theorem dX13_nextWord_72 : decode cX13_nextWord 72 = .ok (.iconst 1, 1) := by decide +kernel
theorem dX13_nextWord_73 : decode cX13_nextWord 73 = .ok (.goto 4, 3) := by decide +kernel
theorem dX13_nextWord_76 : decode cX13_nextWord 76 = .ok (.iconst 0, 1) := by decide +kernel
theorem dX13_nextWord_77 : decode cX13_nextWord 77 = .ok (.putfield 265, 3) := by decide +kernel
theorem dX13_nextWord_80 : decode cX13_nextWord 80 = .ok (.aload_n 0, 1) := by decide +kernel
theorem dX13_nextWord_81 : decode cX13_nextWord 81 = .ok (.iconst 1, 1) := by decide +kernel
theorem dX13_nextWord_82 : decode cX13_nextWord 82 = .ok (.putfield 269, 3) := by decide +kernel
theorem dX13_nextWord_85 : decode cX13_nextWord 85 = .ok (.aload_n 0, 1) := by decide +kernel
theorem dX13_nextWord_86 : decode cX13_nextWord 86 = .ok (.aload_n 0, 1) := by decide +kernel
theorem dX13_nextWord_87 : decode cX13_nextWord 87 = .ok (.getfield 255, 3) := by decide +kernel
theorem dX13_nextWord_90 : decode cX13_nextWord 90 = .ok (.invokevirtual 258, 3) := by decide +kernel
theorem dX13_nextWord_93 : decode cX13_nextWord 93 = .ok (.ifCond .eq 5, 3) := by decide +kernel
theorem dX13_nextWord_96 : decode cX13_nextWord 96 = .ok (.iconst 0, 1) := by decide +kernel
theorem dX13_nextWord_97 : decode cX13_nextWord 97 = .ok (.ireturn, 1) := by decide +kernel
theorem dX13_nextWord_98 : decode cX13_nextWord 98 = .ok (.aload_n 0, 1) := by decide +kernel
theorem dX13_nextWord_99 : decode cX13_nextWord 99 = .ok (.getfield 265, 3) := by decide +kernel
theorem dX13_nextWord_102 : decode cX13_nextWord 102 = .ok (.ifCond .eq 10, 3) := by decide +kernel
theorem dX13_nextWord_105 : decode cX13_nextWord 105 = .ok (.aload_n 0, 1) := by decide +kernel
theorem dX13_nextWord_106 : decode cX13_nextWord 106 = .ok (.invokevirtual 272, 3) := by decide +kernel
theorem dX13_nextWord_109 : decode cX13_nextWord 109 = .ok (.goto 41, 3) := by decide +kernel
theorem dX13_nextWord_112 : decode cX13_nextWord 112 = .ok (.aload_n 0, 1) := by decide +kernel
theorem dX13_nextWord_113 : decode cX13_nextWord 113 = .ok (.aload_n 0, 1) := by decide +kernel
theorem dX13_nextWord_114 : decode cX13_nextWord 114 = .ok (.getfield 255, 3) := by decide +kernel
theorem dX13_nextWord_117 : decode cX13_nextWord 117 = .ok (.invokevirtual 258, 3) := by decide +kernel
theorem dX13_nextWord_120 : decode cX13_nextWord 120 = .ok (.ifCond .ne 30, 3) := by decide +kernel
theorem dX13_nextWord_123 : decode cX13_nextWord 123 = .ok (.aload_n 0, 1) := by decide +kernel
theorem dX13_nextWord_124 : decode cX13_nextWord 124 = .ok (.getfield 135, 3) := by decide +kernel
theorem dX13_nextWord_127 : decode cX13_nextWord 127 = .ok (.aload_n 0, 1) := by decide +kernel
theorem dX13_nextWord_128 : decode cX13_nextWord 128 = .ok (.getfield 255, 3) := by decide +kernel
theorem dX13_nextWord_131 : decode cX13_nextWord 131 = .ok (.iaload, 1) := by decide +kernel
theorem dX13_nextWord_132 : decode cX13_nextWord 132 = .ok (.bipush 32, 2) := by decide +kernel
theorem dX13_nextWord_134 : decode cX13_nextWord 134 = .ok (.if_icmp .eq 16, 3) := by decide +kernel
theorem dX13_nextWord_137 : decode cX13_nextWord 137 = .ok (.aload_n 0, 1) := by decide +kernel
theorem dX13_nextWord_138 : decode cX13_nextWord 138 = .ok (.dup, 1) := by decide +kernel
theorem dX13_nextWord_139 : decode cX13_nextWord 139 = .ok (.getfield 255, 3) := by decide +kernel
theorem dX13_nextWord_142 : decode cX13_nextWord 142 = .ok (.iconst 1, 1) := by decide +kernel
theorem dX13_nextWord_143 : decode cX13_nextWord 143 = .ok (.iadd, 1) := by decide +kernel
theorem dX13_nextWord_144 : decode cX13_nextWord 144 = .ok (.putfield 255, 3) := by decide +kernel
theorem dX13_nextWord_147 : decode cX13_nextWord 147 = .ok (.goto (-35), 3) := by decide +kernel
theorem dX13_nextWord_150 : decode cX13_nextWord 150 = .ok (.aload_n 0, 1) := by decide +kernel
theorem dX13_nextWord_151 : decode cX13_nextWord 151 = .ok (.aload_n 0, 1) := by decide +kernel
theorem dX13_nextWord_152 : decode cX13_nextWord 152 = .ok (.getfield 255, 3) := by decide +kernel
theorem dX13_nextWord_155 : decode cX13_nextWord 155 = .ok (.putfield 275, 3) := by decide +kernel
theorem dX13_nextWord_158 : decode cX13_nextWord 158 = .ok (.iconst 1, 1) := by decide +kernel
theorem dX13_nextWord_159 : decode cX13_nextWord 159 = .ok (.ireturn, 1) := by decide +kernel
def b_nextWord_112 (g : Nat) (k112 : St → Option (St × Int32)) (S : St) : Option (St × Int32) :=
(m_isLineEnd g S (gI S 0 18)).bind fun v_8 =>
if v_8 = 0 then (
  (aI S 5 (gI S 0 18)).bind fun v_10 =>
  if v_10 = (32 : Int32) then (
    lt (sI S 0 21 (gI S 0 18)) fun S_11 =>
    some (S_11, (1 : Int32))
  ) else (
    lt (sI S 0 18 ((gI S 0 18) + (1 : Int32))) fun S_12 =>
    k112 S_12
  )
) else (
  lt (sI S 0 21 (gI S 0 18)) fun S_9 =>
  some (S_9, (1 : Int32))
)
def m_nextWord_112 (g : Nat) : Nat → St → Option (St × Int32)
  | 0, _ => none
  | n + 1, S => b_nextWord_112 g (m_nextWord_112 g n) S
def m_nextWord_77 (g : Nat) (S : St) (y1 : Int32) : Option (St × Int32) :=
if y1 = 0 ∨ y1 = 1 then
lt (sI S 0 23 y1) fun S_5 =>
lt (sI S_5 0 24 (1 : Int32)) fun S_6 =>
(m_isLineEnd g S_6 (gI S_6 0 18)).bind fun v_7 =>
if v_7 = 0 then (
  if (gI S_6 0 23) = 0 then (
    m_nextWord_112 g g S_6
  ) else (
    (m_readLiteral g S_6).bind fun S_8 =>
    lt (sI S_8 0 21 (gI S_8 0 18)) fun S_9 =>
    some (S_9, (1 : Int32))
  )
) else (
  some (S_6, (0 : Int32))
)
else none
def m_nextWord_76 (g : Nat) (S : St) : Option (St × Int32) :=
m_nextWord_77 g S (0 : Int32)
def m_nextWord_38 (g : Nat) (S : St) : Option (St × Int32) :=
lt (sI S 0 20 (gI S 0 18)) fun S_2 =>
(m_isLineEnd g S_2 (gI S_2 0 18)).bind fun v_3 =>
if v_3 = 0 then (
  (aI S_2 5 (gI S_2 0 18)).bind fun v_4 =>
  if v_4 = (34 : Int32) then (
    m_nextWord_77 g S_2 (1 : Int32)
  ) else (
    m_nextWord_76 g S_2
  )
) else (
  m_nextWord_76 g S_2
)
def b_nextWord_0 (g : Nat) (k0 : St → Option (St × Int32)) (S : St) : Option (St × Int32) :=
(m_isLineEnd g S (gI S 0 18)).bind fun v_1 =>
if v_1 = 0 then (
  (aI S 5 (gI S 0 18)).bind fun v_2 =>
  if v_2 = (32 : Int32) then (
    lt (sI S 0 18 ((gI S 0 18) + (1 : Int32))) fun S_3 =>
    k0 S_3
  ) else (
    m_nextWord_38 g S
  )
) else (
  m_nextWord_38 g S
)
def m_nextWord_0 (g : Nat) : Nat → St → Option (St × Int32)
  | 0, _ => none
  | n + 1, S => b_nextWord_0 g (m_nextWord_0 g n) S
def m_nextWord (g : Nat) (S : St) : Option (St × Int32) := m_nextWord_0 g g S
section S_nextWord
variable {p : Program} {l : Launch} {e : Env} {s : State} {m : MethodId} {args : Array Value} {below : List Frame} {meth : Method} {c : Code} {H : Heap} {locs : List Loc} {ls : Array Slot} {D : va_G} {T : Cy} {ρ : Nat → Nat} {A : Nat → Prop}
set_option maxRecDepth 100000 in
set_option maxHeartbeats 4000000 in
theorem wb_nextWord_112  {g : Nat} {S : St} (C : CallFix p m c cX13_nextWord 1 s args tb RX13) (hr : meth.sig.returnType = (some .boolean)) (hk : meth.locks = false) {S' : St} {r : Int32} {k112 : St → Option (St × Int32)} (kk112 : ∀ (S : St) (H : Heap) (locs : List Loc) (ls : Array Slot), Wn Ym D T ρ S A s H locs → lv_has ls 1 [(0, .ref (ρ 0))] → k112 S = some (S', r) → W p l e (rmN 4 89) s m args below meth c H locs 0 0 (MQ below (Qi Ym D T ρ A S' r) args s 0 0 A) (F0 m 112 ls [])) (w : Wn Ym D T ρ S A s H locs) (hl : lv_has ls 1 [(0, .ref (ρ 0))]) (h : b_nextWord_112 g k112 S = some (S', r)) : W p l e (rmN 4 89) s m args below meth c H locs 0 0 (MQ below (Qi Ym D T ρ A S' r) args s 0 0 A) (F0 m 112 ls []) := by
  unfold b_nextWord_112 at h
  refine lv_aload_n C.1 C.2.1 dX13_nextWord_112 rfl (lv_at hl 0 rfl) ?_
  refine lv_aload_n C.1 C.2.1 dX13_nextWord_113 rfl (lv_at hl 0 rfl) ?_
  refine x_getI C w fM255 obM dX13_nextWord_114 ?_
  obtain ⟨v_8, hv_8, h⟩ := bnd h
  refine x_callVi (q := (RX13, TX13, 68)) (As := [.int (gI S 0 18)]) (rest := []) C w (k_isLineEnd l D T ρ g H.size S hv_8) vM258 ⟨by decide, by decide⟩ obM (by decide) rfl rfl rfl hl.1 (Nat.le_of_ble_eq_true rfl) ⟨Nat.zero_le _, Nat.zero_le _⟩ dX13_nextWord_117 (fun H locs w => ?_)
  refine lv_if_ne (tgt := 150) C.1 C.2.1 dX13_nextWord_120 (by decide) (fun hc => ?_) (fun hc => ?_)
  · replace h := iff0 hc h
    refine lv_aload_n C.1 C.2.1 dX13_nextWord_150 rfl (lv_at hl 0 rfl) ?_
    refine lv_aload_n C.1 C.2.1 dX13_nextWord_151 rfl (lv_at hl 0 rfl) ?_
    refine x_getI C w fM255 obM dX13_nextWord_152 ?_
    obtain ⟨S_9, eS_9, h⟩ := lt_e h
    refine y_putI C w eS_9 fM275 pM21 obM dX13_nextWord_155 (fun H locs w => ?_)
    refine lv_iconst (v := 1) C.1 C.2.1 dX13_nextWord_158 (by decide) ?_
    obtain ⟨rfl, rfl⟩ := prI h
    exact x_zret C w hr hk (by decide) dX13_nextWord_159
  · replace h := ift hc h
    refine lv_aload_n C.1 C.2.1 dX13_nextWord_123 rfl (lv_at hl 0 rfl) ?_
    refine x_getC C w 5 fM135 obM rfl dX13_nextWord_124 ?_
    refine lv_aload_n C.1 C.2.1 dX13_nextWord_127 rfl (lv_at hl 0 rfl) ?_
    refine x_getI C w fM255 obM dX13_nextWord_128 ?_
    obtain ⟨v_10, hv_10, h⟩ := bnd h
    refine x_iald C w obM5 hv_10 dX13_nextWord_131 ?_
    refine lv_bipush (v := 32) C.1 C.2.1 dX13_nextWord_132 (by decide) ?_
    refine lv_icmp_eq (tgt := 150) C.1 C.2.1 dX13_nextWord_134 (by decide) (fun hc => ?_) (fun hc => ?_)
    · replace h := ift hc h
      refine lv_aload_n C.1 C.2.1 dX13_nextWord_150 rfl (lv_at hl 0 rfl) ?_
      refine lv_aload_n C.1 C.2.1 dX13_nextWord_151 rfl (lv_at hl 0 rfl) ?_
      refine x_getI C w fM255 obM dX13_nextWord_152 ?_
      obtain ⟨S_11, eS_11, h⟩ := lt_e h
      refine y_putI C w eS_11 fM275 pM21 obM dX13_nextWord_155 (fun H locs w => ?_)
      refine lv_iconst (v := 1) C.1 C.2.1 dX13_nextWord_158 (by decide) ?_
      obtain ⟨rfl, rfl⟩ := prI h
      exact x_zret C w hr hk (by decide) dX13_nextWord_159
    · replace h := iff0 hc h
      refine lv_aload_n C.1 C.2.1 dX13_nextWord_137 rfl (lv_at hl 0 rfl) ?_
      refine lv_dup C.1 C.2.1 dX13_nextWord_138 rfl ?_
      refine x_getI C w fM255 obM dX13_nextWord_139 ?_
      refine lv_iconst (v := 1) C.1 C.2.1 dX13_nextWord_142 (by decide) ?_
      refine lv_iadd C.1 C.2.1 dX13_nextWord_143 ?_
      obtain ⟨S_12, eS_12, h⟩ := lt_e h
      refine y_putI C w eS_12 fM255 pM18 obM dX13_nextWord_144 (fun H locs w => ?_)
      refine lv_goto (tgt := 112) C.1 C.2.1 dX13_nextWord_147 (by decide) ?_
      exact kk112 _ _ _ _ w (lv_sub hl [0] rfl) h
theorem w_nextWord_112 {g : Nat} (C : CallFix p m c cX13_nextWord 1 s args tb RX13) (hr : meth.sig.returnType = (some .boolean)) (hk : meth.locks = false) {S' : St} {r : Int32} (n : Nat) : ∀ (S : St) (H : Heap) (locs : List Loc) (ls : Array Slot), Wn Ym D T ρ S A s H locs → lv_has ls 1 [(0, .ref (ρ 0))] → m_nextWord_112 g n S = some (S', r) → W p l e (rmN 4 89) s m args below meth c H locs 0 0 (MQ below (Qi Ym D T ρ A S' r) args s 0 0 A) (F0 m 112 ls []) := by
  induction n with
  | zero => intro S H locs ls w hl h; exact absurd h (fun q => by cases q)
  | succ n ih => intro S H locs ls w hl h; exact wb_nextWord_112 C hr hk ih w hl h
set_option maxRecDepth 100000 in
set_option maxHeartbeats 4000000 in
theorem w_nextWord_77  {g : Nat} {S : St} {y1 : Int32} (C : CallFix p m c cX13_nextWord 1 s args tb RX13) (hr : meth.sig.returnType = (some .boolean)) (hk : meth.locks = false) {S' : St} {r : Int32} (w : Wn Ym D T ρ S A s H locs) (hl : lv_has ls 1 [(0, .ref (ρ 0))]) (h : m_nextWord_77 g S y1 = some (S', r)) : W p l e (rmN 4 89) s m args below meth c H locs 0 0 (MQ below (Qi Ym D T ρ A S' r) args s 0 0 A) (F0 m 77 ls [.int y1, .ref (ρ 0)]) := by
  unfold m_nextWord_77 at h
  by_cases hz_4 : y1 = 0 ∨ y1 = 1
  case neg => exact absurd (iff0 hz_4 h) (fun q => by cases q)
  replace h := ift hz_4 h
  obtain ⟨S_5, eS_5, h⟩ := lt_e h
  refine y_putZ C w eS_5 fM265 pM23 hz_4 obM dX13_nextWord_77 (fun H locs w => ?_)
  refine lv_aload_n C.1 C.2.1 dX13_nextWord_80 rfl (lv_at hl 0 rfl) ?_
  refine lv_iconst (v := 1) C.1 C.2.1 dX13_nextWord_81 (by decide) ?_
  obtain ⟨S_6, eS_6, h⟩ := lt_e h
  refine y_putZ C w eS_6 fM269 pM24 (by decide) obM dX13_nextWord_82 (fun H locs w => ?_)
  refine lv_aload_n C.1 C.2.1 dX13_nextWord_85 rfl (lv_at hl 0 rfl) ?_
  refine lv_aload_n C.1 C.2.1 dX13_nextWord_86 rfl (lv_at hl 0 rfl) ?_
  refine x_getI C w fM255 obM dX13_nextWord_87 ?_
  obtain ⟨v_7, hv_7, h⟩ := bnd h
  refine x_callVi (q := (RX13, TX13, 68)) (As := [.int (gI S_6 0 18)]) (rest := []) C w (k_isLineEnd l D T ρ g H.size S_6 hv_7) vM258 ⟨by decide, by decide⟩ obM (by decide) rfl rfl rfl hl.1 (Nat.le_of_ble_eq_true rfl) ⟨Nat.zero_le _, Nat.zero_le _⟩ dX13_nextWord_90 (fun H locs w => ?_)
  refine lv_if_eq (tgt := 98) C.1 C.2.1 dX13_nextWord_93 (by decide) (fun hc => ?_) (fun hc => ?_)
  · replace h := ift hc h
    refine lv_aload_n C.1 C.2.1 dX13_nextWord_98 rfl (lv_at hl 0 rfl) ?_
    refine x_getI C w fM265 obM dX13_nextWord_99 ?_
    refine lv_if_eq (tgt := 112) C.1 C.2.1 dX13_nextWord_102 (by decide) (fun hc => ?_) (fun hc => ?_)
    · replace h := ift hc h
      exact w_nextWord_112 C hr hk g _ _ _ _ w (lv_sub hl [0] rfl) h
    · replace h := iff0 hc h
      refine lv_aload_n C.1 C.2.1 dX13_nextWord_105 rfl (lv_at hl 0 rfl) ?_
      obtain ⟨S_8, hS_8, h⟩ := bnd h
      refine x_callVv (q := (RX13, TX13, 68)) (As := []) (rest := []) C w (k_readLiteral l D T ρ g H.size S_6 hS_8) vM272 ⟨by decide, by decide⟩ obM (by decide) rfl rfl rfl hl.1 (Nat.le_of_ble_eq_true rfl) ⟨Nat.zero_le _, Nat.zero_le _⟩ dX13_nextWord_106 (fun H locs w => ?_)
      refine lv_goto (tgt := 150) C.1 C.2.1 dX13_nextWord_109 (by decide) ?_
      refine lv_aload_n C.1 C.2.1 dX13_nextWord_150 rfl (lv_at hl 0 rfl) ?_
      refine lv_aload_n C.1 C.2.1 dX13_nextWord_151 rfl (lv_at hl 0 rfl) ?_
      refine x_getI C w fM255 obM dX13_nextWord_152 ?_
      obtain ⟨S_9, eS_9, h⟩ := lt_e h
      refine y_putI C w eS_9 fM275 pM21 obM dX13_nextWord_155 (fun H locs w => ?_)
      refine lv_iconst (v := 1) C.1 C.2.1 dX13_nextWord_158 (by decide) ?_
      obtain ⟨rfl, rfl⟩ := prI h
      exact x_zret C w hr hk (by decide) dX13_nextWord_159
  · replace h := iff0 hc h
    refine lv_iconst (v := 0) C.1 C.2.1 dX13_nextWord_96 (by decide) ?_
    obtain ⟨rfl, rfl⟩ := prI h
    exact x_zret C w hr hk (by decide) dX13_nextWord_97
set_option maxRecDepth 100000 in
set_option maxHeartbeats 4000000 in
theorem w_nextWord_76  {g : Nat} {S : St} (C : CallFix p m c cX13_nextWord 1 s args tb RX13) (hr : meth.sig.returnType = (some .boolean)) (hk : meth.locks = false) {S' : St} {r : Int32} (w : Wn Ym D T ρ S A s H locs) (hl : lv_has ls 1 [(0, .ref (ρ 0))]) (h : m_nextWord_76 g S = some (S', r)) : W p l e (rmN 4 89) s m args below meth c H locs 0 0 (MQ below (Qi Ym D T ρ A S' r) args s 0 0 A) (F0 m 76 ls [.ref (ρ 0)]) := by
  unfold m_nextWord_76 at h
  refine lv_iconst (v := 0) C.1 C.2.1 dX13_nextWord_76 (by decide) ?_
  exact w_nextWord_77 C hr hk w (lv_sub hl [0] rfl) h
set_option maxRecDepth 100000 in
set_option maxHeartbeats 4000000 in
theorem w_nextWord_38  {g : Nat} {S : St} (C : CallFix p m c cX13_nextWord 1 s args tb RX13) (hr : meth.sig.returnType = (some .boolean)) (hk : meth.locks = false) {S' : St} {r : Int32} (w : Wn Ym D T ρ S A s H locs) (hl : lv_has ls 1 [(0, .ref (ρ 0))]) (h : m_nextWord_38 g S = some (S', r)) : W p l e (rmN 4 89) s m args below meth c H locs 0 0 (MQ below (Qi Ym D T ρ A S' r) args s 0 0 A) (F0 m 38 ls []) := by
  unfold m_nextWord_38 at h
  refine lv_aload_n C.1 C.2.1 dX13_nextWord_38 rfl (lv_at hl 0 rfl) ?_
  refine lv_aload_n C.1 C.2.1 dX13_nextWord_39 rfl (lv_at hl 0 rfl) ?_
  refine x_getI C w fM255 obM dX13_nextWord_40 ?_
  obtain ⟨S_2, eS_2, h⟩ := lt_e h
  refine y_putI C w eS_2 fM262 pM20 obM dX13_nextWord_43 (fun H locs w => ?_)
  refine lv_aload_n C.1 C.2.1 dX13_nextWord_46 rfl (lv_at hl 0 rfl) ?_
  refine lv_aload_n C.1 C.2.1 dX13_nextWord_47 rfl (lv_at hl 0 rfl) ?_
  refine lv_aload_n C.1 C.2.1 dX13_nextWord_48 rfl (lv_at hl 0 rfl) ?_
  refine x_getI C w fM255 obM dX13_nextWord_49 ?_
  obtain ⟨v_3, hv_3, h⟩ := bnd h
  refine x_callVi (q := (RX13, TX13, 68)) (As := [.int (gI S_2 0 18)]) (rest := [.ref (ρ 0)]) C w (k_isLineEnd l D T ρ g H.size S_2 hv_3) vM258 ⟨by decide, by decide⟩ obM (by decide) rfl rfl rfl hl.1 (Nat.le_of_ble_eq_true rfl) ⟨Nat.zero_le _, Nat.zero_le _⟩ dX13_nextWord_52 (fun H locs w => ?_)
  refine lv_if_ne (tgt := 76) C.1 C.2.1 dX13_nextWord_55 (by decide) (fun hc => ?_) (fun hc => ?_)
  · replace h := iff0 hc h
    exact w_nextWord_76 C hr hk w (lv_sub hl [0] rfl) h
  · replace h := ift hc h
    refine lv_aload_n C.1 C.2.1 dX13_nextWord_58 rfl (lv_at hl 0 rfl) ?_
    refine x_getC C w 5 fM135 obM rfl dX13_nextWord_59 ?_
    refine lv_aload_n C.1 C.2.1 dX13_nextWord_62 rfl (lv_at hl 0 rfl) ?_
    refine x_getI C w fM255 obM dX13_nextWord_63 ?_
    obtain ⟨v_4, hv_4, h⟩ := bnd h
    refine x_iald C w obM5 hv_4 dX13_nextWord_66 ?_
    refine lv_bipush (v := 34) C.1 C.2.1 dX13_nextWord_67 (by decide) ?_
    refine lv_icmp_ne (tgt := 76) C.1 C.2.1 dX13_nextWord_69 (by decide) (fun hc => ?_) (fun hc => ?_)
    · replace h := iff0 hc h
      exact w_nextWord_76 C hr hk w (lv_sub hl [0] rfl) h
    · replace h := ift hc h
      refine lv_iconst (v := 1) C.1 C.2.1 dX13_nextWord_72 (by decide) ?_
      refine lv_goto (tgt := 77) C.1 C.2.1 dX13_nextWord_73 (by decide) ?_
      exact w_nextWord_77 C hr hk w (lv_sub hl [0] rfl) h
set_option maxRecDepth 100000 in
set_option maxHeartbeats 4000000 in
theorem wb_nextWord_0  {g : Nat} {S : St} (C : CallFix p m c cX13_nextWord 1 s args tb RX13) (hr : meth.sig.returnType = (some .boolean)) (hk : meth.locks = false) {S' : St} {r : Int32} {k0 : St → Option (St × Int32)} (kk0 : ∀ (S : St) (H : Heap) (locs : List Loc) (ls : Array Slot), Wn Ym D T ρ S A s H locs → lv_has ls 1 [(0, .ref (ρ 0))] → k0 S = some (S', r) → W p l e (rmN 4 89) s m args below meth c H locs 0 0 (MQ below (Qi Ym D T ρ A S' r) args s 0 0 A) (F0 m 0 ls [])) (w : Wn Ym D T ρ S A s H locs) (hl : lv_has ls 1 [(0, .ref (ρ 0))]) (h : b_nextWord_0 g k0 S = some (S', r)) : W p l e (rmN 4 89) s m args below meth c H locs 0 0 (MQ below (Qi Ym D T ρ A S' r) args s 0 0 A) (F0 m 0 ls []) := by
  unfold b_nextWord_0 at h
  refine lv_aload_n C.1 C.2.1 dX13_nextWord_0 rfl (lv_at hl 0 rfl) ?_
  refine lv_aload_n C.1 C.2.1 dX13_nextWord_1 rfl (lv_at hl 0 rfl) ?_
  refine x_getI C w fM255 obM dX13_nextWord_2 ?_
  obtain ⟨v_1, hv_1, h⟩ := bnd h
  refine x_callVi (q := (RX13, TX13, 68)) (As := [.int (gI S 0 18)]) (rest := []) C w (k_isLineEnd l D T ρ g H.size S hv_1) vM258 ⟨by decide, by decide⟩ obM (by decide) rfl rfl rfl hl.1 (Nat.le_of_ble_eq_true rfl) ⟨Nat.zero_le _, Nat.zero_le _⟩ dX13_nextWord_5 (fun H locs w => ?_)
  refine lv_if_ne (tgt := 38) C.1 C.2.1 dX13_nextWord_8 (by decide) (fun hc => ?_) (fun hc => ?_)
  · replace h := iff0 hc h
    exact w_nextWord_38 C hr hk w (lv_sub hl [0] rfl) h
  · replace h := ift hc h
    refine lv_aload_n C.1 C.2.1 dX13_nextWord_11 rfl (lv_at hl 0 rfl) ?_
    refine x_getC C w 5 fM135 obM rfl dX13_nextWord_12 ?_
    refine lv_aload_n C.1 C.2.1 dX13_nextWord_15 rfl (lv_at hl 0 rfl) ?_
    refine x_getI C w fM255 obM dX13_nextWord_16 ?_
    obtain ⟨v_2, hv_2, h⟩ := bnd h
    refine x_iald C w obM5 hv_2 dX13_nextWord_19 ?_
    refine lv_bipush (v := 32) C.1 C.2.1 dX13_nextWord_20 (by decide) ?_
    refine lv_icmp_ne (tgt := 38) C.1 C.2.1 dX13_nextWord_22 (by decide) (fun hc => ?_) (fun hc => ?_)
    · replace h := iff0 hc h
      exact w_nextWord_38 C hr hk w (lv_sub hl [0] rfl) h
    · replace h := ift hc h
      refine lv_aload_n C.1 C.2.1 dX13_nextWord_25 rfl (lv_at hl 0 rfl) ?_
      refine lv_dup C.1 C.2.1 dX13_nextWord_26 rfl ?_
      refine x_getI C w fM255 obM dX13_nextWord_27 ?_
      refine lv_iconst (v := 1) C.1 C.2.1 dX13_nextWord_30 (by decide) ?_
      refine lv_iadd C.1 C.2.1 dX13_nextWord_31 ?_
      obtain ⟨S_3, eS_3, h⟩ := lt_e h
      refine y_putI C w eS_3 fM255 pM18 obM dX13_nextWord_32 (fun H locs w => ?_)
      refine lv_goto (tgt := 0) C.1 C.2.1 dX13_nextWord_35 (by decide) ?_
      exact kk0 _ _ _ _ w (lv_sub hl [0] rfl) h
theorem w_nextWord_0 {g : Nat} (C : CallFix p m c cX13_nextWord 1 s args tb RX13) (hr : meth.sig.returnType = (some .boolean)) (hk : meth.locks = false) {S' : St} {r : Int32} (n : Nat) : ∀ (S : St) (H : Heap) (locs : List Loc) (ls : Array Slot), Wn Ym D T ρ S A s H locs → lv_has ls 1 [(0, .ref (ρ 0))] → m_nextWord_0 g n S = some (S', r) → W p l e (rmN 4 89) s m args below meth c H locs 0 0 (MQ below (Qi Ym D T ρ A S' r) args s 0 0 A) (F0 m 0 ls []) := by
  induction n with
  | zero => intro S H locs ls w hl h; exact absurd h (fun q => by cases q)
  | succ n ih => intro S H locs ls w hl h; exact wb_nextWord_0 C hr hk ih w hl h
end S_nextWord
set_option maxRecDepth 100000 in
theorem k_nextWord (l : Launch) (D : va_G) (T : Cy) (ρ : Nat → Nat) (g sz : Nat) (S : St) {S' : St} {r : Int32} (h : m_nextWord g S = some (S', r)) : Mi l Ym D T ρ yX13_nextWord cX13_nextWord 1 (some .boolean) 4 89 S S' r [.ref (ρ 0)] sz :=
  x_in (by decide) (Nat.le_of_ble_eq_true rfl) (fun p e s m below meth c ls C hr hk w hl => w_nextWord_0 C hr hk g _ _ _ _ w (lv_sub hl [0] rfl) h)

theorem dX13_sortOfWord_0 : decode cX13_sortOfWord 0 = .ok (.lconst 0, 1) := by decide +kernel
theorem dX13_sortOfWord_1 : decode cX13_sortOfWord 1 = .ok (.lstore_n 1, 1) := by decide +kernel
theorem dX13_sortOfWord_2 : decode cX13_sortOfWord 2 = .ok (.aload_n 0, 1) := by decide +kernel
theorem dX13_sortOfWord_3 : decode cX13_sortOfWord 3 = .ok (.getfield 275, 3) := by decide +kernel
theorem dX13_sortOfWord_6 : decode cX13_sortOfWord 6 = .ok (.aload_n 0, 1) := by decide +kernel
theorem dX13_sortOfWord_7 : decode cX13_sortOfWord 7 = .ok (.getfield 262, 3) := by decide +kernel
theorem dX13_sortOfWord_10 : decode cX13_sortOfWord 10 = .ok (.isub, 1) := by decide +kernel
theorem dX13_sortOfWord_11 : decode cX13_sortOfWord 11 = .ok (.bipush 7, 2) := by decide +kernel
theorem dX13_sortOfWord_13 : decode cX13_sortOfWord 13 = .ok (.if_icmp .gt 14, 3) := by decide +kernel
theorem dX13_sortOfWord_16 : decode cX13_sortOfWord 16 = .ok (.aload_n 0, 1) := by decide +kernel
theorem dX13_sortOfWord_17 : decode cX13_sortOfWord 17 = .ok (.getfield 265, 3) := by decide +kernel
theorem dX13_sortOfWord_20 : decode cX13_sortOfWord 20 = .ok (.ifCond .ne 7, 3) := by decide +kernel
theorem dX13_sortOfWord_23 : decode cX13_sortOfWord 23 = .ok (.iconst 1, 1) := by decide +kernel
theorem dX13_sortOfWord_24 : decode cX13_sortOfWord 24 = .ok (.goto 4, 3) := by decide +kernel
theorem dX13_sortOfWord_27 : decode cX13_sortOfWord 27 = .ok (.iconst 0, 1) := by decide +kernel
theorem dX13_sortOfWord_28 : decode cX13_sortOfWord 28 = .ok (.istore_n 3, 1) := by decide +kernel
theorem dX13_sortOfWord_29 : decode cX13_sortOfWord 29 = .ok (.aload_n 0, 1) := by decide +kernel
theorem dX13_sortOfWord_30 : decode cX13_sortOfWord 30 = .ok (.getfield 262, 3) := by decide +kernel
theorem dX13_sortOfWord_33 : decode cX13_sortOfWord 33 = .ok (.istore 4, 2) := by decide +kernel
theorem dX13_sortOfWord_35 : decode cX13_sortOfWord 35 = .ok (.iload_n 3, 1) := by decide +kernel
theorem dX13_sortOfWord_36 : decode cX13_sortOfWord 36 = .ok (.ifCond .eq 67, 3) := by decide +kernel
theorem dX13_sortOfWord_39 : decode cX13_sortOfWord 39 = .ok (.iload 4, 2) := by decide +kernel
theorem dX13_sortOfWord_41 : decode cX13_sortOfWord 41 = .ok (.aload_n 0, 1) := by decide +kernel
theorem dX13_sortOfWord_42 : decode cX13_sortOfWord 42 = .ok (.getfield 275, 3) := by decide +kernel
theorem dX13_sortOfWord_45 : decode cX13_sortOfWord 45 = .ok (.if_icmp .ge 58, 3) := by decide +kernel
theorem dX13_sortOfWord_48 : decode cX13_sortOfWord 48 = .ok (.aload_n 0, 1) := by decide +kernel
theorem dX13_sortOfWord_49 : decode cX13_sortOfWord 49 = .ok (.getfield 135, 3) := by decide +kernel
theorem dX13_sortOfWord_52 : decode cX13_sortOfWord 52 = .ok (.iload 4, 2) := by decide +kernel
theorem dX13_sortOfWord_54 : decode cX13_sortOfWord 54 = .ok (.iaload, 1) := by decide +kernel
theorem dX13_sortOfWord_55 : decode cX13_sortOfWord 55 = .ok (.bipush 97, 2) := by decide +kernel
theorem dX13_sortOfWord_57 : decode cX13_sortOfWord 57 = .ok (.if_icmp .lt 19, 3) := by decide +kernel
theorem dX13_sortOfWord_60 : decode cX13_sortOfWord 60 = .ok (.aload_n 0, 1) := by decide +kernel
theorem dX13_sortOfWord_61 : decode cX13_sortOfWord 61 = .ok (.getfield 135, 3) := by decide +kernel
theorem dX13_sortOfWord_64 : decode cX13_sortOfWord 64 = .ok (.iload 4, 2) := by decide +kernel
theorem dX13_sortOfWord_66 : decode cX13_sortOfWord 66 = .ok (.iaload, 1) := by decide +kernel
theorem dX13_sortOfWord_67 : decode cX13_sortOfWord 67 = .ok (.bipush 122, 2) := by decide +kernel
theorem dX13_sortOfWord_69 : decode cX13_sortOfWord 69 = .ok (.if_icmp .gt 7, 3) := by decide +kernel
theorem dX13_sortOfWord_72 : decode cX13_sortOfWord 72 = .ok (.iconst 1, 1) := by decide +kernel
theorem dX13_sortOfWord_73 : decode cX13_sortOfWord 73 = .ok (.goto 4, 3) := by decide +kernel
theorem dX13_sortOfWord_76 : decode cX13_sortOfWord 76 = .ok (.iconst 0, 1) := by decide +kernel
theorem dX13_sortOfWord_77 : decode cX13_sortOfWord 77 = .ok (.istore_n 3, 1) := by decide +kernel
theorem dX13_sortOfWord_78 : decode cX13_sortOfWord 78 = .ok (.ldc2_w 288, 3) := by decide +kernel
theorem dX13_sortOfWord_81 : decode cX13_sortOfWord 81 = .ok (.lload_n 1, 1) := by decide +kernel
theorem dX13_sortOfWord_82 : decode cX13_sortOfWord 82 = .ok (.lmul, 1) := by decide +kernel
theorem dX13_sortOfWord_83 : decode cX13_sortOfWord 83 = .ok (.aload_n 0, 1) := by decide +kernel
theorem dX13_sortOfWord_84 : decode cX13_sortOfWord 84 = .ok (.getfield 135, 3) := by decide +kernel
theorem dX13_sortOfWord_87 : decode cX13_sortOfWord 87 = .ok (.iload 4, 2) := by decide +kernel
theorem dX13_sortOfWord_89 : decode cX13_sortOfWord 89 = .ok (.iaload, 1) := by decide +kernel
theorem dX13_sortOfWord_90 : decode cX13_sortOfWord 90 = .ok (.i2l, 1) := by decide +kernel
theorem dX13_sortOfWord_91 : decode cX13_sortOfWord 91 = .ok (.ladd, 1) := by decide +kernel
theorem dX13_sortOfWord_92 : decode cX13_sortOfWord 92 = .ok (.ldc2_w 290, 3) := by decide +kernel
theorem dX13_sortOfWord_95 : decode cX13_sortOfWord 95 = .ok (.lsub, 1) := by decide +kernel
theorem dX13_sortOfWord_96 : decode cX13_sortOfWord 96 = .ok (.lstore_n 1, 1) := by decide +kernel
theorem dX13_sortOfWord_97 : decode cX13_sortOfWord 97 = .ok (.iinc 4 1, 3) := by decide +kernel
theorem dX13_sortOfWord_100 : decode cX13_sortOfWord 100 = .ok (.goto (-65), 3) := by decide +kernel
theorem dX13_sortOfWord_103 : decode cX13_sortOfWord 103 = .ok (.iconst 0, 1) := by decide +kernel
theorem dX13_sortOfWord_104 : decode cX13_sortOfWord 104 = .ok (.istore 4, 2) := by decide +kernel
theorem dX13_sortOfWord_106 : decode cX13_sortOfWord 106 = .ok (.iload_n 3, 1) := by decide +kernel
theorem dX13_sortOfWord_107 : decode cX13_sortOfWord 107 = .ok (.ifCond .eq 49, 3) := by decide +kernel
theorem dX13_sortOfWord_110 : decode cX13_sortOfWord 110 = .ok (.iload 4, 2) := by decide +kernel
theorem dX13_sortOfWord_112 : decode cX13_sortOfWord 112 = .ok (.bipush 28, 2) := by decide +kernel
theorem dX13_sortOfWord_114 : decode cX13_sortOfWord 114 = .ok (.if_icmp .ge 42, 3) := by decide +kernel
theorem dX13_sortOfWord_117 : decode cX13_sortOfWord 117 = .ok (.aload_n 0, 1) := by decide +kernel
theorem dX13_sortOfWord_118 : decode cX13_sortOfWord 118 = .ok (.getfield 63, 3) := by decide +kernel
theorem dX13_sortOfWord_121 : decode cX13_sortOfWord 121 = .ok (.iload 4, 2) := by decide +kernel
theorem dX13_sortOfWord_123 : decode cX13_sortOfWord 123 = .ok (.laload, 1) := by decide +kernel
theorem dX13_sortOfWord_124 : decode cX13_sortOfWord 124 = .ok (.lload_n 1, 1) := by decide +kernel
theorem dX13_sortOfWord_125 : decode cX13_sortOfWord 125 = .ok (.lcmp, 1) := by decide +kernel
theorem dX13_sortOfWord_126 : decode cX13_sortOfWord 126 = .ok (.ifCond .ne 6, 3) := by decide +kernel
theorem dX13_sortOfWord_129 : decode cX13_sortOfWord 129 = .ok (.iload 4, 2) := by decide +kernel
theorem dX13_sortOfWord_131 : decode cX13_sortOfWord 131 = .ok (.ireturn, 1) := by decide +kernel
theorem dX13_sortOfWord_132 : decode cX13_sortOfWord 132 = .ok (.aload_n 0, 1) := by decide +kernel
theorem dX13_sortOfWord_133 : decode cX13_sortOfWord 133 = .ok (.getfield 125, 3) := by decide +kernel
theorem dX13_sortOfWord_136 : decode cX13_sortOfWord 136 = .ok (.iload 4, 2) := by decide +kernel
theorem dX13_sortOfWord_138 : decode cX13_sortOfWord 138 = .ok (.laload, 1) := by decide +kernel
theorem dX13_sortOfWord_139 : decode cX13_sortOfWord 139 = .ok (.lload_n 1, 1) := by decide +kernel
theorem dX13_sortOfWord_140 : decode cX13_sortOfWord 140 = .ok (.lcmp, 1) := by decide +kernel
theorem dX13_sortOfWord_141 : decode cX13_sortOfWord 141 = .ok (.ifCond .ne 9, 3) := by decide +kernel
theorem dX13_sortOfWord_144 : decode cX13_sortOfWord 144 = .ok (.bipush 28, 2) := by decide +kernel
theorem dX13_sortOfWord_146 : decode cX13_sortOfWord 146 = .ok (.iload 4, 2) := by decide +kernel
theorem dX13_sortOfWord_148 : decode cX13_sortOfWord 148 = .ok (.iadd, 1) := by decide +kernel
theorem dX13_sortOfWord_149 : decode cX13_sortOfWord 149 = .ok (.ireturn, 1) := by decide +kernel
theorem dX13_sortOfWord_150 : decode cX13_sortOfWord 150 = .ok (.iinc 4 1, 3) := by decide +kernel
theorem dX13_sortOfWord_153 : decode cX13_sortOfWord 153 = .ok (.goto (-47), 3) := by decide +kernel
theorem dX13_sortOfWord_156 : decode cX13_sortOfWord 156 = .ok (.iconst (-1), 1) := by decide +kernel
theorem dX13_sortOfWord_157 : decode cX13_sortOfWord 157 = .ok (.ireturn, 1) := by decide +kernel
def b_sortOfWord_106 (g : Nat) (S : St) (k106 : Int64 → Int32 → Int32 → Option Int32) (x1 : Int64) (x3 : Int32) (x4 : Int32) : Option Int32 :=
if x3 = 0 then (
  some (-1 : Int32)
) else (
  if (28 : Int32) ≤ x4 then (
    some (-1 : Int32)
  ) else (
    (aJ S 1 x4).bind fun v_2 =>
    if v_2 = x1 then (
      some x4
    ) else (
      (aJ S 2 x4).bind fun v_3 =>
      if v_3 = x1 then (
        some ((28 : Int32) + x4)
      ) else (
        lt (x4 + (1 : Int32)) fun x4_4 =>
        k106 x1 x3 x4_4
      )
    )
  )
)
def m_sortOfWord_106 (g : Nat) (S : St) : Nat → Int64 → Int32 → Int32 → Option Int32
  | 0, _, _, _ => none
  | n + 1, x1, x3, x4 => b_sortOfWord_106 g S (m_sortOfWord_106 g S n) x1 x3 x4
def m_sortOfWord_77 (g : Nat) (S : St) (k35 : Int64 → Int32 → Int32 → Option Int32) (x1 : Int64) (x4 : Int32) (y0 : Int32) : Option Int32 :=
(aI S 5 x4).bind fun v_3 =>
lt ((((32 : Int64) * x1) + (v_3.toInt64)) - (96 : Int64)) fun x1_4 =>
lt (x4 + (1 : Int32)) fun x4_5 =>
k35 x1_4 y0 x4_5
def m_sortOfWord_76 (g : Nat) (S : St) (k35 : Int64 → Int32 → Int32 → Option Int32) (x1 : Int64) (x4 : Int32) : Option Int32 :=
m_sortOfWord_77 g S k35 x1 x4 (0 : Int32)
def b_sortOfWord_35 (g : Nat) (S : St) (k35 : Int64 → Int32 → Int32 → Option Int32) (x1 : Int64) (x3 : Int32) (x4 : Int32) : Option Int32 :=
if x3 = 0 then (
  m_sortOfWord_106 g S g x1 x3 (0 : Int32)
) else (
  if (gI S 0 21) ≤ x4 then (
    m_sortOfWord_106 g S g x1 x3 (0 : Int32)
  ) else (
    (aI S 5 x4).bind fun v_2 =>
    if v_2 < (97 : Int32) then (
      m_sortOfWord_76 g S k35 x1 x4
    ) else (
      (aI S 5 x4).bind fun v_3 =>
      if (122 : Int32) < v_3 then (
        m_sortOfWord_76 g S k35 x1 x4
      ) else (
        m_sortOfWord_77 g S k35 x1 x4 (1 : Int32)
      )
    )
  )
)
def m_sortOfWord_35 (g : Nat) (S : St) : Nat → Int64 → Int32 → Int32 → Option Int32
  | 0, _, _, _ => none
  | n + 1, x1, x3, x4 => b_sortOfWord_35 g S (m_sortOfWord_35 g S n) x1 x3 x4
def m_sortOfWord (g : Nat) (S : St) : Option Int32 :=
if (7 : Int32) < ((gI S 0 21) - (gI S 0 20)) then (
  lt (gI S 0 20) fun x4_1 =>
  m_sortOfWord_35 g S g (0 : Int64) (0 : Int32) x4_1
) else (
  if (gI S 0 23) = 0 then (
    lt (gI S 0 20) fun x4_3 =>
    m_sortOfWord_35 g S g (0 : Int64) (1 : Int32) x4_3
  ) else (
    lt (gI S 0 20) fun x4_2 =>
    m_sortOfWord_35 g S g (0 : Int64) (0 : Int32) x4_2
  )
)
section S_sortOfWord
variable {p : Program} {l : Launch} {e : Env} {s : State} {m : MethodId} {args : Array Value} {below : List Frame} {meth : Method} {c : Code} {H : Heap} {locs : List Loc} {ls : Array Slot} {D : va_G} {T : Cy} {ρ : Nat → Nat} {A : Nat → Prop}
set_option maxRecDepth 100000 in
set_option maxHeartbeats 4000000 in
theorem wb_sortOfWord_106  {g : Nat} {S : St} {x1 : Int64} {x3 : Int32} {x4 : Int32} (C : CallFix p m c cX13_sortOfWord 5 s args tb RX13) (hr : meth.sig.returnType = (some .int)) (hk : meth.locks = false) {r : Int32} {k106 : Int64 → Int32 → Int32 → Option Int32} (kk106 : ∀ (x1 : Int64) (x3 : Int32) (x4 : Int32) (H : Heap) (locs : List Loc) (ls : Array Slot), Wn Ym D T ρ S A s H locs → lv_has ls 5 [(0, .ref (ρ 0)), (1, .long x1), (3, .int x3), (4, .int x4)] → k106 x1 x3 x4 = some r → W p l e (rmN 0 0) s m args below meth c H locs 0 0 (MQ below (Qi Ym D T ρ A S r) args s 0 0 A) (F0 m 106 ls [])) (w : Wn Ym D T ρ S A s H locs) (hl : lv_has ls 5 [(0, .ref (ρ 0)), (1, .long x1), (3, .int x3), (4, .int x4)]) (h : b_sortOfWord_106 g S k106 x1 x3 x4 = some r) : W p l e (rmN 0 0) s m args below meth c H locs 0 0 (MQ below (Qi Ym D T ρ A S r) args s 0 0 A) (F0 m 106 ls []) := by
  unfold b_sortOfWord_106 at h
  refine lv_iload_n C.1 C.2.1 dX13_sortOfWord_106 rfl (lv_at hl 2 rfl) ?_
  refine lv_if_eq (tgt := 156) C.1 C.2.1 dX13_sortOfWord_107 (by decide) (fun hc => ?_) (fun hc => ?_)
  · replace h := ift hc h
    refine lv_iconst (v := (-1)) C.1 C.2.1 dX13_sortOfWord_156 (by decide) ?_
    obtain rfl := som h
    exact x_iret C w hr hk dX13_sortOfWord_157
  · replace h := iff0 hc h
    refine lv_iload C.1 C.2.1 dX13_sortOfWord_110 (lv_at hl 3 rfl) ?_
    refine lv_bipush (v := 28) C.1 C.2.1 dX13_sortOfWord_112 (by decide) ?_
    refine lv_icmp_ge (tgt := 156) C.1 C.2.1 dX13_sortOfWord_114 (by decide) (fun hc => ?_) (fun hc => ?_)
    · replace h := ift hc h
      refine lv_iconst (v := (-1)) C.1 C.2.1 dX13_sortOfWord_156 (by decide) ?_
      obtain rfl := som h
      exact x_iret C w hr hk dX13_sortOfWord_157
    · replace h := iff0 hc h
      refine lv_aload_n C.1 C.2.1 dX13_sortOfWord_117 rfl (lv_at hl 0 rfl) ?_
      refine x_getC C w 1 fM63 obM rfl dX13_sortOfWord_118 ?_
      refine lv_iload C.1 C.2.1 dX13_sortOfWord_121 (lv_at hl 3 rfl) ?_
      obtain ⟨v_2, hv_2, h⟩ := bnd h
      refine x_lald C w obM1 hv_2 dX13_sortOfWord_123 ?_
      refine lv_lload_n C.1 C.2.1 dX13_sortOfWord_124 rfl (lv_at hl 1 rfl) ?_
      refine x_l_ne (tgt := 132) C dX13_sortOfWord_125 dX13_sortOfWord_126 (by decide) (fun hc => ?_) (fun hc => ?_)
      · replace h := iff0 hc h
        refine lv_aload_n C.1 C.2.1 dX13_sortOfWord_132 rfl (lv_at hl 0 rfl) ?_
        refine x_getC C w 2 fM125 obM rfl dX13_sortOfWord_133 ?_
        refine lv_iload C.1 C.2.1 dX13_sortOfWord_136 (lv_at hl 3 rfl) ?_
        obtain ⟨v_3, hv_3, h⟩ := bnd h
        refine x_lald C w obM2 hv_3 dX13_sortOfWord_138 ?_
        refine lv_lload_n C.1 C.2.1 dX13_sortOfWord_139 rfl (lv_at hl 1 rfl) ?_
        refine x_l_ne (tgt := 150) C dX13_sortOfWord_140 dX13_sortOfWord_141 (by decide) (fun hc => ?_) (fun hc => ?_)
        · replace h := iff0 hc h
          obtain ⟨x4_4, ex4_4, h⟩ := lt_e h
          refine lv_iinc (v := x4_4) (lv' := [(4, .int x4_4), (0, .ref (ρ 0)), (1, .long x1), (3, .int x3)]) C.1 C.2.1 dX13_sortOfWord_150 hl (k := 3) rfl (by rw [ex4_4]; rfl) (by decide) rfl (fun ls hl => ?_)
          refine lv_goto (tgt := 106) C.1 C.2.1 dX13_sortOfWord_153 (by decide) ?_
          exact kk106 _ _ _ _ _ _ w (lv_sub hl [1, 2, 3, 0] rfl) h
        · replace h := ift hc h
          refine lv_bipush (v := 28) C.1 C.2.1 dX13_sortOfWord_144 (by decide) ?_
          refine lv_iload C.1 C.2.1 dX13_sortOfWord_146 (lv_at hl 3 rfl) ?_
          refine lv_iadd C.1 C.2.1 dX13_sortOfWord_148 ?_
          obtain rfl := som h
          exact x_iret C w hr hk dX13_sortOfWord_149
      · replace h := ift hc h
        refine lv_iload C.1 C.2.1 dX13_sortOfWord_129 (lv_at hl 3 rfl) ?_
        obtain rfl := som h
        exact x_iret C w hr hk dX13_sortOfWord_131
theorem w_sortOfWord_106 {g : Nat} {S : St} (C : CallFix p m c cX13_sortOfWord 5 s args tb RX13) (hr : meth.sig.returnType = (some .int)) (hk : meth.locks = false) {r : Int32} (n : Nat) : ∀ (x1 : Int64) (x3 : Int32) (x4 : Int32) (H : Heap) (locs : List Loc) (ls : Array Slot), Wn Ym D T ρ S A s H locs → lv_has ls 5 [(0, .ref (ρ 0)), (1, .long x1), (3, .int x3), (4, .int x4)] → m_sortOfWord_106 g S n x1 x3 x4 = some r → W p l e (rmN 0 0) s m args below meth c H locs 0 0 (MQ below (Qi Ym D T ρ A S r) args s 0 0 A) (F0 m 106 ls []) := by
  induction n with
  | zero => intro x1 x3 x4 H locs ls w hl h; exact absurd h (fun q => by cases q)
  | succ n ih => intro x1 x3 x4 H locs ls w hl h; exact wb_sortOfWord_106 C hr hk ih w hl h
set_option maxRecDepth 100000 in
set_option maxHeartbeats 4000000 in
theorem w_sortOfWord_77  {g : Nat} {S : St} {x1 : Int64} {x4 : Int32} {y0 : Int32} (C : CallFix p m c cX13_sortOfWord 5 s args tb RX13) (hr : meth.sig.returnType = (some .int)) (hk : meth.locks = false) {r : Int32} {k35 : Int64 → Int32 → Int32 → Option Int32} (kk35 : ∀ (x1 : Int64) (x3 : Int32) (x4 : Int32) (H : Heap) (locs : List Loc) (ls : Array Slot), Wn Ym D T ρ S A s H locs → lv_has ls 5 [(0, .ref (ρ 0)), (1, .long x1), (3, .int x3), (4, .int x4)] → k35 x1 x3 x4 = some r → W p l e (rmN 0 0) s m args below meth c H locs 0 0 (MQ below (Qi Ym D T ρ A S r) args s 0 0 A) (F0 m 35 ls [])) (w : Wn Ym D T ρ S A s H locs) (hl : lv_has ls 5 [(0, .ref (ρ 0)), (1, .long x1), (4, .int x4)]) (h : m_sortOfWord_77 g S k35 x1 x4 y0 = some r) : W p l e (rmN 0 0) s m args below meth c H locs 0 0 (MQ below (Qi Ym D T ρ A S r) args s 0 0 A) (F0 m 77 ls [.int y0]) := by
  unfold m_sortOfWord_77 at h
  refine lv_istore_n (lv' := [(3, .int y0), (0, .ref (ρ 0)), (1, .long x1), (4, .int x4)]) C.1 C.2.1 dX13_sortOfWord_77 rfl hl (by decide) rfl (fun ls hl => ?_)
  refine lv_ldc2 C.1 C.2.1 C.2.2.2.1 (C.2.2.2.2 _ nM288) dX13_sortOfWord_78 ?_
  refine lv_lload_n C.1 C.2.1 dX13_sortOfWord_81 rfl (lv_at hl 2 rfl) ?_
  refine lv_lmul C.1 C.2.1 dX13_sortOfWord_82 ?_
  refine lv_aload_n C.1 C.2.1 dX13_sortOfWord_83 rfl (lv_at hl 1 rfl) ?_
  refine x_getC C w 5 fM135 obM rfl dX13_sortOfWord_84 ?_
  refine lv_iload C.1 C.2.1 dX13_sortOfWord_87 (lv_at hl 3 rfl) ?_
  obtain ⟨v_3, hv_3, h⟩ := bnd h
  refine x_iald C w obM5 hv_3 dX13_sortOfWord_89 ?_
  refine lv_i2l C.1 C.2.1 dX13_sortOfWord_90 rfl ?_
  refine lv_ladd C.1 C.2.1 dX13_sortOfWord_91 ?_
  refine lv_ldc2 C.1 C.2.1 C.2.2.2.1 (C.2.2.2.2 _ nM290) dX13_sortOfWord_92 ?_
  refine lv_lsub C.1 C.2.1 dX13_sortOfWord_95 ?_
  obtain ⟨x1_4, ex1_4, h⟩ := lt_e h
  refine x_nmL ex1_4 ?_
  refine lv_lstore_n (lv' := [(1, .long x1_4), (3, .int y0), (0, .ref (ρ 0)), (4, .int x4)]) C.1 C.2.1 dX13_sortOfWord_96 rfl hl (by decide) rfl (fun ls hl => ?_)
  obtain ⟨x4_5, ex4_5, h⟩ := lt_e h
  refine lv_iinc (v := x4_5) (lv' := [(4, .int x4_5), (1, .long x1_4), (3, .int y0), (0, .ref (ρ 0))]) C.1 C.2.1 dX13_sortOfWord_97 hl (k := 3) rfl (by rw [ex4_5]; rfl) (by decide) rfl (fun ls hl => ?_)
  refine lv_goto (tgt := 35) C.1 C.2.1 dX13_sortOfWord_100 (by decide) ?_
  exact kk35 _ _ _ _ _ _ w (lv_sub hl [3, 1, 2, 0] rfl) h
set_option maxRecDepth 100000 in
set_option maxHeartbeats 4000000 in
theorem w_sortOfWord_76  {g : Nat} {S : St} {x1 : Int64} {x4 : Int32} (C : CallFix p m c cX13_sortOfWord 5 s args tb RX13) (hr : meth.sig.returnType = (some .int)) (hk : meth.locks = false) {r : Int32} {k35 : Int64 → Int32 → Int32 → Option Int32} (kk35 : ∀ (x1 : Int64) (x3 : Int32) (x4 : Int32) (H : Heap) (locs : List Loc) (ls : Array Slot), Wn Ym D T ρ S A s H locs → lv_has ls 5 [(0, .ref (ρ 0)), (1, .long x1), (3, .int x3), (4, .int x4)] → k35 x1 x3 x4 = some r → W p l e (rmN 0 0) s m args below meth c H locs 0 0 (MQ below (Qi Ym D T ρ A S r) args s 0 0 A) (F0 m 35 ls [])) (w : Wn Ym D T ρ S A s H locs) (hl : lv_has ls 5 [(0, .ref (ρ 0)), (1, .long x1), (4, .int x4)]) (h : m_sortOfWord_76 g S k35 x1 x4 = some r) : W p l e (rmN 0 0) s m args below meth c H locs 0 0 (MQ below (Qi Ym D T ρ A S r) args s 0 0 A) (F0 m 76 ls []) := by
  unfold m_sortOfWord_76 at h
  refine lv_iconst (v := 0) C.1 C.2.1 dX13_sortOfWord_76 (by decide) ?_
  exact w_sortOfWord_77 C hr hk kk35 w (lv_sub hl [0, 1, 2] rfl) h
set_option maxRecDepth 100000 in
set_option maxHeartbeats 4000000 in
theorem wb_sortOfWord_35  {g : Nat} {S : St} {x1 : Int64} {x3 : Int32} {x4 : Int32} (C : CallFix p m c cX13_sortOfWord 5 s args tb RX13) (hr : meth.sig.returnType = (some .int)) (hk : meth.locks = false) {r : Int32} {k35 : Int64 → Int32 → Int32 → Option Int32} (kk35 : ∀ (x1 : Int64) (x3 : Int32) (x4 : Int32) (H : Heap) (locs : List Loc) (ls : Array Slot), Wn Ym D T ρ S A s H locs → lv_has ls 5 [(0, .ref (ρ 0)), (1, .long x1), (3, .int x3), (4, .int x4)] → k35 x1 x3 x4 = some r → W p l e (rmN 0 0) s m args below meth c H locs 0 0 (MQ below (Qi Ym D T ρ A S r) args s 0 0 A) (F0 m 35 ls [])) (w : Wn Ym D T ρ S A s H locs) (hl : lv_has ls 5 [(0, .ref (ρ 0)), (1, .long x1), (3, .int x3), (4, .int x4)]) (h : b_sortOfWord_35 g S k35 x1 x3 x4 = some r) : W p l e (rmN 0 0) s m args below meth c H locs 0 0 (MQ below (Qi Ym D T ρ A S r) args s 0 0 A) (F0 m 35 ls []) := by
  unfold b_sortOfWord_35 at h
  refine lv_iload_n C.1 C.2.1 dX13_sortOfWord_35 rfl (lv_at hl 2 rfl) ?_
  refine lv_if_eq (tgt := 103) C.1 C.2.1 dX13_sortOfWord_36 (by decide) (fun hc => ?_) (fun hc => ?_)
  · replace h := ift hc h
    refine lv_iconst (v := 0) C.1 C.2.1 dX13_sortOfWord_103 (by decide) ?_
    refine lv_istore (lv' := [(4, .int (0 : Int32)), (0, .ref (ρ 0)), (1, .long x1), (3, .int x3)]) C.1 C.2.1 dX13_sortOfWord_104 hl (by decide) rfl (fun ls hl => ?_)
    exact w_sortOfWord_106 C hr hk g _ _ _ _ _ _ w (lv_sub hl [1, 2, 3, 0] rfl) h
  · replace h := iff0 hc h
    refine lv_iload C.1 C.2.1 dX13_sortOfWord_39 (lv_at hl 3 rfl) ?_
    refine lv_aload_n C.1 C.2.1 dX13_sortOfWord_41 rfl (lv_at hl 0 rfl) ?_
    refine x_getI C w fM275 obM dX13_sortOfWord_42 ?_
    refine lv_icmp_ge (tgt := 103) C.1 C.2.1 dX13_sortOfWord_45 (by decide) (fun hc => ?_) (fun hc => ?_)
    · replace h := ift hc h
      refine lv_iconst (v := 0) C.1 C.2.1 dX13_sortOfWord_103 (by decide) ?_
      refine lv_istore (lv' := [(4, .int (0 : Int32)), (0, .ref (ρ 0)), (1, .long x1), (3, .int x3)]) C.1 C.2.1 dX13_sortOfWord_104 hl (by decide) rfl (fun ls hl => ?_)
      exact w_sortOfWord_106 C hr hk g _ _ _ _ _ _ w (lv_sub hl [1, 2, 3, 0] rfl) h
    · replace h := iff0 hc h
      refine lv_aload_n C.1 C.2.1 dX13_sortOfWord_48 rfl (lv_at hl 0 rfl) ?_
      refine x_getC C w 5 fM135 obM rfl dX13_sortOfWord_49 ?_
      refine lv_iload C.1 C.2.1 dX13_sortOfWord_52 (lv_at hl 3 rfl) ?_
      obtain ⟨v_2, hv_2, h⟩ := bnd h
      refine x_iald C w obM5 hv_2 dX13_sortOfWord_54 ?_
      refine lv_bipush (v := 97) C.1 C.2.1 dX13_sortOfWord_55 (by decide) ?_
      refine lv_icmp_lt (tgt := 76) C.1 C.2.1 dX13_sortOfWord_57 (by decide) (fun hc => ?_) (fun hc => ?_)
      · replace h := ift hc h
        exact w_sortOfWord_76 C hr hk kk35 w (lv_sub hl [0, 1, 3] rfl) h
      · replace h := iff0 hc h
        refine lv_aload_n C.1 C.2.1 dX13_sortOfWord_60 rfl (lv_at hl 0 rfl) ?_
        refine x_getC C w 5 fM135 obM rfl dX13_sortOfWord_61 ?_
        refine lv_iload C.1 C.2.1 dX13_sortOfWord_64 (lv_at hl 3 rfl) ?_
        obtain ⟨v_3, hv_3, h⟩ := bnd h
        refine x_iald C w obM5 hv_3 dX13_sortOfWord_66 ?_
        refine lv_bipush (v := 122) C.1 C.2.1 dX13_sortOfWord_67 (by decide) ?_
        refine lv_icmp_gt (tgt := 76) C.1 C.2.1 dX13_sortOfWord_69 (by decide) (fun hc => ?_) (fun hc => ?_)
        · replace h := ift hc h
          exact w_sortOfWord_76 C hr hk kk35 w (lv_sub hl [0, 1, 3] rfl) h
        · replace h := iff0 hc h
          refine lv_iconst (v := 1) C.1 C.2.1 dX13_sortOfWord_72 (by decide) ?_
          refine lv_goto (tgt := 77) C.1 C.2.1 dX13_sortOfWord_73 (by decide) ?_
          exact w_sortOfWord_77 C hr hk kk35 w (lv_sub hl [0, 1, 3] rfl) h
theorem w_sortOfWord_35 {g : Nat} {S : St} (C : CallFix p m c cX13_sortOfWord 5 s args tb RX13) (hr : meth.sig.returnType = (some .int)) (hk : meth.locks = false) {r : Int32} (n : Nat) : ∀ (x1 : Int64) (x3 : Int32) (x4 : Int32) (H : Heap) (locs : List Loc) (ls : Array Slot), Wn Ym D T ρ S A s H locs → lv_has ls 5 [(0, .ref (ρ 0)), (1, .long x1), (3, .int x3), (4, .int x4)] → m_sortOfWord_35 g S n x1 x3 x4 = some r → W p l e (rmN 0 0) s m args below meth c H locs 0 0 (MQ below (Qi Ym D T ρ A S r) args s 0 0 A) (F0 m 35 ls []) := by
  induction n with
  | zero => intro x1 x3 x4 H locs ls w hl h; exact absurd h (fun q => by cases q)
  | succ n ih => intro x1 x3 x4 H locs ls w hl h; exact wb_sortOfWord_35 C hr hk ih w hl h
set_option maxRecDepth 100000 in
set_option maxHeartbeats 4000000 in
theorem w_sortOfWord_0  {g : Nat} {S : St} (C : CallFix p m c cX13_sortOfWord 5 s args tb RX13) (hr : meth.sig.returnType = (some .int)) (hk : meth.locks = false) {r : Int32} (w : Wn Ym D T ρ S A s H locs) (hl : lv_has ls 5 [(0, .ref (ρ 0))]) (h : m_sortOfWord g S = some r) : W p l e (rmN 0 0) s m args below meth c H locs 0 0 (MQ below (Qi Ym D T ρ A S r) args s 0 0 A) (F0 m 0 ls []) := by
  unfold m_sortOfWord at h
  refine lv_lconst (v := 0) C.1 C.2.1 dX13_sortOfWord_0 (by decide) ?_
  refine lv_lstore_n (lv' := [(1, .long (0 : Int64)), (0, .ref (ρ 0))]) C.1 C.2.1 dX13_sortOfWord_1 rfl hl (by decide) rfl (fun ls hl => ?_)
  refine lv_aload_n C.1 C.2.1 dX13_sortOfWord_2 rfl (lv_at hl 1 rfl) ?_
  refine x_getI C w fM275 obM dX13_sortOfWord_3 ?_
  refine lv_aload_n C.1 C.2.1 dX13_sortOfWord_6 rfl (lv_at hl 1 rfl) ?_
  refine x_getI C w fM262 obM dX13_sortOfWord_7 ?_
  refine lv_isub C.1 C.2.1 dX13_sortOfWord_10 ?_
  refine lv_bipush (v := 7) C.1 C.2.1 dX13_sortOfWord_11 (by decide) ?_
  refine lv_icmp_gt (tgt := 27) C.1 C.2.1 dX13_sortOfWord_13 (by decide) (fun hc => ?_) (fun hc => ?_)
  · replace h := ift hc h
    refine lv_iconst (v := 0) C.1 C.2.1 dX13_sortOfWord_27 (by decide) ?_
    refine lv_istore_n (lv' := [(3, .int (0 : Int32)), (1, .long (0 : Int64)), (0, .ref (ρ 0))]) C.1 C.2.1 dX13_sortOfWord_28 rfl hl (by decide) rfl (fun ls hl => ?_)
    refine lv_aload_n C.1 C.2.1 dX13_sortOfWord_29 rfl (lv_at hl 2 rfl) ?_
    refine x_getI C w fM262 obM dX13_sortOfWord_30 ?_
    obtain ⟨x4_1, ex4_1, h⟩ := lt_e h
    refine x_nm ex4_1 ?_
    refine lv_istore (lv' := [(4, .int x4_1), (3, .int (0 : Int32)), (1, .long (0 : Int64)), (0, .ref (ρ 0))]) C.1 C.2.1 dX13_sortOfWord_33 hl (by decide) rfl (fun ls hl => ?_)
    exact w_sortOfWord_35 C hr hk g _ _ _ _ _ _ w (lv_sub hl [3, 2, 1, 0] rfl) h
  · replace h := iff0 hc h
    refine lv_aload_n C.1 C.2.1 dX13_sortOfWord_16 rfl (lv_at hl 1 rfl) ?_
    refine x_getI C w fM265 obM dX13_sortOfWord_17 ?_
    refine lv_if_ne (tgt := 27) C.1 C.2.1 dX13_sortOfWord_20 (by decide) (fun hc => ?_) (fun hc => ?_)
    · replace h := iff0 hc h
      refine lv_iconst (v := 0) C.1 C.2.1 dX13_sortOfWord_27 (by decide) ?_
      refine lv_istore_n (lv' := [(3, .int (0 : Int32)), (1, .long (0 : Int64)), (0, .ref (ρ 0))]) C.1 C.2.1 dX13_sortOfWord_28 rfl hl (by decide) rfl (fun ls hl => ?_)
      refine lv_aload_n C.1 C.2.1 dX13_sortOfWord_29 rfl (lv_at hl 2 rfl) ?_
      refine x_getI C w fM262 obM dX13_sortOfWord_30 ?_
      obtain ⟨x4_2, ex4_2, h⟩ := lt_e h
      refine x_nm ex4_2 ?_
      refine lv_istore (lv' := [(4, .int x4_2), (3, .int (0 : Int32)), (1, .long (0 : Int64)), (0, .ref (ρ 0))]) C.1 C.2.1 dX13_sortOfWord_33 hl (by decide) rfl (fun ls hl => ?_)
      exact w_sortOfWord_35 C hr hk g _ _ _ _ _ _ w (lv_sub hl [3, 2, 1, 0] rfl) h
    · replace h := ift hc h
      refine lv_iconst (v := 1) C.1 C.2.1 dX13_sortOfWord_23 (by decide) ?_
      refine lv_goto (tgt := 28) C.1 C.2.1 dX13_sortOfWord_24 (by decide) ?_
      refine lv_istore_n (lv' := [(3, .int (1 : Int32)), (1, .long (0 : Int64)), (0, .ref (ρ 0))]) C.1 C.2.1 dX13_sortOfWord_28 rfl hl (by decide) rfl (fun ls hl => ?_)
      refine lv_aload_n C.1 C.2.1 dX13_sortOfWord_29 rfl (lv_at hl 2 rfl) ?_
      refine x_getI C w fM262 obM dX13_sortOfWord_30 ?_
      obtain ⟨x4_3, ex4_3, h⟩ := lt_e h
      refine x_nm ex4_3 ?_
      refine lv_istore (lv' := [(4, .int x4_3), (3, .int (1 : Int32)), (1, .long (0 : Int64)), (0, .ref (ρ 0))]) C.1 C.2.1 dX13_sortOfWord_33 hl (by decide) rfl (fun ls hl => ?_)
      exact w_sortOfWord_35 C hr hk g _ _ _ _ _ _ w (lv_sub hl [3, 2, 1, 0] rfl) h
end S_sortOfWord
set_option maxRecDepth 100000 in
theorem k_sortOfWord (l : Launch) (D : va_G) (T : Cy) (ρ : Nat → Nat) (g sz : Nat) (S : St) {r : Int32} (h : m_sortOfWord g S = some r) : Mi l Ym D T ρ yX13_sortOfWord cX13_sortOfWord 5 (some .int) 0 0 S S r [.ref (ρ 0)] sz :=
  x_in (by decide) (Nat.le_of_ble_eq_true rfl) (fun p e s m below meth c ls C hr hk w hl => w_sortOfWord_0 C hr hk w hl h)

theorem dX13_wordsOf_0 : decode cX13_wordsOf 0 = .ok (.iload_n 1, 1) := by decide +kernel
theorem dX13_wordsOf_1 : decode cX13_wordsOf 1 = .ok (.bipush 28, 2) := by decide +kernel
theorem dX13_wordsOf_3 : decode cX13_wordsOf 3 = .ok (.if_icmp .ge 12, 3) := by decide +kernel
theorem dX13_wordsOf_6 : decode cX13_wordsOf 6 = .ok (.aload_n 0, 1) := by decide +kernel
theorem dX13_wordsOf_7 : decode cX13_wordsOf 7 = .ok (.getfield 128, 3) := by decide +kernel
theorem dX13_wordsOf_10 : decode cX13_wordsOf 10 = .ok (.iload_n 1, 1) := by decide +kernel
theorem dX13_wordsOf_11 : decode cX13_wordsOf 11 = .ok (.iaload, 1) := by decide +kernel
theorem dX13_wordsOf_12 : decode cX13_wordsOf 12 = .ok (.goto 12, 3) := by decide +kernel
theorem dX13_wordsOf_15 : decode cX13_wordsOf 15 = .ok (.aload_n 0, 1) := by decide +kernel
theorem dX13_wordsOf_16 : decode cX13_wordsOf 16 = .ok (.getfield 132, 3) := by decide +kernel
theorem dX13_wordsOf_19 : decode cX13_wordsOf 19 = .ok (.iload_n 1, 1) := by decide +kernel
theorem dX13_wordsOf_20 : decode cX13_wordsOf 20 = .ok (.bipush 28, 2) := by decide +kernel
theorem dX13_wordsOf_22 : decode cX13_wordsOf 22 = .ok (.isub, 1) := by decide +kernel
theorem dX13_wordsOf_23 : decode cX13_wordsOf 23 = .ok (.iaload, 1) := by decide +kernel
theorem dX13_wordsOf_24 : decode cX13_wordsOf 24 = .ok (.ireturn, 1) := by decide +kernel
def m_wordsOf (g : Nat) (S : St) (x1 : Int32) : Option Int32 :=
if (28 : Int32) ≤ x1 then (
  (aI S 4 (x1 - (28 : Int32))).bind fun v_1 =>
  some v_1
) else (
  (aI S 3 x1).bind fun v_2 =>
  some v_2
)
section S_wordsOf
variable {p : Program} {l : Launch} {e : Env} {s : State} {m : MethodId} {args : Array Value} {below : List Frame} {meth : Method} {c : Code} {H : Heap} {locs : List Loc} {ls : Array Slot} {D : va_G} {T : Cy} {ρ : Nat → Nat} {A : Nat → Prop}
set_option maxRecDepth 100000 in
set_option maxHeartbeats 4000000 in
theorem w_wordsOf_0  {g : Nat} {S : St} {x1 : Int32} (C : CallFix p m c cX13_wordsOf 2 s args tb RX13) (hr : meth.sig.returnType = (some .int)) (hk : meth.locks = false) {r : Int32} (w : Wn Ym D T ρ S A s H locs) (hl : lv_has ls 2 [(0, .ref (ρ 0)), (1, .int x1)]) (h : m_wordsOf g S x1 = some r) : W p l e (rmN 0 0) s m args below meth c H locs 0 0 (MQ below (Qi Ym D T ρ A S r) args s 0 0 A) (F0 m 0 ls []) := by
  unfold m_wordsOf at h
  refine lv_iload_n C.1 C.2.1 dX13_wordsOf_0 rfl (lv_at hl 1 rfl) ?_
  refine lv_bipush (v := 28) C.1 C.2.1 dX13_wordsOf_1 (by decide) ?_
  refine lv_icmp_ge (tgt := 15) C.1 C.2.1 dX13_wordsOf_3 (by decide) (fun hc => ?_) (fun hc => ?_)
  · replace h := ift hc h
    refine lv_aload_n C.1 C.2.1 dX13_wordsOf_15 rfl (lv_at hl 0 rfl) ?_
    refine x_getC C w 4 fM132 obM rfl dX13_wordsOf_16 ?_
    refine lv_iload_n C.1 C.2.1 dX13_wordsOf_19 rfl (lv_at hl 1 rfl) ?_
    refine lv_bipush (v := 28) C.1 C.2.1 dX13_wordsOf_20 (by decide) ?_
    refine lv_isub C.1 C.2.1 dX13_wordsOf_22 ?_
    obtain ⟨v_1, hv_1, h⟩ := bnd h
    refine x_iald C w obM4 hv_1 dX13_wordsOf_23 ?_
    obtain rfl := som h
    exact x_iret C w hr hk dX13_wordsOf_24
  · replace h := iff0 hc h
    refine lv_aload_n C.1 C.2.1 dX13_wordsOf_6 rfl (lv_at hl 0 rfl) ?_
    refine x_getC C w 3 fM128 obM rfl dX13_wordsOf_7 ?_
    refine lv_iload_n C.1 C.2.1 dX13_wordsOf_10 rfl (lv_at hl 1 rfl) ?_
    obtain ⟨v_2, hv_2, h⟩ := bnd h
    refine x_iald C w obM3 hv_2 dX13_wordsOf_11 ?_
    refine lv_goto (tgt := 24) C.1 C.2.1 dX13_wordsOf_12 (by decide) ?_
    obtain rfl := som h
    exact x_iret C w hr hk dX13_wordsOf_24
end S_wordsOf
set_option maxRecDepth 100000 in
theorem k_wordsOf (l : Launch) (D : va_G) (T : Cy) (ρ : Nat → Nat) (g sz : Nat) (S : St) {x1 : Int32} {r : Int32} (h : m_wordsOf g S x1 = some r) : Mi l Ym D T ρ yX13_wordsOf cX13_wordsOf 2 (some .int) 0 0 S S r [.ref (ρ 0), .int x1] sz :=
  x_in (by decide) (Nat.le_of_ble_eq_true rfl) (fun p e s m below meth c ls C hr hk w hl => w_wordsOf_0 C hr hk w hl h)

theorem dX13_roleOf_0 : decode cX13_roleOf 0 = .ok (.iload_n 1, 1) := by decide +kernel
theorem dX13_roleOf_1 : decode cX13_roleOf 1 = .ok (.iconst 4, 1) := by decide +kernel
theorem dX13_roleOf_2 : decode cX13_roleOf 2 = .ok (.if_icmp .ne 20, 3) := by decide +kernel
theorem dX13_roleOf_5 : decode cX13_roleOf 5 = .ok (.iload_n 2, 1) := by decide +kernel
theorem dX13_roleOf_6 : decode cX13_roleOf 6 = .ok (.ifCond .le 16, 3) := by decide +kernel
theorem dX13_roleOf_9 : decode cX13_roleOf 9 = .ok (.iload_n 2, 1) := by decide +kernel
theorem dX13_roleOf_10 : decode cX13_roleOf 10 = .ok (.bipush 8, 2) := by decide +kernel
theorem dX13_roleOf_12 : decode cX13_roleOf 12 = .ok (.if_icmp .gt 8, 3) := by decide +kernel
theorem dX13_roleOf_15 : decode cX13_roleOf 15 = .ok (.bipush 6, 2) := by decide +kernel
theorem dX13_roleOf_17 : decode cX13_roleOf 17 = .ok (.goto 4, 3) := by decide +kernel
theorem dX13_roleOf_20 : decode cX13_roleOf 20 = .ok (.iconst 0, 1) := by decide +kernel
theorem dX13_roleOf_21 : decode cX13_roleOf 21 = .ok (.ireturn, 1) := by decide +kernel
theorem dX13_roleOf_22 : decode cX13_roleOf 22 = .ok (.iload_n 1, 1) := by decide +kernel
theorem dX13_roleOf_23 : decode cX13_roleOf 23 = .ok (.bipush 45, 2) := by decide +kernel
theorem dX13_roleOf_25 : decode cX13_roleOf 25 = .ok (.if_icmp .ne 19, 3) := by decide +kernel
theorem dX13_roleOf_28 : decode cX13_roleOf 28 = .ok (.iload_n 2, 1) := by decide +kernel
theorem dX13_roleOf_29 : decode cX13_roleOf 29 = .ok (.ifCond .le 15, 3) := by decide +kernel
theorem dX13_roleOf_32 : decode cX13_roleOf 32 = .ok (.iload_n 2, 1) := by decide +kernel
theorem dX13_roleOf_33 : decode cX13_roleOf 33 = .ok (.bipush 8, 2) := by decide +kernel
theorem dX13_roleOf_35 : decode cX13_roleOf 35 = .ok (.if_icmp .gt 7, 3) := by decide +kernel
theorem dX13_roleOf_38 : decode cX13_roleOf 38 = .ok (.iconst 5, 1) := by decide +kernel
theorem dX13_roleOf_39 : decode cX13_roleOf 39 = .ok (.goto 4, 3) := by decide +kernel
theorem dX13_roleOf_42 : decode cX13_roleOf 42 = .ok (.iconst 0, 1) := by decide +kernel
theorem dX13_roleOf_43 : decode cX13_roleOf 43 = .ok (.ireturn, 1) := by decide +kernel
theorem dX13_roleOf_44 : decode cX13_roleOf 44 = .ok (.aload_n 0, 1) := by decide +kernel
theorem dX13_roleOf_45 : decode cX13_roleOf 45 = .ok (.iload_n 1, 1) := by decide +kernel
theorem dX13_roleOf_46 : decode cX13_roleOf 46 = .ok (.invokevirtual 292, 3) := by decide +kernel
theorem dX13_roleOf_49 : decode cX13_roleOf 49 = .ok (.istore_n 3, 1) := by decide +kernel
theorem dX13_roleOf_50 : decode cX13_roleOf 50 = .ok (.iconst 0, 1) := by decide +kernel
theorem dX13_roleOf_51 : decode cX13_roleOf 51 = .ok (.istore 4, 2) := by decide +kernel
theorem dX13_roleOf_53 : decode cX13_roleOf 53 = .ok (.iload 4, 2) := by decide +kernel
theorem dX13_roleOf_55 : decode cX13_roleOf 55 = .ok (.iload_n 2, 1) := by decide +kernel
theorem dX13_roleOf_56 : decode cX13_roleOf 56 = .ok (.if_icmp .ge 14, 3) := by decide +kernel
theorem dX13_roleOf_59 : decode cX13_roleOf 59 = .ok (.iload_n 3, 1) := by decide +kernel
theorem dX13_roleOf_60 : decode cX13_roleOf 60 = .ok (.bipush 10, 2) := by decide +kernel
theorem dX13_roleOf_62 : decode cX13_roleOf 62 = .ok (.idiv, 1) := by decide +kernel
theorem dX13_roleOf_63 : decode cX13_roleOf 63 = .ok (.istore_n 3, 1) := by decide +kernel
theorem dX13_roleOf_64 : decode cX13_roleOf 64 = .ok (.iinc 4 1, 3) := by decide +kernel
theorem dX13_roleOf_67 : decode cX13_roleOf 67 = .ok (.goto (-14), 3) := by decide +kernel
theorem dX13_roleOf_70 : decode cX13_roleOf 70 = .ok (.iload_n 3, 1) := by decide +kernel
theorem dX13_roleOf_71 : decode cX13_roleOf 71 = .ok (.bipush 10, 2) := by decide +kernel
theorem dX13_roleOf_73 : decode cX13_roleOf 73 = .ok (.irem, 1) := by decide +kernel
theorem dX13_roleOf_74 : decode cX13_roleOf 74 = .ok (.ireturn, 1) := by decide +kernel
def b_roleOf_53 (g : Nat) (S : St) (k53 : Int32 → Int32 → Int32 → Option Int32) (x2 : Int32) (x3 : Int32) (x4 : Int32) : Option Int32 :=
if x2 ≤ x4 then (
  some (x3 - x3 / (10 : Int32) * (10 : Int32))
) else (
  lt (x3 / (10 : Int32)) fun x3_2 =>
  lt (x4 + (1 : Int32)) fun x4_3 =>
  k53 x2 x3_2 x4_3
)
def m_roleOf_53 (g : Nat) (S : St) : Nat → Int32 → Int32 → Int32 → Option Int32
  | 0, _, _, _ => none
  | n + 1, x2, x3, x4 => b_roleOf_53 g S (m_roleOf_53 g S n) x2 x3 x4
def m_roleOf_44 (g : Nat) (S : St) (x1 : Int32) (x2 : Int32) : Option Int32 :=
(m_wordsOf g S x1).bind fun v_1 =>
m_roleOf_53 g S g x2 v_1 (0 : Int32)
def m_roleOf_22 (g : Nat) (S : St) (x1 : Int32) (x2 : Int32) : Option Int32 :=
if x1 = (45 : Int32) then (
  if x2 ≤ 0 then (
    m_roleOf_44 g S x1 x2
  ) else (
    if (8 : Int32) < x2 then (
      some (0 : Int32)
    ) else (
      some (5 : Int32)
    )
  )
) else (
  m_roleOf_44 g S x1 x2
)
def m_roleOf (g : Nat) (S : St) (x1 : Int32) (x2 : Int32) : Option Int32 :=
if x1 = (4 : Int32) then (
  if x2 ≤ 0 then (
    m_roleOf_22 g S x1 x2
  ) else (
    if (8 : Int32) < x2 then (
      some (0 : Int32)
    ) else (
      some (6 : Int32)
    )
  )
) else (
  m_roleOf_22 g S x1 x2
)
section S_roleOf
variable {p : Program} {l : Launch} {e : Env} {s : State} {m : MethodId} {args : Array Value} {below : List Frame} {meth : Method} {c : Code} {H : Heap} {locs : List Loc} {ls : Array Slot} {D : va_G} {T : Cy} {ρ : Nat → Nat} {A : Nat → Prop}
set_option maxRecDepth 100000 in
set_option maxHeartbeats 4000000 in
theorem wb_roleOf_53  {g : Nat} {S : St} {x2 : Int32} {x3 : Int32} {x4 : Int32} (C : CallFix p m c cX13_roleOf 5 s args tb RX13) (hr : meth.sig.returnType = (some .int)) (hk : meth.locks = false) {r : Int32} {k53 : Int32 → Int32 → Int32 → Option Int32} (kk53 : ∀ (x2 : Int32) (x3 : Int32) (x4 : Int32) (H : Heap) (locs : List Loc) (ls : Array Slot), Wn Ym D T ρ S A s H locs → lv_has ls 5 [(2, .int x2), (3, .int x3), (4, .int x4)] → k53 x2 x3 x4 = some r → W p l e (rmN 1 21) s m args below meth c H locs 0 0 (MQ below (Qi Ym D T ρ A S r) args s 0 0 A) (F0 m 53 ls [])) (w : Wn Ym D T ρ S A s H locs) (hl : lv_has ls 5 [(2, .int x2), (3, .int x3), (4, .int x4)]) (h : b_roleOf_53 g S k53 x2 x3 x4 = some r) : W p l e (rmN 1 21) s m args below meth c H locs 0 0 (MQ below (Qi Ym D T ρ A S r) args s 0 0 A) (F0 m 53 ls []) := by
  unfold b_roleOf_53 at h
  refine lv_iload C.1 C.2.1 dX13_roleOf_53 (lv_at hl 2 rfl) ?_
  refine lv_iload_n C.1 C.2.1 dX13_roleOf_55 rfl (lv_at hl 0 rfl) ?_
  refine lv_icmp_ge (tgt := 70) C.1 C.2.1 dX13_roleOf_56 (by decide) (fun hc => ?_) (fun hc => ?_)
  · replace h := ift hc h
    refine lv_iload_n C.1 C.2.1 dX13_roleOf_70 rfl (lv_at hl 1 rfl) ?_
    refine lv_bipush (v := 10) C.1 C.2.1 dX13_roleOf_71 (by decide) ?_
    refine lv_irem C.1 C.2.1 dX13_roleOf_73 (by decide) ?_
    obtain rfl := som h
    exact x_iret C w hr hk dX13_roleOf_74
  · replace h := iff0 hc h
    refine lv_iload_n C.1 C.2.1 dX13_roleOf_59 rfl (lv_at hl 1 rfl) ?_
    refine lv_bipush (v := 10) C.1 C.2.1 dX13_roleOf_60 (by decide) ?_
    refine lv_idiv C.1 C.2.1 dX13_roleOf_62 (by decide) ?_
    obtain ⟨x3_2, ex3_2, h⟩ := lt_e h
    refine x_nm ex3_2 ?_
    refine lv_istore_n (lv' := [(3, .int x3_2), (2, .int x2), (4, .int x4)]) C.1 C.2.1 dX13_roleOf_63 rfl hl (by decide) rfl (fun ls hl => ?_)
    obtain ⟨x4_3, ex4_3, h⟩ := lt_e h
    refine lv_iinc (v := x4_3) (lv' := [(4, .int x4_3), (3, .int x3_2), (2, .int x2)]) C.1 C.2.1 dX13_roleOf_64 hl (k := 2) rfl (by rw [ex4_3]; rfl) (by decide) rfl (fun ls hl => ?_)
    refine lv_goto (tgt := 53) C.1 C.2.1 dX13_roleOf_67 (by decide) ?_
    exact kk53 _ _ _ _ _ _ w (lv_sub hl [2, 1, 0] rfl) h
theorem w_roleOf_53 {g : Nat} {S : St} (C : CallFix p m c cX13_roleOf 5 s args tb RX13) (hr : meth.sig.returnType = (some .int)) (hk : meth.locks = false) {r : Int32} (n : Nat) : ∀ (x2 : Int32) (x3 : Int32) (x4 : Int32) (H : Heap) (locs : List Loc) (ls : Array Slot), Wn Ym D T ρ S A s H locs → lv_has ls 5 [(2, .int x2), (3, .int x3), (4, .int x4)] → m_roleOf_53 g S n x2 x3 x4 = some r → W p l e (rmN 1 21) s m args below meth c H locs 0 0 (MQ below (Qi Ym D T ρ A S r) args s 0 0 A) (F0 m 53 ls []) := by
  induction n with
  | zero => intro x2 x3 x4 H locs ls w hl h; exact absurd h (fun q => by cases q)
  | succ n ih => intro x2 x3 x4 H locs ls w hl h; exact wb_roleOf_53 C hr hk ih w hl h
set_option maxRecDepth 100000 in
set_option maxHeartbeats 4000000 in
theorem w_roleOf_44  {g : Nat} {S : St} {x1 : Int32} {x2 : Int32} (C : CallFix p m c cX13_roleOf 5 s args tb RX13) (hr : meth.sig.returnType = (some .int)) (hk : meth.locks = false) {r : Int32} (w : Wn Ym D T ρ S A s H locs) (hl : lv_has ls 5 [(0, .ref (ρ 0)), (1, .int x1), (2, .int x2)]) (h : m_roleOf_44 g S x1 x2 = some r) : W p l e (rmN 1 21) s m args below meth c H locs 0 0 (MQ below (Qi Ym D T ρ A S r) args s 0 0 A) (F0 m 44 ls []) := by
  unfold m_roleOf_44 at h
  refine lv_aload_n C.1 C.2.1 dX13_roleOf_44 rfl (lv_at hl 0 rfl) ?_
  refine lv_iload_n C.1 C.2.1 dX13_roleOf_45 rfl (lv_at hl 1 rfl) ?_
  obtain ⟨v_1, hv_1, h⟩ := bnd h
  refine x_callVi (q := (RX13, TX13, 68)) (As := [.int x1]) (rest := []) C w (k_wordsOf l D T ρ g H.size S hv_1) vM292 ⟨by decide, by decide⟩ obM (by decide) rfl rfl rfl hl.1 (Nat.le_of_ble_eq_true rfl) ⟨Nat.zero_le _, Nat.zero_le _⟩ dX13_roleOf_46 (fun H locs w => ?_)
  refine lv_istore_n (lv' := [(3, .int v_1), (0, .ref (ρ 0)), (1, .int x1), (2, .int x2)]) C.1 C.2.1 dX13_roleOf_49 rfl hl (by decide) rfl (fun ls hl => ?_)
  refine lv_iconst (v := 0) C.1 C.2.1 dX13_roleOf_50 (by decide) ?_
  refine lv_istore (lv' := [(4, .int (0 : Int32)), (3, .int v_1), (0, .ref (ρ 0)), (1, .int x1), (2, .int x2)]) C.1 C.2.1 dX13_roleOf_51 hl (by decide) rfl (fun ls hl => ?_)
  exact w_roleOf_53 C hr hk g _ _ _ _ _ _ w (lv_sub hl [4, 1, 0] rfl) h
set_option maxRecDepth 100000 in
set_option maxHeartbeats 4000000 in
theorem w_roleOf_22  {g : Nat} {S : St} {x1 : Int32} {x2 : Int32} (C : CallFix p m c cX13_roleOf 5 s args tb RX13) (hr : meth.sig.returnType = (some .int)) (hk : meth.locks = false) {r : Int32} (w : Wn Ym D T ρ S A s H locs) (hl : lv_has ls 5 [(0, .ref (ρ 0)), (1, .int x1), (2, .int x2)]) (h : m_roleOf_22 g S x1 x2 = some r) : W p l e (rmN 1 21) s m args below meth c H locs 0 0 (MQ below (Qi Ym D T ρ A S r) args s 0 0 A) (F0 m 22 ls []) := by
  unfold m_roleOf_22 at h
  refine lv_iload_n C.1 C.2.1 dX13_roleOf_22 rfl (lv_at hl 1 rfl) ?_
  refine lv_bipush (v := 45) C.1 C.2.1 dX13_roleOf_23 (by decide) ?_
  refine lv_icmp_ne (tgt := 44) C.1 C.2.1 dX13_roleOf_25 (by decide) (fun hc => ?_) (fun hc => ?_)
  · replace h := iff0 hc h
    exact w_roleOf_44 C hr hk w (lv_sub hl [0, 1, 2] rfl) h
  · replace h := ift hc h
    refine lv_iload_n C.1 C.2.1 dX13_roleOf_28 rfl (lv_at hl 2 rfl) ?_
    refine lv_if_le (tgt := 44) C.1 C.2.1 dX13_roleOf_29 (by decide) (fun hc => ?_) (fun hc => ?_)
    · replace h := ift hc h
      exact w_roleOf_44 C hr hk w (lv_sub hl [0, 1, 2] rfl) h
    · replace h := iff0 hc h
      refine lv_iload_n C.1 C.2.1 dX13_roleOf_32 rfl (lv_at hl 2 rfl) ?_
      refine lv_bipush (v := 8) C.1 C.2.1 dX13_roleOf_33 (by decide) ?_
      refine lv_icmp_gt (tgt := 42) C.1 C.2.1 dX13_roleOf_35 (by decide) (fun hc => ?_) (fun hc => ?_)
      · replace h := ift hc h
        refine lv_iconst (v := 0) C.1 C.2.1 dX13_roleOf_42 (by decide) ?_
        obtain rfl := som h
        exact x_iret C w hr hk dX13_roleOf_43
      · replace h := iff0 hc h
        refine lv_iconst (v := 5) C.1 C.2.1 dX13_roleOf_38 (by decide) ?_
        refine lv_goto (tgt := 43) C.1 C.2.1 dX13_roleOf_39 (by decide) ?_
        obtain rfl := som h
        exact x_iret C w hr hk dX13_roleOf_43
set_option maxRecDepth 100000 in
set_option maxHeartbeats 4000000 in
theorem w_roleOf_0  {g : Nat} {S : St} {x1 : Int32} {x2 : Int32} (C : CallFix p m c cX13_roleOf 5 s args tb RX13) (hr : meth.sig.returnType = (some .int)) (hk : meth.locks = false) {r : Int32} (w : Wn Ym D T ρ S A s H locs) (hl : lv_has ls 5 [(0, .ref (ρ 0)), (1, .int x1), (2, .int x2)]) (h : m_roleOf g S x1 x2 = some r) : W p l e (rmN 1 21) s m args below meth c H locs 0 0 (MQ below (Qi Ym D T ρ A S r) args s 0 0 A) (F0 m 0 ls []) := by
  unfold m_roleOf at h
  refine lv_iload_n C.1 C.2.1 dX13_roleOf_0 rfl (lv_at hl 1 rfl) ?_
  refine lv_iconst (v := 4) C.1 C.2.1 dX13_roleOf_1 (by decide) ?_
  refine lv_icmp_ne (tgt := 22) C.1 C.2.1 dX13_roleOf_2 (by decide) (fun hc => ?_) (fun hc => ?_)
  · replace h := iff0 hc h
    exact w_roleOf_22 C hr hk w (lv_sub hl [0, 1, 2] rfl) h
  · replace h := ift hc h
    refine lv_iload_n C.1 C.2.1 dX13_roleOf_5 rfl (lv_at hl 2 rfl) ?_
    refine lv_if_le (tgt := 22) C.1 C.2.1 dX13_roleOf_6 (by decide) (fun hc => ?_) (fun hc => ?_)
    · replace h := ift hc h
      exact w_roleOf_22 C hr hk w (lv_sub hl [0, 1, 2] rfl) h
    · replace h := iff0 hc h
      refine lv_iload_n C.1 C.2.1 dX13_roleOf_9 rfl (lv_at hl 2 rfl) ?_
      refine lv_bipush (v := 8) C.1 C.2.1 dX13_roleOf_10 (by decide) ?_
      refine lv_icmp_gt (tgt := 20) C.1 C.2.1 dX13_roleOf_12 (by decide) (fun hc => ?_) (fun hc => ?_)
      · replace h := ift hc h
        refine lv_iconst (v := 0) C.1 C.2.1 dX13_roleOf_20 (by decide) ?_
        obtain rfl := som h
        exact x_iret C w hr hk dX13_roleOf_21
      · replace h := iff0 hc h
        refine lv_bipush (v := 6) C.1 C.2.1 dX13_roleOf_15 (by decide) ?_
        refine lv_goto (tgt := 21) C.1 C.2.1 dX13_roleOf_17 (by decide) ?_
        obtain rfl := som h
        exact x_iret C w hr hk dX13_roleOf_21
end S_roleOf
set_option maxRecDepth 100000 in
theorem k_roleOf (l : Launch) (D : va_G) (T : Cy) (ρ : Nat → Nat) (g sz : Nat) (S : St) {x1 : Int32} {x2 : Int32} {r : Int32} (h : m_roleOf g S x1 x2 = some r) : Mi l Ym D T ρ yX13_roleOf cX13_roleOf 5 (some .int) 1 21 S S r [.ref (ρ 0), .int x1, .int x2] sz :=
  x_in (by decide) (Nat.le_of_ble_eq_true rfl) (fun p e s m below meth c ls C hr hk w hl => w_roleOf_0 C hr hk w hl h)

theorem dX13_isNumber_0 : decode cX13_isNumber 0 = .ok (.iload_n 1, 1) := by decide +kernel
theorem dX13_isNumber_1 : decode cX13_isNumber 1 = .ok (.aload_n 0, 1) := by decide +kernel
theorem dX13_isNumber_2 : decode cX13_isNumber 2 = .ok (.getfield 275, 3) := by decide +kernel
theorem dX13_isNumber_5 : decode cX13_isNumber 5 = .ok (.if_icmp .ge 18, 3) := by decide +kernel
theorem dX13_isNumber_8 : decode cX13_isNumber 8 = .ok (.aload_n 0, 1) := by decide +kernel
theorem dX13_isNumber_9 : decode cX13_isNumber 9 = .ok (.getfield 135, 3) := by decide +kernel
theorem dX13_isNumber_12 : decode cX13_isNumber 12 = .ok (.iload_n 1, 1) := by decide +kernel
theorem dX13_isNumber_13 : decode cX13_isNumber 13 = .ok (.iaload, 1) := by decide +kernel
theorem dX13_isNumber_14 : decode cX13_isNumber 14 = .ok (.bipush 45, 2) := by decide +kernel
theorem dX13_isNumber_16 : decode cX13_isNumber 16 = .ok (.if_icmp .ne 7, 3) := by decide +kernel
theorem dX13_isNumber_19 : decode cX13_isNumber 19 = .ok (.iconst 1, 1) := by decide +kernel
theorem dX13_isNumber_20 : decode cX13_isNumber 20 = .ok (.goto 4, 3) := by decide +kernel
theorem dX13_isNumber_23 : decode cX13_isNumber 23 = .ok (.iconst 0, 1) := by decide +kernel
theorem dX13_isNumber_24 : decode cX13_isNumber 24 = .ok (.istore_n 2, 1) := by decide +kernel
theorem dX13_isNumber_25 : decode cX13_isNumber 25 = .ok (.iload_n 2, 1) := by decide +kernel
theorem dX13_isNumber_26 : decode cX13_isNumber 26 = .ok (.ifCond .eq 9, 3) := by decide +kernel
theorem dX13_isNumber_29 : decode cX13_isNumber 29 = .ok (.iload_n 1, 1) := by decide +kernel
theorem dX13_isNumber_30 : decode cX13_isNumber 30 = .ok (.iconst 1, 1) := by decide +kernel
theorem dX13_isNumber_31 : decode cX13_isNumber 31 = .ok (.iadd, 1) := by decide +kernel
theorem dX13_isNumber_32 : decode cX13_isNumber 32 = .ok (.goto 4, 3) := by decide +kernel
theorem dX13_isNumber_35 : decode cX13_isNumber 35 = .ok (.iload_n 1, 1) := by decide +kernel
theorem dX13_isNumber_36 : decode cX13_isNumber 36 = .ok (.istore_n 3, 1) := by decide +kernel
theorem dX13_isNumber_37 : decode cX13_isNumber 37 = .ok (.aload_n 0, 1) := by decide +kernel
theorem dX13_isNumber_38 : decode cX13_isNumber 38 = .ok (.getfield 265, 3) := by decide +kernel
theorem dX13_isNumber_41 : decode cX13_isNumber 41 = .ok (.ifCond .ne 11, 3) := by decide +kernel
theorem dX13_isNumber_44 : decode cX13_isNumber 44 = .ok (.iload_n 3, 1) := by decide +kernel
theorem dX13_isNumber_45 : decode cX13_isNumber 45 = .ok (.aload_n 0, 1) := by decide +kernel
theorem dX13_isNumber_46 : decode cX13_isNumber 46 = .ok (.getfield 275, 3) := by decide +kernel
theorem dX13_isNumber_49 : decode cX13_isNumber 49 = .ok (.if_icmp .lt 5, 3) := by decide +kernel
theorem dX13_isNumber_52 : decode cX13_isNumber 52 = .ok (.iconst 0, 1) := by decide +kernel
theorem dX13_isNumber_53 : decode cX13_isNumber 53 = .ok (.ireturn, 1) := by decide +kernel
theorem dX13_isNumber_54 : decode cX13_isNumber 54 = .ok (.lconst 0, 1) := by decide +kernel
theorem dX13_isNumber_55 : decode cX13_isNumber 55 = .ok (.lstore 4, 2) := by decide +kernel
theorem dX13_isNumber_57 : decode cX13_isNumber 57 = .ok (.iload_n 3, 1) := by decide +kernel
theorem dX13_isNumber_58 : decode cX13_isNumber 58 = .ok (.aload_n 0, 1) := by decide +kernel
theorem dX13_isNumber_59 : decode cX13_isNumber 59 = .ok (.getfield 275, 3) := by decide +kernel
theorem dX13_isNumber_62 : decode cX13_isNumber 62 = .ok (.if_icmp .ge 71, 3) := by decide +kernel
theorem dX13_isNumber_65 : decode cX13_isNumber 65 = .ok (.aload_n 0, 1) := by decide +kernel
theorem dX13_isNumber_66 : decode cX13_isNumber 66 = .ok (.getfield 135, 3) := by decide +kernel
theorem dX13_isNumber_69 : decode cX13_isNumber 69 = .ok (.iload_n 3, 1) := by decide +kernel
theorem dX13_isNumber_70 : decode cX13_isNumber 70 = .ok (.iaload, 1) := by decide +kernel
theorem dX13_isNumber_71 : decode cX13_isNumber 71 = .ok (.bipush 48, 2) := by decide +kernel
theorem dX13_isNumber_73 : decode cX13_isNumber 73 = .ok (.isub, 1) := by decide +kernel
theorem dX13_isNumber_74 : decode cX13_isNumber 74 = .ok (.istore 6, 2) := by decide +kernel
theorem dX13_isNumber_76 : decode cX13_isNumber 76 = .ok (.iload 6, 2) := by decide +kernel
theorem dX13_isNumber_78 : decode cX13_isNumber 78 = .ok (.ifCond .lt 35, 3) := by decide +kernel
theorem dX13_isNumber_81 : decode cX13_isNumber 81 = .ok (.iload 6, 2) := by decide +kernel
theorem dX13_isNumber_83 : decode cX13_isNumber 83 = .ok (.bipush 9, 2) := by decide +kernel
theorem dX13_isNumber_85 : decode cX13_isNumber 85 = .ok (.if_icmp .gt 28, 3) := by decide +kernel
theorem dX13_isNumber_88 : decode cX13_isNumber 88 = .ok (.lload 4, 2) := by decide +kernel
theorem dX13_isNumber_90 : decode cX13_isNumber 90 = .ok (.ldc2_w 322, 3) := by decide +kernel
theorem dX13_isNumber_93 : decode cX13_isNumber 93 = .ok (.lcmp, 1) := by decide +kernel
theorem dX13_isNumber_94 : decode cX13_isNumber 94 = .ok (.ifCond .lt 19, 3) := by decide +kernel
theorem dX13_isNumber_97 : decode cX13_isNumber 97 = .ok (.lload 4, 2) := by decide +kernel
theorem dX13_isNumber_99 : decode cX13_isNumber 99 = .ok (.ldc2_w 322, 3) := by decide +kernel
theorem dX13_isNumber_102 : decode cX13_isNumber 102 = .ok (.lcmp, 1) := by decide +kernel
theorem dX13_isNumber_103 : decode cX13_isNumber 103 = .ok (.ifCond .ne 12, 3) := by decide +kernel
theorem dX13_isNumber_106 : decode cX13_isNumber 106 = .ok (.iload 6, 2) := by decide +kernel
theorem dX13_isNumber_108 : decode cX13_isNumber 108 = .ok (.bipush 8, 2) := by decide +kernel
theorem dX13_isNumber_110 : decode cX13_isNumber 110 = .ok (.if_icmp .le 5, 3) := by decide +kernel
theorem dX13_isNumber_113 : decode cX13_isNumber 113 = .ok (.iconst 0, 1) := by decide +kernel
theorem dX13_isNumber_114 : decode cX13_isNumber 114 = .ok (.ireturn, 1) := by decide +kernel
theorem dX13_isNumber_115 : decode cX13_isNumber 115 = .ok (.ldc2_w 324, 3) := by decide +kernel
theorem dX13_isNumber_118 : decode cX13_isNumber 118 = .ok (.lload 4, 2) := by decide +kernel
theorem dX13_isNumber_120 : decode cX13_isNumber 120 = .ok (.lmul, 1) := by decide +kernel
theorem dX13_isNumber_121 : decode cX13_isNumber 121 = .ok (.iload 6, 2) := by decide +kernel
theorem dX13_isNumber_123 : decode cX13_isNumber 123 = .ok (.i2l, 1) := by decide +kernel
theorem dX13_isNumber_124 : decode cX13_isNumber 124 = .ok (.lsub, 1) := by decide +kernel
theorem dX13_isNumber_125 : decode cX13_isNumber 125 = .ok (.lstore 4, 2) := by decide +kernel
theorem dX13_isNumber_127 : decode cX13_isNumber 127 = .ok (.iinc 3 1, 3) := by decide +kernel
theorem dX13_isNumber_130 : decode cX13_isNumber 130 = .ok (.goto (-73), 3) := by decide +kernel
theorem dX13_isNumber_133 : decode cX13_isNumber 133 = .ok (.iload_n 2, 1) := by decide +kernel
theorem dX13_isNumber_134 : decode cX13_isNumber 134 = .ok (.ifCond .ne 14, 3) := by decide +kernel
theorem dX13_isNumber_137 : decode cX13_isNumber 137 = .ok (.lload 4, 2) := by decide +kernel
theorem dX13_isNumber_139 : decode cX13_isNumber 139 = .ok (.ldc2_w 326, 3) := by decide +kernel
theorem dX13_isNumber_142 : decode cX13_isNumber 142 = .ok (.lcmp, 1) := by decide +kernel
theorem dX13_isNumber_143 : decode cX13_isNumber 143 = .ok (.ifCond .ne 5, 3) := by decide +kernel
theorem dX13_isNumber_146 : decode cX13_isNumber 146 = .ok (.iconst 0, 1) := by decide +kernel
theorem dX13_isNumber_147 : decode cX13_isNumber 147 = .ok (.ireturn, 1) := by decide +kernel
theorem dX13_isNumber_148 : decode cX13_isNumber 148 = .ok (.aload_n 0, 1) := by decide +kernel
theorem dX13_isNumber_149 : decode cX13_isNumber 149 = .ok (.iload_n 2, 1) := by decide +kernel
theorem dX13_isNumber_150 : decode cX13_isNumber 150 = .ok (.ifCond .eq 8, 3) := by decide +kernel
theorem dX13_isNumber_153 : decode cX13_isNumber 153 = .ok (.lload 4, 2) := by decide +kernel
theorem dX13_isNumber_155 : decode cX13_isNumber 155 = .ok (.goto 6, 3) := by decide +kernel
theorem dX13_isNumber_158 : decode cX13_isNumber 158 = .ok (.lload 4, 2) := by decide +kernel
theorem dX13_isNumber_160 : decode cX13_isNumber 160 = .ok (.lneg, 1) := by decide +kernel
theorem dX13_isNumber_161 : decode cX13_isNumber 161 = .ok (.putfield 328, 3) := by decide +kernel
theorem dX13_isNumber_164 : decode cX13_isNumber 164 = .ok (.iconst 1, 1) := by decide +kernel
theorem dX13_isNumber_165 : decode cX13_isNumber 165 = .ok (.ireturn, 1) := by decide +kernel
def m_isNumber_148 (g : Nat) (S : St) (x2 : Int32) (x4 : Int64) : Option (St × Int32) :=
if x2 = 0 then (
  lt (sL S 0 26 (-x4)) fun S_1 =>
  some (S_1, (1 : Int32))
) else (
  lt (sL S 0 26 x4) fun S_2 =>
  some (S_2, (1 : Int32))
)
def m_isNumber_115 (g : Nat) (k57 : St → Int32 → Int32 → Int64 → Option (St × Int32)) (S : St) (x2 : Int32) (x3 : Int32) (x4 : Int64) (x6 : Int32) : Option (St × Int32) :=
lt (((10 : Int64) * x4) - (x6.toInt64)) fun x4_3 =>
lt (x3 + (1 : Int32)) fun x3_4 =>
k57 S x2 x3_4 x4_3
def b_isNumber_57 (g : Nat) (k57 : St → Int32 → Int32 → Int64 → Option (St × Int32)) (S : St) (x2 : Int32) (x3 : Int32) (x4 : Int64) : Option (St × Int32) :=
if (gI S 0 21) ≤ x3 then (
  if x2 = 0 then (
    if x4 = (-9223372036854775808 : Int64) then (
      some (S, (0 : Int32))
    ) else (
      m_isNumber_148 g S x2 x4
    )
  ) else (
    m_isNumber_148 g S x2 x4
  )
) else (
  (aI S 5 x3).bind fun v_1 =>
  lt (v_1 - (48 : Int32)) fun x6_2 =>
  if x6_2 < 0 then (
    some (S, (0 : Int32))
  ) else (
    if (9 : Int32) < x6_2 then (
      some (S, (0 : Int32))
    ) else (
      if x4 < (-922337203685477580 : Int64) then (
        some (S, (0 : Int32))
      ) else (
        if x4 = (-922337203685477580 : Int64) then (
          if x6_2 ≤ (8 : Int32) then (
            m_isNumber_115 g k57 S x2 x3 x4 x6_2
          ) else (
            some (S, (0 : Int32))
          )
        ) else (
          m_isNumber_115 g k57 S x2 x3 x4 x6_2
        )
      )
    )
  )
)
def m_isNumber_57 (g : Nat) : Nat → St → Int32 → Int32 → Int64 → Option (St × Int32)
  | 0, _, _, _, _ => none
  | n + 1, S, x2, x3, x4 => b_isNumber_57 g (m_isNumber_57 g n) S x2 x3 x4
def m_isNumber_36 (g : Nat) (S : St) (x2 : Int32) (y0 : Int32) : Option (St × Int32) :=
if (gI S 0 23) = 0 then (
  if y0 < (gI S 0 21) then (
    m_isNumber_57 g g S x2 y0 (0 : Int64)
  ) else (
    some (S, (0 : Int32))
  )
) else (
  some (S, (0 : Int32))
)
def m_isNumber_24 (g : Nat) (S : St) (x1 : Int32) (y0 : Int32) : Option (St × Int32) :=
if y0 = 0 then (
  m_isNumber_36 g S y0 x1
) else (
  m_isNumber_36 g S y0 (x1 + (1 : Int32))
)
def m_isNumber_23 (g : Nat) (S : St) (x1 : Int32) : Option (St × Int32) :=
m_isNumber_24 g S x1 (0 : Int32)
def m_isNumber (g : Nat) (S : St) (x1 : Int32) : Option (St × Int32) :=
if (gI S 0 21) ≤ x1 then (
  m_isNumber_23 g S x1
) else (
  (aI S 5 x1).bind fun v_1 =>
  if v_1 = (45 : Int32) then (
    m_isNumber_24 g S x1 (1 : Int32)
  ) else (
    m_isNumber_23 g S x1
  )
)
section S_isNumber
variable {p : Program} {l : Launch} {e : Env} {s : State} {m : MethodId} {args : Array Value} {below : List Frame} {meth : Method} {c : Code} {H : Heap} {locs : List Loc} {ls : Array Slot} {D : va_G} {T : Cy} {ρ : Nat → Nat} {A : Nat → Prop}
set_option maxRecDepth 100000 in
set_option maxHeartbeats 4000000 in
theorem w_isNumber_148  {g : Nat} {S : St} {x2 : Int32} {x4 : Int64} (C : CallFix p m c cX13_isNumber 7 s args tb RX13) (hr : meth.sig.returnType = (some .boolean)) (hk : meth.locks = false) {S' : St} {r : Int32} (w : Wn Ym D T ρ S A s H locs) (hl : lv_has ls 7 [(0, .ref (ρ 0)), (2, .int x2), (4, .long x4)]) (h : m_isNumber_148 g S x2 x4 = some (S', r)) : W p l e (rmN 0 0) s m args below meth c H locs 0 0 (MQ below (Qi Ym D T ρ A S' r) args s 0 0 A) (F0 m 148 ls []) := by
  unfold m_isNumber_148 at h
  refine lv_aload_n C.1 C.2.1 dX13_isNumber_148 rfl (lv_at hl 0 rfl) ?_
  refine lv_iload_n C.1 C.2.1 dX13_isNumber_149 rfl (lv_at hl 1 rfl) ?_
  refine lv_if_eq (tgt := 158) C.1 C.2.1 dX13_isNumber_150 (by decide) (fun hc => ?_) (fun hc => ?_)
  · replace h := ift hc h
    refine lv_lload C.1 C.2.1 dX13_isNumber_158 (lv_at hl 2 rfl) ?_
    refine lv_lneg C.1 C.2.1 dX13_isNumber_160 ?_
    obtain ⟨S_1, eS_1, h⟩ := lt_e h
    refine y_putL C w eS_1 fM328 pM26 obM dX13_isNumber_161 (fun H locs w => ?_)
    refine lv_iconst (v := 1) C.1 C.2.1 dX13_isNumber_164 (by decide) ?_
    obtain ⟨rfl, rfl⟩ := prI h
    exact x_zret C w hr hk (by decide) dX13_isNumber_165
  · replace h := iff0 hc h
    refine lv_lload C.1 C.2.1 dX13_isNumber_153 (lv_at hl 2 rfl) ?_
    refine lv_goto (tgt := 161) C.1 C.2.1 dX13_isNumber_155 (by decide) ?_
    obtain ⟨S_2, eS_2, h⟩ := lt_e h
    refine y_putL C w eS_2 fM328 pM26 obM dX13_isNumber_161 (fun H locs w => ?_)
    refine lv_iconst (v := 1) C.1 C.2.1 dX13_isNumber_164 (by decide) ?_
    obtain ⟨rfl, rfl⟩ := prI h
    exact x_zret C w hr hk (by decide) dX13_isNumber_165
set_option maxRecDepth 100000 in
set_option maxHeartbeats 4000000 in
theorem w_isNumber_115  {g : Nat} {S : St} {x2 : Int32} {x3 : Int32} {x4 : Int64} {x6 : Int32} (C : CallFix p m c cX13_isNumber 7 s args tb RX13) (hr : meth.sig.returnType = (some .boolean)) (hk : meth.locks = false) {S' : St} {r : Int32} {k57 : St → Int32 → Int32 → Int64 → Option (St × Int32)} (kk57 : ∀ (S : St) (x2 : Int32) (x3 : Int32) (x4 : Int64) (H : Heap) (locs : List Loc) (ls : Array Slot), Wn Ym D T ρ S A s H locs → lv_has ls 7 [(0, .ref (ρ 0)), (2, .int x2), (3, .int x3), (4, .long x4)] → k57 S x2 x3 x4 = some (S', r) → W p l e (rmN 0 0) s m args below meth c H locs 0 0 (MQ below (Qi Ym D T ρ A S' r) args s 0 0 A) (F0 m 57 ls [])) (w : Wn Ym D T ρ S A s H locs) (hl : lv_has ls 7 [(0, .ref (ρ 0)), (2, .int x2), (3, .int x3), (4, .long x4), (6, .int x6)]) (h : m_isNumber_115 g k57 S x2 x3 x4 x6 = some (S', r)) : W p l e (rmN 0 0) s m args below meth c H locs 0 0 (MQ below (Qi Ym D T ρ A S' r) args s 0 0 A) (F0 m 115 ls []) := by
  unfold m_isNumber_115 at h
  refine lv_ldc2 C.1 C.2.1 C.2.2.2.1 (C.2.2.2.2 _ nM324) dX13_isNumber_115 ?_
  refine lv_lload C.1 C.2.1 dX13_isNumber_118 (lv_at hl 3 rfl) ?_
  refine lv_lmul C.1 C.2.1 dX13_isNumber_120 ?_
  refine lv_iload C.1 C.2.1 dX13_isNumber_121 (lv_at hl 4 rfl) ?_
  refine lv_i2l C.1 C.2.1 dX13_isNumber_123 rfl ?_
  refine lv_lsub C.1 C.2.1 dX13_isNumber_124 ?_
  obtain ⟨x4_3, ex4_3, h⟩ := lt_e h
  refine x_nmL ex4_3 ?_
  refine lv_lstore (lv' := [(4, .long x4_3), (0, .ref (ρ 0)), (2, .int x2), (3, .int x3), (6, .int x6)]) C.1 C.2.1 dX13_isNumber_125 hl (by decide) rfl (fun ls hl => ?_)
  obtain ⟨x3_4, ex3_4, h⟩ := lt_e h
  refine lv_iinc (v := x3_4) (lv' := [(3, .int x3_4), (4, .long x4_3), (0, .ref (ρ 0)), (2, .int x2), (6, .int x6)]) C.1 C.2.1 dX13_isNumber_127 hl (k := 3) rfl (by rw [ex3_4]; rfl) (by decide) rfl (fun ls hl => ?_)
  refine lv_goto (tgt := 57) C.1 C.2.1 dX13_isNumber_130 (by decide) ?_
  exact kk57 _ _ _ _ _ _ _ w (lv_sub hl [2, 3, 0, 1] rfl) h
set_option maxRecDepth 100000 in
set_option maxHeartbeats 4000000 in
theorem wb_isNumber_57  {g : Nat} {S : St} {x2 : Int32} {x3 : Int32} {x4 : Int64} (C : CallFix p m c cX13_isNumber 7 s args tb RX13) (hr : meth.sig.returnType = (some .boolean)) (hk : meth.locks = false) {S' : St} {r : Int32} {k57 : St → Int32 → Int32 → Int64 → Option (St × Int32)} (kk57 : ∀ (S : St) (x2 : Int32) (x3 : Int32) (x4 : Int64) (H : Heap) (locs : List Loc) (ls : Array Slot), Wn Ym D T ρ S A s H locs → lv_has ls 7 [(0, .ref (ρ 0)), (2, .int x2), (3, .int x3), (4, .long x4)] → k57 S x2 x3 x4 = some (S', r) → W p l e (rmN 0 0) s m args below meth c H locs 0 0 (MQ below (Qi Ym D T ρ A S' r) args s 0 0 A) (F0 m 57 ls [])) (w : Wn Ym D T ρ S A s H locs) (hl : lv_has ls 7 [(0, .ref (ρ 0)), (2, .int x2), (3, .int x3), (4, .long x4)]) (h : b_isNumber_57 g k57 S x2 x3 x4 = some (S', r)) : W p l e (rmN 0 0) s m args below meth c H locs 0 0 (MQ below (Qi Ym D T ρ A S' r) args s 0 0 A) (F0 m 57 ls []) := by
  unfold b_isNumber_57 at h
  refine lv_iload_n C.1 C.2.1 dX13_isNumber_57 rfl (lv_at hl 2 rfl) ?_
  refine lv_aload_n C.1 C.2.1 dX13_isNumber_58 rfl (lv_at hl 0 rfl) ?_
  refine x_getI C w fM275 obM dX13_isNumber_59 ?_
  refine lv_icmp_ge (tgt := 133) C.1 C.2.1 dX13_isNumber_62 (by decide) (fun hc => ?_) (fun hc => ?_)
  · replace h := ift hc h
    refine lv_iload_n C.1 C.2.1 dX13_isNumber_133 rfl (lv_at hl 1 rfl) ?_
    refine lv_if_ne (tgt := 148) C.1 C.2.1 dX13_isNumber_134 (by decide) (fun hc => ?_) (fun hc => ?_)
    · replace h := iff0 hc h
      exact w_isNumber_148 C hr hk w (lv_sub hl [0, 1, 3] rfl) h
    · replace h := ift hc h
      refine lv_lload C.1 C.2.1 dX13_isNumber_137 (lv_at hl 3 rfl) ?_
      refine lv_ldc2 C.1 C.2.1 C.2.2.2.1 (C.2.2.2.2 _ nM326) dX13_isNumber_139 ?_
      refine x_l_ne (tgt := 148) C dX13_isNumber_142 dX13_isNumber_143 (by decide) (fun hc => ?_) (fun hc => ?_)
      · replace h := iff0 hc h
        exact w_isNumber_148 C hr hk w (lv_sub hl [0, 1, 3] rfl) h
      · replace h := ift hc h
        refine lv_iconst (v := 0) C.1 C.2.1 dX13_isNumber_146 (by decide) ?_
        obtain ⟨rfl, rfl⟩ := prI h
        exact x_zret C w hr hk (by decide) dX13_isNumber_147
  · replace h := iff0 hc h
    refine lv_aload_n C.1 C.2.1 dX13_isNumber_65 rfl (lv_at hl 0 rfl) ?_
    refine x_getC C w 5 fM135 obM rfl dX13_isNumber_66 ?_
    refine lv_iload_n C.1 C.2.1 dX13_isNumber_69 rfl (lv_at hl 2 rfl) ?_
    obtain ⟨v_1, hv_1, h⟩ := bnd h
    refine x_iald C w obM5 hv_1 dX13_isNumber_70 ?_
    refine lv_bipush (v := 48) C.1 C.2.1 dX13_isNumber_71 (by decide) ?_
    refine lv_isub C.1 C.2.1 dX13_isNumber_73 ?_
    obtain ⟨x6_2, ex6_2, h⟩ := lt_e h
    refine x_nm ex6_2 ?_
    refine lv_istore (lv' := [(6, .int x6_2), (0, .ref (ρ 0)), (2, .int x2), (3, .int x3), (4, .long x4)]) C.1 C.2.1 dX13_isNumber_74 hl (by decide) rfl (fun ls hl => ?_)
    refine lv_iload C.1 C.2.1 dX13_isNumber_76 (lv_at hl 0 rfl) ?_
    refine lv_if_lt (tgt := 113) C.1 C.2.1 dX13_isNumber_78 (by decide) (fun hc => ?_) (fun hc => ?_)
    · replace h := ift hc h
      refine lv_iconst (v := 0) C.1 C.2.1 dX13_isNumber_113 (by decide) ?_
      obtain ⟨rfl, rfl⟩ := prI h
      exact x_zret C w hr hk (by decide) dX13_isNumber_114
    · replace h := iff0 hc h
      refine lv_iload C.1 C.2.1 dX13_isNumber_81 (lv_at hl 0 rfl) ?_
      refine lv_bipush (v := 9) C.1 C.2.1 dX13_isNumber_83 (by decide) ?_
      refine lv_icmp_gt (tgt := 113) C.1 C.2.1 dX13_isNumber_85 (by decide) (fun hc => ?_) (fun hc => ?_)
      · replace h := ift hc h
        refine lv_iconst (v := 0) C.1 C.2.1 dX13_isNumber_113 (by decide) ?_
        obtain ⟨rfl, rfl⟩ := prI h
        exact x_zret C w hr hk (by decide) dX13_isNumber_114
      · replace h := iff0 hc h
        refine lv_lload C.1 C.2.1 dX13_isNumber_88 (lv_at hl 4 rfl) ?_
        refine lv_ldc2 C.1 C.2.1 C.2.2.2.1 (C.2.2.2.2 _ nM322) dX13_isNumber_90 ?_
        refine x_l_lt (tgt := 113) C dX13_isNumber_93 dX13_isNumber_94 (by decide) (fun hc => ?_) (fun hc => ?_)
        · replace h := ift hc h
          refine lv_iconst (v := 0) C.1 C.2.1 dX13_isNumber_113 (by decide) ?_
          obtain ⟨rfl, rfl⟩ := prI h
          exact x_zret C w hr hk (by decide) dX13_isNumber_114
        · replace h := iff0 hc h
          refine lv_lload C.1 C.2.1 dX13_isNumber_97 (lv_at hl 4 rfl) ?_
          refine lv_ldc2 C.1 C.2.1 C.2.2.2.1 (C.2.2.2.2 _ nM322) dX13_isNumber_99 ?_
          refine x_l_ne (tgt := 115) C dX13_isNumber_102 dX13_isNumber_103 (by decide) (fun hc => ?_) (fun hc => ?_)
          · replace h := iff0 hc h
            exact w_isNumber_115 C hr hk kk57 w (lv_sub hl [1, 2, 3, 4, 0] rfl) h
          · replace h := ift hc h
            refine lv_iload C.1 C.2.1 dX13_isNumber_106 (lv_at hl 0 rfl) ?_
            refine lv_bipush (v := 8) C.1 C.2.1 dX13_isNumber_108 (by decide) ?_
            refine lv_icmp_le (tgt := 115) C.1 C.2.1 dX13_isNumber_110 (by decide) (fun hc => ?_) (fun hc => ?_)
            · replace h := ift hc h
              exact w_isNumber_115 C hr hk kk57 w (lv_sub hl [1, 2, 3, 4, 0] rfl) h
            · replace h := iff0 hc h
              refine lv_iconst (v := 0) C.1 C.2.1 dX13_isNumber_113 (by decide) ?_
              obtain ⟨rfl, rfl⟩ := prI h
              exact x_zret C w hr hk (by decide) dX13_isNumber_114
theorem w_isNumber_57 {g : Nat} (C : CallFix p m c cX13_isNumber 7 s args tb RX13) (hr : meth.sig.returnType = (some .boolean)) (hk : meth.locks = false) {S' : St} {r : Int32} (n : Nat) : ∀ (S : St) (x2 : Int32) (x3 : Int32) (x4 : Int64) (H : Heap) (locs : List Loc) (ls : Array Slot), Wn Ym D T ρ S A s H locs → lv_has ls 7 [(0, .ref (ρ 0)), (2, .int x2), (3, .int x3), (4, .long x4)] → m_isNumber_57 g n S x2 x3 x4 = some (S', r) → W p l e (rmN 0 0) s m args below meth c H locs 0 0 (MQ below (Qi Ym D T ρ A S' r) args s 0 0 A) (F0 m 57 ls []) := by
  induction n with
  | zero => intro S x2 x3 x4 H locs ls w hl h; exact absurd h (fun q => by cases q)
  | succ n ih => intro S x2 x3 x4 H locs ls w hl h; exact wb_isNumber_57 C hr hk ih w hl h
set_option maxRecDepth 100000 in
set_option maxHeartbeats 4000000 in
theorem w_isNumber_36  {g : Nat} {S : St} {x2 : Int32} {y0 : Int32} (C : CallFix p m c cX13_isNumber 7 s args tb RX13) (hr : meth.sig.returnType = (some .boolean)) (hk : meth.locks = false) {S' : St} {r : Int32} (w : Wn Ym D T ρ S A s H locs) (hl : lv_has ls 7 [(0, .ref (ρ 0)), (2, .int x2)]) (h : m_isNumber_36 g S x2 y0 = some (S', r)) : W p l e (rmN 0 0) s m args below meth c H locs 0 0 (MQ below (Qi Ym D T ρ A S' r) args s 0 0 A) (F0 m 36 ls [.int y0]) := by
  unfold m_isNumber_36 at h
  refine lv_istore_n (lv' := [(3, .int y0), (0, .ref (ρ 0)), (2, .int x2)]) C.1 C.2.1 dX13_isNumber_36 rfl hl (by decide) rfl (fun ls hl => ?_)
  refine lv_aload_n C.1 C.2.1 dX13_isNumber_37 rfl (lv_at hl 1 rfl) ?_
  refine x_getI C w fM265 obM dX13_isNumber_38 ?_
  refine lv_if_ne (tgt := 52) C.1 C.2.1 dX13_isNumber_41 (by decide) (fun hc => ?_) (fun hc => ?_)
  · replace h := iff0 hc h
    refine lv_iconst (v := 0) C.1 C.2.1 dX13_isNumber_52 (by decide) ?_
    obtain ⟨rfl, rfl⟩ := prI h
    exact x_zret C w hr hk (by decide) dX13_isNumber_53
  · replace h := ift hc h
    refine lv_iload_n C.1 C.2.1 dX13_isNumber_44 rfl (lv_at hl 0 rfl) ?_
    refine lv_aload_n C.1 C.2.1 dX13_isNumber_45 rfl (lv_at hl 1 rfl) ?_
    refine x_getI C w fM275 obM dX13_isNumber_46 ?_
    refine lv_icmp_lt (tgt := 54) C.1 C.2.1 dX13_isNumber_49 (by decide) (fun hc => ?_) (fun hc => ?_)
    · replace h := ift hc h
      refine lv_lconst (v := 0) C.1 C.2.1 dX13_isNumber_54 (by decide) ?_
      refine lv_lstore (lv' := [(4, .long (0 : Int64)), (3, .int y0), (0, .ref (ρ 0)), (2, .int x2)]) C.1 C.2.1 dX13_isNumber_55 hl (by decide) rfl (fun ls hl => ?_)
      exact w_isNumber_57 C hr hk g _ _ _ _ _ _ _ w (lv_sub hl [2, 3, 1, 0] rfl) h
    · replace h := iff0 hc h
      refine lv_iconst (v := 0) C.1 C.2.1 dX13_isNumber_52 (by decide) ?_
      obtain ⟨rfl, rfl⟩ := prI h
      exact x_zret C w hr hk (by decide) dX13_isNumber_53
set_option maxRecDepth 100000 in
set_option maxHeartbeats 4000000 in
theorem w_isNumber_24  {g : Nat} {S : St} {x1 : Int32} {y0 : Int32} (C : CallFix p m c cX13_isNumber 7 s args tb RX13) (hr : meth.sig.returnType = (some .boolean)) (hk : meth.locks = false) {S' : St} {r : Int32} (w : Wn Ym D T ρ S A s H locs) (hl : lv_has ls 7 [(0, .ref (ρ 0)), (1, .int x1)]) (h : m_isNumber_24 g S x1 y0 = some (S', r)) : W p l e (rmN 0 0) s m args below meth c H locs 0 0 (MQ below (Qi Ym D T ρ A S' r) args s 0 0 A) (F0 m 24 ls [.int y0]) := by
  unfold m_isNumber_24 at h
  refine lv_istore_n (lv' := [(2, .int y0), (0, .ref (ρ 0)), (1, .int x1)]) C.1 C.2.1 dX13_isNumber_24 rfl hl (by decide) rfl (fun ls hl => ?_)
  refine lv_iload_n C.1 C.2.1 dX13_isNumber_25 rfl (lv_at hl 0 rfl) ?_
  refine lv_if_eq (tgt := 35) C.1 C.2.1 dX13_isNumber_26 (by decide) (fun hc => ?_) (fun hc => ?_)
  · replace h := ift hc h
    refine lv_iload_n C.1 C.2.1 dX13_isNumber_35 rfl (lv_at hl 2 rfl) ?_
    exact w_isNumber_36 C hr hk w (lv_sub hl [1, 0] rfl) h
  · replace h := iff0 hc h
    refine lv_iload_n C.1 C.2.1 dX13_isNumber_29 rfl (lv_at hl 2 rfl) ?_
    refine lv_iconst (v := 1) C.1 C.2.1 dX13_isNumber_30 (by decide) ?_
    refine lv_iadd C.1 C.2.1 dX13_isNumber_31 ?_
    refine lv_goto (tgt := 36) C.1 C.2.1 dX13_isNumber_32 (by decide) ?_
    exact w_isNumber_36 C hr hk w (lv_sub hl [1, 0] rfl) h
set_option maxRecDepth 100000 in
set_option maxHeartbeats 4000000 in
theorem w_isNumber_23  {g : Nat} {S : St} {x1 : Int32} (C : CallFix p m c cX13_isNumber 7 s args tb RX13) (hr : meth.sig.returnType = (some .boolean)) (hk : meth.locks = false) {S' : St} {r : Int32} (w : Wn Ym D T ρ S A s H locs) (hl : lv_has ls 7 [(0, .ref (ρ 0)), (1, .int x1)]) (h : m_isNumber_23 g S x1 = some (S', r)) : W p l e (rmN 0 0) s m args below meth c H locs 0 0 (MQ below (Qi Ym D T ρ A S' r) args s 0 0 A) (F0 m 23 ls []) := by
  unfold m_isNumber_23 at h
  refine lv_iconst (v := 0) C.1 C.2.1 dX13_isNumber_23 (by decide) ?_
  exact w_isNumber_24 C hr hk w (lv_sub hl [0, 1] rfl) h
set_option maxRecDepth 100000 in
set_option maxHeartbeats 4000000 in
theorem w_isNumber_0  {g : Nat} {S : St} {x1 : Int32} (C : CallFix p m c cX13_isNumber 7 s args tb RX13) (hr : meth.sig.returnType = (some .boolean)) (hk : meth.locks = false) {S' : St} {r : Int32} (w : Wn Ym D T ρ S A s H locs) (hl : lv_has ls 7 [(0, .ref (ρ 0)), (1, .int x1)]) (h : m_isNumber g S x1 = some (S', r)) : W p l e (rmN 0 0) s m args below meth c H locs 0 0 (MQ below (Qi Ym D T ρ A S' r) args s 0 0 A) (F0 m 0 ls []) := by
  unfold m_isNumber at h
  refine lv_iload_n C.1 C.2.1 dX13_isNumber_0 rfl (lv_at hl 1 rfl) ?_
  refine lv_aload_n C.1 C.2.1 dX13_isNumber_1 rfl (lv_at hl 0 rfl) ?_
  refine x_getI C w fM275 obM dX13_isNumber_2 ?_
  refine lv_icmp_ge (tgt := 23) C.1 C.2.1 dX13_isNumber_5 (by decide) (fun hc => ?_) (fun hc => ?_)
  · replace h := ift hc h
    exact w_isNumber_23 C hr hk w (lv_sub hl [0, 1] rfl) h
  · replace h := iff0 hc h
    refine lv_aload_n C.1 C.2.1 dX13_isNumber_8 rfl (lv_at hl 0 rfl) ?_
    refine x_getC C w 5 fM135 obM rfl dX13_isNumber_9 ?_
    refine lv_iload_n C.1 C.2.1 dX13_isNumber_12 rfl (lv_at hl 1 rfl) ?_
    obtain ⟨v_1, hv_1, h⟩ := bnd h
    refine x_iald C w obM5 hv_1 dX13_isNumber_13 ?_
    refine lv_bipush (v := 45) C.1 C.2.1 dX13_isNumber_14 (by decide) ?_
    refine lv_icmp_ne (tgt := 23) C.1 C.2.1 dX13_isNumber_16 (by decide) (fun hc => ?_) (fun hc => ?_)
    · replace h := iff0 hc h
      exact w_isNumber_23 C hr hk w (lv_sub hl [0, 1] rfl) h
    · replace h := ift hc h
      refine lv_iconst (v := 1) C.1 C.2.1 dX13_isNumber_19 (by decide) ?_
      refine lv_goto (tgt := 24) C.1 C.2.1 dX13_isNumber_20 (by decide) ?_
      exact w_isNumber_24 C hr hk w (lv_sub hl [0, 1] rfl) h
end S_isNumber
set_option maxRecDepth 100000 in
theorem k_isNumber (l : Launch) (D : va_G) (T : Cy) (ρ : Nat → Nat) (g sz : Nat) (S : St) {x1 : Int32} {S' : St} {r : Int32} (h : m_isNumber g S x1 = some (S', r)) : Mi l Ym D T ρ yX13_isNumber cX13_isNumber 7 (some .boolean) 0 0 S S' r [.ref (ρ 0), .int x1] sz :=
  x_in (by decide) (Nat.le_of_ble_eq_true rfl) (fun p e s m below meth c ls C hr hk w hl => w_isNumber_0 C hr hk w hl h)
