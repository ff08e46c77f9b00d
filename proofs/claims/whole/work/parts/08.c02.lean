theorem dX3_isEvenCapital_0 : decode cX3_isEvenCapital 0 = .ok (.iload_n 0, 1) := by decide +kernel
theorem dX3_isEvenCapital_1 : decode cX3_isEvenCapital 1 = .ok (.iconst 2, 1) := by decide +kernel
theorem dX3_isEvenCapital_2 : decode cX3_isEvenCapital 2 = .ok (.irem, 1) := by decide +kernel
theorem dX3_isEvenCapital_3 : decode cX3_isEvenCapital 3 = .ok (.ifCond .ne 49, 3) := by decide +kernel
theorem dX3_isEvenCapital_6 : decode cX3_isEvenCapital 6 = .ok (.iload_n 0, 1) := by decide +kernel
theorem dX3_isEvenCapital_7 : decode cX3_isEvenCapital 7 = .ok (.sipush 256, 3) := by decide +kernel
theorem dX3_isEvenCapital_10 : decode cX3_isEvenCapital 10 = .ok (.if_icmp .lt 10, 3) := by decide +kernel
theorem dX3_isEvenCapital_13 : decode cX3_isEvenCapital 13 = .ok (.iload_n 0, 1) := by decide +kernel
theorem dX3_isEvenCapital_14 : decode cX3_isEvenCapital 14 = .ok (.sipush 302, 3) := by decide +kernel
theorem dX3_isEvenCapital_17 : decode cX3_isEvenCapital 17 = .ok (.if_icmp .le 31, 3) := by decide +kernel
theorem dX3_isEvenCapital_20 : decode cX3_isEvenCapital 20 = .ok (.iload_n 0, 1) := by decide +kernel
theorem dX3_isEvenCapital_21 : decode cX3_isEvenCapital 21 = .ok (.sipush 306, 3) := by decide +kernel
theorem dX3_isEvenCapital_24 : decode cX3_isEvenCapital 24 = .ok (.if_icmp .lt 10, 3) := by decide +kernel
theorem dX3_isEvenCapital_27 : decode cX3_isEvenCapital 27 = .ok (.iload_n 0, 1) := by decide +kernel
theorem dX3_isEvenCapital_28 : decode cX3_isEvenCapital 28 = .ok (.sipush 310, 3) := by decide +kernel
theorem dX3_isEvenCapital_31 : decode cX3_isEvenCapital 31 = .ok (.if_icmp .le 17, 3) := by decide +kernel
theorem dX3_isEvenCapital_34 : decode cX3_isEvenCapital 34 = .ok (.iload_n 0, 1) := by decide +kernel
theorem dX3_isEvenCapital_35 : decode cX3_isEvenCapital 35 = .ok (.sipush 330, 3) := by decide +kernel
theorem dX3_isEvenCapital_38 : decode cX3_isEvenCapital 38 = .ok (.if_icmp .lt 14, 3) := by decide +kernel
theorem dX3_isEvenCapital_41 : decode cX3_isEvenCapital 41 = .ok (.iload_n 0, 1) := by decide +kernel
theorem dX3_isEvenCapital_42 : decode cX3_isEvenCapital 42 = .ok (.sipush 374, 3) := by decide +kernel
theorem dX3_isEvenCapital_45 : decode cX3_isEvenCapital 45 = .ok (.if_icmp .gt 7, 3) := by decide +kernel
theorem dX3_isEvenCapital_48 : decode cX3_isEvenCapital 48 = .ok (.iconst 1, 1) := by decide +kernel
theorem dX3_isEvenCapital_49 : decode cX3_isEvenCapital 49 = .ok (.goto 4, 3) := by decide +kernel
theorem dX3_isEvenCapital_52 : decode cX3_isEvenCapital 52 = .ok (.iconst 0, 1) := by decide +kernel
theorem dX3_isEvenCapital_53 : decode cX3_isEvenCapital 53 = .ok (.ireturn, 1) := by decide +kernel
def m_Lt_isEvenCapital_34 (g : Nat) (x0 : Int32) : Option Int32 :=
if x0 < (330 : Int32) then (
  some (0 : Int32)
) else (
  if (374 : Int32) < x0 then (
    some (0 : Int32)
  ) else (
    some (1 : Int32)
  )
)
def m_Lt_isEvenCapital_20 (g : Nat) (x0 : Int32) : Option Int32 :=
if x0 < (306 : Int32) then (
  m_Lt_isEvenCapital_34 g x0
) else (
  if x0 ≤ (310 : Int32) then (
    some (1 : Int32)
  ) else (
    m_Lt_isEvenCapital_34 g x0
  )
)
def m_Lt_isEvenCapital (g : Nat) (x0 : Int32) : Option Int32 :=
if (x0 - x0 / (2 : Int32) * (2 : Int32)) = 0 then (
  if x0 < (256 : Int32) then (
    m_Lt_isEvenCapital_20 g x0
  ) else (
    if x0 ≤ (302 : Int32) then (
      some (1 : Int32)
    ) else (
      m_Lt_isEvenCapital_20 g x0
    )
  )
) else (
  some (0 : Int32)
)
section S_Lt_isEvenCapital
variable {p : Program} {l : Launch} {e : Env} {s : State} {m : MethodId} {args : Array Value} {below : List Frame} {meth : Method} {c : Code} {H : Heap} {locs : List Loc} {ls : Array Slot} {D : va_G} {T : Cy} {ρ : Nat → Nat} {A : Nat → Prop}
set_option maxRecDepth 100000 in
set_option maxHeartbeats 4000000 in
theorem w_Lt_isEvenCapital_34  {g : Nat} {S : St} {x0 : Int32} (C : CallFix p m c cX3_isEvenCapital 1 s args tb RX3) (hr : meth.sig.returnType = (some .boolean)) (hk : meth.locks = false) {r : Int32} (w : Wn Yc D T ρ S A s H locs) (hl : lv_has ls 1 [(0, .int x0)]) (h : m_Lt_isEvenCapital_34 g x0 = some r) : W p l e (rmN 0 0) s m args below meth c H locs 0 0 (MQ below (Qi Yc D T ρ A S r) args s 0 0 A) (F0 m 34 ls []) := by
  unfold m_Lt_isEvenCapital_34 at h
  refine lv_iload_n C.1 C.2.1 dX3_isEvenCapital_34 rfl (lv_at hl 0 rfl) ?_
  refine lv_sipush (v := 330) C.1 C.2.1 dX3_isEvenCapital_35 (by decide) ?_
  refine lv_icmp_lt (tgt := 52) C.1 C.2.1 dX3_isEvenCapital_38 (by decide) (fun hc => ?_) (fun hc => ?_)
  · replace h := ift hc h
    refine lv_iconst (v := 0) C.1 C.2.1 dX3_isEvenCapital_52 (by decide) ?_
    obtain rfl := som h
    exact x_zret C w hr hk (by decide) dX3_isEvenCapital_53
  · replace h := iff0 hc h
    refine lv_iload_n C.1 C.2.1 dX3_isEvenCapital_41 rfl (lv_at hl 0 rfl) ?_
    refine lv_sipush (v := 374) C.1 C.2.1 dX3_isEvenCapital_42 (by decide) ?_
    refine lv_icmp_gt (tgt := 52) C.1 C.2.1 dX3_isEvenCapital_45 (by decide) (fun hc => ?_) (fun hc => ?_)
    · replace h := ift hc h
      refine lv_iconst (v := 0) C.1 C.2.1 dX3_isEvenCapital_52 (by decide) ?_
      obtain rfl := som h
      exact x_zret C w hr hk (by decide) dX3_isEvenCapital_53
    · replace h := iff0 hc h
      refine lv_iconst (v := 1) C.1 C.2.1 dX3_isEvenCapital_48 (by decide) ?_
      refine lv_goto (tgt := 53) C.1 C.2.1 dX3_isEvenCapital_49 (by decide) ?_
      obtain rfl := som h
      exact x_zret C w hr hk (by decide) dX3_isEvenCapital_53
set_option maxRecDepth 100000 in
set_option maxHeartbeats 4000000 in
theorem w_Lt_isEvenCapital_20  {g : Nat} {S : St} {x0 : Int32} (C : CallFix p m c cX3_isEvenCapital 1 s args tb RX3) (hr : meth.sig.returnType = (some .boolean)) (hk : meth.locks = false) {r : Int32} (w : Wn Yc D T ρ S A s H locs) (hl : lv_has ls 1 [(0, .int x0)]) (h : m_Lt_isEvenCapital_20 g x0 = some r) : W p l e (rmN 0 0) s m args below meth c H locs 0 0 (MQ below (Qi Yc D T ρ A S r) args s 0 0 A) (F0 m 20 ls []) := by
  unfold m_Lt_isEvenCapital_20 at h
  refine lv_iload_n C.1 C.2.1 dX3_isEvenCapital_20 rfl (lv_at hl 0 rfl) ?_
  refine lv_sipush (v := 306) C.1 C.2.1 dX3_isEvenCapital_21 (by decide) ?_
  refine lv_icmp_lt (tgt := 34) C.1 C.2.1 dX3_isEvenCapital_24 (by decide) (fun hc => ?_) (fun hc => ?_)
  · replace h := ift hc h
    exact w_Lt_isEvenCapital_34 C hr hk w (lv_sub hl [0] rfl) h
  · replace h := iff0 hc h
    refine lv_iload_n C.1 C.2.1 dX3_isEvenCapital_27 rfl (lv_at hl 0 rfl) ?_
    refine lv_sipush (v := 310) C.1 C.2.1 dX3_isEvenCapital_28 (by decide) ?_
    refine lv_icmp_le (tgt := 48) C.1 C.2.1 dX3_isEvenCapital_31 (by decide) (fun hc => ?_) (fun hc => ?_)
    · replace h := ift hc h
      refine lv_iconst (v := 1) C.1 C.2.1 dX3_isEvenCapital_48 (by decide) ?_
      refine lv_goto (tgt := 53) C.1 C.2.1 dX3_isEvenCapital_49 (by decide) ?_
      obtain rfl := som h
      exact x_zret C w hr hk (by decide) dX3_isEvenCapital_53
    · replace h := iff0 hc h
      exact w_Lt_isEvenCapital_34 C hr hk w (lv_sub hl [0] rfl) h
set_option maxRecDepth 100000 in
set_option maxHeartbeats 4000000 in
theorem w_Lt_isEvenCapital_0  {g : Nat} {S : St} {x0 : Int32} (C : CallFix p m c cX3_isEvenCapital 1 s args tb RX3) (hr : meth.sig.returnType = (some .boolean)) (hk : meth.locks = false) {r : Int32} (w : Wn Yc D T ρ S A s H locs) (hl : lv_has ls 1 [(0, .int x0)]) (h : m_Lt_isEvenCapital g x0 = some r) : W p l e (rmN 0 0) s m args below meth c H locs 0 0 (MQ below (Qi Yc D T ρ A S r) args s 0 0 A) (F0 m 0 ls []) := by
  unfold m_Lt_isEvenCapital at h
  refine lv_iload_n C.1 C.2.1 dX3_isEvenCapital_0 rfl (lv_at hl 0 rfl) ?_
  refine lv_iconst (v := 2) C.1 C.2.1 dX3_isEvenCapital_1 (by decide) ?_
  refine lv_irem C.1 C.2.1 dX3_isEvenCapital_2 (by decide) ?_
  refine lv_if_ne (tgt := 52) C.1 C.2.1 dX3_isEvenCapital_3 (by decide) (fun hc => ?_) (fun hc => ?_)
  · replace h := iff0 hc h
    refine lv_iconst (v := 0) C.1 C.2.1 dX3_isEvenCapital_52 (by decide) ?_
    obtain rfl := som h
    exact x_zret C w hr hk (by decide) dX3_isEvenCapital_53
  · replace h := ift hc h
    refine lv_iload_n C.1 C.2.1 dX3_isEvenCapital_6 rfl (lv_at hl 0 rfl) ?_
    refine lv_sipush (v := 256) C.1 C.2.1 dX3_isEvenCapital_7 (by decide) ?_
    refine lv_icmp_lt (tgt := 20) C.1 C.2.1 dX3_isEvenCapital_10 (by decide) (fun hc => ?_) (fun hc => ?_)
    · replace h := ift hc h
      exact w_Lt_isEvenCapital_20 C hr hk w (lv_sub hl [0] rfl) h
    · replace h := iff0 hc h
      refine lv_iload_n C.1 C.2.1 dX3_isEvenCapital_13 rfl (lv_at hl 0 rfl) ?_
      refine lv_sipush (v := 302) C.1 C.2.1 dX3_isEvenCapital_14 (by decide) ?_
      refine lv_icmp_le (tgt := 48) C.1 C.2.1 dX3_isEvenCapital_17 (by decide) (fun hc => ?_) (fun hc => ?_)
      · replace h := ift hc h
        refine lv_iconst (v := 1) C.1 C.2.1 dX3_isEvenCapital_48 (by decide) ?_
        refine lv_goto (tgt := 53) C.1 C.2.1 dX3_isEvenCapital_49 (by decide) ?_
        obtain rfl := som h
        exact x_zret C w hr hk (by decide) dX3_isEvenCapital_53
      · replace h := iff0 hc h
        exact w_Lt_isEvenCapital_20 C hr hk w (lv_sub hl [0] rfl) h
end S_Lt_isEvenCapital
set_option maxRecDepth 100000 in
theorem k_Lt_isEvenCapital (l : Launch) (D : va_G) (T : Cy) (ρ : Nat → Nat) (g sz : Nat) (S : St) {x0 : Int32} {r : Int32} (h : m_Lt_isEvenCapital g x0 = some r) : Mi l Yc D T ρ yX3_isEvenCapital cX3_isEvenCapital 1 (some .boolean) 0 0 S S r [.int x0] sz :=
  x_in (by decide) (Nat.le_of_ble_eq_true rfl) (fun p e s m below meth c ls C hr hk w hl => w_Lt_isEvenCapital_0 C hr hk w hl h)

theorem dX3_isOddCapital_0 : decode cX3_isOddCapital 0 = .ok (.iload_n 0, 1) := by decide +kernel
theorem dX3_isOddCapital_1 : decode cX3_isOddCapital 1 = .ok (.iconst 2, 1) := by decide +kernel
theorem dX3_isOddCapital_2 : decode cX3_isOddCapital 2 = .ok (.irem, 1) := by decide +kernel
theorem dX3_isOddCapital_3 : decode cX3_isOddCapital 3 = .ok (.iconst 1, 1) := by decide +kernel
theorem dX3_isOddCapital_4 : decode cX3_isOddCapital 4 = .ok (.if_icmp .ne 35, 3) := by decide +kernel
theorem dX3_isOddCapital_7 : decode cX3_isOddCapital 7 = .ok (.iload_n 0, 1) := by decide +kernel
theorem dX3_isOddCapital_8 : decode cX3_isOddCapital 8 = .ok (.sipush 313, 3) := by decide +kernel
theorem dX3_isOddCapital_11 : decode cX3_isOddCapital 11 = .ok (.if_icmp .lt 10, 3) := by decide +kernel
theorem dX3_isOddCapital_14 : decode cX3_isOddCapital 14 = .ok (.iload_n 0, 1) := by decide +kernel
theorem dX3_isOddCapital_15 : decode cX3_isOddCapital 15 = .ok (.sipush 327, 3) := by decide +kernel
theorem dX3_isOddCapital_18 : decode cX3_isOddCapital 18 = .ok (.if_icmp .le 17, 3) := by decide +kernel
theorem dX3_isOddCapital_21 : decode cX3_isOddCapital 21 = .ok (.iload_n 0, 1) := by decide +kernel
theorem dX3_isOddCapital_22 : decode cX3_isOddCapital 22 = .ok (.sipush 377, 3) := by decide +kernel
theorem dX3_isOddCapital_25 : decode cX3_isOddCapital 25 = .ok (.if_icmp .lt 14, 3) := by decide +kernel
theorem dX3_isOddCapital_28 : decode cX3_isOddCapital 28 = .ok (.iload_n 0, 1) := by decide +kernel
theorem dX3_isOddCapital_29 : decode cX3_isOddCapital 29 = .ok (.sipush 381, 3) := by decide +kernel
theorem dX3_isOddCapital_32 : decode cX3_isOddCapital 32 = .ok (.if_icmp .gt 7, 3) := by decide +kernel
theorem dX3_isOddCapital_35 : decode cX3_isOddCapital 35 = .ok (.iconst 1, 1) := by decide +kernel
theorem dX3_isOddCapital_36 : decode cX3_isOddCapital 36 = .ok (.goto 4, 3) := by decide +kernel
theorem dX3_isOddCapital_39 : decode cX3_isOddCapital 39 = .ok (.iconst 0, 1) := by decide +kernel
theorem dX3_isOddCapital_40 : decode cX3_isOddCapital 40 = .ok (.ireturn, 1) := by decide +kernel
def m_Lt_isOddCapital_21 (g : Nat) (x0 : Int32) : Option Int32 :=
if x0 < (377 : Int32) then (
  some (0 : Int32)
) else (
  if (381 : Int32) < x0 then (
    some (0 : Int32)
  ) else (
    some (1 : Int32)
  )
)
def m_Lt_isOddCapital (g : Nat) (x0 : Int32) : Option Int32 :=
if (x0 - x0 / (2 : Int32) * (2 : Int32)) = (1 : Int32) then (
  if x0 < (313 : Int32) then (
    m_Lt_isOddCapital_21 g x0
  ) else (
    if x0 ≤ (327 : Int32) then (
      some (1 : Int32)
    ) else (
      m_Lt_isOddCapital_21 g x0
    )
  )
) else (
  some (0 : Int32)
)
section S_Lt_isOddCapital
variable {p : Program} {l : Launch} {e : Env} {s : State} {m : MethodId} {args : Array Value} {below : List Frame} {meth : Method} {c : Code} {H : Heap} {locs : List Loc} {ls : Array Slot} {D : va_G} {T : Cy} {ρ : Nat → Nat} {A : Nat → Prop}
set_option maxRecDepth 100000 in
set_option maxHeartbeats 4000000 in
theorem w_Lt_isOddCapital_21  {g : Nat} {S : St} {x0 : Int32} (C : CallFix p m c cX3_isOddCapital 1 s args tb RX3) (hr : meth.sig.returnType = (some .boolean)) (hk : meth.locks = false) {r : Int32} (w : Wn Yc D T ρ S A s H locs) (hl : lv_has ls 1 [(0, .int x0)]) (h : m_Lt_isOddCapital_21 g x0 = some r) : W p l e (rmN 0 0) s m args below meth c H locs 0 0 (MQ below (Qi Yc D T ρ A S r) args s 0 0 A) (F0 m 21 ls []) := by
  unfold m_Lt_isOddCapital_21 at h
  refine lv_iload_n C.1 C.2.1 dX3_isOddCapital_21 rfl (lv_at hl 0 rfl) ?_
  refine lv_sipush (v := 377) C.1 C.2.1 dX3_isOddCapital_22 (by decide) ?_
  refine lv_icmp_lt (tgt := 39) C.1 C.2.1 dX3_isOddCapital_25 (by decide) (fun hc => ?_) (fun hc => ?_)
  · replace h := ift hc h
    refine lv_iconst (v := 0) C.1 C.2.1 dX3_isOddCapital_39 (by decide) ?_
    obtain rfl := som h
    exact x_zret C w hr hk (by decide) dX3_isOddCapital_40
  · replace h := iff0 hc h
    refine lv_iload_n C.1 C.2.1 dX3_isOddCapital_28 rfl (lv_at hl 0 rfl) ?_
    refine lv_sipush (v := 381) C.1 C.2.1 dX3_isOddCapital_29 (by decide) ?_
    refine lv_icmp_gt (tgt := 39) C.1 C.2.1 dX3_isOddCapital_32 (by decide) (fun hc => ?_) (fun hc => ?_)
    · replace h := ift hc h
      refine lv_iconst (v := 0) C.1 C.2.1 dX3_isOddCapital_39 (by decide) ?_
      obtain rfl := som h
      exact x_zret C w hr hk (by decide) dX3_isOddCapital_40
    · replace h := iff0 hc h
      refine lv_iconst (v := 1) C.1 C.2.1 dX3_isOddCapital_35 (by decide) ?_
      refine lv_goto (tgt := 40) C.1 C.2.1 dX3_isOddCapital_36 (by decide) ?_
      obtain rfl := som h
      exact x_zret C w hr hk (by decide) dX3_isOddCapital_40
set_option maxRecDepth 100000 in
set_option maxHeartbeats 4000000 in
theorem w_Lt_isOddCapital_0  {g : Nat} {S : St} {x0 : Int32} (C : CallFix p m c cX3_isOddCapital 1 s args tb RX3) (hr : meth.sig.returnType = (some .boolean)) (hk : meth.locks = false) {r : Int32} (w : Wn Yc D T ρ S A s H locs) (hl : lv_has ls 1 [(0, .int x0)]) (h : m_Lt_isOddCapital g x0 = some r) : W p l e (rmN 0 0) s m args below meth c H locs 0 0 (MQ below (Qi Yc D T ρ A S r) args s 0 0 A) (F0 m 0 ls []) := by
  unfold m_Lt_isOddCapital at h
  refine lv_iload_n C.1 C.2.1 dX3_isOddCapital_0 rfl (lv_at hl 0 rfl) ?_
  refine lv_iconst (v := 2) C.1 C.2.1 dX3_isOddCapital_1 (by decide) ?_
  refine lv_irem C.1 C.2.1 dX3_isOddCapital_2 (by decide) ?_
  refine lv_iconst (v := 1) C.1 C.2.1 dX3_isOddCapital_3 (by decide) ?_
  refine lv_icmp_ne (tgt := 39) C.1 C.2.1 dX3_isOddCapital_4 (by decide) (fun hc => ?_) (fun hc => ?_)
  · replace h := iff0 hc h
    refine lv_iconst (v := 0) C.1 C.2.1 dX3_isOddCapital_39 (by decide) ?_
    obtain rfl := som h
    exact x_zret C w hr hk (by decide) dX3_isOddCapital_40
  · replace h := ift hc h
    refine lv_iload_n C.1 C.2.1 dX3_isOddCapital_7 rfl (lv_at hl 0 rfl) ?_
    refine lv_sipush (v := 313) C.1 C.2.1 dX3_isOddCapital_8 (by decide) ?_
    refine lv_icmp_lt (tgt := 21) C.1 C.2.1 dX3_isOddCapital_11 (by decide) (fun hc => ?_) (fun hc => ?_)
    · replace h := ift hc h
      exact w_Lt_isOddCapital_21 C hr hk w (lv_sub hl [0] rfl) h
    · replace h := iff0 hc h
      refine lv_iload_n C.1 C.2.1 dX3_isOddCapital_14 rfl (lv_at hl 0 rfl) ?_
      refine lv_sipush (v := 327) C.1 C.2.1 dX3_isOddCapital_15 (by decide) ?_
      refine lv_icmp_le (tgt := 35) C.1 C.2.1 dX3_isOddCapital_18 (by decide) (fun hc => ?_) (fun hc => ?_)
      · replace h := ift hc h
        refine lv_iconst (v := 1) C.1 C.2.1 dX3_isOddCapital_35 (by decide) ?_
        refine lv_goto (tgt := 40) C.1 C.2.1 dX3_isOddCapital_36 (by decide) ?_
        obtain rfl := som h
        exact x_zret C w hr hk (by decide) dX3_isOddCapital_40
      · replace h := iff0 hc h
        exact w_Lt_isOddCapital_21 C hr hk w (lv_sub hl [0] rfl) h
end S_Lt_isOddCapital
set_option maxRecDepth 100000 in
theorem k_Lt_isOddCapital (l : Launch) (D : va_G) (T : Cy) (ρ : Nat → Nat) (g sz : Nat) (S : St) {x0 : Int32} {r : Int32} (h : m_Lt_isOddCapital g x0 = some r) : Mi l Yc D T ρ yX3_isOddCapital cX3_isOddCapital 1 (some .boolean) 0 0 S S r [.int x0] sz :=
  x_in (by decide) (Nat.le_of_ble_eq_true rfl) (fun p e s m below meth c ls C hr hk w hl => w_Lt_isOddCapital_0 C hr hk w hl h)

theorem dX3_lower_0 : decode cX3_lower 0 = .ok (.iload_n 0, 1) := by decide +kernel
theorem dX3_lower_1 : decode cX3_lower 1 = .ok (.bipush 65, 2) := by decide +kernel
theorem dX3_lower_3 : decode cX3_lower 3 = .ok (.if_icmp .lt 9, 3) := by decide +kernel
theorem dX3_lower_6 : decode cX3_lower 6 = .ok (.iload_n 0, 1) := by decide +kernel
theorem dX3_lower_7 : decode cX3_lower 7 = .ok (.bipush 90, 2) := by decide +kernel
theorem dX3_lower_9 : decode cX3_lower 9 = .ok (.if_icmp .le 24, 3) := by decide +kernel
theorem dX3_lower_12 : decode cX3_lower 12 = .ok (.iload_n 0, 1) := by decide +kernel
theorem dX3_lower_13 : decode cX3_lower 13 = .ok (.sipush 192, 3) := by decide +kernel
theorem dX3_lower_16 : decode cX3_lower 16 = .ok (.if_icmp .lt 22, 3) := by decide +kernel
theorem dX3_lower_19 : decode cX3_lower 19 = .ok (.iload_n 0, 1) := by decide +kernel
theorem dX3_lower_20 : decode cX3_lower 20 = .ok (.sipush 222, 3) := by decide +kernel
theorem dX3_lower_23 : decode cX3_lower 23 = .ok (.if_icmp .gt 15, 3) := by decide +kernel
theorem dX3_lower_26 : decode cX3_lower 26 = .ok (.iload_n 0, 1) := by decide +kernel
theorem dX3_lower_27 : decode cX3_lower 27 = .ok (.sipush 215, 3) := by decide +kernel
theorem dX3_lower_30 : decode cX3_lower 30 = .ok (.if_icmp .eq 8, 3) := by decide +kernel
theorem dX3_lower_33 : decode cX3_lower 33 = .ok (.iload_n 0, 1) := by decide +kernel
theorem dX3_lower_34 : decode cX3_lower 34 = .ok (.bipush 32, 2) := by decide +kernel
theorem dX3_lower_36 : decode cX3_lower 36 = .ok (.iadd, 1) := by decide +kernel
theorem dX3_lower_37 : decode cX3_lower 37 = .ok (.ireturn, 1) := by decide +kernel
theorem dX3_lower_38 : decode cX3_lower 38 = .ok (.iload_n 0, 1) := by decide +kernel
theorem dX3_lower_39 : decode cX3_lower 39 = .ok (.invokestatic 18, 3) := by decide +kernel
theorem dX3_lower_42 : decode cX3_lower 42 = .ok (.ifCond .ne 10, 3) := by decide +kernel
theorem dX3_lower_45 : decode cX3_lower 45 = .ok (.iload_n 0, 1) := by decide +kernel
theorem dX3_lower_46 : decode cX3_lower 46 = .ok (.invokestatic 24, 3) := by decide +kernel
theorem dX3_lower_49 : decode cX3_lower 49 = .ok (.ifCond .eq 7, 3) := by decide +kernel
theorem dX3_lower_52 : decode cX3_lower 52 = .ok (.iload_n 0, 1) := by decide +kernel
theorem dX3_lower_53 : decode cX3_lower 53 = .ok (.iconst 1, 1) := by decide +kernel
theorem dX3_lower_54 : decode cX3_lower 54 = .ok (.iadd, 1) := by decide +kernel
theorem dX3_lower_55 : decode cX3_lower 55 = .ok (.ireturn, 1) := by decide +kernel
theorem dX3_lower_56 : decode cX3_lower 56 = .ok (.iload_n 0, 1) := by decide +kernel
theorem dX3_lower_57 : decode cX3_lower 57 = .ok (.sipush 376, 3) := by decide +kernel
theorem dX3_lower_60 : decode cX3_lower 60 = .ok (.if_icmp .ne 7, 3) := by decide +kernel
theorem dX3_lower_63 : decode cX3_lower 63 = .ok (.sipush 255, 3) := by decide +kernel
theorem dX3_lower_66 : decode cX3_lower 66 = .ok (.ireturn, 1) := by decide +kernel
theorem dX3_lower_67 : decode cX3_lower 67 = .ok (.iload_n 0, 1) := by decide +kernel
theorem dX3_lower_68 : decode cX3_lower 68 = .ok (.sipush 304, 3) := by decide +kernel
theorem dX3_lower_71 : decode cX3_lower 71 = .ok (.if_icmp .ne 8, 3) := by decide +kernel
theorem dX3_lower_74 : decode cX3_lower 74 = .ok (.bipush 105, 2) := by decide +kernel
theorem dX3_lower_76 : decode cX3_lower 76 = .ok (.goto 4, 3) := by decide +kernel
theorem dX3_lower_79 : decode cX3_lower 79 = .ok (.iload_n 0, 1) := by decide +kernel
theorem dX3_lower_80 : decode cX3_lower 80 = .ok (.ireturn, 1) := by decide +kernel
def m_Lt_lower_38 (g : Nat) (x0 : Int32) : Option Int32 :=
(m_Lt_isEvenCapital g x0).bind fun v_1 =>
if v_1 = 0 then (
  (m_Lt_isOddCapital g x0).bind fun v_2 =>
  if v_2 = 0 then (
    if x0 = (376 : Int32) then (
      some (255 : Int32)
    ) else (
      if x0 = (304 : Int32) then (
        some (105 : Int32)
      ) else (
        some x0
      )
    )
  ) else (
    some (x0 + (1 : Int32))
  )
) else (
  some (x0 + (1 : Int32))
)
def m_Lt_lower_12 (g : Nat) (x0 : Int32) : Option Int32 :=
if x0 < (192 : Int32) then (
  m_Lt_lower_38 g x0
) else (
  if (222 : Int32) < x0 then (
    m_Lt_lower_38 g x0
  ) else (
    if x0 = (215 : Int32) then (
      m_Lt_lower_38 g x0
    ) else (
      some (x0 + (32 : Int32))
    )
  )
)
def m_Lt_lower (g : Nat) (x0 : Int32) : Option Int32 :=
if x0 < (65 : Int32) then (
  m_Lt_lower_12 g x0
) else (
  if x0 ≤ (90 : Int32) then (
    some (x0 + (32 : Int32))
  ) else (
    m_Lt_lower_12 g x0
  )
)
section S_Lt_lower
variable {p : Program} {l : Launch} {e : Env} {s : State} {m : MethodId} {args : Array Value} {below : List Frame} {meth : Method} {c : Code} {H : Heap} {locs : List Loc} {ls : Array Slot} {D : va_G} {T : Cy} {ρ : Nat → Nat} {A : Nat → Prop}
set_option maxRecDepth 100000 in
set_option maxHeartbeats 4000000 in
theorem w_Lt_lower_38  {g : Nat} {S : St} {x0 : Int32} (C : CallFix p m c cX3_lower 1 s args tb RX3) (hr : meth.sig.returnType = (some .int)) (hk : meth.locks = false) {r : Int32} (w : Wn Yc D T ρ S A s H locs) (hl : lv_has ls 1 [(0, .int x0)]) (h : m_Lt_lower_38 g x0 = some r) : W p l e (rmN 1 20) s m args below meth c H locs 0 0 (MQ below (Qi Yc D T ρ A S r) args s 0 0 A) (F0 m 38 ls []) := by
  unfold m_Lt_lower_38 at h
  refine lv_iload_n C.1 C.2.1 dX3_lower_38 rfl (lv_at hl 0 rfl) ?_
  obtain ⟨v_1, hv_1, h⟩ := bnd h
  refine x_callSi (As := [.int x0]) (rest := []) C w (k_Lt_isEvenCapital l D T ρ g H.size S hv_1) vX3_18 ⟨by decide, by decide⟩ rfl rfl hl.1 (Nat.le_of_ble_eq_true rfl) ⟨Nat.zero_le _, Nat.zero_le _⟩ dX3_lower_39 (fun H locs w => ?_)
  refine lv_if_ne (tgt := 52) C.1 C.2.1 dX3_lower_42 (by decide) (fun hc => ?_) (fun hc => ?_)
  · replace h := iff0 hc h
    refine lv_iload_n C.1 C.2.1 dX3_lower_52 rfl (lv_at hl 0 rfl) ?_
    refine lv_iconst (v := 1) C.1 C.2.1 dX3_lower_53 (by decide) ?_
    refine lv_iadd C.1 C.2.1 dX3_lower_54 ?_
    obtain rfl := som h
    exact x_iret C w hr hk dX3_lower_55
  · replace h := ift hc h
    refine lv_iload_n C.1 C.2.1 dX3_lower_45 rfl (lv_at hl 0 rfl) ?_
    obtain ⟨v_2, hv_2, h⟩ := bnd h
    refine x_callSi (As := [.int x0]) (rest := []) C w (k_Lt_isOddCapital l D T ρ g H.size S hv_2) vX3_24 ⟨by decide, by decide⟩ rfl rfl hl.1 (Nat.le_of_ble_eq_true rfl) ⟨Nat.zero_le _, Nat.zero_le _⟩ dX3_lower_46 (fun H locs w => ?_)
    refine lv_if_eq (tgt := 56) C.1 C.2.1 dX3_lower_49 (by decide) (fun hc => ?_) (fun hc => ?_)
    · replace h := ift hc h
      refine lv_iload_n C.1 C.2.1 dX3_lower_56 rfl (lv_at hl 0 rfl) ?_
      refine lv_sipush (v := 376) C.1 C.2.1 dX3_lower_57 (by decide) ?_
      refine lv_icmp_ne (tgt := 67) C.1 C.2.1 dX3_lower_60 (by decide) (fun hc => ?_) (fun hc => ?_)
      · replace h := iff0 hc h
        refine lv_iload_n C.1 C.2.1 dX3_lower_67 rfl (lv_at hl 0 rfl) ?_
        refine lv_sipush (v := 304) C.1 C.2.1 dX3_lower_68 (by decide) ?_
        refine lv_icmp_ne (tgt := 79) C.1 C.2.1 dX3_lower_71 (by decide) (fun hc => ?_) (fun hc => ?_)
        · replace h := iff0 hc h
          refine lv_iload_n C.1 C.2.1 dX3_lower_79 rfl (lv_at hl 0 rfl) ?_
          obtain rfl := som h
          exact x_iret C w hr hk dX3_lower_80
        · replace h := ift hc h
          refine lv_bipush (v := 105) C.1 C.2.1 dX3_lower_74 (by decide) ?_
          refine lv_goto (tgt := 80) C.1 C.2.1 dX3_lower_76 (by decide) ?_
          obtain rfl := som h
          exact x_iret C w hr hk dX3_lower_80
      · replace h := ift hc h
        refine lv_sipush (v := 255) C.1 C.2.1 dX3_lower_63 (by decide) ?_
        obtain rfl := som h
        exact x_iret C w hr hk dX3_lower_66
    · replace h := iff0 hc h
      refine lv_iload_n C.1 C.2.1 dX3_lower_52 rfl (lv_at hl 0 rfl) ?_
      refine lv_iconst (v := 1) C.1 C.2.1 dX3_lower_53 (by decide) ?_
      refine lv_iadd C.1 C.2.1 dX3_lower_54 ?_
      obtain rfl := som h
      exact x_iret C w hr hk dX3_lower_55
set_option maxRecDepth 100000 in
set_option maxHeartbeats 4000000 in
theorem w_Lt_lower_12  {g : Nat} {S : St} {x0 : Int32} (C : CallFix p m c cX3_lower 1 s args tb RX3) (hr : meth.sig.returnType = (some .int)) (hk : meth.locks = false) {r : Int32} (w : Wn Yc D T ρ S A s H locs) (hl : lv_has ls 1 [(0, .int x0)]) (h : m_Lt_lower_12 g x0 = some r) : W p l e (rmN 1 20) s m args below meth c H locs 0 0 (MQ below (Qi Yc D T ρ A S r) args s 0 0 A) (F0 m 12 ls []) := by
  unfold m_Lt_lower_12 at h
  refine lv_iload_n C.1 C.2.1 dX3_lower_12 rfl (lv_at hl 0 rfl) ?_
  refine lv_sipush (v := 192) C.1 C.2.1 dX3_lower_13 (by decide) ?_
  refine lv_icmp_lt (tgt := 38) C.1 C.2.1 dX3_lower_16 (by decide) (fun hc => ?_) (fun hc => ?_)
  · replace h := ift hc h
    exact w_Lt_lower_38 C hr hk w (lv_sub hl [0] rfl) h
  · replace h := iff0 hc h
    refine lv_iload_n C.1 C.2.1 dX3_lower_19 rfl (lv_at hl 0 rfl) ?_
    refine lv_sipush (v := 222) C.1 C.2.1 dX3_lower_20 (by decide) ?_
    refine lv_icmp_gt (tgt := 38) C.1 C.2.1 dX3_lower_23 (by decide) (fun hc => ?_) (fun hc => ?_)
    · replace h := ift hc h
      exact w_Lt_lower_38 C hr hk w (lv_sub hl [0] rfl) h
    · replace h := iff0 hc h
      refine lv_iload_n C.1 C.2.1 dX3_lower_26 rfl (lv_at hl 0 rfl) ?_
      refine lv_sipush (v := 215) C.1 C.2.1 dX3_lower_27 (by decide) ?_
      refine lv_icmp_eq (tgt := 38) C.1 C.2.1 dX3_lower_30 (by decide) (fun hc => ?_) (fun hc => ?_)
      · replace h := ift hc h
        exact w_Lt_lower_38 C hr hk w (lv_sub hl [0] rfl) h
      · replace h := iff0 hc h
        refine lv_iload_n C.1 C.2.1 dX3_lower_33 rfl (lv_at hl 0 rfl) ?_
        refine lv_bipush (v := 32) C.1 C.2.1 dX3_lower_34 (by decide) ?_
        refine lv_iadd C.1 C.2.1 dX3_lower_36 ?_
        obtain rfl := som h
        exact x_iret C w hr hk dX3_lower_37
set_option maxRecDepth 100000 in
set_option maxHeartbeats 4000000 in
theorem w_Lt_lower_0  {g : Nat} {S : St} {x0 : Int32} (C : CallFix p m c cX3_lower 1 s args tb RX3) (hr : meth.sig.returnType = (some .int)) (hk : meth.locks = false) {r : Int32} (w : Wn Yc D T ρ S A s H locs) (hl : lv_has ls 1 [(0, .int x0)]) (h : m_Lt_lower g x0 = some r) : W p l e (rmN 1 20) s m args below meth c H locs 0 0 (MQ below (Qi Yc D T ρ A S r) args s 0 0 A) (F0 m 0 ls []) := by
  unfold m_Lt_lower at h
  refine lv_iload_n C.1 C.2.1 dX3_lower_0 rfl (lv_at hl 0 rfl) ?_
  refine lv_bipush (v := 65) C.1 C.2.1 dX3_lower_1 (by decide) ?_
  refine lv_icmp_lt (tgt := 12) C.1 C.2.1 dX3_lower_3 (by decide) (fun hc => ?_) (fun hc => ?_)
  · replace h := ift hc h
    exact w_Lt_lower_12 C hr hk w (lv_sub hl [0] rfl) h
  · replace h := iff0 hc h
    refine lv_iload_n C.1 C.2.1 dX3_lower_6 rfl (lv_at hl 0 rfl) ?_
    refine lv_bipush (v := 90) C.1 C.2.1 dX3_lower_7 (by decide) ?_
    refine lv_icmp_le (tgt := 33) C.1 C.2.1 dX3_lower_9 (by decide) (fun hc => ?_) (fun hc => ?_)
    · replace h := ift hc h
      refine lv_iload_n C.1 C.2.1 dX3_lower_33 rfl (lv_at hl 0 rfl) ?_
      refine lv_bipush (v := 32) C.1 C.2.1 dX3_lower_34 (by decide) ?_
      refine lv_iadd C.1 C.2.1 dX3_lower_36 ?_
      obtain rfl := som h
      exact x_iret C w hr hk dX3_lower_37
    · replace h := iff0 hc h
      exact w_Lt_lower_12 C hr hk w (lv_sub hl [0] rfl) h
end S_Lt_lower
set_option maxRecDepth 100000 in
theorem k_Lt_lower (l : Launch) (D : va_G) (T : Cy) (ρ : Nat → Nat) (g sz : Nat) (S : St) {x0 : Int32} {r : Int32} (h : m_Lt_lower g x0 = some r) : Mi l Yc D T ρ yX3_lower cX3_lower 1 (some .int) 1 20 S S r [.int x0] sz :=
  x_in (by decide) (Nat.le_of_ble_eq_true rfl) (fun p e s m below meth c ls C hr hk w hl => w_Lt_lower_0 C hr hk w hl h)

theorem dX3_lowerTail_0 : decode cX3_lowerTail 0 = .ok (.iload_n 0, 1) := by decide +kernel
theorem dX3_lowerTail_1 : decode cX3_lowerTail 1 = .ok (.sipush 304, 3) := by decide +kernel
theorem dX3_lowerTail_4 : decode cX3_lowerTail 4 = .ok (.if_icmp .ne 9, 3) := by decide +kernel
theorem dX3_lowerTail_7 : decode cX3_lowerTail 7 = .ok (.sipush 775, 3) := by decide +kernel
theorem dX3_lowerTail_10 : decode cX3_lowerTail 10 = .ok (.goto 4, 3) := by decide +kernel
theorem dX3_lowerTail_13 : decode cX3_lowerTail 13 = .ok (.iconst (-1), 1) := by decide +kernel
theorem dX3_lowerTail_14 : decode cX3_lowerTail 14 = .ok (.ireturn, 1) := by decide +kernel
def m_Lt_lowerTail (g : Nat) (x0 : Int32) : Option Int32 :=
if x0 = (304 : Int32) then (
  some (775 : Int32)
) else (
  some (-1 : Int32)
)
section S_Lt_lowerTail
variable {p : Program} {l : Launch} {e : Env} {s : State} {m : MethodId} {args : Array Value} {below : List Frame} {meth : Method} {c : Code} {H : Heap} {locs : List Loc} {ls : Array Slot} {D : va_G} {T : Cy} {ρ : Nat → Nat} {A : Nat → Prop}
set_option maxRecDepth 100000 in
set_option maxHeartbeats 4000000 in
theorem w_Lt_lowerTail_0  {g : Nat} {S : St} {x0 : Int32} (C : CallFix p m c cX3_lowerTail 1 s args tb RX3) (hr : meth.sig.returnType = (some .int)) (hk : meth.locks = false) {r : Int32} (w : Wn Yc D T ρ S A s H locs) (hl : lv_has ls 1 [(0, .int x0)]) (h : m_Lt_lowerTail g x0 = some r) : W p l e (rmN 0 0) s m args below meth c H locs 0 0 (MQ below (Qi Yc D T ρ A S r) args s 0 0 A) (F0 m 0 ls []) := by
  unfold m_Lt_lowerTail at h
  refine lv_iload_n C.1 C.2.1 dX3_lowerTail_0 rfl (lv_at hl 0 rfl) ?_
  refine lv_sipush (v := 304) C.1 C.2.1 dX3_lowerTail_1 (by decide) ?_
  refine lv_icmp_ne (tgt := 13) C.1 C.2.1 dX3_lowerTail_4 (by decide) (fun hc => ?_) (fun hc => ?_)
  · replace h := iff0 hc h
    refine lv_iconst (v := (-1)) C.1 C.2.1 dX3_lowerTail_13 (by decide) ?_
    obtain rfl := som h
    exact x_iret C w hr hk dX3_lowerTail_14
  · replace h := ift hc h
    refine lv_sipush (v := 775) C.1 C.2.1 dX3_lowerTail_7 (by decide) ?_
    refine lv_goto (tgt := 14) C.1 C.2.1 dX3_lowerTail_10 (by decide) ?_
    obtain rfl := som h
    exact x_iret C w hr hk dX3_lowerTail_14
end S_Lt_lowerTail
set_option maxRecDepth 100000 in
theorem k_Lt_lowerTail (l : Launch) (D : va_G) (T : Cy) (ρ : Nat → Nat) (g sz : Nat) (S : St) {x0 : Int32} {r : Int32} (h : m_Lt_lowerTail g x0 = some r) : Mi l Yc D T ρ yX3_lowerTail cX3_lowerTail 1 (some .int) 0 0 S S r [.int x0] sz :=
  x_in (by decide) (Nat.le_of_ble_eq_true rfl) (fun p e s m below meth c ls C hr hk w hl => w_Lt_lowerTail_0 C hr hk w hl h)

theorem dX3_upper_0 : decode cX3_upper 0 = .ok (.iload_n 0, 1) := by decide +kernel
theorem dX3_upper_1 : decode cX3_upper 1 = .ok (.bipush 97, 2) := by decide +kernel
theorem dX3_upper_3 : decode cX3_upper 3 = .ok (.if_icmp .lt 9, 3) := by decide +kernel
theorem dX3_upper_6 : decode cX3_upper 6 = .ok (.iload_n 0, 1) := by decide +kernel
theorem dX3_upper_7 : decode cX3_upper 7 = .ok (.bipush 122, 2) := by decide +kernel
theorem dX3_upper_9 : decode cX3_upper 9 = .ok (.if_icmp .le 24, 3) := by decide +kernel
theorem dX3_upper_12 : decode cX3_upper 12 = .ok (.iload_n 0, 1) := by decide +kernel
theorem dX3_upper_13 : decode cX3_upper 13 = .ok (.sipush 224, 3) := by decide +kernel
theorem dX3_upper_16 : decode cX3_upper 16 = .ok (.if_icmp .lt 22, 3) := by decide +kernel
theorem dX3_upper_19 : decode cX3_upper 19 = .ok (.iload_n 0, 1) := by decide +kernel
theorem dX3_upper_20 : decode cX3_upper 20 = .ok (.sipush 254, 3) := by decide +kernel
theorem dX3_upper_23 : decode cX3_upper 23 = .ok (.if_icmp .gt 15, 3) := by decide +kernel
theorem dX3_upper_26 : decode cX3_upper 26 = .ok (.iload_n 0, 1) := by decide +kernel
theorem dX3_upper_27 : decode cX3_upper 27 = .ok (.sipush 247, 3) := by decide +kernel
theorem dX3_upper_30 : decode cX3_upper 30 = .ok (.if_icmp .eq 8, 3) := by decide +kernel
theorem dX3_upper_33 : decode cX3_upper 33 = .ok (.iload_n 0, 1) := by decide +kernel
theorem dX3_upper_34 : decode cX3_upper 34 = .ok (.bipush 32, 2) := by decide +kernel
theorem dX3_upper_36 : decode cX3_upper 36 = .ok (.isub, 1) := by decide +kernel
theorem dX3_upper_37 : decode cX3_upper 37 = .ok (.ireturn, 1) := by decide +kernel
theorem dX3_upper_38 : decode cX3_upper 38 = .ok (.iload_n 0, 1) := by decide +kernel
theorem dX3_upper_39 : decode cX3_upper 39 = .ok (.iconst 1, 1) := by decide +kernel
theorem dX3_upper_40 : decode cX3_upper 40 = .ok (.isub, 1) := by decide +kernel
theorem dX3_upper_41 : decode cX3_upper 41 = .ok (.invokestatic 18, 3) := by decide +kernel
theorem dX3_upper_44 : decode cX3_upper 44 = .ok (.ifCond .ne 12, 3) := by decide +kernel
theorem dX3_upper_47 : decode cX3_upper 47 = .ok (.iload_n 0, 1) := by decide +kernel
theorem dX3_upper_48 : decode cX3_upper 48 = .ok (.iconst 1, 1) := by decide +kernel
theorem dX3_upper_49 : decode cX3_upper 49 = .ok (.isub, 1) := by decide +kernel
theorem dX3_upper_50 : decode cX3_upper 50 = .ok (.invokestatic 24, 3) := by decide +kernel
theorem dX3_upper_53 : decode cX3_upper 53 = .ok (.ifCond .eq 7, 3) := by decide +kernel
theorem dX3_upper_56 : decode cX3_upper 56 = .ok (.iload_n 0, 1) := by decide +kernel
theorem dX3_upper_57 : decode cX3_upper 57 = .ok (.iconst 1, 1) := by decide +kernel
theorem dX3_upper_58 : decode cX3_upper 58 = .ok (.isub, 1) := by decide +kernel
theorem dX3_upper_59 : decode cX3_upper 59 = .ok (.ireturn, 1) := by decide +kernel
theorem dX3_upper_60 : decode cX3_upper 60 = .ok (.iload_n 0, 1) := by decide +kernel
theorem dX3_upper_61 : decode cX3_upper 61 = .ok (.lookupswitch 77 #[(181, 63), (223, 70), (255, 59), (305, 67), (329, 73), (383, 70)], 59) := by decide +kernel
theorem dX3_upper_120 : decode cX3_upper 120 = .ok (.sipush 376, 3) := by decide +kernel
theorem dX3_upper_123 : decode cX3_upper 123 = .ok (.ireturn, 1) := by decide +kernel
theorem dX3_upper_124 : decode cX3_upper 124 = .ok (.sipush 924, 3) := by decide +kernel
theorem dX3_upper_127 : decode cX3_upper 127 = .ok (.ireturn, 1) := by decide +kernel
theorem dX3_upper_128 : decode cX3_upper 128 = .ok (.bipush 73, 2) := by decide +kernel
theorem dX3_upper_130 : decode cX3_upper 130 = .ok (.ireturn, 1) := by decide +kernel
theorem dX3_upper_131 : decode cX3_upper 131 = .ok (.bipush 83, 2) := by decide +kernel
theorem dX3_upper_133 : decode cX3_upper 133 = .ok (.ireturn, 1) := by decide +kernel
theorem dX3_upper_134 : decode cX3_upper 134 = .ok (.sipush 700, 3) := by decide +kernel
theorem dX3_upper_137 : decode cX3_upper 137 = .ok (.ireturn, 1) := by decide +kernel
theorem dX3_upper_138 : decode cX3_upper 138 = .ok (.iload_n 0, 1) := by decide +kernel
theorem dX3_upper_139 : decode cX3_upper 139 = .ok (.ireturn, 1) := by decide +kernel
def m_Lt_upper_38 (g : Nat) (x0 : Int32) : Option Int32 :=
(m_Lt_isEvenCapital g (x0 - (1 : Int32))).bind fun v_1 =>
if v_1 = 0 then (
  (m_Lt_isOddCapital g (x0 - (1 : Int32))).bind fun v_2 =>
  if v_2 = 0 then (
    if x0 = (181 : Int32) then (
      some (924 : Int32)
    ) else
    if x0 = (223 : Int32) then (
      some (83 : Int32)
    ) else
    if x0 = (255 : Int32) then (
      some (376 : Int32)
    ) else
    if x0 = (305 : Int32) then (
      some (73 : Int32)
    ) else
    if x0 = (329 : Int32) then (
      some (700 : Int32)
    ) else
    if x0 = (383 : Int32) then (
      some (83 : Int32)
    ) else
    (
      some x0
    )
  ) else (
    some (x0 - (1 : Int32))
  )
) else (
  some (x0 - (1 : Int32))
)
def m_Lt_upper_12 (g : Nat) (x0 : Int32) : Option Int32 :=
if x0 < (224 : Int32) then (
  m_Lt_upper_38 g x0
) else (
  if (254 : Int32) < x0 then (
    m_Lt_upper_38 g x0
  ) else (
    if x0 = (247 : Int32) then (
      m_Lt_upper_38 g x0
    ) else (
      some (x0 - (32 : Int32))
    )
  )
)
def m_Lt_upper (g : Nat) (x0 : Int32) : Option Int32 :=
if x0 < (97 : Int32) then (
  m_Lt_upper_12 g x0
) else (
  if x0 ≤ (122 : Int32) then (
    some (x0 - (32 : Int32))
  ) else (
    m_Lt_upper_12 g x0
  )
)
section S_Lt_upper
variable {p : Program} {l : Launch} {e : Env} {s : State} {m : MethodId} {args : Array Value} {below : List Frame} {meth : Method} {c : Code} {H : Heap} {locs : List Loc} {ls : Array Slot} {D : va_G} {T : Cy} {ρ : Nat → Nat} {A : Nat → Prop}
set_option maxRecDepth 100000 in
set_option maxHeartbeats 4000000 in
theorem w_Lt_upper_38  {g : Nat} {S : St} {x0 : Int32} (C : CallFix p m c cX3_upper 1 s args tb RX3) (hr : meth.sig.returnType = (some .int)) (hk : meth.locks = false) {r : Int32} (w : Wn Yc D T ρ S A s H locs) (hl : lv_has ls 1 [(0, .int x0)]) (h : m_Lt_upper_38 g x0 = some r) : W p l e (rmN 1 20) s m args below meth c H locs 0 0 (MQ below (Qi Yc D T ρ A S r) args s 0 0 A) (F0 m 38 ls []) := by
  unfold m_Lt_upper_38 at h
  refine lv_iload_n C.1 C.2.1 dX3_upper_38 rfl (lv_at hl 0 rfl) ?_
  refine lv_iconst (v := 1) C.1 C.2.1 dX3_upper_39 (by decide) ?_
  refine lv_isub C.1 C.2.1 dX3_upper_40 ?_
  obtain ⟨v_1, hv_1, h⟩ := bnd h
  refine x_callSi (As := [.int (x0 - (1 : Int32))]) (rest := []) C w (k_Lt_isEvenCapital l D T ρ g H.size S hv_1) vX3_18 ⟨by decide, by decide⟩ rfl rfl hl.1 (Nat.le_of_ble_eq_true rfl) ⟨Nat.zero_le _, Nat.zero_le _⟩ dX3_upper_41 (fun H locs w => ?_)
  refine lv_if_ne (tgt := 56) C.1 C.2.1 dX3_upper_44 (by decide) (fun hc => ?_) (fun hc => ?_)
  · replace h := iff0 hc h
    refine lv_iload_n C.1 C.2.1 dX3_upper_56 rfl (lv_at hl 0 rfl) ?_
    refine lv_iconst (v := 1) C.1 C.2.1 dX3_upper_57 (by decide) ?_
    refine lv_isub C.1 C.2.1 dX3_upper_58 ?_
    obtain rfl := som h
    exact x_iret C w hr hk dX3_upper_59
  · replace h := ift hc h
    refine lv_iload_n C.1 C.2.1 dX3_upper_47 rfl (lv_at hl 0 rfl) ?_
    refine lv_iconst (v := 1) C.1 C.2.1 dX3_upper_48 (by decide) ?_
    refine lv_isub C.1 C.2.1 dX3_upper_49 ?_
    obtain ⟨v_2, hv_2, h⟩ := bnd h
    refine x_callSi (As := [.int (x0 - (1 : Int32))]) (rest := []) C w (k_Lt_isOddCapital l D T ρ g H.size S hv_2) vX3_24 ⟨by decide, by decide⟩ rfl rfl hl.1 (Nat.le_of_ble_eq_true rfl) ⟨Nat.zero_le _, Nat.zero_le _⟩ dX3_upper_50 (fun H locs w => ?_)
    refine lv_if_eq (tgt := 60) C.1 C.2.1 dX3_upper_53 (by decide) (fun hc => ?_) (fun hc => ?_)
    · replace h := ift hc h
      refine lv_iload_n C.1 C.2.1 dX3_upper_60 rfl (lv_at hl 0 rfl) ?_
      by_cases hz61_0 : x0 = (181 : Int32)
      · replace h := ift hz61_0 h
        refine lv_lookup (off := 63) (tgt := 124) C.1 C.2.1 dX3_upper_61 (by decide) (off_t (by rw [hz61_0]; decide)) (by decide) ?_
        refine lv_sipush (v := 924) C.1 C.2.1 dX3_upper_124 (by decide) ?_
        obtain rfl := som h
        exact x_iret C w hr hk dX3_upper_127
      replace h := iff0 hz61_0 h
      by_cases hz61_1 : x0 = (223 : Int32)
      · replace h := ift hz61_1 h
        refine lv_lookup (off := 70) (tgt := 131) C.1 C.2.1 dX3_upper_61 (by decide) (off_f (i_ne (v := (181 : Int32)) (by decide) hz61_0) (off_t (by rw [hz61_1]; decide))) (by decide) ?_
        refine lv_bipush (v := 83) C.1 C.2.1 dX3_upper_131 (by decide) ?_
        obtain rfl := som h
        exact x_iret C w hr hk dX3_upper_133
      replace h := iff0 hz61_1 h
      by_cases hz61_2 : x0 = (255 : Int32)
      · replace h := ift hz61_2 h
        refine lv_lookup (off := 59) (tgt := 120) C.1 C.2.1 dX3_upper_61 (by decide) (off_f (i_ne (v := (181 : Int32)) (by decide) hz61_0) (off_f (i_ne (v := (223 : Int32)) (by decide) hz61_1) (off_t (by rw [hz61_2]; decide)))) (by decide) ?_
        refine lv_sipush (v := 376) C.1 C.2.1 dX3_upper_120 (by decide) ?_
        obtain rfl := som h
        exact x_iret C w hr hk dX3_upper_123
      replace h := iff0 hz61_2 h
      by_cases hz61_3 : x0 = (305 : Int32)
      · replace h := ift hz61_3 h
        refine lv_lookup (off := 67) (tgt := 128) C.1 C.2.1 dX3_upper_61 (by decide) (off_f (i_ne (v := (181 : Int32)) (by decide) hz61_0) (off_f (i_ne (v := (223 : Int32)) (by decide) hz61_1) (off_f (i_ne (v := (255 : Int32)) (by decide) hz61_2) (off_t (by rw [hz61_3]; decide))))) (by decide) ?_
        refine lv_bipush (v := 73) C.1 C.2.1 dX3_upper_128 (by decide) ?_
        obtain rfl := som h
        exact x_iret C w hr hk dX3_upper_130
      replace h := iff0 hz61_3 h
      by_cases hz61_4 : x0 = (329 : Int32)
      · replace h := ift hz61_4 h
        refine lv_lookup (off := 73) (tgt := 134) C.1 C.2.1 dX3_upper_61 (by decide) (off_f (i_ne (v := (181 : Int32)) (by decide) hz61_0) (off_f (i_ne (v := (223 : Int32)) (by decide) hz61_1) (off_f (i_ne (v := (255 : Int32)) (by decide) hz61_2) (off_f (i_ne (v := (305 : Int32)) (by decide) hz61_3) (off_t (by rw [hz61_4]; decide)))))) (by decide) ?_
        refine lv_sipush (v := 700) C.1 C.2.1 dX3_upper_134 (by decide) ?_
        obtain rfl := som h
        exact x_iret C w hr hk dX3_upper_137
      replace h := iff0 hz61_4 h
      by_cases hz61_5 : x0 = (383 : Int32)
      · replace h := ift hz61_5 h
        refine lv_lookup (off := 70) (tgt := 131) C.1 C.2.1 dX3_upper_61 (by decide) (off_f (i_ne (v := (181 : Int32)) (by decide) hz61_0) (off_f (i_ne (v := (223 : Int32)) (by decide) hz61_1) (off_f (i_ne (v := (255 : Int32)) (by decide) hz61_2) (off_f (i_ne (v := (305 : Int32)) (by decide) hz61_3) (off_f (i_ne (v := (329 : Int32)) (by decide) hz61_4) (off_t (by rw [hz61_5]; decide))))))) (by decide) ?_
        refine lv_bipush (v := 83) C.1 C.2.1 dX3_upper_131 (by decide) ?_
        obtain rfl := som h
        exact x_iret C w hr hk dX3_upper_133
      replace h := iff0 hz61_5 h
      refine lv_lookup (off := 77) (tgt := 138) C.1 C.2.1 dX3_upper_61 (by decide) (off_f (i_ne (v := (181 : Int32)) (by decide) hz61_0) (off_f (i_ne (v := (223 : Int32)) (by decide) hz61_1) (off_f (i_ne (v := (255 : Int32)) (by decide) hz61_2) (off_f (i_ne (v := (305 : Int32)) (by decide) hz61_3) (off_f (i_ne (v := (329 : Int32)) (by decide) hz61_4) (off_f (i_ne (v := (383 : Int32)) (by decide) hz61_5) rfl)))))) (by decide) ?_
      refine lv_iload_n C.1 C.2.1 dX3_upper_138 rfl (lv_at hl 0 rfl) ?_
      obtain rfl := som h
      exact x_iret C w hr hk dX3_upper_139
    · replace h := iff0 hc h
      refine lv_iload_n C.1 C.2.1 dX3_upper_56 rfl (lv_at hl 0 rfl) ?_
      refine lv_iconst (v := 1) C.1 C.2.1 dX3_upper_57 (by decide) ?_
      refine lv_isub C.1 C.2.1 dX3_upper_58 ?_
      obtain rfl := som h
      exact x_iret C w hr hk dX3_upper_59
set_option maxRecDepth 100000 in
set_option maxHeartbeats 4000000 in
theorem w_Lt_upper_12  {g : Nat} {S : St} {x0 : Int32} (C : CallFix p m c cX3_upper 1 s args tb RX3) (hr : meth.sig.returnType = (some .int)) (hk : meth.locks = false) {r : Int32} (w : Wn Yc D T ρ S A s H locs) (hl : lv_has ls 1 [(0, .int x0)]) (h : m_Lt_upper_12 g x0 = some r) : W p l e (rmN 1 20) s m args below meth c H locs 0 0 (MQ below (Qi Yc D T ρ A S r) args s 0 0 A) (F0 m 12 ls []) := by
  unfold m_Lt_upper_12 at h
  refine lv_iload_n C.1 C.2.1 dX3_upper_12 rfl (lv_at hl 0 rfl) ?_
  refine lv_sipush (v := 224) C.1 C.2.1 dX3_upper_13 (by decide) ?_
  refine lv_icmp_lt (tgt := 38) C.1 C.2.1 dX3_upper_16 (by decide) (fun hc => ?_) (fun hc => ?_)
  · replace h := ift hc h
    exact w_Lt_upper_38 C hr hk w (lv_sub hl [0] rfl) h
  · replace h := iff0 hc h
    refine lv_iload_n C.1 C.2.1 dX3_upper_19 rfl (lv_at hl 0 rfl) ?_
    refine lv_sipush (v := 254) C.1 C.2.1 dX3_upper_20 (by decide) ?_
    refine lv_icmp_gt (tgt := 38) C.1 C.2.1 dX3_upper_23 (by decide) (fun hc => ?_) (fun hc => ?_)
    · replace h := ift hc h
      exact w_Lt_upper_38 C hr hk w (lv_sub hl [0] rfl) h
    · replace h := iff0 hc h
      refine lv_iload_n C.1 C.2.1 dX3_upper_26 rfl (lv_at hl 0 rfl) ?_
      refine lv_sipush (v := 247) C.1 C.2.1 dX3_upper_27 (by decide) ?_
      refine lv_icmp_eq (tgt := 38) C.1 C.2.1 dX3_upper_30 (by decide) (fun hc => ?_) (fun hc => ?_)
      · replace h := ift hc h
        exact w_Lt_upper_38 C hr hk w (lv_sub hl [0] rfl) h
      · replace h := iff0 hc h
        refine lv_iload_n C.1 C.2.1 dX3_upper_33 rfl (lv_at hl 0 rfl) ?_
        refine lv_bipush (v := 32) C.1 C.2.1 dX3_upper_34 (by decide) ?_
        refine lv_isub C.1 C.2.1 dX3_upper_36 ?_
        obtain rfl := som h
        exact x_iret C w hr hk dX3_upper_37
set_option maxRecDepth 100000 in
set_option maxHeartbeats 4000000 in
theorem w_Lt_upper_0  {g : Nat} {S : St} {x0 : Int32} (C : CallFix p m c cX3_upper 1 s args tb RX3) (hr : meth.sig.returnType = (some .int)) (hk : meth.locks = false) {r : Int32} (w : Wn Yc D T ρ S A s H locs) (hl : lv_has ls 1 [(0, .int x0)]) (h : m_Lt_upper g x0 = some r) : W p l e (rmN 1 20) s m args below meth c H locs 0 0 (MQ below (Qi Yc D T ρ A S r) args s 0 0 A) (F0 m 0 ls []) := by
  unfold m_Lt_upper at h
  refine lv_iload_n C.1 C.2.1 dX3_upper_0 rfl (lv_at hl 0 rfl) ?_
  refine lv_bipush (v := 97) C.1 C.2.1 dX3_upper_1 (by decide) ?_
  refine lv_icmp_lt (tgt := 12) C.1 C.2.1 dX3_upper_3 (by decide) (fun hc => ?_) (fun hc => ?_)
  · replace h := ift hc h
    exact w_Lt_upper_12 C hr hk w (lv_sub hl [0] rfl) h
  · replace h := iff0 hc h
    refine lv_iload_n C.1 C.2.1 dX3_upper_6 rfl (lv_at hl 0 rfl) ?_
    refine lv_bipush (v := 122) C.1 C.2.1 dX3_upper_7 (by decide) ?_
    refine lv_icmp_le (tgt := 33) C.1 C.2.1 dX3_upper_9 (by decide) (fun hc => ?_) (fun hc => ?_)
    · replace h := ift hc h
      refine lv_iload_n C.1 C.2.1 dX3_upper_33 rfl (lv_at hl 0 rfl) ?_
      refine lv_bipush (v := 32) C.1 C.2.1 dX3_upper_34 (by decide) ?_
      refine lv_isub C.1 C.2.1 dX3_upper_36 ?_
      obtain rfl := som h
      exact x_iret C w hr hk dX3_upper_37
    · replace h := iff0 hc h
      exact w_Lt_upper_12 C hr hk w (lv_sub hl [0] rfl) h
end S_Lt_upper
set_option maxRecDepth 100000 in
theorem k_Lt_upper (l : Launch) (D : va_G) (T : Cy) (ρ : Nat → Nat) (g sz : Nat) (S : St) {x0 : Int32} {r : Int32} (h : m_Lt_upper g x0 = some r) : Mi l Yc D T ρ yX3_upper cX3_upper 1 (some .int) 1 20 S S r [.int x0] sz :=
  x_in (by decide) (Nat.le_of_ble_eq_true rfl) (fun p e s m below meth c ls C hr hk w hl => w_Lt_upper_0 C hr hk w hl h)

theorem dX3_upperTail_0 : decode cX3_upperTail 0 = .ok (.iload_n 0, 1) := by decide +kernel
theorem dX3_upperTail_1 : decode cX3_upperTail 1 = .ok (.sipush 223, 3) := by decide +kernel
theorem dX3_upperTail_4 : decode cX3_upperTail 4 = .ok (.if_icmp .ne 6, 3) := by decide +kernel
theorem dX3_upperTail_7 : decode cX3_upperTail 7 = .ok (.bipush 83, 2) := by decide +kernel
theorem dX3_upperTail_9 : decode cX3_upperTail 9 = .ok (.ireturn, 1) := by decide +kernel
theorem dX3_upperTail_10 : decode cX3_upperTail 10 = .ok (.iload_n 0, 1) := by decide +kernel
theorem dX3_upperTail_11 : decode cX3_upperTail 11 = .ok (.sipush 329, 3) := by decide +kernel
theorem dX3_upperTail_14 : decode cX3_upperTail 14 = .ok (.if_icmp .ne 8, 3) := by decide +kernel
theorem dX3_upperTail_17 : decode cX3_upperTail 17 = .ok (.bipush 78, 2) := by decide +kernel
theorem dX3_upperTail_19 : decode cX3_upperTail 19 = .ok (.goto 4, 3) := by decide +kernel
theorem dX3_upperTail_22 : decode cX3_upperTail 22 = .ok (.iconst (-1), 1) := by decide +kernel
theorem dX3_upperTail_23 : decode cX3_upperTail 23 = .ok (.ireturn, 1) := by decide +kernel
def m_Lt_upperTail (g : Nat) (x0 : Int32) : Option Int32 :=
if x0 = (223 : Int32) then (
  some (83 : Int32)
) else (
  if x0 = (329 : Int32) then (
    some (78 : Int32)
  ) else (
    some (-1 : Int32)
  )
)
section S_Lt_upperTail
variable {p : Program} {l : Launch} {e : Env} {s : State} {m : MethodId} {args : Array Value} {below : List Frame} {meth : Method} {c : Code} {H : Heap} {locs : List Loc} {ls : Array Slot} {D : va_G} {T : Cy} {ρ : Nat → Nat} {A : Nat → Prop}
set_option maxRecDepth 100000 in
set_option maxHeartbeats 4000000 in
theorem w_Lt_upperTail_0  {g : Nat} {S : St} {x0 : Int32} (C : CallFix p m c cX3_upperTail 1 s args tb RX3) (hr : meth.sig.returnType = (some .int)) (hk : meth.locks = false) {r : Int32} (w : Wn Yc D T ρ S A s H locs) (hl : lv_has ls 1 [(0, .int x0)]) (h : m_Lt_upperTail g x0 = some r) : W p l e (rmN 0 0) s m args below meth c H locs 0 0 (MQ below (Qi Yc D T ρ A S r) args s 0 0 A) (F0 m 0 ls []) := by
  unfold m_Lt_upperTail at h
  refine lv_iload_n C.1 C.2.1 dX3_upperTail_0 rfl (lv_at hl 0 rfl) ?_
  refine lv_sipush (v := 223) C.1 C.2.1 dX3_upperTail_1 (by decide) ?_
  refine lv_icmp_ne (tgt := 10) C.1 C.2.1 dX3_upperTail_4 (by decide) (fun hc => ?_) (fun hc => ?_)
  · replace h := iff0 hc h
    refine lv_iload_n C.1 C.2.1 dX3_upperTail_10 rfl (lv_at hl 0 rfl) ?_
    refine lv_sipush (v := 329) C.1 C.2.1 dX3_upperTail_11 (by decide) ?_
    refine lv_icmp_ne (tgt := 22) C.1 C.2.1 dX3_upperTail_14 (by decide) (fun hc => ?_) (fun hc => ?_)
    · replace h := iff0 hc h
      refine lv_iconst (v := (-1)) C.1 C.2.1 dX3_upperTail_22 (by decide) ?_
      obtain rfl := som h
      exact x_iret C w hr hk dX3_upperTail_23
    · replace h := ift hc h
      refine lv_bipush (v := 78) C.1 C.2.1 dX3_upperTail_17 (by decide) ?_
      refine lv_goto (tgt := 23) C.1 C.2.1 dX3_upperTail_19 (by decide) ?_
      obtain rfl := som h
      exact x_iret C w hr hk dX3_upperTail_23
  · replace h := ift hc h
    refine lv_bipush (v := 83) C.1 C.2.1 dX3_upperTail_7 (by decide) ?_
    obtain rfl := som h
    exact x_iret C w hr hk dX3_upperTail_9
end S_Lt_upperTail
set_option maxRecDepth 100000 in
theorem k_Lt_upperTail (l : Launch) (D : va_G) (T : Cy) (ρ : Nat → Nat) (g sz : Nat) (S : St) {x0 : Int32} {r : Int32} (h : m_Lt_upperTail g x0 = some r) : Mi l Yc D T ρ yX3_upperTail cX3_upperTail 1 (some .int) 0 0 S S r [.int x0] sz :=
  x_in (by decide) (Nat.le_of_ble_eq_true rfl) (fun p e s m below meth c ls C hr hk w hl => w_Lt_upperTail_0 C hr hk w hl h)

theorem dX3_areAlike_0 : decode cX3_areAlike 0 = .ok (.iload_n 0, 1) := by decide +kernel
theorem dX3_areAlike_1 : decode cX3_areAlike 1 = .ok (.iload_n 1, 1) := by decide +kernel
theorem dX3_areAlike_2 : decode cX3_areAlike 2 = .ok (.if_icmp .ne 5, 3) := by decide +kernel
theorem dX3_areAlike_5 : decode cX3_areAlike 5 = .ok (.iconst 1, 1) := by decide +kernel
theorem dX3_areAlike_6 : decode cX3_areAlike 6 = .ok (.ireturn, 1) := by decide +kernel
theorem dX3_areAlike_7 : decode cX3_areAlike 7 = .ok (.iload_n 0, 1) := by decide +kernel
theorem dX3_areAlike_8 : decode cX3_areAlike 8 = .ok (.invokestatic 27, 3) := by decide +kernel
theorem dX3_areAlike_11 : decode cX3_areAlike 11 = .ok (.iconst (-1), 1) := by decide +kernel
theorem dX3_areAlike_12 : decode cX3_areAlike 12 = .ok (.if_icmp .ne 10, 3) := by decide +kernel
theorem dX3_areAlike_15 : decode cX3_areAlike 15 = .ok (.iload_n 0, 1) := by decide +kernel
theorem dX3_areAlike_16 : decode cX3_areAlike 16 = .ok (.invokestatic 31, 3) := by decide +kernel
theorem dX3_areAlike_19 : decode cX3_areAlike 19 = .ok (.goto 4, 3) := by decide +kernel
theorem dX3_areAlike_22 : decode cX3_areAlike 22 = .ok (.iload_n 0, 1) := by decide +kernel
theorem dX3_areAlike_23 : decode cX3_areAlike 23 = .ok (.istore_n 2, 1) := by decide +kernel
theorem dX3_areAlike_24 : decode cX3_areAlike 24 = .ok (.iload_n 1, 1) := by decide +kernel
theorem dX3_areAlike_25 : decode cX3_areAlike 25 = .ok (.invokestatic 27, 3) := by decide +kernel
theorem dX3_areAlike_28 : decode cX3_areAlike 28 = .ok (.iconst (-1), 1) := by decide +kernel
theorem dX3_areAlike_29 : decode cX3_areAlike 29 = .ok (.if_icmp .ne 10, 3) := by decide +kernel
theorem dX3_areAlike_32 : decode cX3_areAlike 32 = .ok (.iload_n 1, 1) := by decide +kernel
theorem dX3_areAlike_33 : decode cX3_areAlike 33 = .ok (.invokestatic 31, 3) := by decide +kernel
theorem dX3_areAlike_36 : decode cX3_areAlike 36 = .ok (.goto 4, 3) := by decide +kernel
theorem dX3_areAlike_39 : decode cX3_areAlike 39 = .ok (.iload_n 1, 1) := by decide +kernel
theorem dX3_areAlike_40 : decode cX3_areAlike 40 = .ok (.istore_n 3, 1) := by decide +kernel
theorem dX3_areAlike_41 : decode cX3_areAlike 41 = .ok (.iload_n 2, 1) := by decide +kernel
theorem dX3_areAlike_42 : decode cX3_areAlike 42 = .ok (.iload_n 3, 1) := by decide +kernel
theorem dX3_areAlike_43 : decode cX3_areAlike 43 = .ok (.if_icmp .eq 14, 3) := by decide +kernel
theorem dX3_areAlike_46 : decode cX3_areAlike 46 = .ok (.iload_n 2, 1) := by decide +kernel
theorem dX3_areAlike_47 : decode cX3_areAlike 47 = .ok (.invokestatic 34, 3) := by decide +kernel
theorem dX3_areAlike_50 : decode cX3_areAlike 50 = .ok (.iload_n 3, 1) := by decide +kernel
theorem dX3_areAlike_51 : decode cX3_areAlike 51 = .ok (.invokestatic 34, 3) := by decide +kernel
theorem dX3_areAlike_54 : decode cX3_areAlike 54 = .ok (.if_icmp .ne 7, 3) := by decide +kernel
theorem dX3_areAlike_57 : decode cX3_areAlike 57 = .ok (.iconst 1, 1) := by decide +kernel
theorem dX3_areAlike_58 : decode cX3_areAlike 58 = .ok (.goto 4, 3) := by decide +kernel
theorem dX3_areAlike_61 : decode cX3_areAlike 61 = .ok (.iconst 0, 1) := by decide +kernel
theorem dX3_areAlike_62 : decode cX3_areAlike 62 = .ok (.ireturn, 1) := by decide +kernel
def m_Lt_areAlike_40 (g : Nat) (x2 : Int32) (y0 : Int32) : Option Int32 :=
if x2 = y0 then (
  some (1 : Int32)
) else (
  (m_Lt_lower g x2).bind fun v_3 =>
  (m_Lt_lower g y0).bind fun v_4 =>
  if v_3 = v_4 then (
    some (1 : Int32)
  ) else (
    some (0 : Int32)
  )
)
def m_Lt_areAlike_23 (g : Nat) (x1 : Int32) (y0 : Int32) : Option Int32 :=
(m_Lt_upperTail g x1).bind fun v_2 =>
if v_2 = (-1 : Int32) then (
  (m_Lt_upper g x1).bind fun v_3 =>
  m_Lt_areAlike_40 g y0 v_3
) else (
  m_Lt_areAlike_40 g y0 x1
)
def m_Lt_areAlike (g : Nat) (x0 : Int32) (x1 : Int32) : Option Int32 :=
if x0 = x1 then (
  some (1 : Int32)
) else (
  (m_Lt_upperTail g x0).bind fun v_1 =>
  if v_1 = (-1 : Int32) then (
    (m_Lt_upper g x0).bind fun v_2 =>
    m_Lt_areAlike_23 g x1 v_2
  ) else (
    m_Lt_areAlike_23 g x1 x0
  )
)
section S_Lt_areAlike
variable {p : Program} {l : Launch} {e : Env} {s : State} {m : MethodId} {args : Array Value} {below : List Frame} {meth : Method} {c : Code} {H : Heap} {locs : List Loc} {ls : Array Slot} {D : va_G} {T : Cy} {ρ : Nat → Nat} {A : Nat → Prop}
set_option maxRecDepth 100000 in
set_option maxHeartbeats 4000000 in
theorem w_Lt_areAlike_40  {g : Nat} {S : St} {x2 : Int32} {y0 : Int32} (C : CallFix p m c cX3_areAlike 4 s args tb RX3) (hr : meth.sig.returnType = (some .boolean)) (hk : meth.locks = false) {r : Int32} (w : Wn Yc D T ρ S A s H locs) (hl : lv_has ls 4 [(2, .int x2)]) (h : m_Lt_areAlike_40 g x2 y0 = some r) : W p l e (rmN 2 40) s m args below meth c H locs 0 0 (MQ below (Qi Yc D T ρ A S r) args s 0 0 A) (F0 m 40 ls [.int y0]) := by
  unfold m_Lt_areAlike_40 at h
  refine lv_istore_n (lv' := [(3, .int y0), (2, .int x2)]) C.1 C.2.1 dX3_areAlike_40 rfl hl (by decide) rfl (fun ls hl => ?_)
  refine lv_iload_n C.1 C.2.1 dX3_areAlike_41 rfl (lv_at hl 1 rfl) ?_
  refine lv_iload_n C.1 C.2.1 dX3_areAlike_42 rfl (lv_at hl 0 rfl) ?_
  refine lv_icmp_eq (tgt := 57) C.1 C.2.1 dX3_areAlike_43 (by decide) (fun hc => ?_) (fun hc => ?_)
  · replace h := ift hc h
    refine lv_iconst (v := 1) C.1 C.2.1 dX3_areAlike_57 (by decide) ?_
    refine lv_goto (tgt := 62) C.1 C.2.1 dX3_areAlike_58 (by decide) ?_
    obtain rfl := som h
    exact x_zret C w hr hk (by decide) dX3_areAlike_62
  · replace h := iff0 hc h
    refine lv_iload_n C.1 C.2.1 dX3_areAlike_46 rfl (lv_at hl 1 rfl) ?_
    obtain ⟨v_3, hv_3, h⟩ := bnd h
    refine x_callSi (As := [.int x2]) (rest := []) C w (k_Lt_lower l D T ρ g H.size S hv_3) vX3_34 ⟨by decide, by decide⟩ rfl rfl hl.1 (Nat.le_of_ble_eq_true rfl) ⟨Nat.zero_le _, Nat.zero_le _⟩ dX3_areAlike_47 (fun H locs w => ?_)
    refine lv_iload_n C.1 C.2.1 dX3_areAlike_50 rfl (lv_at hl 0 rfl) ?_
    obtain ⟨v_4, hv_4, h⟩ := bnd h
    refine x_callSi (As := [.int y0]) (rest := [.int v_3]) C w (k_Lt_lower l D T ρ g H.size S hv_4) vX3_34 ⟨by decide, by decide⟩ rfl rfl hl.1 (Nat.le_of_ble_eq_true rfl) ⟨Nat.zero_le _, Nat.zero_le _⟩ dX3_areAlike_51 (fun H locs w => ?_)
    refine lv_icmp_ne (tgt := 61) C.1 C.2.1 dX3_areAlike_54 (by decide) (fun hc => ?_) (fun hc => ?_)
    · replace h := iff0 hc h
      refine lv_iconst (v := 0) C.1 C.2.1 dX3_areAlike_61 (by decide) ?_
      obtain rfl := som h
      exact x_zret C w hr hk (by decide) dX3_areAlike_62
    · replace h := ift hc h
      refine lv_iconst (v := 1) C.1 C.2.1 dX3_areAlike_57 (by decide) ?_
      refine lv_goto (tgt := 62) C.1 C.2.1 dX3_areAlike_58 (by decide) ?_
      obtain rfl := som h
      exact x_zret C w hr hk (by decide) dX3_areAlike_62
set_option maxRecDepth 100000 in
set_option maxHeartbeats 4000000 in
theorem w_Lt_areAlike_23  {g : Nat} {S : St} {x1 : Int32} {y0 : Int32} (C : CallFix p m c cX3_areAlike 4 s args tb RX3) (hr : meth.sig.returnType = (some .boolean)) (hk : meth.locks = false) {r : Int32} (w : Wn Yc D T ρ S A s H locs) (hl : lv_has ls 4 [(1, .int x1)]) (h : m_Lt_areAlike_23 g x1 y0 = some r) : W p l e (rmN 2 40) s m args below meth c H locs 0 0 (MQ below (Qi Yc D T ρ A S r) args s 0 0 A) (F0 m 23 ls [.int y0]) := by
  unfold m_Lt_areAlike_23 at h
  refine lv_istore_n (lv' := [(2, .int y0), (1, .int x1)]) C.1 C.2.1 dX3_areAlike_23 rfl hl (by decide) rfl (fun ls hl => ?_)
  refine lv_iload_n C.1 C.2.1 dX3_areAlike_24 rfl (lv_at hl 1 rfl) ?_
  obtain ⟨v_2, hv_2, h⟩ := bnd h
  refine x_callSi (As := [.int x1]) (rest := []) C w (k_Lt_upperTail l D T ρ g H.size S hv_2) vX3_27 ⟨by decide, by decide⟩ rfl rfl hl.1 (Nat.le_of_ble_eq_true rfl) ⟨Nat.zero_le _, Nat.zero_le _⟩ dX3_areAlike_25 (fun H locs w => ?_)
  refine lv_iconst (v := (-1)) C.1 C.2.1 dX3_areAlike_28 (by decide) ?_
  refine lv_icmp_ne (tgt := 39) C.1 C.2.1 dX3_areAlike_29 (by decide) (fun hc => ?_) (fun hc => ?_)
  · replace h := iff0 hc h
    refine lv_iload_n C.1 C.2.1 dX3_areAlike_39 rfl (lv_at hl 1 rfl) ?_
    exact w_Lt_areAlike_40 C hr hk w (lv_sub hl [0] rfl) h
  · replace h := ift hc h
    refine lv_iload_n C.1 C.2.1 dX3_areAlike_32 rfl (lv_at hl 1 rfl) ?_
    obtain ⟨v_3, hv_3, h⟩ := bnd h
    refine x_callSi (As := [.int x1]) (rest := []) C w (k_Lt_upper l D T ρ g H.size S hv_3) vX3_31 ⟨by decide, by decide⟩ rfl rfl hl.1 (Nat.le_of_ble_eq_true rfl) ⟨Nat.zero_le _, Nat.zero_le _⟩ dX3_areAlike_33 (fun H locs w => ?_)
    refine lv_goto (tgt := 40) C.1 C.2.1 dX3_areAlike_36 (by decide) ?_
    exact w_Lt_areAlike_40 C hr hk w (lv_sub hl [0] rfl) h
set_option maxRecDepth 100000 in
set_option maxHeartbeats 4000000 in
theorem w_Lt_areAlike_0  {g : Nat} {S : St} {x0 : Int32} {x1 : Int32} (C : CallFix p m c cX3_areAlike 4 s args tb RX3) (hr : meth.sig.returnType = (some .boolean)) (hk : meth.locks = false) {r : Int32} (w : Wn Yc D T ρ S A s H locs) (hl : lv_has ls 4 [(0, .int x0), (1, .int x1)]) (h : m_Lt_areAlike g x0 x1 = some r) : W p l e (rmN 2 40) s m args below meth c H locs 0 0 (MQ below (Qi Yc D T ρ A S r) args s 0 0 A) (F0 m 0 ls []) := by
  unfold m_Lt_areAlike at h
  refine lv_iload_n C.1 C.2.1 dX3_areAlike_0 rfl (lv_at hl 0 rfl) ?_
  refine lv_iload_n C.1 C.2.1 dX3_areAlike_1 rfl (lv_at hl 1 rfl) ?_
  refine lv_icmp_ne (tgt := 7) C.1 C.2.1 dX3_areAlike_2 (by decide) (fun hc => ?_) (fun hc => ?_)
  · replace h := iff0 hc h
    refine lv_iload_n C.1 C.2.1 dX3_areAlike_7 rfl (lv_at hl 0 rfl) ?_
    obtain ⟨v_1, hv_1, h⟩ := bnd h
    refine x_callSi (As := [.int x0]) (rest := []) C w (k_Lt_upperTail l D T ρ g H.size S hv_1) vX3_27 ⟨by decide, by decide⟩ rfl rfl hl.1 (Nat.le_of_ble_eq_true rfl) ⟨Nat.zero_le _, Nat.zero_le _⟩ dX3_areAlike_8 (fun H locs w => ?_)
    refine lv_iconst (v := (-1)) C.1 C.2.1 dX3_areAlike_11 (by decide) ?_
    refine lv_icmp_ne (tgt := 22) C.1 C.2.1 dX3_areAlike_12 (by decide) (fun hc => ?_) (fun hc => ?_)
    · replace h := iff0 hc h
      refine lv_iload_n C.1 C.2.1 dX3_areAlike_22 rfl (lv_at hl 0 rfl) ?_
      exact w_Lt_areAlike_23 C hr hk w (lv_sub hl [1] rfl) h
    · replace h := ift hc h
      refine lv_iload_n C.1 C.2.1 dX3_areAlike_15 rfl (lv_at hl 0 rfl) ?_
      obtain ⟨v_2, hv_2, h⟩ := bnd h
      refine x_callSi (As := [.int x0]) (rest := []) C w (k_Lt_upper l D T ρ g H.size S hv_2) vX3_31 ⟨by decide, by decide⟩ rfl rfl hl.1 (Nat.le_of_ble_eq_true rfl) ⟨Nat.zero_le _, Nat.zero_le _⟩ dX3_areAlike_16 (fun H locs w => ?_)
      refine lv_goto (tgt := 23) C.1 C.2.1 dX3_areAlike_19 (by decide) ?_
      exact w_Lt_areAlike_23 C hr hk w (lv_sub hl [1] rfl) h
  · replace h := ift hc h
    refine lv_iconst (v := 1) C.1 C.2.1 dX3_areAlike_5 (by decide) ?_
    obtain rfl := som h
    exact x_zret C w hr hk (by decide) dX3_areAlike_6
end S_Lt_areAlike
set_option maxRecDepth 100000 in
theorem k_Lt_areAlike (l : Launch) (D : va_G) (T : Cy) (ρ : Nat → Nat) (g sz : Nat) (S : St) {x0 : Int32} {x1 : Int32} {r : Int32} (h : m_Lt_areAlike g x0 x1 = some r) : Mi l Yc D T ρ yX3_areAlike cX3_areAlike 4 (some .boolean) 2 40 S S r [.int x0, .int x1] sz :=
  x_in (by decide) (Nat.le_of_ble_eq_true rfl) (fun p e s m below meth c ls C hr hk w hl => w_Lt_areAlike_0 C hr hk w hl h)

theorem dX3_digit_0 : decode cX3_digit 0 = .ok (.iconst (-1), 1) := by decide +kernel
theorem dX3_digit_1 : decode cX3_digit 1 = .ok (.istore_n 2, 1) := by decide +kernel
theorem dX3_digit_2 : decode cX3_digit 2 = .ok (.iload_n 0, 1) := by decide +kernel
theorem dX3_digit_3 : decode cX3_digit 3 = .ok (.bipush 48, 2) := by decide +kernel
theorem dX3_digit_5 : decode cX3_digit 5 = .ok (.if_icmp .lt 17, 3) := by decide +kernel
theorem dX3_digit_8 : decode cX3_digit 8 = .ok (.iload_n 0, 1) := by decide +kernel
theorem dX3_digit_9 : decode cX3_digit 9 = .ok (.bipush 57, 2) := by decide +kernel
theorem dX3_digit_11 : decode cX3_digit 11 = .ok (.if_icmp .gt 11, 3) := by decide +kernel
theorem dX3_digit_14 : decode cX3_digit 14 = .ok (.iload_n 0, 1) := by decide +kernel
theorem dX3_digit_15 : decode cX3_digit 15 = .ok (.bipush 48, 2) := by decide +kernel
theorem dX3_digit_17 : decode cX3_digit 17 = .ok (.isub, 1) := by decide +kernel
theorem dX3_digit_18 : decode cX3_digit 18 = .ok (.istore_n 2, 1) := by decide +kernel
theorem dX3_digit_19 : decode cX3_digit 19 = .ok (.goto 46, 3) := by decide +kernel
theorem dX3_digit_22 : decode cX3_digit 22 = .ok (.iload_n 0, 1) := by decide +kernel
theorem dX3_digit_23 : decode cX3_digit 23 = .ok (.bipush 97, 2) := by decide +kernel
theorem dX3_digit_25 : decode cX3_digit 25 = .ok (.if_icmp .lt 20, 3) := by decide +kernel
theorem dX3_digit_28 : decode cX3_digit 28 = .ok (.iload_n 0, 1) := by decide +kernel
theorem dX3_digit_29 : decode cX3_digit 29 = .ok (.bipush 122, 2) := by decide +kernel
theorem dX3_digit_31 : decode cX3_digit 31 = .ok (.if_icmp .gt 14, 3) := by decide +kernel
theorem dX3_digit_34 : decode cX3_digit 34 = .ok (.bipush 10, 2) := by decide +kernel
theorem dX3_digit_36 : decode cX3_digit 36 = .ok (.iload_n 0, 1) := by decide +kernel
theorem dX3_digit_37 : decode cX3_digit 37 = .ok (.iadd, 1) := by decide +kernel
theorem dX3_digit_38 : decode cX3_digit 38 = .ok (.bipush 97, 2) := by decide +kernel
theorem dX3_digit_40 : decode cX3_digit 40 = .ok (.isub, 1) := by decide +kernel
theorem dX3_digit_41 : decode cX3_digit 41 = .ok (.istore_n 2, 1) := by decide +kernel
theorem dX3_digit_42 : decode cX3_digit 42 = .ok (.goto 23, 3) := by decide +kernel
theorem dX3_digit_45 : decode cX3_digit 45 = .ok (.iload_n 0, 1) := by decide +kernel
theorem dX3_digit_46 : decode cX3_digit 46 = .ok (.bipush 65, 2) := by decide +kernel
theorem dX3_digit_48 : decode cX3_digit 48 = .ok (.if_icmp .lt 17, 3) := by decide +kernel
theorem dX3_digit_51 : decode cX3_digit 51 = .ok (.iload_n 0, 1) := by decide +kernel
theorem dX3_digit_52 : decode cX3_digit 52 = .ok (.bipush 90, 2) := by decide +kernel
theorem dX3_digit_54 : decode cX3_digit 54 = .ok (.if_icmp .gt 11, 3) := by decide +kernel
theorem dX3_digit_57 : decode cX3_digit 57 = .ok (.bipush 10, 2) := by decide +kernel
theorem dX3_digit_59 : decode cX3_digit 59 = .ok (.iload_n 0, 1) := by decide +kernel
theorem dX3_digit_60 : decode cX3_digit 60 = .ok (.iadd, 1) := by decide +kernel
theorem dX3_digit_61 : decode cX3_digit 61 = .ok (.bipush 65, 2) := by decide +kernel
theorem dX3_digit_63 : decode cX3_digit 63 = .ok (.isub, 1) := by decide +kernel
theorem dX3_digit_64 : decode cX3_digit 64 = .ok (.istore_n 2, 1) := by decide +kernel
theorem dX3_digit_65 : decode cX3_digit 65 = .ok (.iload_n 2, 1) := by decide +kernel
theorem dX3_digit_66 : decode cX3_digit 66 = .ok (.iload_n 1, 1) := by decide +kernel
theorem dX3_digit_67 : decode cX3_digit 67 = .ok (.if_icmp .ge 7, 3) := by decide +kernel
theorem dX3_digit_70 : decode cX3_digit 70 = .ok (.iload_n 2, 1) := by decide +kernel
theorem dX3_digit_71 : decode cX3_digit 71 = .ok (.goto 4, 3) := by decide +kernel
theorem dX3_digit_74 : decode cX3_digit 74 = .ok (.iconst (-1), 1) := by decide +kernel
theorem dX3_digit_75 : decode cX3_digit 75 = .ok (.ireturn, 1) := by decide +kernel
def m_Lt_digit_65 (g : Nat) (x1 : Int32) (x2 : Int32) : Option Int32 :=
if x1 ≤ x2 then (
  some (-1 : Int32)
) else (
  some x2
)
def m_Lt_digit_45 (g : Nat) (x0 : Int32) (x1 : Int32) (x2 : Int32) : Option Int32 :=
if x0 < (65 : Int32) then (
  m_Lt_digit_65 g x1 x2
) else (
  if (90 : Int32) < x0 then (
    m_Lt_digit_65 g x1 x2
  ) else (
    lt (((10 : Int32) + x0) - (65 : Int32)) fun x2_1 =>
    m_Lt_digit_65 g x1 x2_1
  )
)
def m_Lt_digit_22 (g : Nat) (x0 : Int32) (x1 : Int32) (x2 : Int32) : Option Int32 :=
if x0 < (97 : Int32) then (
  m_Lt_digit_45 g x0 x1 x2
) else (
  if (122 : Int32) < x0 then (
    m_Lt_digit_45 g x0 x1 x2
  ) else (
    lt (((10 : Int32) + x0) - (97 : Int32)) fun x2_1 =>
    m_Lt_digit_65 g x1 x2_1
  )
)
def m_Lt_digit (g : Nat) (x0 : Int32) (x1 : Int32) : Option Int32 :=
if x0 < (48 : Int32) then (
  m_Lt_digit_22 g x0 x1 (-1 : Int32)
) else (
  if (57 : Int32) < x0 then (
    m_Lt_digit_22 g x0 x1 (-1 : Int32)
  ) else (
    lt (x0 - (48 : Int32)) fun x2_1 =>
    m_Lt_digit_65 g x1 x2_1
  )
)
section S_Lt_digit
variable {p : Program} {l : Launch} {e : Env} {s : State} {m : MethodId} {args : Array Value} {below : List Frame} {meth : Method} {c : Code} {H : Heap} {locs : List Loc} {ls : Array Slot} {D : va_G} {T : Cy} {ρ : Nat → Nat} {A : Nat → Prop}
set_option maxRecDepth 100000 in
set_option maxHeartbeats 4000000 in
theorem w_Lt_digit_65  {g : Nat} {S : St} {x1 : Int32} {x2 : Int32} (C : CallFix p m c cX3_digit 3 s args tb RX3) (hr : meth.sig.returnType = (some .int)) (hk : meth.locks = false) {r : Int32} (w : Wn Yc D T ρ S A s H locs) (hl : lv_has ls 3 [(1, .int x1), (2, .int x2)]) (h : m_Lt_digit_65 g x1 x2 = some r) : W p l e (rmN 0 0) s m args below meth c H locs 0 0 (MQ below (Qi Yc D T ρ A S r) args s 0 0 A) (F0 m 65 ls []) := by
  unfold m_Lt_digit_65 at h
  refine lv_iload_n C.1 C.2.1 dX3_digit_65 rfl (lv_at hl 1 rfl) ?_
  refine lv_iload_n C.1 C.2.1 dX3_digit_66 rfl (lv_at hl 0 rfl) ?_
  refine lv_icmp_ge (tgt := 74) C.1 C.2.1 dX3_digit_67 (by decide) (fun hc => ?_) (fun hc => ?_)
  · replace h := ift hc h
    refine lv_iconst (v := (-1)) C.1 C.2.1 dX3_digit_74 (by decide) ?_
    obtain rfl := som h
    exact x_iret C w hr hk dX3_digit_75
  · replace h := iff0 hc h
    refine lv_iload_n C.1 C.2.1 dX3_digit_70 rfl (lv_at hl 1 rfl) ?_
    refine lv_goto (tgt := 75) C.1 C.2.1 dX3_digit_71 (by decide) ?_
    obtain rfl := som h
    exact x_iret C w hr hk dX3_digit_75
set_option maxRecDepth 100000 in
set_option maxHeartbeats 4000000 in
theorem w_Lt_digit_45  {g : Nat} {S : St} {x0 : Int32} {x1 : Int32} {x2 : Int32} (C : CallFix p m c cX3_digit 3 s args tb RX3) (hr : meth.sig.returnType = (some .int)) (hk : meth.locks = false) {r : Int32} (w : Wn Yc D T ρ S A s H locs) (hl : lv_has ls 3 [(0, .int x0), (1, .int x1), (2, .int x2)]) (h : m_Lt_digit_45 g x0 x1 x2 = some r) : W p l e (rmN 0 0) s m args below meth c H locs 0 0 (MQ below (Qi Yc D T ρ A S r) args s 0 0 A) (F0 m 45 ls []) := by
  unfold m_Lt_digit_45 at h
  refine lv_iload_n C.1 C.2.1 dX3_digit_45 rfl (lv_at hl 0 rfl) ?_
  refine lv_bipush (v := 65) C.1 C.2.1 dX3_digit_46 (by decide) ?_
  refine lv_icmp_lt (tgt := 65) C.1 C.2.1 dX3_digit_48 (by decide) (fun hc => ?_) (fun hc => ?_)
  · replace h := ift hc h
    exact w_Lt_digit_65 C hr hk w (lv_sub hl [1, 2] rfl) h
  · replace h := iff0 hc h
    refine lv_iload_n C.1 C.2.1 dX3_digit_51 rfl (lv_at hl 0 rfl) ?_
    refine lv_bipush (v := 90) C.1 C.2.1 dX3_digit_52 (by decide) ?_
    refine lv_icmp_gt (tgt := 65) C.1 C.2.1 dX3_digit_54 (by decide) (fun hc => ?_) (fun hc => ?_)
    · replace h := ift hc h
      exact w_Lt_digit_65 C hr hk w (lv_sub hl [1, 2] rfl) h
    · replace h := iff0 hc h
      refine lv_bipush (v := 10) C.1 C.2.1 dX3_digit_57 (by decide) ?_
      refine lv_iload_n C.1 C.2.1 dX3_digit_59 rfl (lv_at hl 0 rfl) ?_
      refine lv_iadd C.1 C.2.1 dX3_digit_60 ?_
      refine lv_bipush (v := 65) C.1 C.2.1 dX3_digit_61 (by decide) ?_
      refine lv_isub C.1 C.2.1 dX3_digit_63 ?_
      obtain ⟨x2_1, ex2_1, h⟩ := lt_e h
      refine x_nm ex2_1 ?_
      refine lv_istore_n (lv' := [(2, .int x2_1), (0, .int x0), (1, .int x1)]) C.1 C.2.1 dX3_digit_64 rfl hl (by decide) rfl (fun ls hl => ?_)
      exact w_Lt_digit_65 C hr hk w (lv_sub hl [2, 0] rfl) h
set_option maxRecDepth 100000 in
set_option maxHeartbeats 4000000 in
theorem w_Lt_digit_22  {g : Nat} {S : St} {x0 : Int32} {x1 : Int32} {x2 : Int32} (C : CallFix p m c cX3_digit 3 s args tb RX3) (hr : meth.sig.returnType = (some .int)) (hk : meth.locks = false) {r : Int32} (w : Wn Yc D T ρ S A s H locs) (hl : lv_has ls 3 [(0, .int x0), (1, .int x1), (2, .int x2)]) (h : m_Lt_digit_22 g x0 x1 x2 = some r) : W p l e (rmN 0 0) s m args below meth c H locs 0 0 (MQ below (Qi Yc D T ρ A S r) args s 0 0 A) (F0 m 22 ls []) := by
  unfold m_Lt_digit_22 at h
  refine lv_iload_n C.1 C.2.1 dX3_digit_22 rfl (lv_at hl 0 rfl) ?_
  refine lv_bipush (v := 97) C.1 C.2.1 dX3_digit_23 (by decide) ?_
  refine lv_icmp_lt (tgt := 45) C.1 C.2.1 dX3_digit_25 (by decide) (fun hc => ?_) (fun hc => ?_)
  · replace h := ift hc h
    exact w_Lt_digit_45 C hr hk w (lv_sub hl [0, 1, 2] rfl) h
  · replace h := iff0 hc h
    refine lv_iload_n C.1 C.2.1 dX3_digit_28 rfl (lv_at hl 0 rfl) ?_
    refine lv_bipush (v := 122) C.1 C.2.1 dX3_digit_29 (by decide) ?_
    refine lv_icmp_gt (tgt := 45) C.1 C.2.1 dX3_digit_31 (by decide) (fun hc => ?_) (fun hc => ?_)
    · replace h := ift hc h
      exact w_Lt_digit_45 C hr hk w (lv_sub hl [0, 1, 2] rfl) h
    · replace h := iff0 hc h
      refine lv_bipush (v := 10) C.1 C.2.1 dX3_digit_34 (by decide) ?_
      refine lv_iload_n C.1 C.2.1 dX3_digit_36 rfl (lv_at hl 0 rfl) ?_
      refine lv_iadd C.1 C.2.1 dX3_digit_37 ?_
      refine lv_bipush (v := 97) C.1 C.2.1 dX3_digit_38 (by decide) ?_
      refine lv_isub C.1 C.2.1 dX3_digit_40 ?_
      obtain ⟨x2_1, ex2_1, h⟩ := lt_e h
      refine x_nm ex2_1 ?_
      refine lv_istore_n (lv' := [(2, .int x2_1), (0, .int x0), (1, .int x1)]) C.1 C.2.1 dX3_digit_41 rfl hl (by decide) rfl (fun ls hl => ?_)
      refine lv_goto (tgt := 65) C.1 C.2.1 dX3_digit_42 (by decide) ?_
      exact w_Lt_digit_65 C hr hk w (lv_sub hl [2, 0] rfl) h
set_option maxRecDepth 100000 in
set_option maxHeartbeats 4000000 in
theorem w_Lt_digit_0  {g : Nat} {S : St} {x0 : Int32} {x1 : Int32} (C : CallFix p m c cX3_digit 3 s args tb RX3) (hr : meth.sig.returnType = (some .int)) (hk : meth.locks = false) {r : Int32} (w : Wn Yc D T ρ S A s H locs) (hl : lv_has ls 3 [(0, .int x0), (1, .int x1)]) (h : m_Lt_digit g x0 x1 = some r) : W p l e (rmN 0 0) s m args below meth c H locs 0 0 (MQ below (Qi Yc D T ρ A S r) args s 0 0 A) (F0 m 0 ls []) := by
  unfold m_Lt_digit at h
  refine lv_iconst (v := (-1)) C.1 C.2.1 dX3_digit_0 (by decide) ?_
  refine lv_istore_n (lv' := [(2, .int (-1 : Int32)), (0, .int x0), (1, .int x1)]) C.1 C.2.1 dX3_digit_1 rfl hl (by decide) rfl (fun ls hl => ?_)
  refine lv_iload_n C.1 C.2.1 dX3_digit_2 rfl (lv_at hl 1 rfl) ?_
  refine lv_bipush (v := 48) C.1 C.2.1 dX3_digit_3 (by decide) ?_
  refine lv_icmp_lt (tgt := 22) C.1 C.2.1 dX3_digit_5 (by decide) (fun hc => ?_) (fun hc => ?_)
  · replace h := ift hc h
    exact w_Lt_digit_22 C hr hk w (lv_sub hl [1, 2, 0] rfl) h
  · replace h := iff0 hc h
    refine lv_iload_n C.1 C.2.1 dX3_digit_8 rfl (lv_at hl 1 rfl) ?_
    refine lv_bipush (v := 57) C.1 C.2.1 dX3_digit_9 (by decide) ?_
    refine lv_icmp_gt (tgt := 22) C.1 C.2.1 dX3_digit_11 (by decide) (fun hc => ?_) (fun hc => ?_)
    · replace h := ift hc h
      exact w_Lt_digit_22 C hr hk w (lv_sub hl [1, 2, 0] rfl) h
    · replace h := iff0 hc h
      refine lv_iload_n C.1 C.2.1 dX3_digit_14 rfl (lv_at hl 1 rfl) ?_
      refine lv_bipush (v := 48) C.1 C.2.1 dX3_digit_15 (by decide) ?_
      refine lv_isub C.1 C.2.1 dX3_digit_17 ?_
      obtain ⟨x2_1, ex2_1, h⟩ := lt_e h
      refine x_nm ex2_1 ?_
      refine lv_istore_n (lv' := [(2, .int x2_1), (0, .int x0), (1, .int x1)]) C.1 C.2.1 dX3_digit_18 rfl hl (by decide) rfl (fun ls hl => ?_)
      refine lv_goto (tgt := 65) C.1 C.2.1 dX3_digit_19 (by decide) ?_
      exact w_Lt_digit_65 C hr hk w (lv_sub hl [2, 0] rfl) h
end S_Lt_digit
set_option maxRecDepth 100000 in
theorem k_Lt_digit (l : Launch) (D : va_G) (T : Cy) (ρ : Nat → Nat) (g sz : Nat) (S : St) {x0 : Int32} {x1 : Int32} {r : Int32} (h : m_Lt_digit g x0 x1 = some r) : Mi l Yc D T ρ yX3_digit cX3_digit 3 (some .int) 0 0 S S r [.int x0, .int x1] sz :=
  x_in (by decide) (Nat.le_of_ble_eq_true rfl) (fun p e s m below meth c ls C hr hk w hl => w_Lt_digit_0 C hr hk w hl h)

theorem dX3_minusTold_0 : decode cX3_minusTold 0 = .ok (.iload_n 1, 1) := by decide +kernel
theorem dX3_minusTold_1 : decode cX3_minusTold 1 = .ok (.iload_n 2, 1) := by decide +kernel
theorem dX3_minusTold_2 : decode cX3_minusTold 2 = .ok (.if_icmp .ge 14, 3) := by decide +kernel
theorem dX3_minusTold_5 : decode cX3_minusTold 5 = .ok (.iload_n 3, 1) := by decide +kernel
theorem dX3_minusTold_6 : decode cX3_minusTold 6 = .ok (.iconst 2, 1) := by decide +kernel
theorem dX3_minusTold_7 : decode cX3_minusTold 7 = .ok (.if_icmp .lt 9, 3) := by decide +kernel
theorem dX3_minusTold_10 : decode cX3_minusTold 10 = .ok (.iload_n 3, 1) := by decide +kernel
theorem dX3_minusTold_11 : decode cX3_minusTold 11 = .ok (.bipush 36, 2) := by decide +kernel
theorem dX3_minusTold_13 : decode cX3_minusTold 13 = .ok (.if_icmp .le 5, 3) := by decide +kernel
theorem dX3_minusTold_16 : decode cX3_minusTold 16 = .ok (.lconst 1, 1) := by decide +kernel
theorem dX3_minusTold_17 : decode cX3_minusTold 17 = .ok (.lreturn, 1) := by decide +kernel
theorem dX3_minusTold_18 : decode cX3_minusTold 18 = .ok (.lconst 0, 1) := by decide +kernel
theorem dX3_minusTold_19 : decode cX3_minusTold 19 = .ok (.lstore 4, 2) := by decide +kernel
theorem dX3_minusTold_21 : decode cX3_minusTold 21 = .ok (.iload_n 1, 1) := by decide +kernel
theorem dX3_minusTold_22 : decode cX3_minusTold 22 = .ok (.istore 6, 2) := by decide +kernel
theorem dX3_minusTold_24 : decode cX3_minusTold 24 = .ok (.iload 6, 2) := by decide +kernel
theorem dX3_minusTold_26 : decode cX3_minusTold 26 = .ok (.iload_n 2, 1) := by decide +kernel
theorem dX3_minusTold_27 : decode cX3_minusTold 27 = .ok (.if_icmp .ge 56, 3) := by decide +kernel
theorem dX3_minusTold_30 : decode cX3_minusTold 30 = .ok (.aload_n 0, 1) := by decide +kernel
theorem dX3_minusTold_31 : decode cX3_minusTold 31 = .ok (.iload 6, 2) := by decide +kernel
theorem dX3_minusTold_33 : decode cX3_minusTold 33 = .ok (.invokevirtual 37, 3) := by decide +kernel
theorem dX3_minusTold_36 : decode cX3_minusTold 36 = .ok (.iload_n 3, 1) := by decide +kernel
theorem dX3_minusTold_37 : decode cX3_minusTold 37 = .ok (.invokestatic 42, 3) := by decide +kernel
theorem dX3_minusTold_40 : decode cX3_minusTold 40 = .ok (.istore 7, 2) := by decide +kernel
theorem dX3_minusTold_42 : decode cX3_minusTold 42 = .ok (.iload 7, 2) := by decide +kernel
theorem dX3_minusTold_44 : decode cX3_minusTold 44 = .ok (.iconst (-1), 1) := by decide +kernel
theorem dX3_minusTold_45 : decode cX3_minusTold 45 = .ok (.if_icmp .eq 19, 3) := by decide +kernel
theorem dX3_minusTold_48 : decode cX3_minusTold 48 = .ok (.lload 4, 2) := by decide +kernel
theorem dX3_minusTold_50 : decode cX3_minusTold 50 = .ok (.ldc2_w 46, 3) := by decide +kernel
theorem dX3_minusTold_53 : decode cX3_minusTold 53 = .ok (.iload 7, 2) := by decide +kernel
theorem dX3_minusTold_55 : decode cX3_minusTold 55 = .ok (.i2l, 1) := by decide +kernel
theorem dX3_minusTold_56 : decode cX3_minusTold 56 = .ok (.ladd, 1) := by decide +kernel
theorem dX3_minusTold_57 : decode cX3_minusTold 57 = .ok (.iload_n 3, 1) := by decide +kernel
theorem dX3_minusTold_58 : decode cX3_minusTold 58 = .ok (.i2l, 1) := by decide +kernel
theorem dX3_minusTold_59 : decode cX3_minusTold 59 = .ok (.ldiv, 1) := by decide +kernel
theorem dX3_minusTold_60 : decode cX3_minusTold 60 = .ok (.lcmp, 1) := by decide +kernel
theorem dX3_minusTold_61 : decode cX3_minusTold 61 = .ok (.ifCond .ge 5, 3) := by decide +kernel
theorem dX3_minusTold_64 : decode cX3_minusTold 64 = .ok (.lconst 1, 1) := by decide +kernel
theorem dX3_minusTold_65 : decode cX3_minusTold 65 = .ok (.lreturn, 1) := by decide +kernel
theorem dX3_minusTold_66 : decode cX3_minusTold 66 = .ok (.lload 4, 2) := by decide +kernel
theorem dX3_minusTold_68 : decode cX3_minusTold 68 = .ok (.iload_n 3, 1) := by decide +kernel
theorem dX3_minusTold_69 : decode cX3_minusTold 69 = .ok (.i2l, 1) := by decide +kernel
theorem dX3_minusTold_70 : decode cX3_minusTold 70 = .ok (.lmul, 1) := by decide +kernel
theorem dX3_minusTold_71 : decode cX3_minusTold 71 = .ok (.iload 7, 2) := by decide +kernel
theorem dX3_minusTold_73 : decode cX3_minusTold 73 = .ok (.i2l, 1) := by decide +kernel
theorem dX3_minusTold_74 : decode cX3_minusTold 74 = .ok (.lsub, 1) := by decide +kernel
theorem dX3_minusTold_75 : decode cX3_minusTold 75 = .ok (.lstore 4, 2) := by decide +kernel
theorem dX3_minusTold_77 : decode cX3_minusTold 77 = .ok (.iinc 6 1, 3) := by decide +kernel
theorem dX3_minusTold_80 : decode cX3_minusTold 80 = .ok (.goto (-56), 3) := by decide +kernel
theorem dX3_minusTold_83 : decode cX3_minusTold 83 = .ok (.lload 4, 2) := by decide +kernel
theorem dX3_minusTold_85 : decode cX3_minusTold 85 = .ok (.lreturn, 1) := by decide +kernel
def b_Lt_minusTold_24 (g : Nat) (S : St) (k24 : Nat → Int32 → Int32 → Int64 → Int32 → Option Int64) (x0 : Nat) (x2 : Int32) (x3 : Int32) (x4 : Int64) (x6 : Int32) : Option Int64 :=
if x2 ≤ x6 then (
  some x4
) else (
  (m_Row_at g S x0 x6).bind fun v_1 =>
  (m_Lt_digit g v_1 x3).bind fun v_2 =>
  if v_2 = (-1 : Int32) then (
    some (1 : Int64)
  ) else (
    if (x3.toInt64) = 0 then none else
    if x4 < (((-9223372036854775808 : Int64) + (v_2.toInt64)) / (x3.toInt64)) then (
      some (1 : Int64)
    ) else (
      lt ((x4 * (x3.toInt64)) - (v_2.toInt64)) fun x4_4 =>
      lt (x6 + (1 : Int32)) fun x6_5 =>
      k24 x0 x2 x3 x4_4 x6_5
    )
  )
)
def m_Lt_minusTold_24 (g : Nat) (S : St) : Nat → Nat → Int32 → Int32 → Int64 → Int32 → Option Int64
  | 0, _, _, _, _, _ => none
  | n + 1, x0, x2, x3, x4, x6 => b_Lt_minusTold_24 g S (m_Lt_minusTold_24 g S n) x0 x2 x3 x4 x6
def m_Lt_minusTold (g : Nat) (S : St) (x0 : Nat) (x1 : Int32) (x2 : Int32) (x3 : Int32) : Option Int64 :=
if x2 ≤ x1 then (
  some (1 : Int64)
) else (
  if x3 < (2 : Int32) then (
    some (1 : Int64)
  ) else (
    if x3 ≤ (36 : Int32) then (
      m_Lt_minusTold_24 g S g x0 x2 x3 (0 : Int64) x1
    ) else (
      some (1 : Int64)
    )
  )
)
section S_Lt_minusTold
variable {p : Program} {l : Launch} {e : Env} {s : State} {m : MethodId} {args : Array Value} {below : List Frame} {meth : Method} {c : Code} {H : Heap} {locs : List Loc} {ls : Array Slot} {D : va_G} {T : Cy} {ρ : Nat → Nat} {A : Nat → Prop}
set_option maxRecDepth 100000 in
set_option maxHeartbeats 4000000 in
theorem wb_Lt_minusTold_24  {g : Nat} {S : St} {x0 : Nat} {x2 : Int32} {x3 : Int32} {x4 : Int64} {x6 : Int32} (C : CallFix p m c cX3_minusTold 8 s args tb RX3) (hr : meth.sig.returnType = (some .long)) (hk : meth.locks = false) {r : Int64} {k24 : Nat → Int32 → Int32 → Int64 → Int32 → Option Int64} (kk24 : ∀ (x0 : Nat) (x2 : Int32) (x3 : Int32) (x4 : Int64) (x6 : Int32) (H : Heap) (locs : List Loc) (ls : Array Slot), Wn Yc D T ρ S A s H locs → lv_has ls 8 [(0, .ref (ρ x0)), (2, .int x2), (3, .int x3), (4, .long x4), (6, .int x6)] → Ob Yc x0 4 → k24 x0 x2 x3 x4 x6 = some r → W p l e (rmN 1 22) s m args below meth c H locs 0 0 (MQ below (Qj Yc D T ρ A S r) args s 0 0 A) (F0 m 24 ls [])) (w : Wn Yc D T ρ S A s H locs) (hl : lv_has ls 8 [(0, .ref (ρ x0)), (2, .int x2), (3, .int x3), (4, .long x4), (6, .int x6)]) (ho_x0 : Ob Yc x0 4) (h : b_Lt_minusTold_24 g S k24 x0 x2 x3 x4 x6 = some r) : W p l e (rmN 1 22) s m args below meth c H locs 0 0 (MQ below (Qj Yc D T ρ A S r) args s 0 0 A) (F0 m 24 ls []) := by
  unfold b_Lt_minusTold_24 at h
  refine lv_iload C.1 C.2.1 dX3_minusTold_24 (lv_at hl 4 rfl) ?_
  refine lv_iload_n C.1 C.2.1 dX3_minusTold_26 rfl (lv_at hl 1 rfl) ?_
  refine lv_icmp_ge (tgt := 83) C.1 C.2.1 dX3_minusTold_27 (by decide) (fun hc => ?_) (fun hc => ?_)
  · replace h := ift hc h
    refine lv_lload C.1 C.2.1 dX3_minusTold_83 (lv_at hl 3 rfl) ?_
    obtain rfl := som h
    exact x_lret C w hr hk dX3_minusTold_85
  · replace h := iff0 hc h
    refine lv_aload_n C.1 C.2.1 dX3_minusTold_30 rfl (lv_at hl 0 rfl) ?_
    refine lv_iload C.1 C.2.1 dX3_minusTold_31 (lv_at hl 4 rfl) ?_
    obtain ⟨v_1, hv_1, h⟩ := bnd h
    refine x_callVi (q := (RX6, TX6, 4)) (As := [.int x6]) (rest := []) C w (k_Row_at l D T ρ g H.size S ho_x0 hv_1) vX3_37 ⟨by decide, by decide⟩ ho_x0 (by decide) rfl rfl rfl hl.1 (Nat.le_of_ble_eq_true rfl) ⟨Nat.zero_le _, Nat.zero_le _⟩ dX3_minusTold_33 (fun H locs w => ?_)
    refine lv_iload_n C.1 C.2.1 dX3_minusTold_36 rfl (lv_at hl 2 rfl) ?_
    obtain ⟨v_2, hv_2, h⟩ := bnd h
    refine x_callSi (As := [.int v_1, .int x3]) (rest := []) C w (k_Lt_digit l D T ρ g H.size S hv_2) vX3_42 ⟨by decide, by decide⟩ rfl rfl hl.1 (Nat.le_of_ble_eq_true rfl) ⟨Nat.zero_le _, Nat.zero_le _⟩ dX3_minusTold_37 (fun H locs w => ?_)
    refine lv_istore (lv' := [(7, .int v_2), (0, .ref (ρ x0)), (2, .int x2), (3, .int x3), (4, .long x4), (6, .int x6)]) C.1 C.2.1 dX3_minusTold_40 hl (by decide) rfl (fun ls hl => ?_)
    refine lv_iload C.1 C.2.1 dX3_minusTold_42 (lv_at hl 0 rfl) ?_
    refine lv_iconst (v := (-1)) C.1 C.2.1 dX3_minusTold_44 (by decide) ?_
    refine lv_icmp_eq (tgt := 64) C.1 C.2.1 dX3_minusTold_45 (by decide) (fun hc => ?_) (fun hc => ?_)
    · replace h := ift hc h
      refine lv_lconst (v := 1) C.1 C.2.1 dX3_minusTold_64 (by decide) ?_
      obtain rfl := som h
      exact x_lret C w hr hk dX3_minusTold_65
    · replace h := iff0 hc h
      refine lv_lload C.1 C.2.1 dX3_minusTold_48 (lv_at hl 4 rfl) ?_
      refine lv_ldc2 C.1 C.2.1 C.2.2.2.1 (C.2.2.2.2 _ nX3_46) dX3_minusTold_50 ?_
      refine lv_iload C.1 C.2.1 dX3_minusTold_53 (lv_at hl 0 rfl) ?_
      refine lv_i2l C.1 C.2.1 dX3_minusTold_55 rfl ?_
      refine lv_ladd C.1 C.2.1 dX3_minusTold_56 ?_
      refine lv_iload_n C.1 C.2.1 dX3_minusTold_57 rfl (lv_at hl 3 rfl) ?_
      refine lv_i2l C.1 C.2.1 dX3_minusTold_58 rfl ?_
      by_cases hz_3 : (x3.toInt64) = 0
      · exact absurd (ift hz_3 h) (fun q => by cases q)
      replace h := iff0 hz_3 h
      refine lv_ldiv C.1 C.2.1 dX3_minusTold_59 hz_3 ?_
      refine x_l_ge (tgt := 66) C dX3_minusTold_60 dX3_minusTold_61 (by decide) (fun hc => ?_) (fun hc => ?_)
      · replace h := iff0 hc h
        refine lv_lload C.1 C.2.1 dX3_minusTold_66 (lv_at hl 4 rfl) ?_
        refine lv_iload_n C.1 C.2.1 dX3_minusTold_68 rfl (lv_at hl 3 rfl) ?_
        refine lv_i2l C.1 C.2.1 dX3_minusTold_69 rfl ?_
        refine lv_lmul C.1 C.2.1 dX3_minusTold_70 ?_
        refine lv_iload C.1 C.2.1 dX3_minusTold_71 (lv_at hl 0 rfl) ?_
        refine lv_i2l C.1 C.2.1 dX3_minusTold_73 rfl ?_
        refine lv_lsub C.1 C.2.1 dX3_minusTold_74 ?_
        obtain ⟨x4_4, ex4_4, h⟩ := lt_e h
        refine x_nmL ex4_4 ?_
        refine lv_lstore (lv' := [(4, .long x4_4), (7, .int v_2), (0, .ref (ρ x0)), (2, .int x2), (3, .int x3), (6, .int x6)]) C.1 C.2.1 dX3_minusTold_75 hl (by decide) rfl (fun ls hl => ?_)
        obtain ⟨x6_5, ex6_5, h⟩ := lt_e h
        refine lv_iinc (v := x6_5) (lv' := [(6, .int x6_5), (4, .long x4_4), (7, .int v_2), (0, .ref (ρ x0)), (2, .int x2), (3, .int x3)]) C.1 C.2.1 dX3_minusTold_77 hl (k := 5) rfl (by rw [ex6_5]; rfl) (by decide) rfl (fun ls hl => ?_)
        refine lv_goto (tgt := 24) C.1 C.2.1 dX3_minusTold_80 (by decide) ?_
        exact kk24 _ _ _ _ _ _ _ _ w (lv_sub hl [3, 4, 5, 1, 0] rfl) ho_x0 h
      · replace h := ift hc h
        refine lv_lconst (v := 1) C.1 C.2.1 dX3_minusTold_64 (by decide) ?_
        obtain rfl := som h
        exact x_lret C w hr hk dX3_minusTold_65
theorem w_Lt_minusTold_24 {g : Nat} {S : St} (C : CallFix p m c cX3_minusTold 8 s args tb RX3) (hr : meth.sig.returnType = (some .long)) (hk : meth.locks = false) {r : Int64} (n : Nat) : ∀ (x0 : Nat) (x2 : Int32) (x3 : Int32) (x4 : Int64) (x6 : Int32) (H : Heap) (locs : List Loc) (ls : Array Slot), Wn Yc D T ρ S A s H locs → lv_has ls 8 [(0, .ref (ρ x0)), (2, .int x2), (3, .int x3), (4, .long x4), (6, .int x6)] → Ob Yc x0 4 → m_Lt_minusTold_24 g S n x0 x2 x3 x4 x6 = some r → W p l e (rmN 1 22) s m args below meth c H locs 0 0 (MQ below (Qj Yc D T ρ A S r) args s 0 0 A) (F0 m 24 ls []) := by
  induction n with
  | zero => intro x0 x2 x3 x4 x6 H locs ls w hl ho_x0 h; exact absurd h (fun q => by cases q)
  | succ n ih => intro x0 x2 x3 x4 x6 H locs ls w hl ho_x0 h; exact wb_Lt_minusTold_24 C hr hk ih w hl ho_x0 h
set_option maxRecDepth 100000 in
set_option maxHeartbeats 4000000 in
theorem w_Lt_minusTold_0  {g : Nat} {S : St} {x0 : Nat} {x1 : Int32} {x2 : Int32} {x3 : Int32} (C : CallFix p m c cX3_minusTold 8 s args tb RX3) (hr : meth.sig.returnType = (some .long)) (hk : meth.locks = false) {r : Int64} (w : Wn Yc D T ρ S A s H locs) (hl : lv_has ls 8 [(0, .ref (ρ x0)), (1, .int x1), (2, .int x2), (3, .int x3)]) (ho_x0 : Ob Yc x0 4) (h : m_Lt_minusTold g S x0 x1 x2 x3 = some r) : W p l e (rmN 1 22) s m args below meth c H locs 0 0 (MQ below (Qj Yc D T ρ A S r) args s 0 0 A) (F0 m 0 ls []) := by
  unfold m_Lt_minusTold at h
  refine lv_iload_n C.1 C.2.1 dX3_minusTold_0 rfl (lv_at hl 1 rfl) ?_
  refine lv_iload_n C.1 C.2.1 dX3_minusTold_1 rfl (lv_at hl 2 rfl) ?_
  refine lv_icmp_ge (tgt := 16) C.1 C.2.1 dX3_minusTold_2 (by decide) (fun hc => ?_) (fun hc => ?_)
  · replace h := ift hc h
    refine lv_lconst (v := 1) C.1 C.2.1 dX3_minusTold_16 (by decide) ?_
    obtain rfl := som h
    exact x_lret C w hr hk dX3_minusTold_17
  · replace h := iff0 hc h
    refine lv_iload_n C.1 C.2.1 dX3_minusTold_5 rfl (lv_at hl 3 rfl) ?_
    refine lv_iconst (v := 2) C.1 C.2.1 dX3_minusTold_6 (by decide) ?_
    refine lv_icmp_lt (tgt := 16) C.1 C.2.1 dX3_minusTold_7 (by decide) (fun hc => ?_) (fun hc => ?_)
    · replace h := ift hc h
      refine lv_lconst (v := 1) C.1 C.2.1 dX3_minusTold_16 (by decide) ?_
      obtain rfl := som h
      exact x_lret C w hr hk dX3_minusTold_17
    · replace h := iff0 hc h
      refine lv_iload_n C.1 C.2.1 dX3_minusTold_10 rfl (lv_at hl 3 rfl) ?_
      refine lv_bipush (v := 36) C.1 C.2.1 dX3_minusTold_11 (by decide) ?_
      refine lv_icmp_le (tgt := 18) C.1 C.2.1 dX3_minusTold_13 (by decide) (fun hc => ?_) (fun hc => ?_)
      · replace h := ift hc h
        refine lv_lconst (v := 0) C.1 C.2.1 dX3_minusTold_18 (by decide) ?_
        refine lv_lstore (lv' := [(4, .long (0 : Int64)), (0, .ref (ρ x0)), (1, .int x1), (2, .int x2), (3, .int x3)]) C.1 C.2.1 dX3_minusTold_19 hl (by decide) rfl (fun ls hl => ?_)
        refine lv_iload_n C.1 C.2.1 dX3_minusTold_21 rfl (lv_at hl 2 rfl) ?_
        refine lv_istore (lv' := [(6, .int x1), (4, .long (0 : Int64)), (0, .ref (ρ x0)), (1, .int x1), (2, .int x2), (3, .int x3)]) C.1 C.2.1 dX3_minusTold_22 hl (by decide) rfl (fun ls hl => ?_)
        exact w_Lt_minusTold_24 C hr hk g _ _ _ _ _ _ _ _ w (lv_sub hl [2, 4, 5, 1, 0] rfl) ho_x0 h
      · replace h := iff0 hc h
        refine lv_lconst (v := 1) C.1 C.2.1 dX3_minusTold_16 (by decide) ?_
        obtain rfl := som h
        exact x_lret C w hr hk dX3_minusTold_17
end S_Lt_minusTold
set_option maxRecDepth 100000 in
theorem k_Lt_minusTold (l : Launch) (D : va_G) (T : Cy) (ρ : Nat → Nat) (g sz : Nat) (S : St) {x0 : Nat} {x1 : Int32} {x2 : Int32} {x3 : Int32} (ho_x0 : Ob Yc x0 4) {r : Int64} (h : m_Lt_minusTold g S x0 x1 x2 x3 = some r) : Mj l Yc D T ρ yX3_minusTold cX3_minusTold 8 (some .long) 1 22 S S r [.ref (ρ x0), .int x1, .int x2, .int x3] sz :=
  x_in (by decide) (Nat.le_of_ble_eq_true rfl) (fun p e s m below meth c ls C hr hk w hl => w_Lt_minusTold_0 C hr hk w hl ho_x0 h)

theorem dX4_clear_0 : decode cX4_clear 0 = .ok (.aload_n 0, 1) := by decide +kernel
theorem dX4_clear_1 : decode cX4_clear 1 = .ok (.iconst 0, 1) := by decide +kernel
theorem dX4_clear_2 : decode cX4_clear 2 = .ok (.putfield 43, 3) := by decide +kernel
theorem dX4_clear_5 : decode cX4_clear 5 = .ok (.aload_n 0, 1) := by decide +kernel
theorem dX4_clear_6 : decode cX4_clear 6 = .ok (.getfield 15, 3) := by decide +kernel
theorem dX4_clear_9 : decode cX4_clear 9 = .ok (.iconst 0, 1) := by decide +kernel
theorem dX4_clear_10 : decode cX4_clear 10 = .ok (.iconst 0, 1) := by decide +kernel
theorem dX4_clear_11 : decode cX4_clear 11 = .ok (.iastore, 1) := by decide +kernel
theorem dX4_clear_12 : decode cX4_clear 12 = .ok (.aload_n 0, 1) := by decide +kernel
theorem dX4_clear_13 : decode cX4_clear 13 = .ok (.getfield 36, 3) := by decide +kernel
theorem dX4_clear_16 : decode cX4_clear 16 = .ok (.invokevirtual 69, 3) := by decide +kernel
theorem dX4_clear_19 : decode cX4_clear 19 = .ok (.aload_n 0, 1) := by decide +kernel
theorem dX4_clear_20 : decode cX4_clear 20 = .ok (.getfield 40, 3) := by decide +kernel
theorem dX4_clear_23 : decode cX4_clear 23 = .ok (.invokevirtual 69, 3) := by decide +kernel
theorem dX4_clear_26 : decode cX4_clear 26 = .ok (.return_, 1) := by decide +kernel
def m_Pg_clear (g : Nat) (S : St) (x0 : Nat) : Option St :=
lt (sI S x0 8 (0 : Int32)) fun S_1 =>
(tI S_1 (50 + 8 * x0 + 1) (0 : Int32) (0 : Int32)).bind fun S_2 =>
(m_Row_clear g S_2 (8 + 3 * x0 + 0)).bind fun S_3 =>
(m_Row_clear g S_3 (8 + 3 * x0 + 1)).bind fun S_4 =>
some S_4
section S_Pg_clear
variable {p : Program} {l : Launch} {e : Env} {s : State} {m : MethodId} {args : Array Value} {below : List Frame} {meth : Method} {c : Code} {H : Heap} {locs : List Loc} {ls : Array Slot} {D : va_G} {T : Cy} {ρ : Nat → Nat} {A : Nat → Prop}
set_option maxRecDepth 100000 in
set_option maxHeartbeats 4000000 in
theorem w_Pg_clear_0  {g : Nat} {S : St} {x0 : Nat} (C : CallFix p m c cX4_clear 1 s args tb RX4) (hr : meth.sig.returnType = none) (hk : meth.locks = false) {S' : St} (w : Wn Yc D T ρ S A s H locs) (hl : lv_has ls 1 [(0, .ref (ρ x0))]) (ho_x0 : Ob Yc x0 2) (h : m_Pg_clear g S x0 = some S') : W p l e (rmN 1 20) s m args below meth c H locs 0 0 (MQ below (Qv Yc D T ρ A S') args s 0 0 A) (F0 m 0 ls []) := by
  unfold m_Pg_clear at h
  refine lv_aload_n C.1 C.2.1 dX4_clear_0 rfl (lv_at hl 0 rfl) ?_
  refine lv_iconst (v := 0) C.1 C.2.1 dX4_clear_1 (by decide) ?_
  obtain ⟨S_1, eS_1, h⟩ := lt_e h
  refine y_putI C w eS_1 fX4_43 pX4_8 ho_x0 dX4_clear_2 (fun H locs w => ?_)
  refine lv_aload_n C.1 C.2.1 dX4_clear_5 rfl (lv_at hl 0 rfl) ?_
  refine x_getC C w (50 + 8 * x0 + 1) fX4_15 ho_x0 (crP1 ho_x0) dX4_clear_6 ?_
  refine lv_iconst (v := 0) C.1 C.2.1 dX4_clear_9 (by decide) ?_
  refine lv_iconst (v := 0) C.1 C.2.1 dX4_clear_10 (by decide) ?_
  obtain ⟨S_2, hS_2, h⟩ := bnd h
  refine x_iast C w (obP1 ho_x0) hS_2 dX4_clear_11 (fun H locs w => ?_)
  refine lv_aload_n C.1 C.2.1 dX4_clear_12 rfl (lv_at hl 0 rfl) ?_
  refine x_getC C w (8 + 3 * x0 + 0) fX4_36 ho_x0 (crP6 ho_x0) dX4_clear_13 ?_
  obtain ⟨S_3, hS_3, h⟩ := bnd h
  refine x_callVv (q := (RX6, TX6, 4)) (As := []) (rest := []) C w (k_Row_clear l D T ρ g H.size S_2 (obP6 ho_x0) hS_3) vX4_69 ⟨by decide, by decide⟩ (obP6 ho_x0) (by decide) rfl rfl rfl hl.1 (Nat.le_of_ble_eq_true rfl) ⟨Nat.zero_le _, Nat.zero_le _⟩ dX4_clear_16 (fun H locs w => ?_)
  refine lv_aload_n C.1 C.2.1 dX4_clear_19 rfl (lv_at hl 0 rfl) ?_
  refine x_getC C w (8 + 3 * x0 + 1) fX4_40 ho_x0 (crP7 ho_x0) dX4_clear_20 ?_
  obtain ⟨S_4, hS_4, h⟩ := bnd h
  refine x_callVv (q := (RX6, TX6, 4)) (As := []) (rest := []) C w (k_Row_clear l D T ρ g H.size S_3 (obP7 ho_x0) hS_4) vX4_69 ⟨by decide, by decide⟩ (obP7 ho_x0) (by decide) rfl rfl rfl hl.1 (Nat.le_of_ble_eq_true rfl) ⟨Nat.zero_le _, Nat.zero_le _⟩ dX4_clear_23 (fun H locs w => ?_)
  obtain rfl := som h
  exact x_vret C w hr hk dX4_clear_26
end S_Pg_clear
set_option maxRecDepth 100000 in
theorem k_Pg_clear (l : Launch) (D : va_G) (T : Cy) (ρ : Nat → Nat) (g sz : Nat) (S : St) {x0 : Nat} (ho_x0 : Ob Yc x0 2) {S' : St} (h : m_Pg_clear g S x0 = some S') : Mv l Yc D T ρ yX4_clear cX4_clear 1 none 1 20 S S' [.ref (ρ x0)] sz :=
  x_in (by decide) (Nat.le_of_ble_eq_true rfl) (fun p e s m below meth c ls C hr hk w hl => w_Pg_clear_0 C hr hk w hl ho_x0 h)

theorem dX4_addStep_0 : decode cX4_addStep 0 = .ok (.aload_n 0, 1) := by decide +kernel
theorem dX4_addStep_1 : decode cX4_addStep 1 = .ok (.getfield 43, 3) := by decide +kernel
theorem dX4_addStep_4 : decode cX4_addStep 4 = .ok (.bipush 60, 2) := by decide +kernel
theorem dX4_addStep_6 : decode cX4_addStep 6 = .ok (.if_icmp .ge 43, 3) := by decide +kernel
theorem dX4_addStep_9 : decode cX4_addStep 9 = .ok (.aload_n 0, 1) := by decide +kernel
theorem dX4_addStep_10 : decode cX4_addStep 10 = .ok (.getfield 9, 3) := by decide +kernel
theorem dX4_addStep_13 : decode cX4_addStep 13 = .ok (.aload_n 0, 1) := by decide +kernel
theorem dX4_addStep_14 : decode cX4_addStep 14 = .ok (.getfield 43, 3) := by decide +kernel
theorem dX4_addStep_17 : decode cX4_addStep 17 = .ok (.iload_n 1, 1) := by decide +kernel
theorem dX4_addStep_18 : decode cX4_addStep 18 = .ok (.iastore, 1) := by decide +kernel
theorem dX4_addStep_19 : decode cX4_addStep 19 = .ok (.aload_n 0, 1) := by decide +kernel
theorem dX4_addStep_20 : decode cX4_addStep 20 = .ok (.getfield 15, 3) := by decide +kernel
theorem dX4_addStep_23 : decode cX4_addStep 23 = .ok (.aload_n 0, 1) := by decide +kernel
theorem dX4_addStep_24 : decode cX4_addStep 24 = .ok (.getfield 43, 3) := by decide +kernel
theorem dX4_addStep_27 : decode cX4_addStep 27 = .ok (.iconst 1, 1) := by decide +kernel
theorem dX4_addStep_28 : decode cX4_addStep 28 = .ok (.iadd, 1) := by decide +kernel
theorem dX4_addStep_29 : decode cX4_addStep 29 = .ok (.aload_n 0, 1) := by decide +kernel
theorem dX4_addStep_30 : decode cX4_addStep 30 = .ok (.getfield 15, 3) := by decide +kernel
theorem dX4_addStep_33 : decode cX4_addStep 33 = .ok (.aload_n 0, 1) := by decide +kernel
theorem dX4_addStep_34 : decode cX4_addStep 34 = .ok (.getfield 43, 3) := by decide +kernel
theorem dX4_addStep_37 : decode cX4_addStep 37 = .ok (.iaload, 1) := by decide +kernel
theorem dX4_addStep_38 : decode cX4_addStep 38 = .ok (.iastore, 1) := by decide +kernel
theorem dX4_addStep_39 : decode cX4_addStep 39 = .ok (.aload_n 0, 1) := by decide +kernel
theorem dX4_addStep_40 : decode cX4_addStep 40 = .ok (.dup, 1) := by decide +kernel
theorem dX4_addStep_41 : decode cX4_addStep 41 = .ok (.getfield 43, 3) := by decide +kernel
theorem dX4_addStep_44 : decode cX4_addStep 44 = .ok (.iconst 1, 1) := by decide +kernel
theorem dX4_addStep_45 : decode cX4_addStep 45 = .ok (.iadd, 1) := by decide +kernel
theorem dX4_addStep_46 : decode cX4_addStep 46 = .ok (.putfield 43, 3) := by decide +kernel
theorem dX4_addStep_49 : decode cX4_addStep 49 = .ok (.return_, 1) := by decide +kernel
def m_Pg_addStep (g : Nat) (S : St) (x0 : Nat) (x1 : Int32) : Option St :=
if (60 : Int32) ≤ (gI S x0 8) then (
  some S
) else (
  (tI S (50 + 8 * x0 + 0) (gI S x0 8) x1).bind fun S_1 =>
  (aI S_1 (50 + 8 * x0 + 1) (gI S_1 x0 8)).bind fun v_2 =>
  (tI S_1 (50 + 8 * x0 + 1) ((gI S_1 x0 8) + (1 : Int32)) v_2).bind fun S_3 =>
  lt (sI S_3 x0 8 ((gI S_3 x0 8) + (1 : Int32))) fun S_4 =>
  some S_4
)
section S_Pg_addStep
variable {p : Program} {l : Launch} {e : Env} {s : State} {m : MethodId} {args : Array Value} {below : List Frame} {meth : Method} {c : Code} {H : Heap} {locs : List Loc} {ls : Array Slot} {D : va_G} {T : Cy} {ρ : Nat → Nat} {A : Nat → Prop}
set_option maxRecDepth 100000 in
set_option maxHeartbeats 4000000 in
theorem w_Pg_addStep_0  {g : Nat} {S : St} {x0 : Nat} {x1 : Int32} (C : CallFix p m c cX4_addStep 2 s args tb RX4) (hr : meth.sig.returnType = none) (hk : meth.locks = false) {S' : St} (w : Wn Yc D T ρ S A s H locs) (hl : lv_has ls 2 [(0, .ref (ρ x0)), (1, .int x1)]) (ho_x0 : Ob Yc x0 2) (h : m_Pg_addStep g S x0 x1 = some S') : W p l e (rmN 0 0) s m args below meth c H locs 0 0 (MQ below (Qv Yc D T ρ A S') args s 0 0 A) (F0 m 0 ls []) := by
  unfold m_Pg_addStep at h
  refine lv_aload_n C.1 C.2.1 dX4_addStep_0 rfl (lv_at hl 0 rfl) ?_
  refine x_getI C w fX4_43 ho_x0 dX4_addStep_1 ?_
  refine lv_bipush (v := 60) C.1 C.2.1 dX4_addStep_4 (by decide) ?_
  refine lv_icmp_ge (tgt := 49) C.1 C.2.1 dX4_addStep_6 (by decide) (fun hc => ?_) (fun hc => ?_)
  · replace h := ift hc h
    obtain rfl := som h
    exact x_vret C w hr hk dX4_addStep_49
  · replace h := iff0 hc h
    refine lv_aload_n C.1 C.2.1 dX4_addStep_9 rfl (lv_at hl 0 rfl) ?_
    refine x_getC C w (50 + 8 * x0 + 0) fX4_9 ho_x0 (crP0 ho_x0) dX4_addStep_10 ?_
    refine lv_aload_n C.1 C.2.1 dX4_addStep_13 rfl (lv_at hl 0 rfl) ?_
    refine x_getI C w fX4_43 ho_x0 dX4_addStep_14 ?_
    refine lv_iload_n C.1 C.2.1 dX4_addStep_17 rfl (lv_at hl 1 rfl) ?_
    obtain ⟨S_1, hS_1, h⟩ := bnd h
    refine x_iast C w (obP0 ho_x0) hS_1 dX4_addStep_18 (fun H locs w => ?_)
    refine lv_aload_n C.1 C.2.1 dX4_addStep_19 rfl (lv_at hl 0 rfl) ?_
    refine x_getC C w (50 + 8 * x0 + 1) fX4_15 ho_x0 (crP1 ho_x0) dX4_addStep_20 ?_
    refine lv_aload_n C.1 C.2.1 dX4_addStep_23 rfl (lv_at hl 0 rfl) ?_
    refine x_getI C w fX4_43 ho_x0 dX4_addStep_24 ?_
    refine lv_iconst (v := 1) C.1 C.2.1 dX4_addStep_27 (by decide) ?_
    refine lv_iadd C.1 C.2.1 dX4_addStep_28 ?_
    refine lv_aload_n C.1 C.2.1 dX4_addStep_29 rfl (lv_at hl 0 rfl) ?_
    refine x_getC C w (50 + 8 * x0 + 1) fX4_15 ho_x0 (crP1 ho_x0) dX4_addStep_30 ?_
    refine lv_aload_n C.1 C.2.1 dX4_addStep_33 rfl (lv_at hl 0 rfl) ?_
    refine x_getI C w fX4_43 ho_x0 dX4_addStep_34 ?_
    obtain ⟨v_2, hv_2, h⟩ := bnd h
    refine x_iald C w (obP1 ho_x0) hv_2 dX4_addStep_37 ?_
    obtain ⟨S_3, hS_3, h⟩ := bnd h
    refine x_iast C w (obP1 ho_x0) hS_3 dX4_addStep_38 (fun H locs w => ?_)
    refine lv_aload_n C.1 C.2.1 dX4_addStep_39 rfl (lv_at hl 0 rfl) ?_
    refine lv_dup C.1 C.2.1 dX4_addStep_40 rfl ?_
    refine x_getI C w fX4_43 ho_x0 dX4_addStep_41 ?_
    refine lv_iconst (v := 1) C.1 C.2.1 dX4_addStep_44 (by decide) ?_
    refine lv_iadd C.1 C.2.1 dX4_addStep_45 ?_
    obtain ⟨S_4, eS_4, h⟩ := lt_e h
    refine y_putI C w eS_4 fX4_43 pX4_8 ho_x0 dX4_addStep_46 (fun H locs w => ?_)
    obtain rfl := som h
    exact x_vret C w hr hk dX4_addStep_49
end S_Pg_addStep
set_option maxRecDepth 100000 in
theorem k_Pg_addStep (l : Launch) (D : va_G) (T : Cy) (ρ : Nat → Nat) (g sz : Nat) (S : St) {x0 : Nat} {x1 : Int32} (ho_x0 : Ob Yc x0 2) {S' : St} (h : m_Pg_addStep g S x0 x1 = some S') : Mv l Yc D T ρ yX4_addStep cX4_addStep 2 none 0 0 S S' [.ref (ρ x0), .int x1] sz :=
  x_in (by decide) (Nat.le_of_ble_eq_true rfl) (fun p e s m below meth c ls C hr hk w hl => w_Pg_addStep_0 C hr hk w hl ho_x0 h)

theorem dX4_addWord_0 : decode cX4_addWord 0 = .ok (.aload_n 0, 1) := by decide +kernel
theorem dX4_addWord_1 : decode cX4_addWord 1 = .ok (.getfield 15, 3) := by decide +kernel
theorem dX4_addWord_4 : decode cX4_addWord 4 = .ok (.aload_n 0, 1) := by decide +kernel
theorem dX4_addWord_5 : decode cX4_addWord 5 = .ok (.getfield 43, 3) := by decide +kernel
theorem dX4_addWord_8 : decode cX4_addWord 8 = .ok (.iaload, 1) := by decide +kernel
theorem dX4_addWord_9 : decode cX4_addWord 9 = .ok (.istore 6, 2) := by decide +kernel
theorem dX4_addWord_11 : decode cX4_addWord 11 = .ok (.aload_n 0, 1) := by decide +kernel
theorem dX4_addWord_12 : decode cX4_addWord 12 = .ok (.getfield 43, 3) := by decide +kernel
theorem dX4_addWord_15 : decode cX4_addWord 15 = .ok (.ifCond .le 57, 3) := by decide +kernel
theorem dX4_addWord_18 : decode cX4_addWord 18 = .ok (.iload 6, 2) := by decide +kernel
theorem dX4_addWord_20 : decode cX4_addWord 20 = .ok (.sipush 540, 3) := by decide +kernel
theorem dX4_addWord_23 : decode cX4_addWord 23 = .ok (.if_icmp .ge 49, 3) := by decide +kernel
theorem dX4_addWord_26 : decode cX4_addWord 26 = .ok (.aload_n 0, 1) := by decide +kernel
theorem dX4_addWord_27 : decode cX4_addWord 27 = .ok (.getfield 18, 3) := by decide +kernel
theorem dX4_addWord_30 : decode cX4_addWord 30 = .ok (.iload 6, 2) := by decide +kernel
theorem dX4_addWord_32 : decode cX4_addWord 32 = .ok (.iload_n 1, 1) := by decide +kernel
theorem dX4_addWord_33 : decode cX4_addWord 33 = .ok (.iastore, 1) := by decide +kernel
theorem dX4_addWord_34 : decode cX4_addWord 34 = .ok (.aload_n 0, 1) := by decide +kernel
theorem dX4_addWord_35 : decode cX4_addWord 35 = .ok (.getfield 21, 3) := by decide +kernel
theorem dX4_addWord_38 : decode cX4_addWord 38 = .ok (.iload 6, 2) := by decide +kernel
theorem dX4_addWord_40 : decode cX4_addWord 40 = .ok (.iload_n 2, 1) := by decide +kernel
theorem dX4_addWord_41 : decode cX4_addWord 41 = .ok (.iastore, 1) := by decide +kernel
theorem dX4_addWord_42 : decode cX4_addWord 42 = .ok (.aload_n 0, 1) := by decide +kernel
theorem dX4_addWord_43 : decode cX4_addWord 43 = .ok (.getfield 24, 3) := by decide +kernel
theorem dX4_addWord_46 : decode cX4_addWord 46 = .ok (.iload 6, 2) := by decide +kernel
theorem dX4_addWord_48 : decode cX4_addWord 48 = .ok (.lload_n 3, 1) := by decide +kernel
theorem dX4_addWord_49 : decode cX4_addWord 49 = .ok (.lastore, 1) := by decide +kernel
theorem dX4_addWord_50 : decode cX4_addWord 50 = .ok (.aload_n 0, 1) := by decide +kernel
theorem dX4_addWord_51 : decode cX4_addWord 51 = .ok (.getfield 28, 3) := by decide +kernel
theorem dX4_addWord_54 : decode cX4_addWord 54 = .ok (.iload 6, 2) := by decide +kernel
theorem dX4_addWord_56 : decode cX4_addWord 56 = .ok (.iload 5, 2) := by decide +kernel
theorem dX4_addWord_58 : decode cX4_addWord 58 = .ok (.iastore, 1) := by decide +kernel
theorem dX4_addWord_59 : decode cX4_addWord 59 = .ok (.aload_n 0, 1) := by decide +kernel
theorem dX4_addWord_60 : decode cX4_addWord 60 = .ok (.getfield 15, 3) := by decide +kernel
theorem dX4_addWord_63 : decode cX4_addWord 63 = .ok (.aload_n 0, 1) := by decide +kernel
theorem dX4_addWord_64 : decode cX4_addWord 64 = .ok (.getfield 43, 3) := by decide +kernel
theorem dX4_addWord_67 : decode cX4_addWord 67 = .ok (.iload 6, 2) := by decide +kernel
theorem dX4_addWord_69 : decode cX4_addWord 69 = .ok (.iconst 1, 1) := by decide +kernel
theorem dX4_addWord_70 : decode cX4_addWord 70 = .ok (.iadd, 1) := by decide +kernel
theorem dX4_addWord_71 : decode cX4_addWord 71 = .ok (.iastore, 1) := by decide +kernel
theorem dX4_addWord_72 : decode cX4_addWord 72 = .ok (.return_, 1) := by decide +kernel
def m_Pg_addWord (g : Nat) (S : St) (x0 : Nat) (x1 : Int32) (x2 : Int32) (x3 : Int64) (x5 : Int32) : Option St :=
(aI S (50 + 8 * x0 + 1) (gI S x0 8)).bind fun v_1 =>
if (gI S x0 8) ≤ 0 then (
  some S
) else (
  if (540 : Int32) ≤ v_1 then (
    some S
  ) else (
    (tI S (50 + 8 * x0 + 2) v_1 x1).bind fun S_2 =>
    (tI S_2 (50 + 8 * x0 + 3) v_1 x2).bind fun S_3 =>
    (tJ S_3 (50 + 8 * x0 + 4) v_1 x3).bind fun S_4 =>
    (tI S_4 (50 + 8 * x0 + 5) v_1 x5).bind fun S_5 =>
    (tI S_5 (50 + 8 * x0 + 1) (gI S_5 x0 8) (v_1 + (1 : Int32))).bind fun S_6 =>
    some S_6
  )
)
section S_Pg_addWord
variable {p : Program} {l : Launch} {e : Env} {s : State} {m : MethodId} {args : Array Value} {below : List Frame} {meth : Method} {c : Code} {H : Heap} {locs : List Loc} {ls : Array Slot} {D : va_G} {T : Cy} {ρ : Nat → Nat} {A : Nat → Prop}
set_option maxRecDepth 100000 in
set_option maxHeartbeats 4000000 in
theorem w_Pg_addWord_0  {g : Nat} {S : St} {x0 : Nat} {x1 : Int32} {x2 : Int32} {x3 : Int64} {x5 : Int32} (C : CallFix p m c cX4_addWord 7 s args tb RX4) (hr : meth.sig.returnType = none) (hk : meth.locks = false) {S' : St} (w : Wn Yc D T ρ S A s H locs) (hl : lv_has ls 7 [(0, .ref (ρ x0)), (1, .int x1), (2, .int x2), (3, .long x3), (5, .int x5)]) (ho_x0 : Ob Yc x0 2) (h : m_Pg_addWord g S x0 x1 x2 x3 x5 = some S') : W p l e (rmN 0 0) s m args below meth c H locs 0 0 (MQ below (Qv Yc D T ρ A S') args s 0 0 A) (F0 m 0 ls []) := by
  unfold m_Pg_addWord at h
  refine lv_aload_n C.1 C.2.1 dX4_addWord_0 rfl (lv_at hl 0 rfl) ?_
  refine x_getC C w (50 + 8 * x0 + 1) fX4_15 ho_x0 (crP1 ho_x0) dX4_addWord_1 ?_
  refine lv_aload_n C.1 C.2.1 dX4_addWord_4 rfl (lv_at hl 0 rfl) ?_
  refine x_getI C w fX4_43 ho_x0 dX4_addWord_5 ?_
  obtain ⟨v_1, hv_1, h⟩ := bnd h
  refine x_iald C w (obP1 ho_x0) hv_1 dX4_addWord_8 ?_
  refine lv_istore (lv' := [(6, .int v_1), (0, .ref (ρ x0)), (1, .int x1), (2, .int x2), (3, .long x3), (5, .int x5)]) C.1 C.2.1 dX4_addWord_9 hl (by decide) rfl (fun ls hl => ?_)
  refine lv_aload_n C.1 C.2.1 dX4_addWord_11 rfl (lv_at hl 1 rfl) ?_
  refine x_getI C w fX4_43 ho_x0 dX4_addWord_12 ?_
  refine lv_if_le (tgt := 72) C.1 C.2.1 dX4_addWord_15 (by decide) (fun hc => ?_) (fun hc => ?_)
  · replace h := ift hc h
    obtain rfl := som h
    exact x_vret C w hr hk dX4_addWord_72
  · replace h := iff0 hc h
    refine lv_iload C.1 C.2.1 dX4_addWord_18 (lv_at hl 0 rfl) ?_
    refine lv_sipush (v := 540) C.1 C.2.1 dX4_addWord_20 (by decide) ?_
    refine lv_icmp_ge (tgt := 72) C.1 C.2.1 dX4_addWord_23 (by decide) (fun hc => ?_) (fun hc => ?_)
    · replace h := ift hc h
      obtain rfl := som h
      exact x_vret C w hr hk dX4_addWord_72
    · replace h := iff0 hc h
      refine lv_aload_n C.1 C.2.1 dX4_addWord_26 rfl (lv_at hl 1 rfl) ?_
      refine x_getC C w (50 + 8 * x0 + 2) fX4_18 ho_x0 (crP2 ho_x0) dX4_addWord_27 ?_
      refine lv_iload C.1 C.2.1 dX4_addWord_30 (lv_at hl 0 rfl) ?_
      refine lv_iload_n C.1 C.2.1 dX4_addWord_32 rfl (lv_at hl 2 rfl) ?_
      obtain ⟨S_2, hS_2, h⟩ := bnd h
      refine x_iast C w (obP2 ho_x0) hS_2 dX4_addWord_33 (fun H locs w => ?_)
      refine lv_aload_n C.1 C.2.1 dX4_addWord_34 rfl (lv_at hl 1 rfl) ?_
      refine x_getC C w (50 + 8 * x0 + 3) fX4_21 ho_x0 (crP3 ho_x0) dX4_addWord_35 ?_
      refine lv_iload C.1 C.2.1 dX4_addWord_38 (lv_at hl 0 rfl) ?_
      refine lv_iload_n C.1 C.2.1 dX4_addWord_40 rfl (lv_at hl 3 rfl) ?_
      obtain ⟨S_3, hS_3, h⟩ := bnd h
      refine x_iast C w (obP3 ho_x0) hS_3 dX4_addWord_41 (fun H locs w => ?_)
      refine lv_aload_n C.1 C.2.1 dX4_addWord_42 rfl (lv_at hl 1 rfl) ?_
      refine x_getC C w (50 + 8 * x0 + 4) fX4_24 ho_x0 (crP4 ho_x0) dX4_addWord_43 ?_
      refine lv_iload C.1 C.2.1 dX4_addWord_46 (lv_at hl 0 rfl) ?_
      refine lv_lload_n C.1 C.2.1 dX4_addWord_48 rfl (lv_at hl 4 rfl) ?_
      obtain ⟨S_4, hS_4, h⟩ := bnd h
      refine x_last C w (obP4 ho_x0) hS_4 dX4_addWord_49 (fun H locs w => ?_)
      refine lv_aload_n C.1 C.2.1 dX4_addWord_50 rfl (lv_at hl 1 rfl) ?_
      refine x_getC C w (50 + 8 * x0 + 5) fX4_28 ho_x0 (crP5 ho_x0) dX4_addWord_51 ?_
      refine lv_iload C.1 C.2.1 dX4_addWord_54 (lv_at hl 0 rfl) ?_
      refine lv_iload C.1 C.2.1 dX4_addWord_56 (lv_at hl 5 rfl) ?_
      obtain ⟨S_5, hS_5, h⟩ := bnd h
      refine x_iast C w (obP5 ho_x0) hS_5 dX4_addWord_58 (fun H locs w => ?_)
      refine lv_aload_n C.1 C.2.1 dX4_addWord_59 rfl (lv_at hl 1 rfl) ?_
      refine x_getC C w (50 + 8 * x0 + 1) fX4_15 ho_x0 (crP1 ho_x0) dX4_addWord_60 ?_
      refine lv_aload_n C.1 C.2.1 dX4_addWord_63 rfl (lv_at hl 1 rfl) ?_
      refine x_getI C w fX4_43 ho_x0 dX4_addWord_64 ?_
      refine lv_iload C.1 C.2.1 dX4_addWord_67 (lv_at hl 0 rfl) ?_
      refine lv_iconst (v := 1) C.1 C.2.1 dX4_addWord_69 (by decide) ?_
      refine lv_iadd C.1 C.2.1 dX4_addWord_70 ?_
      obtain ⟨S_6, hS_6, h⟩ := bnd h
      refine x_iast C w (obP1 ho_x0) hS_6 dX4_addWord_71 (fun H locs w => ?_)
      obtain rfl := som h
      exact x_vret C w hr hk dX4_addWord_72
end S_Pg_addWord
set_option maxRecDepth 100000 in
theorem k_Pg_addWord (l : Launch) (D : va_G) (T : Cy) (ρ : Nat → Nat) (g sz : Nat) (S : St) {x0 : Nat} {x1 : Int32} {x2 : Int32} {x3 : Int64} {x5 : Int32} (ho_x0 : Ob Yc x0 2) {S' : St} (h : m_Pg_addWord g S x0 x1 x2 x3 x5 = some S') : Mv l Yc D T ρ yX4_addWord cX4_addWord 7 none 0 0 S S' [.ref (ρ x0), .int x1, .int x2, .long x3, .int x5] sz :=
  x_in (by decide) (Nat.le_of_ble_eq_true rfl) (fun p e s m below meth c ls C hr hk w hl => w_Pg_addWord_0 C hr hk w hl ho_x0 h)

theorem dX4_literalStart_0 : decode cX4_literalStart 0 = .ok (.iload_n 1, 1) := by decide +kernel
theorem dX4_literalStart_1 : decode cX4_literalStart 1 = .ok (.ifCond .gt 7, 3) := by decide +kernel
theorem dX4_literalStart_4 : decode cX4_literalStart 4 = .ok (.iconst 0, 1) := by decide +kernel
theorem dX4_literalStart_5 : decode cX4_literalStart 5 = .ok (.goto 13, 3) := by decide +kernel
theorem dX4_literalStart_8 : decode cX4_literalStart 8 = .ok (.aload_n 0, 1) := by decide +kernel
theorem dX4_literalStart_9 : decode cX4_literalStart 9 = .ok (.getfield 40, 3) := by decide +kernel
theorem dX4_literalStart_12 : decode cX4_literalStart 12 = .ok (.iload_n 1, 1) := by decide +kernel
theorem dX4_literalStart_13 : decode cX4_literalStart 13 = .ok (.iconst 1, 1) := by decide +kernel
theorem dX4_literalStart_14 : decode cX4_literalStart 14 = .ok (.isub, 1) := by decide +kernel
theorem dX4_literalStart_15 : decode cX4_literalStart 15 = .ok (.invokevirtual 76, 3) := by decide +kernel
theorem dX4_literalStart_18 : decode cX4_literalStart 18 = .ok (.ireturn, 1) := by decide +kernel
def m_Pg_literalStart (g : Nat) (S : St) (x0 : Nat) (x1 : Int32) : Option Int32 :=
if 0 < x1 then (
  (m_Row_at g S (8 + 3 * x0 + 1) (x1 - (1 : Int32))).bind fun v_1 =>
  some v_1
) else (
  some (0 : Int32)
)
section S_Pg_literalStart
variable {p : Program} {l : Launch} {e : Env} {s : State} {m : MethodId} {args : Array Value} {below : List Frame} {meth : Method} {c : Code} {H : Heap} {locs : List Loc} {ls : Array Slot} {D : va_G} {T : Cy} {ρ : Nat → Nat} {A : Nat → Prop}
set_option maxRecDepth 100000 in
set_option maxHeartbeats 4000000 in
theorem w_Pg_literalStart_0  {g : Nat} {S : St} {x0 : Nat} {x1 : Int32} (C : CallFix p m c cX4_literalStart 2 s args tb RX4) (hr : meth.sig.returnType = (some .int)) (hk : meth.locks = false) {r : Int32} (w : Wn Yc D T ρ S A s H locs) (hl : lv_has ls 2 [(0, .ref (ρ x0)), (1, .int x1)]) (ho_x0 : Ob Yc x0 2) (h : m_Pg_literalStart g S x0 x1 = some r) : W p l e (rmN 1 21) s m args below meth c H locs 0 0 (MQ below (Qi Yc D T ρ A S r) args s 0 0 A) (F0 m 0 ls []) := by
  unfold m_Pg_literalStart at h
  refine lv_iload_n C.1 C.2.1 dX4_literalStart_0 rfl (lv_at hl 1 rfl) ?_
  refine lv_if_gt (tgt := 8) C.1 C.2.1 dX4_literalStart_1 (by decide) (fun hc => ?_) (fun hc => ?_)
  · replace h := ift hc h
    refine lv_aload_n C.1 C.2.1 dX4_literalStart_8 rfl (lv_at hl 0 rfl) ?_
    refine x_getC C w (8 + 3 * x0 + 1) fX4_40 ho_x0 (crP7 ho_x0) dX4_literalStart_9 ?_
    refine lv_iload_n C.1 C.2.1 dX4_literalStart_12 rfl (lv_at hl 1 rfl) ?_
    refine lv_iconst (v := 1) C.1 C.2.1 dX4_literalStart_13 (by decide) ?_
    refine lv_isub C.1 C.2.1 dX4_literalStart_14 ?_
    obtain ⟨v_1, hv_1, h⟩ := bnd h
    refine x_callVi (q := (RX6, TX6, 4)) (As := [.int (x1 - (1 : Int32))]) (rest := []) C w (k_Row_at l D T ρ g H.size S (obP7 ho_x0) hv_1) vX4_76 ⟨by decide, by decide⟩ (obP7 ho_x0) (by decide) rfl rfl rfl hl.1 (Nat.le_of_ble_eq_true rfl) ⟨Nat.zero_le _, Nat.zero_le _⟩ dX4_literalStart_15 (fun H locs w => ?_)
    obtain rfl := som h
    exact x_iret C w hr hk dX4_literalStart_18
  · replace h := iff0 hc h
    refine lv_iconst (v := 0) C.1 C.2.1 dX4_literalStart_4 (by decide) ?_
    refine lv_goto (tgt := 18) C.1 C.2.1 dX4_literalStart_5 (by decide) ?_
    obtain rfl := som h
    exact x_iret C w hr hk dX4_literalStart_18
end S_Pg_literalStart
set_option maxRecDepth 100000 in
theorem k_Pg_literalStart (l : Launch) (D : va_G) (T : Cy) (ρ : Nat → Nat) (g sz : Nat) (S : St) {x0 : Nat} {x1 : Int32} (ho_x0 : Ob Yc x0 2) {r : Int32} (h : m_Pg_literalStart g S x0 x1 = some r) : Mi l Yc D T ρ yX4_literalStart cX4_literalStart 2 (some .int) 1 21 S S r [.ref (ρ x0), .int x1] sz :=
  x_in (by decide) (Nat.le_of_ble_eq_true rfl) (fun p e s m below meth c ls C hr hk w hl => w_Pg_literalStart_0 C hr hk w hl ho_x0 h)

theorem dX6_holds_0 : decode cX6_holds 0 = .ok (.iload 4, 2) := by decide +kernel
theorem dX6_holds_2 : decode cX6_holds 2 = .ok (.iload_n 3, 1) := by decide +kernel
theorem dX6_holds_3 : decode cX6_holds 3 = .ok (.isub, 1) := by decide +kernel
theorem dX6_holds_4 : decode cX6_holds 4 = .ok (.istore 5, 2) := by decide +kernel
theorem dX6_holds_6 : decode cX6_holds 6 = .ok (.iload_n 1, 1) := by decide +kernel
theorem dX6_holds_7 : decode cX6_holds 7 = .ok (.ifCond .lt 27, 3) := by decide +kernel
theorem dX6_holds_10 : decode cX6_holds 10 = .ok (.iload 5, 2) := by decide +kernel
theorem dX6_holds_12 : decode cX6_holds 12 = .ok (.aload_n 0, 1) := by decide +kernel
theorem dX6_holds_13 : decode cX6_holds 13 = .ok (.getfield 19, 3) := by decide +kernel
theorem dX6_holds_16 : decode cX6_holds 16 = .ok (.iload_n 1, 1) := by decide +kernel
theorem dX6_holds_17 : decode cX6_holds 17 = .ok (.isub, 1) := by decide +kernel
theorem dX6_holds_18 : decode cX6_holds 18 = .ok (.if_icmp .gt 16, 3) := by decide +kernel
theorem dX6_holds_21 : decode cX6_holds 21 = .ok (.iload_n 3, 1) := by decide +kernel
theorem dX6_holds_22 : decode cX6_holds 22 = .ok (.ifCond .lt 12, 3) := by decide +kernel
theorem dX6_holds_25 : decode cX6_holds 25 = .ok (.iload 4, 2) := by decide +kernel
theorem dX6_holds_27 : decode cX6_holds 27 = .ok (.aload_n 2, 1) := by decide +kernel
theorem dX6_holds_28 : decode cX6_holds 28 = .ok (.getfield 19, 3) := by decide +kernel
theorem dX6_holds_31 : decode cX6_holds 31 = .ok (.if_icmp .le 5, 3) := by decide +kernel
theorem dX6_holds_34 : decode cX6_holds 34 = .ok (.iconst 0, 1) := by decide +kernel
theorem dX6_holds_35 : decode cX6_holds 35 = .ok (.ireturn, 1) := by decide +kernel
theorem dX6_holds_36 : decode cX6_holds 36 = .ok (.iconst 0, 1) := by decide +kernel
theorem dX6_holds_37 : decode cX6_holds 37 = .ok (.istore 6, 2) := by decide +kernel
theorem dX6_holds_39 : decode cX6_holds 39 = .ok (.iload 6, 2) := by decide +kernel
theorem dX6_holds_41 : decode cX6_holds 41 = .ok (.iload 5, 2) := by decide +kernel
theorem dX6_holds_43 : decode cX6_holds 43 = .ok (.if_icmp .ge 32, 3) := by decide +kernel
theorem dX6_holds_46 : decode cX6_holds 46 = .ok (.aload_n 0, 1) := by decide +kernel
theorem dX6_holds_47 : decode cX6_holds 47 = .ok (.getfield 15, 3) := by decide +kernel
theorem dX6_holds_50 : decode cX6_holds 50 = .ok (.iload_n 1, 1) := by decide +kernel
theorem dX6_holds_51 : decode cX6_holds 51 = .ok (.iload 6, 2) := by decide +kernel
theorem dX6_holds_53 : decode cX6_holds 53 = .ok (.iadd, 1) := by decide +kernel
theorem dX6_holds_54 : decode cX6_holds 54 = .ok (.iaload, 1) := by decide +kernel
theorem dX6_holds_55 : decode cX6_holds 55 = .ok (.aload_n 2, 1) := by decide +kernel
theorem dX6_holds_56 : decode cX6_holds 56 = .ok (.getfield 15, 3) := by decide +kernel
theorem dX6_holds_59 : decode cX6_holds 59 = .ok (.iload_n 3, 1) := by decide +kernel
theorem dX6_holds_60 : decode cX6_holds 60 = .ok (.iload 6, 2) := by decide +kernel
theorem dX6_holds_62 : decode cX6_holds 62 = .ok (.iadd, 1) := by decide +kernel
theorem dX6_holds_63 : decode cX6_holds 63 = .ok (.iaload, 1) := by decide +kernel
theorem dX6_holds_64 : decode cX6_holds 64 = .ok (.if_icmp .eq 5, 3) := by decide +kernel
theorem dX6_holds_67 : decode cX6_holds 67 = .ok (.iconst 0, 1) := by decide +kernel
theorem dX6_holds_68 : decode cX6_holds 68 = .ok (.ireturn, 1) := by decide +kernel
theorem dX6_holds_69 : decode cX6_holds 69 = .ok (.iinc 6 1, 3) := by decide +kernel
theorem dX6_holds_72 : decode cX6_holds 72 = .ok (.goto (-33), 3) := by decide +kernel
theorem dX6_holds_75 : decode cX6_holds 75 = .ok (.iconst 1, 1) := by decide +kernel
theorem dX6_holds_76 : decode cX6_holds 76 = .ok (.ireturn, 1) := by decide +kernel
def b_Row_holds_39 (g : Nat) (S : St) (k39 : Nat → Int32 → Nat → Int32 → Int32 → Int32 → Option Int32) (x0 : Nat) (x1 : Int32) (x2 : Nat) (x3 : Int32) (x5 : Int32) (x6 : Int32) : Option Int32 :=
if x5 ≤ x6 then (
  some (1 : Int32)
) else (
  (aI S (x0 + 24) (x1 + x6)).bind fun v_2 =>
  (aI S (x2 + 24) (x3 + x6)).bind fun v_3 =>
  if v_2 = v_3 then (
    lt (x6 + (1 : Int32)) fun x6_4 =>
    k39 x0 x1 x2 x3 x5 x6_4
  ) else (
    some (0 : Int32)
  )
)
def m_Row_holds_39 (g : Nat) (S : St) : Nat → Nat → Int32 → Nat → Int32 → Int32 → Int32 → Option Int32
  | 0, _, _, _, _, _, _ => none
  | n + 1, x0, x1, x2, x3, x5, x6 => b_Row_holds_39 g S (m_Row_holds_39 g S n) x0 x1 x2 x3 x5 x6
def m_Row_holds (g : Nat) (S : St) (x0 : Nat) (x1 : Int32) (x2 : Nat) (x3 : Int32) (x4 : Int32) : Option Int32 :=
lt (x4 - x3) fun x5_1 =>
if x1 < 0 then (
  some (0 : Int32)
) else (
  if ((gI S x0 2) - x1) < x5_1 then (
    some (0 : Int32)
  ) else (
    if x3 < 0 then (
      some (0 : Int32)
    ) else (
      if x4 ≤ (gI S x2 2) then (
        m_Row_holds_39 g S g x0 x1 x2 x3 x5_1 (0 : Int32)
      ) else (
        some (0 : Int32)
      )
    )
  )
)
section S_Row_holds
variable {p : Program} {l : Launch} {e : Env} {s : State} {m : MethodId} {args : Array Value} {below : List Frame} {meth : Method} {c : Code} {H : Heap} {locs : List Loc} {ls : Array Slot} {D : va_G} {T : Cy} {ρ : Nat → Nat} {A : Nat → Prop}
set_option maxRecDepth 100000 in
set_option maxHeartbeats 4000000 in
theorem wb_Row_holds_39  {g : Nat} {S : St} {x0 : Nat} {x1 : Int32} {x2 : Nat} {x3 : Int32} {x5 : Int32} {x6 : Int32} (C : CallFix p m c cX6_holds 7 s args tb RX6) (hr : meth.sig.returnType = (some .boolean)) (hk : meth.locks = false) {r : Int32} {k39 : Nat → Int32 → Nat → Int32 → Int32 → Int32 → Option Int32} (kk39 : ∀ (x0 : Nat) (x1 : Int32) (x2 : Nat) (x3 : Int32) (x5 : Int32) (x6 : Int32) (H : Heap) (locs : List Loc) (ls : Array Slot), Wn Yc D T ρ S A s H locs → lv_has ls 7 [(0, .ref (ρ x0)), (1, .int x1), (2, .ref (ρ x2)), (3, .int x3), (5, .int x5), (6, .int x6)] → Ob Yc x0 4 → Ob Yc x2 4 → k39 x0 x1 x2 x3 x5 x6 = some r → W p l e (rmN 0 0) s m args below meth c H locs 0 0 (MQ below (Qi Yc D T ρ A S r) args s 0 0 A) (F0 m 39 ls [])) (w : Wn Yc D T ρ S A s H locs) (hl : lv_has ls 7 [(0, .ref (ρ x0)), (1, .int x1), (2, .ref (ρ x2)), (3, .int x3), (5, .int x5), (6, .int x6)]) (ho_x0 : Ob Yc x0 4) (ho_x2 : Ob Yc x2 4) (h : b_Row_holds_39 g S k39 x0 x1 x2 x3 x5 x6 = some r) : W p l e (rmN 0 0) s m args below meth c H locs 0 0 (MQ below (Qi Yc D T ρ A S r) args s 0 0 A) (F0 m 39 ls []) := by
  unfold b_Row_holds_39 at h
  refine lv_iload C.1 C.2.1 dX6_holds_39 (lv_at hl 5 rfl) ?_
  refine lv_iload C.1 C.2.1 dX6_holds_41 (lv_at hl 4 rfl) ?_
  refine lv_icmp_ge (tgt := 75) C.1 C.2.1 dX6_holds_43 (by decide) (fun hc => ?_) (fun hc => ?_)
  · replace h := ift hc h
    refine lv_iconst (v := 1) C.1 C.2.1 dX6_holds_75 (by decide) ?_
    obtain rfl := som h
    exact x_zret C w hr hk (by decide) dX6_holds_76
  · replace h := iff0 hc h
    refine lv_aload_n C.1 C.2.1 dX6_holds_46 rfl (lv_at hl 0 rfl) ?_
    refine x_getC C w (x0 + 24) fX6_15 ho_x0 (crCells ho_x0) dX6_holds_47 ?_
    refine lv_iload_n C.1 C.2.1 dX6_holds_50 rfl (lv_at hl 1 rfl) ?_
    refine lv_iload C.1 C.2.1 dX6_holds_51 (lv_at hl 5 rfl) ?_
    refine lv_iadd C.1 C.2.1 dX6_holds_53 ?_
    obtain ⟨v_2, hv_2, h⟩ := bnd h
    refine x_iald C w (obCells ho_x0) hv_2 dX6_holds_54 ?_
    refine lv_aload_n C.1 C.2.1 dX6_holds_55 rfl (lv_at hl 2 rfl) ?_
    refine x_getC C w (x2 + 24) fX6_15 ho_x2 (crCells ho_x2) dX6_holds_56 ?_
    refine lv_iload_n C.1 C.2.1 dX6_holds_59 rfl (lv_at hl 3 rfl) ?_
    refine lv_iload C.1 C.2.1 dX6_holds_60 (lv_at hl 5 rfl) ?_
    refine lv_iadd C.1 C.2.1 dX6_holds_62 ?_
    obtain ⟨v_3, hv_3, h⟩ := bnd h
    refine x_iald C w (obCells ho_x2) hv_3 dX6_holds_63 ?_
    refine lv_icmp_eq (tgt := 69) C.1 C.2.1 dX6_holds_64 (by decide) (fun hc => ?_) (fun hc => ?_)
    · replace h := ift hc h
      obtain ⟨x6_4, ex6_4, h⟩ := lt_e h
      refine lv_iinc (v := x6_4) (lv' := [(6, .int x6_4), (0, .ref (ρ x0)), (1, .int x1), (2, .ref (ρ x2)), (3, .int x3), (5, .int x5)]) C.1 C.2.1 dX6_holds_69 hl (k := 5) rfl (by rw [ex6_4]; rfl) (by decide) rfl (fun ls hl => ?_)
      refine lv_goto (tgt := 39) C.1 C.2.1 dX6_holds_72 (by decide) ?_
      exact kk39 _ _ _ _ _ _ _ _ _ w (lv_sub hl [1, 2, 3, 4, 5, 0] rfl) ho_x0 ho_x2 h
    · replace h := iff0 hc h
      refine lv_iconst (v := 0) C.1 C.2.1 dX6_holds_67 (by decide) ?_
      obtain rfl := som h
      exact x_zret C w hr hk (by decide) dX6_holds_68
theorem w_Row_holds_39 {g : Nat} {S : St} (C : CallFix p m c cX6_holds 7 s args tb RX6) (hr : meth.sig.returnType = (some .boolean)) (hk : meth.locks = false) {r : Int32} (n : Nat) : ∀ (x0 : Nat) (x1 : Int32) (x2 : Nat) (x3 : Int32) (x5 : Int32) (x6 : Int32) (H : Heap) (locs : List Loc) (ls : Array Slot), Wn Yc D T ρ S A s H locs → lv_has ls 7 [(0, .ref (ρ x0)), (1, .int x1), (2, .ref (ρ x2)), (3, .int x3), (5, .int x5), (6, .int x6)] → Ob Yc x0 4 → Ob Yc x2 4 → m_Row_holds_39 g S n x0 x1 x2 x3 x5 x6 = some r → W p l e (rmN 0 0) s m args below meth c H locs 0 0 (MQ below (Qi Yc D T ρ A S r) args s 0 0 A) (F0 m 39 ls []) := by
  induction n with
  | zero => intro x0 x1 x2 x3 x5 x6 H locs ls w hl ho_x0 ho_x2 h; exact absurd h (fun q => by cases q)
  | succ n ih => intro x0 x1 x2 x3 x5 x6 H locs ls w hl ho_x0 ho_x2 h; exact wb_Row_holds_39 C hr hk ih w hl ho_x0 ho_x2 h
set_option maxRecDepth 100000 in
set_option maxHeartbeats 4000000 in
theorem w_Row_holds_0  {g : Nat} {S : St} {x0 : Nat} {x1 : Int32} {x2 : Nat} {x3 : Int32} {x4 : Int32} (C : CallFix p m c cX6_holds 7 s args tb RX6) (hr : meth.sig.returnType = (some .boolean)) (hk : meth.locks = false) {r : Int32} (w : Wn Yc D T ρ S A s H locs) (hl : lv_has ls 7 [(0, .ref (ρ x0)), (1, .int x1), (2, .ref (ρ x2)), (3, .int x3), (4, .int x4)]) (ho_x0 : Ob Yc x0 4) (ho_x2 : Ob Yc x2 4) (h : m_Row_holds g S x0 x1 x2 x3 x4 = some r) : W p l e (rmN 0 0) s m args below meth c H locs 0 0 (MQ below (Qi Yc D T ρ A S r) args s 0 0 A) (F0 m 0 ls []) := by
  unfold m_Row_holds at h
  refine lv_iload C.1 C.2.1 dX6_holds_0 (lv_at hl 4 rfl) ?_
  refine lv_iload_n C.1 C.2.1 dX6_holds_2 rfl (lv_at hl 3 rfl) ?_
  refine lv_isub C.1 C.2.1 dX6_holds_3 ?_
  obtain ⟨x5_1, ex5_1, h⟩ := lt_e h
  refine x_nm ex5_1 ?_
  refine lv_istore (lv' := [(5, .int x5_1), (0, .ref (ρ x0)), (1, .int x1), (2, .ref (ρ x2)), (3, .int x3), (4, .int x4)]) C.1 C.2.1 dX6_holds_4 hl (by decide) rfl (fun ls hl => ?_)
  refine lv_iload_n C.1 C.2.1 dX6_holds_6 rfl (lv_at hl 2 rfl) ?_
  refine lv_if_lt (tgt := 34) C.1 C.2.1 dX6_holds_7 (by decide) (fun hc => ?_) (fun hc => ?_)
  · replace h := ift hc h
    refine lv_iconst (v := 0) C.1 C.2.1 dX6_holds_34 (by decide) ?_
    obtain rfl := som h
    exact x_zret C w hr hk (by decide) dX6_holds_35
  · replace h := iff0 hc h
    refine lv_iload C.1 C.2.1 dX6_holds_10 (lv_at hl 0 rfl) ?_
    refine lv_aload_n C.1 C.2.1 dX6_holds_12 rfl (lv_at hl 1 rfl) ?_
    refine x_getI C w fX6_19 ho_x0 dX6_holds_13 ?_
    refine lv_iload_n C.1 C.2.1 dX6_holds_16 rfl (lv_at hl 2 rfl) ?_
    refine lv_isub C.1 C.2.1 dX6_holds_17 ?_
    refine lv_icmp_gt (tgt := 34) C.1 C.2.1 dX6_holds_18 (by decide) (fun hc => ?_) (fun hc => ?_)
    · replace h := ift hc h
      refine lv_iconst (v := 0) C.1 C.2.1 dX6_holds_34 (by decide) ?_
      obtain rfl := som h
      exact x_zret C w hr hk (by decide) dX6_holds_35
    · replace h := iff0 hc h
      refine lv_iload_n C.1 C.2.1 dX6_holds_21 rfl (lv_at hl 4 rfl) ?_
      refine lv_if_lt (tgt := 34) C.1 C.2.1 dX6_holds_22 (by decide) (fun hc => ?_) (fun hc => ?_)
      · replace h := ift hc h
        refine lv_iconst (v := 0) C.1 C.2.1 dX6_holds_34 (by decide) ?_
        obtain rfl := som h
        exact x_zret C w hr hk (by decide) dX6_holds_35
      · replace h := iff0 hc h
        refine lv_iload C.1 C.2.1 dX6_holds_25 (lv_at hl 5 rfl) ?_
        refine lv_aload_n C.1 C.2.1 dX6_holds_27 rfl (lv_at hl 3 rfl) ?_
        refine x_getI C w fX6_19 ho_x2 dX6_holds_28 ?_
        refine lv_icmp_le (tgt := 36) C.1 C.2.1 dX6_holds_31 (by decide) (fun hc => ?_) (fun hc => ?_)
        · replace h := ift hc h
          refine lv_iconst (v := 0) C.1 C.2.1 dX6_holds_36 (by decide) ?_
          refine lv_istore (lv' := [(6, .int (0 : Int32)), (5, .int x5_1), (0, .ref (ρ x0)), (1, .int x1), (2, .ref (ρ x2)), (3, .int x3), (4, .int x4)]) C.1 C.2.1 dX6_holds_37 hl (by decide) rfl (fun ls hl => ?_)
          exact w_Row_holds_39 C hr hk g _ _ _ _ _ _ _ _ _ w (lv_sub hl [2, 3, 4, 5, 1, 0] rfl) ho_x0 ho_x2 h
        · replace h := iff0 hc h
          refine lv_iconst (v := 0) C.1 C.2.1 dX6_holds_34 (by decide) ?_
          obtain rfl := som h
          exact x_zret C w hr hk (by decide) dX6_holds_35
end S_Row_holds
set_option maxRecDepth 100000 in
theorem k_Row_holds (l : Launch) (D : va_G) (T : Cy) (ρ : Nat → Nat) (g sz : Nat) (S : St) {x0 : Nat} {x1 : Int32} {x2 : Nat} {x3 : Int32} {x4 : Int32} (ho_x0 : Ob Yc x0 4) (ho_x2 : Ob Yc x2 4) {r : Int32} (h : m_Row_holds g S x0 x1 x2 x3 x4 = some r) : Mi l Yc D T ρ yX6_holds cX6_holds 7 (some .boolean) 0 0 S S r [.ref (ρ x0), .int x1, .ref (ρ x2), .int x3, .int x4] sz :=
  x_in (by decide) (Nat.le_of_ble_eq_true rfl) (fun p e s m below meth c ls C hr hk w hl => w_Row_holds_0 C hr hk w hl ho_x0 ho_x2 h)

theorem dX4_copySteps_0 : decode cX4_copySteps 0 = .ok (.aload_n 1, 1) := by decide +kernel
theorem dX4_copySteps_1 : decode cX4_copySteps 1 = .ok (.getfield 15, 3) := by decide +kernel
theorem dX4_copySteps_4 : decode cX4_copySteps 4 = .ok (.aload_n 1, 1) := by decide +kernel
theorem dX4_copySteps_5 : decode cX4_copySteps 5 = .ok (.getfield 43, 3) := by decide +kernel
theorem dX4_copySteps_8 : decode cX4_copySteps 8 = .ok (.iaload, 1) := by decide +kernel
theorem dX4_copySteps_9 : decode cX4_copySteps 9 = .ok (.istore_n 2, 1) := by decide +kernel
theorem dX4_copySteps_10 : decode cX4_copySteps 10 = .ok (.aload_n 0, 1) := by decide +kernel
theorem dX4_copySteps_11 : decode cX4_copySteps 11 = .ok (.aload_n 1, 1) := by decide +kernel
theorem dX4_copySteps_12 : decode cX4_copySteps 12 = .ok (.getfield 43, 3) := by decide +kernel
theorem dX4_copySteps_15 : decode cX4_copySteps 15 = .ok (.putfield 43, 3) := by decide +kernel
theorem dX4_copySteps_18 : decode cX4_copySteps 18 = .ok (.aload_n 1, 1) := by decide +kernel
theorem dX4_copySteps_19 : decode cX4_copySteps 19 = .ok (.getfield 9, 3) := by decide +kernel
theorem dX4_copySteps_22 : decode cX4_copySteps 22 = .ok (.iconst 0, 1) := by decide +kernel
theorem dX4_copySteps_23 : decode cX4_copySteps 23 = .ok (.aload_n 0, 1) := by decide +kernel
theorem dX4_copySteps_24 : decode cX4_copySteps 24 = .ok (.getfield 9, 3) := by decide +kernel
theorem dX4_copySteps_27 : decode cX4_copySteps 27 = .ok (.iconst 0, 1) := by decide +kernel
theorem dX4_copySteps_28 : decode cX4_copySteps 28 = .ok (.aload_n 0, 1) := by decide +kernel
theorem dX4_copySteps_29 : decode cX4_copySteps 29 = .ok (.getfield 43, 3) := by decide +kernel
theorem dX4_copySteps_32 : decode cX4_copySteps 32 = .ok (.invokestatic 97, 3) := by decide +kernel
theorem dX4_copySteps_35 : decode cX4_copySteps 35 = .ok (.aload_n 1, 1) := by decide +kernel
theorem dX4_copySteps_36 : decode cX4_copySteps 36 = .ok (.getfield 15, 3) := by decide +kernel
theorem dX4_copySteps_39 : decode cX4_copySteps 39 = .ok (.iconst 0, 1) := by decide +kernel
theorem dX4_copySteps_40 : decode cX4_copySteps 40 = .ok (.aload_n 0, 1) := by decide +kernel
theorem dX4_copySteps_41 : decode cX4_copySteps 41 = .ok (.getfield 15, 3) := by decide +kernel
theorem dX4_copySteps_44 : decode cX4_copySteps 44 = .ok (.iconst 0, 1) := by decide +kernel
theorem dX4_copySteps_45 : decode cX4_copySteps 45 = .ok (.aload_n 0, 1) := by decide +kernel
theorem dX4_copySteps_46 : decode cX4_copySteps 46 = .ok (.getfield 43, 3) := by decide +kernel
theorem dX4_copySteps_49 : decode cX4_copySteps 49 = .ok (.iconst 1, 1) := by decide +kernel
theorem dX4_copySteps_50 : decode cX4_copySteps 50 = .ok (.iadd, 1) := by decide +kernel
theorem dX4_copySteps_51 : decode cX4_copySteps 51 = .ok (.invokestatic 97, 3) := by decide +kernel
theorem dX4_copySteps_54 : decode cX4_copySteps 54 = .ok (.aload_n 1, 1) := by decide +kernel
theorem dX4_copySteps_55 : decode cX4_copySteps 55 = .ok (.getfield 18, 3) := by decide +kernel
theorem dX4_copySteps_58 : decode cX4_copySteps 58 = .ok (.iconst 0, 1) := by decide +kernel
theorem dX4_copySteps_59 : decode cX4_copySteps 59 = .ok (.aload_n 0, 1) := by decide +kernel
theorem dX4_copySteps_60 : decode cX4_copySteps 60 = .ok (.getfield 18, 3) := by decide +kernel
theorem dX4_copySteps_63 : decode cX4_copySteps 63 = .ok (.iconst 0, 1) := by decide +kernel
theorem dX4_copySteps_64 : decode cX4_copySteps 64 = .ok (.iload_n 2, 1) := by decide +kernel
theorem dX4_copySteps_65 : decode cX4_copySteps 65 = .ok (.invokestatic 97, 3) := by decide +kernel
theorem dX4_copySteps_68 : decode cX4_copySteps 68 = .ok (.aload_n 1, 1) := by decide +kernel
theorem dX4_copySteps_69 : decode cX4_copySteps 69 = .ok (.getfield 21, 3) := by decide +kernel
theorem dX4_copySteps_72 : decode cX4_copySteps 72 = .ok (.iconst 0, 1) := by decide +kernel
theorem dX4_copySteps_73 : decode cX4_copySteps 73 = .ok (.aload_n 0, 1) := by decide +kernel
theorem dX4_copySteps_74 : decode cX4_copySteps 74 = .ok (.getfield 21, 3) := by decide +kernel
theorem dX4_copySteps_77 : decode cX4_copySteps 77 = .ok (.iconst 0, 1) := by decide +kernel
theorem dX4_copySteps_78 : decode cX4_copySteps 78 = .ok (.iload_n 2, 1) := by decide +kernel
theorem dX4_copySteps_79 : decode cX4_copySteps 79 = .ok (.invokestatic 97, 3) := by decide +kernel
theorem dX4_copySteps_82 : decode cX4_copySteps 82 = .ok (.aload_n 1, 1) := by decide +kernel
theorem dX4_copySteps_83 : decode cX4_copySteps 83 = .ok (.getfield 24, 3) := by decide +kernel
theorem dX4_copySteps_86 : decode cX4_copySteps 86 = .ok (.iconst 0, 1) := by decide +kernel
theorem dX4_copySteps_87 : decode cX4_copySteps 87 = .ok (.aload_n 0, 1) := by decide +kernel
theorem dX4_copySteps_88 : decode cX4_copySteps 88 = .ok (.getfield 24, 3) := by decide +kernel
theorem dX4_copySteps_91 : decode cX4_copySteps 91 = .ok (.iconst 0, 1) := by decide +kernel
theorem dX4_copySteps_92 : decode cX4_copySteps 92 = .ok (.iload_n 2, 1) := by decide +kernel
theorem dX4_copySteps_93 : decode cX4_copySteps 93 = .ok (.invokestatic 97, 3) := by decide +kernel
theorem dX4_copySteps_96 : decode cX4_copySteps 96 = .ok (.aload_n 1, 1) := by decide +kernel
theorem dX4_copySteps_97 : decode cX4_copySteps 97 = .ok (.getfield 28, 3) := by decide +kernel
theorem dX4_copySteps_100 : decode cX4_copySteps 100 = .ok (.iconst 0, 1) := by decide +kernel
theorem dX4_copySteps_101 : decode cX4_copySteps 101 = .ok (.aload_n 0, 1) := by decide +kernel
theorem dX4_copySteps_102 : decode cX4_copySteps 102 = .ok (.getfield 28, 3) := by decide +kernel
theorem dX4_copySteps_105 : decode cX4_copySteps 105 = .ok (.iconst 0, 1) := by decide +kernel
theorem dX4_copySteps_106 : decode cX4_copySteps 106 = .ok (.iload_n 2, 1) := by decide +kernel
theorem dX4_copySteps_107 : decode cX4_copySteps 107 = .ok (.invokestatic 97, 3) := by decide +kernel
theorem dX4_copySteps_110 : decode cX4_copySteps 110 = .ok (.return_, 1) := by decide +kernel
def m_Pg_copySteps (g : Nat) (S : St) (x0 : Nat) (x1 : Nat) : Option St :=
(aI S (50 + 8 * x1 + 1) (gI S x1 8)).bind fun v_1 =>
lt (sI S x0 8 (gI S x1 8)) fun S_2 =>
(cpI S_2 (50 + 8 * x1 + 0) (0 : Int32) (50 + 8 * x0 + 0) (0 : Int32) (gI S_2 x0 8)).bind fun S_3 =>
(cpI S_3 (50 + 8 * x1 + 1) (0 : Int32) (50 + 8 * x0 + 1) (0 : Int32) ((gI S_3 x0 8) + (1 : Int32))).bind fun S_4 =>
(cpI S_4 (50 + 8 * x1 + 2) (0 : Int32) (50 + 8 * x0 + 2) (0 : Int32) v_1).bind fun S_5 =>
(cpI S_5 (50 + 8 * x1 + 3) (0 : Int32) (50 + 8 * x0 + 3) (0 : Int32) v_1).bind fun S_6 =>
(cpJ S_6 (50 + 8 * x1 + 4) (0 : Int32) (50 + 8 * x0 + 4) (0 : Int32) v_1).bind fun S_7 =>
(cpI S_7 (50 + 8 * x1 + 5) (0 : Int32) (50 + 8 * x0 + 5) (0 : Int32) v_1).bind fun S_8 =>
some S_8
section S_Pg_copySteps
variable {p : Program} {l : Launch} {e : Env} {s : State} {m : MethodId} {args : Array Value} {below : List Frame} {meth : Method} {c : Code} {H : Heap} {locs : List Loc} {ls : Array Slot} {D : va_G} {T : Cy} {ρ : Nat → Nat} {A : Nat → Prop}
set_option maxRecDepth 100000 in
set_option maxHeartbeats 4000000 in
theorem w_Pg_copySteps_0  {g : Nat} {S : St} {x0 : Nat} {x1 : Nat} (C : CallFix p m c cX4_copySteps 3 s args tb RX4) (hr : meth.sig.returnType = none) (hk : meth.locks = false) {S' : St} (w : Wn Yc D T ρ S A s H locs) (hl : lv_has ls 3 [(0, .ref (ρ x0)), (1, .ref (ρ x1))]) (ho_x0 : Ob Yc x0 2) (ho_x1 : Ob Yc x1 2) (h : m_Pg_copySteps g S x0 x1 = some S') : W p l e (rmN 1 26) s m args below meth c H locs 0 0 (MQ below (Qv Yc D T ρ A S') args s 0 0 A) (F0 m 0 ls []) := by
  unfold m_Pg_copySteps at h
  refine lv_aload_n C.1 C.2.1 dX4_copySteps_0 rfl (lv_at hl 1 rfl) ?_
  refine x_getC C w (50 + 8 * x1 + 1) fX4_15 ho_x1 (crP1 ho_x1) dX4_copySteps_1 ?_
  refine lv_aload_n C.1 C.2.1 dX4_copySteps_4 rfl (lv_at hl 1 rfl) ?_
  refine x_getI C w fX4_43 ho_x1 dX4_copySteps_5 ?_
  obtain ⟨v_1, hv_1, h⟩ := bnd h
  refine x_iald C w (obP1 ho_x1) hv_1 dX4_copySteps_8 ?_
  refine lv_istore_n (lv' := [(2, .int v_1), (0, .ref (ρ x0)), (1, .ref (ρ x1))]) C.1 C.2.1 dX4_copySteps_9 rfl hl (by decide) rfl (fun ls hl => ?_)
  refine lv_aload_n C.1 C.2.1 dX4_copySteps_10 rfl (lv_at hl 1 rfl) ?_
  refine lv_aload_n C.1 C.2.1 dX4_copySteps_11 rfl (lv_at hl 2 rfl) ?_
  refine x_getI C w fX4_43 ho_x1 dX4_copySteps_12 ?_
  obtain ⟨S_2, eS_2, h⟩ := lt_e h
  refine y_putI C w eS_2 fX4_43 pX4_8 ho_x0 dX4_copySteps_15 (fun H locs w => ?_)
  refine lv_aload_n C.1 C.2.1 dX4_copySteps_18 rfl (lv_at hl 2 rfl) ?_
  refine x_getC C w (50 + 8 * x1 + 0) fX4_9 ho_x1 (crP0 ho_x1) dX4_copySteps_19 ?_
  refine lv_iconst (v := 0) C.1 C.2.1 dX4_copySteps_22 (by decide) ?_
  refine lv_aload_n C.1 C.2.1 dX4_copySteps_23 rfl (lv_at hl 1 rfl) ?_
  refine x_getC C w (50 + 8 * x0 + 0) fX4_9 ho_x0 (crP0 ho_x0) dX4_copySteps_24 ?_
  refine lv_iconst (v := 0) C.1 C.2.1 dX4_copySteps_27 (by decide) ?_
  refine lv_aload_n C.1 C.2.1 dX4_copySteps_28 rfl (lv_at hl 1 rfl) ?_
  refine x_getI C w fX4_43 ho_x0 dX4_copySteps_29 ?_
  obtain ⟨S_3, hS_3, h⟩ := bnd h
  refine x_cpI C w hl.1 ac_X4 (obP0 ho_x1) (obP0 ho_x0) hS_3 ⟨by decide, by decide⟩ (Nat.le_of_ble_eq_true rfl) dX4_copySteps_32 (fun H locs w => ?_)
  refine lv_aload_n C.1 C.2.1 dX4_copySteps_35 rfl (lv_at hl 2 rfl) ?_
  refine x_getC C w (50 + 8 * x1 + 1) fX4_15 ho_x1 (crP1 ho_x1) dX4_copySteps_36 ?_
  refine lv_iconst (v := 0) C.1 C.2.1 dX4_copySteps_39 (by decide) ?_
  refine lv_aload_n C.1 C.2.1 dX4_copySteps_40 rfl (lv_at hl 1 rfl) ?_
  refine x_getC C w (50 + 8 * x0 + 1) fX4_15 ho_x0 (crP1 ho_x0) dX4_copySteps_41 ?_
  refine lv_iconst (v := 0) C.1 C.2.1 dX4_copySteps_44 (by decide) ?_
  refine lv_aload_n C.1 C.2.1 dX4_copySteps_45 rfl (lv_at hl 1 rfl) ?_
  refine x_getI C w fX4_43 ho_x0 dX4_copySteps_46 ?_
  refine lv_iconst (v := 1) C.1 C.2.1 dX4_copySteps_49 (by decide) ?_
  refine lv_iadd C.1 C.2.1 dX4_copySteps_50 ?_
  obtain ⟨S_4, hS_4, h⟩ := bnd h
  refine x_cpI C w hl.1 ac_X4 (obP1 ho_x1) (obP1 ho_x0) hS_4 ⟨by decide, by decide⟩ (Nat.le_of_ble_eq_true rfl) dX4_copySteps_51 (fun H locs w => ?_)
  refine lv_aload_n C.1 C.2.1 dX4_copySteps_54 rfl (lv_at hl 2 rfl) ?_
  refine x_getC C w (50 + 8 * x1 + 2) fX4_18 ho_x1 (crP2 ho_x1) dX4_copySteps_55 ?_
  refine lv_iconst (v := 0) C.1 C.2.1 dX4_copySteps_58 (by decide) ?_
  refine lv_aload_n C.1 C.2.1 dX4_copySteps_59 rfl (lv_at hl 1 rfl) ?_
  refine x_getC C w (50 + 8 * x0 + 2) fX4_18 ho_x0 (crP2 ho_x0) dX4_copySteps_60 ?_
  refine lv_iconst (v := 0) C.1 C.2.1 dX4_copySteps_63 (by decide) ?_
  refine lv_iload_n C.1 C.2.1 dX4_copySteps_64 rfl (lv_at hl 0 rfl) ?_
  obtain ⟨S_5, hS_5, h⟩ := bnd h
  refine x_cpI C w hl.1 ac_X4 (obP2 ho_x1) (obP2 ho_x0) hS_5 ⟨by decide, by decide⟩ (Nat.le_of_ble_eq_true rfl) dX4_copySteps_65 (fun H locs w => ?_)
  refine lv_aload_n C.1 C.2.1 dX4_copySteps_68 rfl (lv_at hl 2 rfl) ?_
  refine x_getC C w (50 + 8 * x1 + 3) fX4_21 ho_x1 (crP3 ho_x1) dX4_copySteps_69 ?_
  refine lv_iconst (v := 0) C.1 C.2.1 dX4_copySteps_72 (by decide) ?_
  refine lv_aload_n C.1 C.2.1 dX4_copySteps_73 rfl (lv_at hl 1 rfl) ?_
  refine x_getC C w (50 + 8 * x0 + 3) fX4_21 ho_x0 (crP3 ho_x0) dX4_copySteps_74 ?_
  refine lv_iconst (v := 0) C.1 C.2.1 dX4_copySteps_77 (by decide) ?_
  refine lv_iload_n C.1 C.2.1 dX4_copySteps_78 rfl (lv_at hl 0 rfl) ?_
  obtain ⟨S_6, hS_6, h⟩ := bnd h
  refine x_cpI C w hl.1 ac_X4 (obP3 ho_x1) (obP3 ho_x0) hS_6 ⟨by decide, by decide⟩ (Nat.le_of_ble_eq_true rfl) dX4_copySteps_79 (fun H locs w => ?_)
  refine lv_aload_n C.1 C.2.1 dX4_copySteps_82 rfl (lv_at hl 2 rfl) ?_
  refine x_getC C w (50 + 8 * x1 + 4) fX4_24 ho_x1 (crP4 ho_x1) dX4_copySteps_83 ?_
  refine lv_iconst (v := 0) C.1 C.2.1 dX4_copySteps_86 (by decide) ?_
  refine lv_aload_n C.1 C.2.1 dX4_copySteps_87 rfl (lv_at hl 1 rfl) ?_
  refine x_getC C w (50 + 8 * x0 + 4) fX4_24 ho_x0 (crP4 ho_x0) dX4_copySteps_88 ?_
  refine lv_iconst (v := 0) C.1 C.2.1 dX4_copySteps_91 (by decide) ?_
  refine lv_iload_n C.1 C.2.1 dX4_copySteps_92 rfl (lv_at hl 0 rfl) ?_
  obtain ⟨S_7, hS_7, h⟩ := bnd h
  refine x_cpJ C w hl.1 ac_X4 (obP4 ho_x1) (obP4 ho_x0) hS_7 ⟨by decide, by decide⟩ (Nat.le_of_ble_eq_true rfl) dX4_copySteps_93 (fun H locs w => ?_)
  refine lv_aload_n C.1 C.2.1 dX4_copySteps_96 rfl (lv_at hl 2 rfl) ?_
  refine x_getC C w (50 + 8 * x1 + 5) fX4_28 ho_x1 (crP5 ho_x1) dX4_copySteps_97 ?_
  refine lv_iconst (v := 0) C.1 C.2.1 dX4_copySteps_100 (by decide) ?_
  refine lv_aload_n C.1 C.2.1 dX4_copySteps_101 rfl (lv_at hl 1 rfl) ?_
  refine x_getC C w (50 + 8 * x0 + 5) fX4_28 ho_x0 (crP5 ho_x0) dX4_copySteps_102 ?_
  refine lv_iconst (v := 0) C.1 C.2.1 dX4_copySteps_105 (by decide) ?_
  refine lv_iload_n C.1 C.2.1 dX4_copySteps_106 rfl (lv_at hl 0 rfl) ?_
  obtain ⟨S_8, hS_8, h⟩ := bnd h
  refine x_cpI C w hl.1 ac_X4 (obP5 ho_x1) (obP5 ho_x0) hS_8 ⟨by decide, by decide⟩ (Nat.le_of_ble_eq_true rfl) dX4_copySteps_107 (fun H locs w => ?_)
  obtain rfl := som h
  exact x_vret C w hr hk dX4_copySteps_110
end S_Pg_copySteps
set_option maxRecDepth 100000 in
theorem k_Pg_copySteps (l : Launch) (D : va_G) (T : Cy) (ρ : Nat → Nat) (g sz : Nat) (S : St) {x0 : Nat} {x1 : Nat} (ho_x0 : Ob Yc x0 2) (ho_x1 : Ob Yc x1 2) {S' : St} (h : m_Pg_copySteps g S x0 x1 = some S') : Mv l Yc D T ρ yX4_copySteps cX4_copySteps 3 none 1 26 S S' [.ref (ρ x0), .ref (ρ x1)] sz :=
  x_in (by decide) (Nat.le_of_ble_eq_true rfl) (fun p e s m below meth c ls C hr hk w hl => w_Pg_copySteps_0 C hr hk w hl ho_x0 ho_x1 h)

theorem dX4_rangeEnd_0 : decode cX4_rangeEnd 0 = .ok (.iload_n 1, 1) := by decide +kernel
theorem dX4_rangeEnd_1 : decode cX4_rangeEnd 1 = .ok (.iconst 1, 1) := by decide +kernel
theorem dX4_rangeEnd_2 : decode cX4_rangeEnd 2 = .ok (.iadd, 1) := by decide +kernel
theorem dX4_rangeEnd_3 : decode cX4_rangeEnd 3 = .ok (.aload_n 0, 1) := by decide +kernel
theorem dX4_rangeEnd_4 : decode cX4_rangeEnd 4 = .ok (.getfield 24, 3) := by decide +kernel
theorem dX4_rangeEnd_7 : decode cX4_rangeEnd 7 = .ok (.aload_n 0, 1) := by decide +kernel
theorem dX4_rangeEnd_8 : decode cX4_rangeEnd 8 = .ok (.getfield 15, 3) := by decide +kernel
theorem dX4_rangeEnd_11 : decode cX4_rangeEnd 11 = .ok (.iload_n 1, 1) := by decide +kernel
theorem dX4_rangeEnd_12 : decode cX4_rangeEnd 12 = .ok (.iaload, 1) := by decide +kernel
theorem dX4_rangeEnd_13 : decode cX4_rangeEnd 13 = .ok (.iconst 1, 1) := by decide +kernel
theorem dX4_rangeEnd_14 : decode cX4_rangeEnd 14 = .ok (.iadd, 1) := by decide +kernel
theorem dX4_rangeEnd_15 : decode cX4_rangeEnd 15 = .ok (.laload, 1) := by decide +kernel
theorem dX4_rangeEnd_16 : decode cX4_rangeEnd 16 = .ok (.l2i, 1) := by decide +kernel
theorem dX4_rangeEnd_17 : decode cX4_rangeEnd 17 = .ok (.iadd, 1) := by decide +kernel
theorem dX4_rangeEnd_18 : decode cX4_rangeEnd 18 = .ok (.ireturn, 1) := by decide +kernel
def m_Pg_rangeEnd (g : Nat) (S : St) (x0 : Nat) (x1 : Int32) : Option Int32 :=
(aI S (50 + 8 * x0 + 1) x1).bind fun v_1 =>
(aJ S (50 + 8 * x0 + 4) (v_1 + (1 : Int32))).bind fun v_2 =>
some ((x1 + (1 : Int32)) + (v_2.toInt32))
section S_Pg_rangeEnd
variable {p : Program} {l : Launch} {e : Env} {s : State} {m : MethodId} {args : Array Value} {below : List Frame} {meth : Method} {c : Code} {H : Heap} {locs : List Loc} {ls : Array Slot} {D : va_G} {T : Cy} {ρ : Nat → Nat} {A : Nat → Prop}
set_option maxRecDepth 100000 in
set_option maxHeartbeats 4000000 in
theorem w_Pg_rangeEnd_0  {g : Nat} {S : St} {x0 : Nat} {x1 : Int32} (C : CallFix p m c cX4_rangeEnd 2 s args tb RX4) (hr : meth.sig.returnType = (some .int)) (hk : meth.locks = false) {r : Int32} (w : Wn Yc D T ρ S A s H locs) (hl : lv_has ls 2 [(0, .ref (ρ x0)), (1, .int x1)]) (ho_x0 : Ob Yc x0 2) (h : m_Pg_rangeEnd g S x0 x1 = some r) : W p l e (rmN 0 0) s m args below meth c H locs 0 0 (MQ below (Qi Yc D T ρ A S r) args s 0 0 A) (F0 m 0 ls []) := by
  unfold m_Pg_rangeEnd at h
  refine lv_iload_n C.1 C.2.1 dX4_rangeEnd_0 rfl (lv_at hl 1 rfl) ?_
  refine lv_iconst (v := 1) C.1 C.2.1 dX4_rangeEnd_1 (by decide) ?_
  refine lv_iadd C.1 C.2.1 dX4_rangeEnd_2 ?_
  refine lv_aload_n C.1 C.2.1 dX4_rangeEnd_3 rfl (lv_at hl 0 rfl) ?_
  refine x_getC C w (50 + 8 * x0 + 4) fX4_24 ho_x0 (crP4 ho_x0) dX4_rangeEnd_4 ?_
  refine lv_aload_n C.1 C.2.1 dX4_rangeEnd_7 rfl (lv_at hl 0 rfl) ?_
  refine x_getC C w (50 + 8 * x0 + 1) fX4_15 ho_x0 (crP1 ho_x0) dX4_rangeEnd_8 ?_
  refine lv_iload_n C.1 C.2.1 dX4_rangeEnd_11 rfl (lv_at hl 1 rfl) ?_
  obtain ⟨v_1, hv_1, h⟩ := bnd h
  refine x_iald C w (obP1 ho_x0) hv_1 dX4_rangeEnd_12 ?_
  refine lv_iconst (v := 1) C.1 C.2.1 dX4_rangeEnd_13 (by decide) ?_
  refine lv_iadd C.1 C.2.1 dX4_rangeEnd_14 ?_
  obtain ⟨v_2, hv_2, h⟩ := bnd h
  refine x_lald C w (obP4 ho_x0) hv_2 dX4_rangeEnd_15 ?_
  refine lv_l2i C.1 C.2.1 dX4_rangeEnd_16 rfl ?_
  refine lv_iadd C.1 C.2.1 dX4_rangeEnd_17 ?_
  obtain rfl := som h
  exact x_iret C w hr hk dX4_rangeEnd_18
end S_Pg_rangeEnd
set_option maxRecDepth 100000 in
theorem k_Pg_rangeEnd (l : Launch) (D : va_G) (T : Cy) (ρ : Nat → Nat) (g sz : Nat) (S : St) {x0 : Nat} {x1 : Int32} (ho_x0 : Ob Yc x0 2) {r : Int32} (h : m_Pg_rangeEnd g S x0 x1 = some r) : Mi l Yc D T ρ yX4_rangeEnd cX4_rangeEnd 2 (some .int) 0 0 S S r [.ref (ρ x0), .int x1] sz :=
  x_in (by decide) (Nat.le_of_ble_eq_true rfl) (fun p e s m below meth c ls C hr hk w hl => w_Pg_rangeEnd_0 C hr hk w hl ho_x0 h)

theorem dX4_givenBit_0 : decode cX4_givenBit 0 = .ok (.aload_n 0, 1) := by decide +kernel
theorem dX4_givenBit_1 : decode cX4_givenBit 1 = .ok (.getfield 18, 3) := by decide +kernel
theorem dX4_givenBit_4 : decode cX4_givenBit 4 = .ok (.iload_n 1, 1) := by decide +kernel
theorem dX4_givenBit_5 : decode cX4_givenBit 5 = .ok (.iaload, 1) := by decide +kernel
theorem dX4_givenBit_6 : decode cX4_givenBit 6 = .ok (.lookupswitch 72 #[(98, 58), (118, 34), (119, 44)], 34) := by decide +kernel
theorem dX4_givenBit_40 : decode cX4_givenBit 40 = .ok (.lconst 1, 1) := by decide +kernel
theorem dX4_givenBit_41 : decode cX4_givenBit 41 = .ok (.aload_n 0, 1) := by decide +kernel
theorem dX4_givenBit_42 : decode cX4_givenBit 42 = .ok (.getfield 24, 3) := by decide +kernel
theorem dX4_givenBit_45 : decode cX4_givenBit 45 = .ok (.iload_n 1, 1) := by decide +kernel
theorem dX4_givenBit_46 : decode cX4_givenBit 46 = .ok (.laload, 1) := by decide +kernel
theorem dX4_givenBit_47 : decode cX4_givenBit 47 = .ok (.l2i, 1) := by decide +kernel
theorem dX4_givenBit_48 : decode cX4_givenBit 48 = .ok (.lshl, 1) := by decide +kernel
theorem dX4_givenBit_49 : decode cX4_givenBit 49 = .ok (.lreturn, 1) := by decide +kernel
theorem dX4_givenBit_50 : decode cX4_givenBit 50 = .ok (.lconst 1, 1) := by decide +kernel
theorem dX4_givenBit_51 : decode cX4_givenBit 51 = .ok (.ldc2_w 134, 3) := by decide +kernel
theorem dX4_givenBit_54 : decode cX4_givenBit 54 = .ok (.aload_n 0, 1) := by decide +kernel
theorem dX4_givenBit_55 : decode cX4_givenBit 55 = .ok (.getfield 24, 3) := by decide +kernel
theorem dX4_givenBit_58 : decode cX4_givenBit 58 = .ok (.iload_n 1, 1) := by decide +kernel
theorem dX4_givenBit_59 : decode cX4_givenBit 59 = .ok (.laload, 1) := by decide +kernel
theorem dX4_givenBit_60 : decode cX4_givenBit 60 = .ok (.ladd, 1) := by decide +kernel
theorem dX4_givenBit_61 : decode cX4_givenBit 61 = .ok (.l2i, 1) := by decide +kernel
theorem dX4_givenBit_62 : decode cX4_givenBit 62 = .ok (.lshl, 1) := by decide +kernel
theorem dX4_givenBit_63 : decode cX4_givenBit 63 = .ok (.lreturn, 1) := by decide +kernel
theorem dX4_givenBit_64 : decode cX4_givenBit 64 = .ok (.lconst 1, 1) := by decide +kernel
theorem dX4_givenBit_65 : decode cX4_givenBit 65 = .ok (.ldc2_w 136, 3) := by decide +kernel
theorem dX4_givenBit_68 : decode cX4_givenBit 68 = .ok (.aload_n 0, 1) := by decide +kernel
theorem dX4_givenBit_69 : decode cX4_givenBit 69 = .ok (.getfield 24, 3) := by decide +kernel
theorem dX4_givenBit_72 : decode cX4_givenBit 72 = .ok (.iload_n 1, 1) := by decide +kernel
theorem dX4_givenBit_73 : decode cX4_givenBit 73 = .ok (.laload, 1) := by decide +kernel
theorem dX4_givenBit_74 : decode cX4_givenBit 74 = .ok (.ladd, 1) := by decide +kernel
theorem dX4_givenBit_75 : decode cX4_givenBit 75 = .ok (.l2i, 1) := by decide +kernel
theorem dX4_givenBit_76 : decode cX4_givenBit 76 = .ok (.lshl, 1) := by decide +kernel
theorem dX4_givenBit_77 : decode cX4_givenBit 77 = .ok (.lreturn, 1) := by decide +kernel
theorem dX4_givenBit_78 : decode cX4_givenBit 78 = .ok (.lconst 0, 1) := by decide +kernel
theorem dX4_givenBit_79 : decode cX4_givenBit 79 = .ok (.lreturn, 1) := by decide +kernel
def m_Pg_givenBit (g : Nat) (S : St) (x0 : Nat) (x1 : Int32) : Option Int64 :=
(aI S (50 + 8 * x0 + 2) x1).bind fun v_1 =>
if v_1 = (98 : Int32) then (
  (aJ S (50 + 8 * x0 + 4) x1).bind fun v_2 =>
  some ((1 : Int64) <<< ((((32 : Int64) + v_2).toInt32).toInt64 &&& 63))
) else
if v_1 = (118 : Int32) then (
  (aJ S (50 + 8 * x0 + 4) x1).bind fun v_3 =>
  some ((1 : Int64) <<< ((v_3.toInt32).toInt64 &&& 63))
) else
if v_1 = (119 : Int32) then (
  (aJ S (50 + 8 * x0 + 4) x1).bind fun v_4 =>
  some ((1 : Int64) <<< ((((20 : Int64) + v_4).toInt32).toInt64 &&& 63))
) else
(
  some (0 : Int64)
)
section S_Pg_givenBit
variable {p : Program} {l : Launch} {e : Env} {s : State} {m : MethodId} {args : Array Value} {below : List Frame} {meth : Method} {c : Code} {H : Heap} {locs : List Loc} {ls : Array Slot} {D : va_G} {T : Cy} {ρ : Nat → Nat} {A : Nat → Prop}
set_option maxRecDepth 100000 in
set_option maxHeartbeats 4000000 in
theorem w_Pg_givenBit_0  {g : Nat} {S : St} {x0 : Nat} {x1 : Int32} (C : CallFix p m c cX4_givenBit 2 s args tb RX4) (hr : meth.sig.returnType = (some .long)) (hk : meth.locks = false) {r : Int64} (w : Wn Yc D T ρ S A s H locs) (hl : lv_has ls 2 [(0, .ref (ρ x0)), (1, .int x1)]) (ho_x0 : Ob Yc x0 2) (h : m_Pg_givenBit g S x0 x1 = some r) : W p l e (rmN 0 0) s m args below meth c H locs 0 0 (MQ below (Qj Yc D T ρ A S r) args s 0 0 A) (F0 m 0 ls []) := by
  unfold m_Pg_givenBit at h
  refine lv_aload_n C.1 C.2.1 dX4_givenBit_0 rfl (lv_at hl 0 rfl) ?_
  refine x_getC C w (50 + 8 * x0 + 2) fX4_18 ho_x0 (crP2 ho_x0) dX4_givenBit_1 ?_
  refine lv_iload_n C.1 C.2.1 dX4_givenBit_4 rfl (lv_at hl 1 rfl) ?_
  obtain ⟨v_1, hv_1, h⟩ := bnd h
  refine x_iald C w (obP2 ho_x0) hv_1 dX4_givenBit_5 ?_
  by_cases hz6_0 : v_1 = (98 : Int32)
  · replace h := ift hz6_0 h
    refine lv_lookup (off := 58) (tgt := 64) C.1 C.2.1 dX4_givenBit_6 (by decide) (off_t (by rw [hz6_0]; decide)) (by decide) ?_
    refine lv_lconst (v := 1) C.1 C.2.1 dX4_givenBit_64 (by decide) ?_
    refine lv_ldc2 C.1 C.2.1 C.2.2.2.1 (C.2.2.2.2 _ nX4_136) dX4_givenBit_65 ?_
    refine lv_aload_n C.1 C.2.1 dX4_givenBit_68 rfl (lv_at hl 0 rfl) ?_
    refine x_getC C w (50 + 8 * x0 + 4) fX4_24 ho_x0 (crP4 ho_x0) dX4_givenBit_69 ?_
    refine lv_iload_n C.1 C.2.1 dX4_givenBit_72 rfl (lv_at hl 1 rfl) ?_
    obtain ⟨v_2, hv_2, h⟩ := bnd h
    refine x_lald C w (obP4 ho_x0) hv_2 dX4_givenBit_73 ?_
    refine lv_ladd C.1 C.2.1 dX4_givenBit_74 ?_
    refine lv_l2i C.1 C.2.1 dX4_givenBit_75 rfl ?_
    refine lv_lshl C.1 C.2.1 dX4_givenBit_76 rfl ?_
    obtain rfl := som h
    exact x_lret C w hr hk dX4_givenBit_77
  replace h := iff0 hz6_0 h
  by_cases hz6_1 : v_1 = (118 : Int32)
  · replace h := ift hz6_1 h
    refine lv_lookup (off := 34) (tgt := 40) C.1 C.2.1 dX4_givenBit_6 (by decide) (off_f (i_ne (v := (98 : Int32)) (by decide) hz6_0) (off_t (by rw [hz6_1]; decide))) (by decide) ?_
    refine lv_lconst (v := 1) C.1 C.2.1 dX4_givenBit_40 (by decide) ?_
    refine lv_aload_n C.1 C.2.1 dX4_givenBit_41 rfl (lv_at hl 0 rfl) ?_
    refine x_getC C w (50 + 8 * x0 + 4) fX4_24 ho_x0 (crP4 ho_x0) dX4_givenBit_42 ?_
    refine lv_iload_n C.1 C.2.1 dX4_givenBit_45 rfl (lv_at hl 1 rfl) ?_
    obtain ⟨v_3, hv_3, h⟩ := bnd h
    refine x_lald C w (obP4 ho_x0) hv_3 dX4_givenBit_46 ?_
    refine lv_l2i C.1 C.2.1 dX4_givenBit_47 rfl ?_
    refine lv_lshl C.1 C.2.1 dX4_givenBit_48 rfl ?_
    obtain rfl := som h
    exact x_lret C w hr hk dX4_givenBit_49
  replace h := iff0 hz6_1 h
  by_cases hz6_2 : v_1 = (119 : Int32)
  · replace h := ift hz6_2 h
    refine lv_lookup (off := 44) (tgt := 50) C.1 C.2.1 dX4_givenBit_6 (by decide) (off_f (i_ne (v := (98 : Int32)) (by decide) hz6_0) (off_f (i_ne (v := (118 : Int32)) (by decide) hz6_1) (off_t (by rw [hz6_2]; decide)))) (by decide) ?_
    refine lv_lconst (v := 1) C.1 C.2.1 dX4_givenBit_50 (by decide) ?_
    refine lv_ldc2 C.1 C.2.1 C.2.2.2.1 (C.2.2.2.2 _ nX4_134) dX4_givenBit_51 ?_
    refine lv_aload_n C.1 C.2.1 dX4_givenBit_54 rfl (lv_at hl 0 rfl) ?_
    refine x_getC C w (50 + 8 * x0 + 4) fX4_24 ho_x0 (crP4 ho_x0) dX4_givenBit_55 ?_
    refine lv_iload_n C.1 C.2.1 dX4_givenBit_58 rfl (lv_at hl 1 rfl) ?_
    obtain ⟨v_4, hv_4, h⟩ := bnd h
    refine x_lald C w (obP4 ho_x0) hv_4 dX4_givenBit_59 ?_
    refine lv_ladd C.1 C.2.1 dX4_givenBit_60 ?_
    refine lv_l2i C.1 C.2.1 dX4_givenBit_61 rfl ?_
    refine lv_lshl C.1 C.2.1 dX4_givenBit_62 rfl ?_
    obtain rfl := som h
    exact x_lret C w hr hk dX4_givenBit_63
  replace h := iff0 hz6_2 h
  refine lv_lookup (off := 72) (tgt := 78) C.1 C.2.1 dX4_givenBit_6 (by decide) (off_f (i_ne (v := (98 : Int32)) (by decide) hz6_0) (off_f (i_ne (v := (118 : Int32)) (by decide) hz6_1) (off_f (i_ne (v := (119 : Int32)) (by decide) hz6_2) rfl))) (by decide) ?_
  refine lv_lconst (v := 0) C.1 C.2.1 dX4_givenBit_78 (by decide) ?_
  obtain rfl := som h
  exact x_lret C w hr hk dX4_givenBit_79
end S_Pg_givenBit
set_option maxRecDepth 100000 in
theorem k_Pg_givenBit (l : Launch) (D : va_G) (T : Cy) (ρ : Nat → Nat) (g sz : Nat) (S : St) {x0 : Nat} {x1 : Int32} (ho_x0 : Ob Yc x0 2) {r : Int64} (h : m_Pg_givenBit g S x0 x1 = some r) : Mj l Yc D T ρ yX4_givenBit cX4_givenBit 2 (some .long) 0 0 S S r [.ref (ρ x0), .int x1] sz :=
  x_in (by decide) (Nat.le_of_ble_eq_true rfl) (fun p e s m below meth c ls C hr hk w hl => w_Pg_givenBit_0 C hr hk w hl ho_x0 h)

theorem dX4_say_0 : decode cX4_say 0 = .ok (.aload_n 0, 1) := by decide +kernel
theorem dX4_say_1 : decode cX4_say 1 = .ok (.getfield 60, 3) := by decide +kernel
theorem dX4_say_4 : decode cX4_say 4 = .ok (.ifCond .ne 8, 3) := by decide +kernel
theorem dX4_say_7 : decode cX4_say 7 = .ok (.aload_n 0, 1) := by decide +kernel
theorem dX4_say_8 : decode cX4_say 8 = .ok (.iload_n 1, 1) := by decide +kernel
theorem dX4_say_9 : decode cX4_say 9 = .ok (.putfield 63, 3) := by decide +kernel
theorem dX4_say_12 : decode cX4_say 12 = .ok (.aload_n 0, 1) := by decide +kernel
theorem dX4_say_13 : decode cX4_say 13 = .ok (.dup, 1) := by decide +kernel
theorem dX4_say_14 : decode cX4_say 14 = .ok (.getfield 60, 3) := by decide +kernel
theorem dX4_say_17 : decode cX4_say 17 = .ok (.iconst 1, 1) := by decide +kernel
theorem dX4_say_18 : decode cX4_say 18 = .ok (.isub, 1) := by decide +kernel
theorem dX4_say_19 : decode cX4_say 19 = .ok (.putfield 60, 3) := by decide +kernel
theorem dX4_say_22 : decode cX4_say 22 = .ok (.return_, 1) := by decide +kernel
def m_Pg_say (g : Nat) (S : St) (x0 : Nat) (x1 : Int32) : Option St :=
if (gI S x0 13) = 0 then (
  lt (sI S x0 14 x1) fun S_2 =>
  lt (sI S_2 x0 13 ((gI S_2 x0 13) - (1 : Int32))) fun S_3 =>
  some S_3
) else (
  lt (sI S x0 13 ((gI S x0 13) - (1 : Int32))) fun S_1 =>
  some S_1
)
section S_Pg_say
variable {p : Program} {l : Launch} {e : Env} {s : State} {m : MethodId} {args : Array Value} {below : List Frame} {meth : Method} {c : Code} {H : Heap} {locs : List Loc} {ls : Array Slot} {D : va_G} {T : Cy} {ρ : Nat → Nat} {A : Nat → Prop}
set_option maxRecDepth 100000 in
set_option maxHeartbeats 4000000 in
theorem w_Pg_say_0  {g : Nat} {S : St} {x0 : Nat} {x1 : Int32} (C : CallFix p m c cX4_say 2 s args tb RX4) (hr : meth.sig.returnType = none) (hk : meth.locks = false) {S' : St} (w : Wn Yc D T ρ S A s H locs) (hl : lv_has ls 2 [(0, .ref (ρ x0)), (1, .int x1)]) (ho_x0 : Ob Yc x0 2) (h : m_Pg_say g S x0 x1 = some S') : W p l e (rmN 0 0) s m args below meth c H locs 0 0 (MQ below (Qv Yc D T ρ A S') args s 0 0 A) (F0 m 0 ls []) := by
  unfold m_Pg_say at h
  refine lv_aload_n C.1 C.2.1 dX4_say_0 rfl (lv_at hl 0 rfl) ?_
  refine x_getI C w fX4_60 ho_x0 dX4_say_1 ?_
  refine lv_if_ne (tgt := 12) C.1 C.2.1 dX4_say_4 (by decide) (fun hc => ?_) (fun hc => ?_)
  · replace h := iff0 hc h
    refine lv_aload_n C.1 C.2.1 dX4_say_12 rfl (lv_at hl 0 rfl) ?_
    refine lv_dup C.1 C.2.1 dX4_say_13 rfl ?_
    refine x_getI C w fX4_60 ho_x0 dX4_say_14 ?_
    refine lv_iconst (v := 1) C.1 C.2.1 dX4_say_17 (by decide) ?_
    refine lv_isub C.1 C.2.1 dX4_say_18 ?_
    obtain ⟨S_1, eS_1, h⟩ := lt_e h
    refine y_putI C w eS_1 fX4_60 pX4_13 ho_x0 dX4_say_19 (fun H locs w => ?_)
    obtain rfl := som h
    exact x_vret C w hr hk dX4_say_22
  · replace h := ift hc h
    refine lv_aload_n C.1 C.2.1 dX4_say_7 rfl (lv_at hl 0 rfl) ?_
    refine lv_iload_n C.1 C.2.1 dX4_say_8 rfl (lv_at hl 1 rfl) ?_
    obtain ⟨S_2, eS_2, h⟩ := lt_e h
    refine y_putI C w eS_2 fX4_63 pX4_14 ho_x0 dX4_say_9 (fun H locs w => ?_)
    refine lv_aload_n C.1 C.2.1 dX4_say_12 rfl (lv_at hl 0 rfl) ?_
    refine lv_dup C.1 C.2.1 dX4_say_13 rfl ?_
    refine x_getI C w fX4_60 ho_x0 dX4_say_14 ?_
    refine lv_iconst (v := 1) C.1 C.2.1 dX4_say_17 (by decide) ?_
    refine lv_isub C.1 C.2.1 dX4_say_18 ?_
    obtain ⟨S_3, eS_3, h⟩ := lt_e h
    refine y_putI C w eS_3 fX4_60 pX4_13 ho_x0 dX4_say_19 (fun H locs w => ?_)
    obtain rfl := som h
    exact x_vret C w hr hk dX4_say_22
end S_Pg_say
set_option maxRecDepth 100000 in
theorem k_Pg_say (l : Launch) (D : va_G) (T : Cy) (ρ : Nat → Nat) (g sz : Nat) (S : St) {x0 : Nat} {x1 : Int32} (ho_x0 : Ob Yc x0 2) {S' : St} (h : m_Pg_say g S x0 x1 = some S') : Mv l Yc D T ρ yX4_say cX4_say 2 none 0 0 S S' [.ref (ρ x0), .int x1] sz :=
  x_in (by decide) (Nat.le_of_ble_eq_true rfl) (fun p e s m below meth c ls C hr hk w hl => w_Pg_say_0 C hr hk w hl ho_x0 h)

theorem dX4_sayUnit_0 : decode cX4_sayUnit 0 = .ok (.iload_n 1, 1) := by decide +kernel
theorem dX4_sayUnit_1 : decode cX4_sayUnit 1 = .ok (.bipush 32, 2) := by decide +kernel
theorem dX4_sayUnit_3 : decode cX4_sayUnit 3 = .ok (.if_icmp .lt 27, 3) := by decide +kernel
theorem dX4_sayUnit_6 : decode cX4_sayUnit 6 = .ok (.iload_n 1, 1) := by decide +kernel
theorem dX4_sayUnit_7 : decode cX4_sayUnit 7 = .ok (.bipush 126, 2) := by decide +kernel
theorem dX4_sayUnit_9 : decode cX4_sayUnit 9 = .ok (.if_icmp .gt 21, 3) := by decide +kernel
theorem dX4_sayUnit_12 : decode cX4_sayUnit 12 = .ok (.iload_n 1, 1) := by decide +kernel
theorem dX4_sayUnit_13 : decode cX4_sayUnit 13 = .ok (.bipush 34, 2) := by decide +kernel
theorem dX4_sayUnit_15 : decode cX4_sayUnit 15 = .ok (.if_icmp .eq 15, 3) := by decide +kernel
theorem dX4_sayUnit_18 : decode cX4_sayUnit 18 = .ok (.iload_n 1, 1) := by decide +kernel
theorem dX4_sayUnit_19 : decode cX4_sayUnit 19 = .ok (.bipush 92, 2) := by decide +kernel
theorem dX4_sayUnit_21 : decode cX4_sayUnit 21 = .ok (.if_icmp .eq 9, 3) := by decide +kernel
theorem dX4_sayUnit_24 : decode cX4_sayUnit 24 = .ok (.aload_n 0, 1) := by decide +kernel
theorem dX4_sayUnit_25 : decode cX4_sayUnit 25 = .ok (.iload_n 1, 1) := by decide +kernel
theorem dX4_sayUnit_26 : decode cX4_sayUnit 26 = .ok (.invokevirtual 151, 3) := by decide +kernel
theorem dX4_sayUnit_29 : decode cX4_sayUnit 29 = .ok (.return_, 1) := by decide +kernel
theorem dX4_sayUnit_30 : decode cX4_sayUnit 30 = .ok (.aload_n 0, 1) := by decide +kernel
theorem dX4_sayUnit_31 : decode cX4_sayUnit 31 = .ok (.bipush 92, 2) := by decide +kernel
theorem dX4_sayUnit_33 : decode cX4_sayUnit 33 = .ok (.invokevirtual 151, 3) := by decide +kernel
theorem dX4_sayUnit_36 : decode cX4_sayUnit 36 = .ok (.iload_n 1, 1) := by decide +kernel
theorem dX4_sayUnit_37 : decode cX4_sayUnit 37 = .ok (.bipush 34, 2) := by decide +kernel
theorem dX4_sayUnit_39 : decode cX4_sayUnit 39 = .ok (.if_icmp .eq 9, 3) := by decide +kernel
theorem dX4_sayUnit_42 : decode cX4_sayUnit 42 = .ok (.iload_n 1, 1) := by decide +kernel
theorem dX4_sayUnit_43 : decode cX4_sayUnit 43 = .ok (.bipush 92, 2) := by decide +kernel
theorem dX4_sayUnit_45 : decode cX4_sayUnit 45 = .ok (.if_icmp .ne 11, 3) := by decide +kernel
theorem dX4_sayUnit_48 : decode cX4_sayUnit 48 = .ok (.aload_n 0, 1) := by decide +kernel
theorem dX4_sayUnit_49 : decode cX4_sayUnit 49 = .ok (.iload_n 1, 1) := by decide +kernel
theorem dX4_sayUnit_50 : decode cX4_sayUnit 50 = .ok (.invokevirtual 151, 3) := by decide +kernel
theorem dX4_sayUnit_53 : decode cX4_sayUnit 53 = .ok (.goto 83, 3) := by decide +kernel
theorem dX4_sayUnit_56 : decode cX4_sayUnit 56 = .ok (.iload_n 1, 1) := by decide +kernel
theorem dX4_sayUnit_57 : decode cX4_sayUnit 57 = .ok (.bipush 10, 2) := by decide +kernel
theorem dX4_sayUnit_59 : decode cX4_sayUnit 59 = .ok (.if_icmp .ne 12, 3) := by decide +kernel
theorem dX4_sayUnit_62 : decode cX4_sayUnit 62 = .ok (.aload_n 0, 1) := by decide +kernel
theorem dX4_sayUnit_63 : decode cX4_sayUnit 63 = .ok (.bipush 110, 2) := by decide +kernel
theorem dX4_sayUnit_65 : decode cX4_sayUnit 65 = .ok (.invokevirtual 151, 3) := by decide +kernel
theorem dX4_sayUnit_68 : decode cX4_sayUnit 68 = .ok (.goto 68, 3) := by decide +kernel
theorem dX4_sayUnit_71 : decode cX4_sayUnit 71 = .ok (.iload_n 1, 1) := by decide +kernel
theorem dX4_sayUnit_72 : decode cX4_sayUnit 72 = .ok (.bipush 9, 2) := by decide +kernel
theorem dX4_sayUnit_74 : decode cX4_sayUnit 74 = .ok (.if_icmp .ne 12, 3) := by decide +kernel
theorem dX4_sayUnit_77 : decode cX4_sayUnit 77 = .ok (.aload_n 0, 1) := by decide +kernel
theorem dX4_sayUnit_78 : decode cX4_sayUnit 78 = .ok (.bipush 116, 2) := by decide +kernel
theorem dX4_sayUnit_80 : decode cX4_sayUnit 80 = .ok (.invokevirtual 151, 3) := by decide +kernel
theorem dX4_sayUnit_83 : decode cX4_sayUnit 83 = .ok (.goto 53, 3) := by decide +kernel
theorem dX4_sayUnit_86 : decode cX4_sayUnit 86 = .ok (.aload_n 0, 1) := by decide +kernel
theorem dX4_sayUnit_87 : decode cX4_sayUnit 87 = .ok (.bipush 117, 2) := by decide +kernel
theorem dX4_sayUnit_89 : decode cX4_sayUnit 89 = .ok (.invokevirtual 151, 3) := by decide +kernel
theorem dX4_sayUnit_92 : decode cX4_sayUnit 92 = .ok (.bipush 12, 2) := by decide +kernel
theorem dX4_sayUnit_94 : decode cX4_sayUnit 94 = .ok (.istore_n 2, 1) := by decide +kernel
theorem dX4_sayUnit_95 : decode cX4_sayUnit 95 = .ok (.iload_n 2, 1) := by decide +kernel
theorem dX4_sayUnit_96 : decode cX4_sayUnit 96 = .ok (.ifCond .lt 40, 3) := by decide +kernel
theorem dX4_sayUnit_99 : decode cX4_sayUnit 99 = .ok (.iload_n 1, 1) := by decide +kernel
theorem dX4_sayUnit_100 : decode cX4_sayUnit 100 = .ok (.iload_n 2, 1) := by decide +kernel
theorem dX4_sayUnit_101 : decode cX4_sayUnit 101 = .ok (.ishr, 1) := by decide +kernel
theorem dX4_sayUnit_102 : decode cX4_sayUnit 102 = .ok (.bipush 15, 2) := by decide +kernel
theorem dX4_sayUnit_104 : decode cX4_sayUnit 104 = .ok (.iand, 1) := by decide +kernel
theorem dX4_sayUnit_105 : decode cX4_sayUnit 105 = .ok (.istore_n 3, 1) := by decide +kernel
theorem dX4_sayUnit_106 : decode cX4_sayUnit 106 = .ok (.aload_n 0, 1) := by decide +kernel
theorem dX4_sayUnit_107 : decode cX4_sayUnit 107 = .ok (.iload_n 3, 1) := by decide +kernel
theorem dX4_sayUnit_108 : decode cX4_sayUnit 108 = .ok (.bipush 10, 2) := by decide +kernel
theorem dX4_sayUnit_110 : decode cX4_sayUnit 110 = .ok (.if_icmp .ge 10, 3) := by decide +kernel
theorem dX4_sayUnit_113 : decode cX4_sayUnit 113 = .ok (.bipush 48, 2) := by decide +kernel
theorem dX4_sayUnit_115 : decode cX4_sayUnit 115 = .ok (.iload_n 3, 1) := by decide +kernel
theorem dX4_sayUnit_116 : decode cX4_sayUnit 116 = .ok (.iadd, 1) := by decide +kernel
theorem dX4_sayUnit_117 : decode cX4_sayUnit 117 = .ok (.goto 10, 3) := by decide +kernel
theorem dX4_sayUnit_120 : decode cX4_sayUnit 120 = .ok (.bipush 97, 2) := by decide +kernel
theorem dX4_sayUnit_122 : decode cX4_sayUnit 122 = .ok (.iload_n 3, 1) := by decide +kernel
theorem dX4_sayUnit_123 : decode cX4_sayUnit 123 = .ok (.iadd, 1) := by decide +kernel
theorem dX4_sayUnit_124 : decode cX4_sayUnit 124 = .ok (.bipush 10, 2) := by decide +kernel
theorem dX4_sayUnit_126 : decode cX4_sayUnit 126 = .ok (.isub, 1) := by decide +kernel
theorem dX4_sayUnit_127 : decode cX4_sayUnit 127 = .ok (.invokevirtual 151, 3) := by decide +kernel
theorem dX4_sayUnit_130 : decode cX4_sayUnit 130 = .ok (.iinc 2 (-4), 3) := by decide +kernel
theorem dX4_sayUnit_133 : decode cX4_sayUnit 133 = .ok (.goto (-38), 3) := by decide +kernel
theorem dX4_sayUnit_136 : decode cX4_sayUnit 136 = .ok (.return_, 1) := by decide +kernel
def m_Pg_sayUnit_48 (g : Nat) (S : St) (x0 : Nat) (x1 : Int32) : Option St :=
(m_Pg_say g S x0 x1).bind fun S_2 =>
some S_2
def m_Pg_sayUnit_127 (g : Nat) (k95 : St → Nat → Int32 → Int32 → Option St) (S : St) (x0 : Nat) (x1 : Int32) (x2 : Int32) (y0 : Nat) (y1 : Int32) : Option St :=
(m_Pg_say g S y0 y1).bind fun S_4 =>
lt (x2 + (-4 : Int32)) fun x2_5 =>
k95 S_4 x0 x1 x2_5
def b_Pg_sayUnit_95 (g : Nat) (k95 : St → Nat → Int32 → Int32 → Option St) (S : St) (x0 : Nat) (x1 : Int32) (x2 : Int32) : Option St :=
if x2 < 0 then (
  some S
) else (
  lt ((x1 >>> (x2 &&& 31)) &&& (15 : Int32)) fun x3_3 =>
  if (10 : Int32) ≤ x3_3 then (
    m_Pg_sayUnit_127 g k95 S x0 x1 x2 x0 (((97 : Int32) + x3_3) - (10 : Int32))
  ) else (
    m_Pg_sayUnit_127 g k95 S x0 x1 x2 x0 ((48 : Int32) + x3_3)
  )
)
def m_Pg_sayUnit_95 (g : Nat) : Nat → St → Nat → Int32 → Int32 → Option St
  | 0, _, _, _, _ => none
  | n + 1, S, x0, x1, x2 => b_Pg_sayUnit_95 g (m_Pg_sayUnit_95 g n) S x0 x1 x2
def m_Pg_sayUnit_30 (g : Nat) (S : St) (x0 : Nat) (x1 : Int32) : Option St :=
(m_Pg_say g S x0 (92 : Int32)).bind fun S_1 =>
if x1 = (34 : Int32) then (
  m_Pg_sayUnit_48 g S_1 x0 x1
) else (
  if x1 = (92 : Int32) then (
    m_Pg_sayUnit_48 g S_1 x0 x1
  ) else (
    if x1 = (10 : Int32) then (
      (m_Pg_say g S_1 x0 (110 : Int32)).bind fun S_4 =>
      some S_4
    ) else (
      if x1 = (9 : Int32) then (
        (m_Pg_say g S_1 x0 (116 : Int32)).bind fun S_3 =>
        some S_3
      ) else (
        (m_Pg_say g S_1 x0 (117 : Int32)).bind fun S_2 =>
        m_Pg_sayUnit_95 g g S_2 x0 x1 (12 : Int32)
      )
    )
  )
)
def m_Pg_sayUnit (g : Nat) (S : St) (x0 : Nat) (x1 : Int32) : Option St :=
if x1 < (32 : Int32) then (
  m_Pg_sayUnit_30 g S x0 x1
) else (
  if (126 : Int32) < x1 then (
    m_Pg_sayUnit_30 g S x0 x1
  ) else (
    if x1 = (34 : Int32) then (
      m_Pg_sayUnit_30 g S x0 x1
    ) else (
      if x1 = (92 : Int32) then (
        m_Pg_sayUnit_30 g S x0 x1
      ) else (
        (m_Pg_say g S x0 x1).bind fun S_1 =>
        some S_1
      )
    )
  )
)
section S_Pg_sayUnit
variable {p : Program} {l : Launch} {e : Env} {s : State} {m : MethodId} {args : Array Value} {below : List Frame} {meth : Method} {c : Code} {H : Heap} {locs : List Loc} {ls : Array Slot} {D : va_G} {T : Cy} {ρ : Nat → Nat} {A : Nat → Prop}
set_option maxRecDepth 100000 in
set_option maxHeartbeats 4000000 in
theorem w_Pg_sayUnit_48  {g : Nat} {S : St} {x0 : Nat} {x1 : Int32} (C : CallFix p m c cX4_sayUnit 4 s args tb RX4) (hr : meth.sig.returnType = none) (hk : meth.locks = false) {S' : St} (w : Wn Yc D T ρ S A s H locs) (hl : lv_has ls 4 [(0, .ref (ρ x0)), (1, .int x1)]) (ho_x0 : Ob Yc x0 2) (h : m_Pg_sayUnit_48 g S x0 x1 = some S') : W p l e (rmN 1 21) s m args below meth c H locs 0 0 (MQ below (Qv Yc D T ρ A S') args s 0 0 A) (F0 m 48 ls []) := by
  unfold m_Pg_sayUnit_48 at h
  refine lv_aload_n C.1 C.2.1 dX4_sayUnit_48 rfl (lv_at hl 0 rfl) ?_
  refine lv_iload_n C.1 C.2.1 dX4_sayUnit_49 rfl (lv_at hl 1 rfl) ?_
  obtain ⟨S_2, hS_2, h⟩ := bnd h
  refine x_callVv (q := (RX4, TX4, 16)) (As := [.int x1]) (rest := []) C w (k_Pg_say l D T ρ g H.size S ho_x0 hS_2) vX4_151 ⟨by decide, by decide⟩ ho_x0 (by decide) rfl rfl rfl hl.1 (Nat.le_of_ble_eq_true rfl) ⟨Nat.zero_le _, Nat.zero_le _⟩ dX4_sayUnit_50 (fun H locs w => ?_)
  refine lv_goto (tgt := 136) C.1 C.2.1 dX4_sayUnit_53 (by decide) ?_
  obtain rfl := som h
  exact x_vret C w hr hk dX4_sayUnit_136
set_option maxRecDepth 100000 in
set_option maxHeartbeats 4000000 in
theorem w_Pg_sayUnit_127  {g : Nat} {S : St} {x0 : Nat} {x1 : Int32} {x2 : Int32} {y0 : Nat} {y1 : Int32} (C : CallFix p m c cX4_sayUnit 4 s args tb RX4) (hr : meth.sig.returnType = none) (hk : meth.locks = false) {S' : St} {k95 : St → Nat → Int32 → Int32 → Option St} (kk95 : ∀ (S : St) (x0 : Nat) (x1 : Int32) (x2 : Int32) (H : Heap) (locs : List Loc) (ls : Array Slot), Wn Yc D T ρ S A s H locs → lv_has ls 4 [(0, .ref (ρ x0)), (1, .int x1), (2, .int x2)] → Ob Yc x0 2 → k95 S x0 x1 x2 = some S' → W p l e (rmN 1 21) s m args below meth c H locs 0 0 (MQ below (Qv Yc D T ρ A S') args s 0 0 A) (F0 m 95 ls [])) (w : Wn Yc D T ρ S A s H locs) (hl : lv_has ls 4 [(0, .ref (ρ x0)), (1, .int x1), (2, .int x2)]) (ho_x0 : Ob Yc x0 2) (ho_y0 : Ob Yc y0 2) (h : m_Pg_sayUnit_127 g k95 S x0 x1 x2 y0 y1 = some S') : W p l e (rmN 1 21) s m args below meth c H locs 0 0 (MQ below (Qv Yc D T ρ A S') args s 0 0 A) (F0 m 127 ls [.int y1, .ref (ρ y0)]) := by
  unfold m_Pg_sayUnit_127 at h
  obtain ⟨S_4, hS_4, h⟩ := bnd h
  refine x_callVv (q := (RX4, TX4, 16)) (As := [.int y1]) (rest := []) C w (k_Pg_say l D T ρ g H.size S ho_y0 hS_4) vX4_151 ⟨by decide, by decide⟩ ho_y0 (by decide) rfl rfl rfl hl.1 (Nat.le_of_ble_eq_true rfl) ⟨Nat.zero_le _, Nat.zero_le _⟩ dX4_sayUnit_127 (fun H locs w => ?_)
  obtain ⟨x2_5, ex2_5, h⟩ := lt_e h
  refine lv_iinc (v := x2_5) (lv' := [(2, .int x2_5), (0, .ref (ρ x0)), (1, .int x1)]) C.1 C.2.1 dX4_sayUnit_130 hl (k := 2) rfl (by rw [ex2_5]; rfl) (by decide) rfl (fun ls hl => ?_)
  refine lv_goto (tgt := 95) C.1 C.2.1 dX4_sayUnit_133 (by decide) ?_
  exact kk95 _ _ _ _ _ _ _ w (lv_sub hl [1, 2, 0] rfl) ho_x0 h
set_option maxRecDepth 100000 in
set_option maxHeartbeats 4000000 in
theorem wb_Pg_sayUnit_95  {g : Nat} {S : St} {x0 : Nat} {x1 : Int32} {x2 : Int32} (C : CallFix p m c cX4_sayUnit 4 s args tb RX4) (hr : meth.sig.returnType = none) (hk : meth.locks = false) {S' : St} {k95 : St → Nat → Int32 → Int32 → Option St} (kk95 : ∀ (S : St) (x0 : Nat) (x1 : Int32) (x2 : Int32) (H : Heap) (locs : List Loc) (ls : Array Slot), Wn Yc D T ρ S A s H locs → lv_has ls 4 [(0, .ref (ρ x0)), (1, .int x1), (2, .int x2)] → Ob Yc x0 2 → k95 S x0 x1 x2 = some S' → W p l e (rmN 1 21) s m args below meth c H locs 0 0 (MQ below (Qv Yc D T ρ A S') args s 0 0 A) (F0 m 95 ls [])) (w : Wn Yc D T ρ S A s H locs) (hl : lv_has ls 4 [(0, .ref (ρ x0)), (1, .int x1), (2, .int x2)]) (ho_x0 : Ob Yc x0 2) (h : b_Pg_sayUnit_95 g k95 S x0 x1 x2 = some S') : W p l e (rmN 1 21) s m args below meth c H locs 0 0 (MQ below (Qv Yc D T ρ A S') args s 0 0 A) (F0 m 95 ls []) := by
  unfold b_Pg_sayUnit_95 at h
  refine lv_iload_n C.1 C.2.1 dX4_sayUnit_95 rfl (lv_at hl 2 rfl) ?_
  refine lv_if_lt (tgt := 136) C.1 C.2.1 dX4_sayUnit_96 (by decide) (fun hc => ?_) (fun hc => ?_)
  · replace h := ift hc h
    obtain rfl := som h
    exact x_vret C w hr hk dX4_sayUnit_136
  · replace h := iff0 hc h
    refine lv_iload_n C.1 C.2.1 dX4_sayUnit_99 rfl (lv_at hl 1 rfl) ?_
    refine lv_iload_n C.1 C.2.1 dX4_sayUnit_100 rfl (lv_at hl 2 rfl) ?_
    refine lv_ishr C.1 C.2.1 dX4_sayUnit_101 ?_
    refine lv_bipush (v := 15) C.1 C.2.1 dX4_sayUnit_102 (by decide) ?_
    refine lv_iand C.1 C.2.1 dX4_sayUnit_104 ?_
    obtain ⟨x3_3, ex3_3, h⟩ := lt_e h
    refine x_nm ex3_3 ?_
    refine lv_istore_n (lv' := [(3, .int x3_3), (0, .ref (ρ x0)), (1, .int x1), (2, .int x2)]) C.1 C.2.1 dX4_sayUnit_105 rfl hl (by decide) rfl (fun ls hl => ?_)
    refine lv_aload_n C.1 C.2.1 dX4_sayUnit_106 rfl (lv_at hl 1 rfl) ?_
    refine lv_iload_n C.1 C.2.1 dX4_sayUnit_107 rfl (lv_at hl 0 rfl) ?_
    refine lv_bipush (v := 10) C.1 C.2.1 dX4_sayUnit_108 (by decide) ?_
    refine lv_icmp_ge (tgt := 120) C.1 C.2.1 dX4_sayUnit_110 (by decide) (fun hc => ?_) (fun hc => ?_)
    · replace h := ift hc h
      refine lv_bipush (v := 97) C.1 C.2.1 dX4_sayUnit_120 (by decide) ?_
      refine lv_iload_n C.1 C.2.1 dX4_sayUnit_122 rfl (lv_at hl 0 rfl) ?_
      refine lv_iadd C.1 C.2.1 dX4_sayUnit_123 ?_
      refine lv_bipush (v := 10) C.1 C.2.1 dX4_sayUnit_124 (by decide) ?_
      refine lv_isub C.1 C.2.1 dX4_sayUnit_126 ?_
      exact w_Pg_sayUnit_127 C hr hk kk95 w (lv_sub hl [1, 2, 3] rfl) ho_x0 ho_x0 h
    · replace h := iff0 hc h
      refine lv_bipush (v := 48) C.1 C.2.1 dX4_sayUnit_113 (by decide) ?_
      refine lv_iload_n C.1 C.2.1 dX4_sayUnit_115 rfl (lv_at hl 0 rfl) ?_
      refine lv_iadd C.1 C.2.1 dX4_sayUnit_116 ?_
      refine lv_goto (tgt := 127) C.1 C.2.1 dX4_sayUnit_117 (by decide) ?_
      exact w_Pg_sayUnit_127 C hr hk kk95 w (lv_sub hl [1, 2, 3] rfl) ho_x0 ho_x0 h
theorem w_Pg_sayUnit_95 {g : Nat} (C : CallFix p m c cX4_sayUnit 4 s args tb RX4) (hr : meth.sig.returnType = none) (hk : meth.locks = false) {S' : St} (n : Nat) : ∀ (S : St) (x0 : Nat) (x1 : Int32) (x2 : Int32) (H : Heap) (locs : List Loc) (ls : Array Slot), Wn Yc D T ρ S A s H locs → lv_has ls 4 [(0, .ref (ρ x0)), (1, .int x1), (2, .int x2)] → Ob Yc x0 2 → m_Pg_sayUnit_95 g n S x0 x1 x2 = some S' → W p l e (rmN 1 21) s m args below meth c H locs 0 0 (MQ below (Qv Yc D T ρ A S') args s 0 0 A) (F0 m 95 ls []) := by
  induction n with
  | zero => intro S x0 x1 x2 H locs ls w hl ho_x0 h; exact absurd h (fun q => by cases q)
  | succ n ih => intro S x0 x1 x2 H locs ls w hl ho_x0 h; exact wb_Pg_sayUnit_95 C hr hk ih w hl ho_x0 h
set_option maxRecDepth 100000 in
set_option maxHeartbeats 4000000 in
theorem w_Pg_sayUnit_30  {g : Nat} {S : St} {x0 : Nat} {x1 : Int32} (C : CallFix p m c cX4_sayUnit 4 s args tb RX4) (hr : meth.sig.returnType = none) (hk : meth.locks = false) {S' : St} (w : Wn Yc D T ρ S A s H locs) (hl : lv_has ls 4 [(0, .ref (ρ x0)), (1, .int x1)]) (ho_x0 : Ob Yc x0 2) (h : m_Pg_sayUnit_30 g S x0 x1 = some S') : W p l e (rmN 1 21) s m args below meth c H locs 0 0 (MQ below (Qv Yc D T ρ A S') args s 0 0 A) (F0 m 30 ls []) := by
  unfold m_Pg_sayUnit_30 at h
  refine lv_aload_n C.1 C.2.1 dX4_sayUnit_30 rfl (lv_at hl 0 rfl) ?_
  refine lv_bipush (v := 92) C.1 C.2.1 dX4_sayUnit_31 (by decide) ?_
  obtain ⟨S_1, hS_1, h⟩ := bnd h
  refine x_callVv (q := (RX4, TX4, 16)) (As := [.int (92 : Int32)]) (rest := []) C w (k_Pg_say l D T ρ g H.size S ho_x0 hS_1) vX4_151 ⟨by decide, by decide⟩ ho_x0 (by decide) rfl rfl rfl hl.1 (Nat.le_of_ble_eq_true rfl) ⟨Nat.zero_le _, Nat.zero_le _⟩ dX4_sayUnit_33 (fun H locs w => ?_)
  refine lv_iload_n C.1 C.2.1 dX4_sayUnit_36 rfl (lv_at hl 1 rfl) ?_
  refine lv_bipush (v := 34) C.1 C.2.1 dX4_sayUnit_37 (by decide) ?_
  refine lv_icmp_eq (tgt := 48) C.1 C.2.1 dX4_sayUnit_39 (by decide) (fun hc => ?_) (fun hc => ?_)
  · replace h := ift hc h
    exact w_Pg_sayUnit_48 C hr hk w (lv_sub hl [0, 1] rfl) ho_x0 h
  · replace h := iff0 hc h
    refine lv_iload_n C.1 C.2.1 dX4_sayUnit_42 rfl (lv_at hl 1 rfl) ?_
    refine lv_bipush (v := 92) C.1 C.2.1 dX4_sayUnit_43 (by decide) ?_
    refine lv_icmp_ne (tgt := 56) C.1 C.2.1 dX4_sayUnit_45 (by decide) (fun hc => ?_) (fun hc => ?_)
    · replace h := iff0 hc h
      refine lv_iload_n C.1 C.2.1 dX4_sayUnit_56 rfl (lv_at hl 1 rfl) ?_
      refine lv_bipush (v := 10) C.1 C.2.1 dX4_sayUnit_57 (by decide) ?_
      refine lv_icmp_ne (tgt := 71) C.1 C.2.1 dX4_sayUnit_59 (by decide) (fun hc => ?_) (fun hc => ?_)
      · replace h := iff0 hc h
        refine lv_iload_n C.1 C.2.1 dX4_sayUnit_71 rfl (lv_at hl 1 rfl) ?_
        refine lv_bipush (v := 9) C.1 C.2.1 dX4_sayUnit_72 (by decide) ?_
        refine lv_icmp_ne (tgt := 86) C.1 C.2.1 dX4_sayUnit_74 (by decide) (fun hc => ?_) (fun hc => ?_)
        · replace h := iff0 hc h
          refine lv_aload_n C.1 C.2.1 dX4_sayUnit_86 rfl (lv_at hl 0 rfl) ?_
          refine lv_bipush (v := 117) C.1 C.2.1 dX4_sayUnit_87 (by decide) ?_
          obtain ⟨S_2, hS_2, h⟩ := bnd h
          refine x_callVv (q := (RX4, TX4, 16)) (As := [.int (117 : Int32)]) (rest := []) C w (k_Pg_say l D T ρ g H.size S_1 ho_x0 hS_2) vX4_151 ⟨by decide, by decide⟩ ho_x0 (by decide) rfl rfl rfl hl.1 (Nat.le_of_ble_eq_true rfl) ⟨Nat.zero_le _, Nat.zero_le _⟩ dX4_sayUnit_89 (fun H locs w => ?_)
          refine lv_bipush (v := 12) C.1 C.2.1 dX4_sayUnit_92 (by decide) ?_
          refine lv_istore_n (lv' := [(2, .int (12 : Int32)), (0, .ref (ρ x0)), (1, .int x1)]) C.1 C.2.1 dX4_sayUnit_94 rfl hl (by decide) rfl (fun ls hl => ?_)
          exact w_Pg_sayUnit_95 C hr hk g _ _ _ _ _ _ _ w (lv_sub hl [1, 2, 0] rfl) ho_x0 h
        · replace h := ift hc h
          refine lv_aload_n C.1 C.2.1 dX4_sayUnit_77 rfl (lv_at hl 0 rfl) ?_
          refine lv_bipush (v := 116) C.1 C.2.1 dX4_sayUnit_78 (by decide) ?_
          obtain ⟨S_3, hS_3, h⟩ := bnd h
          refine x_callVv (q := (RX4, TX4, 16)) (As := [.int (116 : Int32)]) (rest := []) C w (k_Pg_say l D T ρ g H.size S_1 ho_x0 hS_3) vX4_151 ⟨by decide, by decide⟩ ho_x0 (by decide) rfl rfl rfl hl.1 (Nat.le_of_ble_eq_true rfl) ⟨Nat.zero_le _, Nat.zero_le _⟩ dX4_sayUnit_80 (fun H locs w => ?_)
          refine lv_goto (tgt := 136) C.1 C.2.1 dX4_sayUnit_83 (by decide) ?_
          obtain rfl := som h
          exact x_vret C w hr hk dX4_sayUnit_136
      · replace h := ift hc h
        refine lv_aload_n C.1 C.2.1 dX4_sayUnit_62 rfl (lv_at hl 0 rfl) ?_
        refine lv_bipush (v := 110) C.1 C.2.1 dX4_sayUnit_63 (by decide) ?_
        obtain ⟨S_4, hS_4, h⟩ := bnd h
        refine x_callVv (q := (RX4, TX4, 16)) (As := [.int (110 : Int32)]) (rest := []) C w (k_Pg_say l D T ρ g H.size S_1 ho_x0 hS_4) vX4_151 ⟨by decide, by decide⟩ ho_x0 (by decide) rfl rfl rfl hl.1 (Nat.le_of_ble_eq_true rfl) ⟨Nat.zero_le _, Nat.zero_le _⟩ dX4_sayUnit_65 (fun H locs w => ?_)
        refine lv_goto (tgt := 136) C.1 C.2.1 dX4_sayUnit_68 (by decide) ?_
        obtain rfl := som h
        exact x_vret C w hr hk dX4_sayUnit_136
    · replace h := ift hc h
      exact w_Pg_sayUnit_48 C hr hk w (lv_sub hl [0, 1] rfl) ho_x0 h
set_option maxRecDepth 100000 in
set_option maxHeartbeats 4000000 in
theorem w_Pg_sayUnit_0  {g : Nat} {S : St} {x0 : Nat} {x1 : Int32} (C : CallFix p m c cX4_sayUnit 4 s args tb RX4) (hr : meth.sig.returnType = none) (hk : meth.locks = false) {S' : St} (w : Wn Yc D T ρ S A s H locs) (hl : lv_has ls 4 [(0, .ref (ρ x0)), (1, .int x1)]) (ho_x0 : Ob Yc x0 2) (h : m_Pg_sayUnit g S x0 x1 = some S') : W p l e (rmN 1 21) s m args below meth c H locs 0 0 (MQ below (Qv Yc D T ρ A S') args s 0 0 A) (F0 m 0 ls []) := by
  unfold m_Pg_sayUnit at h
  refine lv_iload_n C.1 C.2.1 dX4_sayUnit_0 rfl (lv_at hl 1 rfl) ?_
  refine lv_bipush (v := 32) C.1 C.2.1 dX4_sayUnit_1 (by decide) ?_
  refine lv_icmp_lt (tgt := 30) C.1 C.2.1 dX4_sayUnit_3 (by decide) (fun hc => ?_) (fun hc => ?_)
  · replace h := ift hc h
    exact w_Pg_sayUnit_30 C hr hk w (lv_sub hl [0, 1] rfl) ho_x0 h
  · replace h := iff0 hc h
    refine lv_iload_n C.1 C.2.1 dX4_sayUnit_6 rfl (lv_at hl 1 rfl) ?_
    refine lv_bipush (v := 126) C.1 C.2.1 dX4_sayUnit_7 (by decide) ?_
    refine lv_icmp_gt (tgt := 30) C.1 C.2.1 dX4_sayUnit_9 (by decide) (fun hc => ?_) (fun hc => ?_)
    · replace h := ift hc h
      exact w_Pg_sayUnit_30 C hr hk w (lv_sub hl [0, 1] rfl) ho_x0 h
    · replace h := iff0 hc h
      refine lv_iload_n C.1 C.2.1 dX4_sayUnit_12 rfl (lv_at hl 1 rfl) ?_
      refine lv_bipush (v := 34) C.1 C.2.1 dX4_sayUnit_13 (by decide) ?_
      refine lv_icmp_eq (tgt := 30) C.1 C.2.1 dX4_sayUnit_15 (by decide) (fun hc => ?_) (fun hc => ?_)
      · replace h := ift hc h
        exact w_Pg_sayUnit_30 C hr hk w (lv_sub hl [0, 1] rfl) ho_x0 h
      · replace h := iff0 hc h
        refine lv_iload_n C.1 C.2.1 dX4_sayUnit_18 rfl (lv_at hl 1 rfl) ?_
        refine lv_bipush (v := 92) C.1 C.2.1 dX4_sayUnit_19 (by decide) ?_
        refine lv_icmp_eq (tgt := 30) C.1 C.2.1 dX4_sayUnit_21 (by decide) (fun hc => ?_) (fun hc => ?_)
        · replace h := ift hc h
          exact w_Pg_sayUnit_30 C hr hk w (lv_sub hl [0, 1] rfl) ho_x0 h
        · replace h := iff0 hc h
          refine lv_aload_n C.1 C.2.1 dX4_sayUnit_24 rfl (lv_at hl 0 rfl) ?_
          refine lv_iload_n C.1 C.2.1 dX4_sayUnit_25 rfl (lv_at hl 1 rfl) ?_
          obtain ⟨S_1, hS_1, h⟩ := bnd h
          refine x_callVv (q := (RX4, TX4, 16)) (As := [.int x1]) (rest := []) C w (k_Pg_say l D T ρ g H.size S ho_x0 hS_1) vX4_151 ⟨by decide, by decide⟩ ho_x0 (by decide) rfl rfl rfl hl.1 (Nat.le_of_ble_eq_true rfl) ⟨Nat.zero_le _, Nat.zero_le _⟩ dX4_sayUnit_26 (fun H locs w => ?_)
          obtain rfl := som h
          exact x_vret C w hr hk dX4_sayUnit_29
end S_Pg_sayUnit
set_option maxRecDepth 100000 in
theorem k_Pg_sayUnit (l : Launch) (D : va_G) (T : Cy) (ρ : Nat → Nat) (g sz : Nat) (S : St) {x0 : Nat} {x1 : Int32} (ho_x0 : Ob Yc x0 2) {S' : St} (h : m_Pg_sayUnit g S x0 x1 = some S') : Mv l Yc D T ρ yX4_sayUnit cX4_sayUnit 4 none 1 21 S S' [.ref (ρ x0), .int x1] sz :=
  x_in (by decide) (Nat.le_of_ble_eq_true rfl) (fun p e s m below meth c ls C hr hk w hl => w_Pg_sayUnit_0 C hr hk w hl ho_x0 h)

theorem dX4_sayLiteral_0 : decode cX4_sayLiteral 0 = .ok (.aload_n 0, 1) := by decide +kernel
theorem dX4_sayLiteral_1 : decode cX4_sayLiteral 1 = .ok (.getfield 40, 3) := by decide +kernel
theorem dX4_sayLiteral_4 : decode cX4_sayLiteral 4 = .ok (.iload_n 1, 1) := by decide +kernel
theorem dX4_sayLiteral_5 : decode cX4_sayLiteral 5 = .ok (.invokevirtual 76, 3) := by decide +kernel
theorem dX4_sayLiteral_8 : decode cX4_sayLiteral 8 = .ok (.istore_n 2, 1) := by decide +kernel
theorem dX4_sayLiteral_9 : decode cX4_sayLiteral 9 = .ok (.aload_n 0, 1) := by decide +kernel
theorem dX4_sayLiteral_10 : decode cX4_sayLiteral 10 = .ok (.bipush 34, 2) := by decide +kernel
theorem dX4_sayLiteral_12 : decode cX4_sayLiteral 12 = .ok (.invokevirtual 151, 3) := by decide +kernel
theorem dX4_sayLiteral_15 : decode cX4_sayLiteral 15 = .ok (.aload_n 0, 1) := by decide +kernel
theorem dX4_sayLiteral_16 : decode cX4_sayLiteral 16 = .ok (.iload_n 1, 1) := by decide +kernel
theorem dX4_sayLiteral_17 : decode cX4_sayLiteral 17 = .ok (.invokevirtual 83, 3) := by decide +kernel
theorem dX4_sayLiteral_20 : decode cX4_sayLiteral 20 = .ok (.istore_n 3, 1) := by decide +kernel
theorem dX4_sayLiteral_21 : decode cX4_sayLiteral 21 = .ok (.iload_n 3, 1) := by decide +kernel
theorem dX4_sayLiteral_22 : decode cX4_sayLiteral 22 = .ok (.iload_n 2, 1) := by decide +kernel
theorem dX4_sayLiteral_23 : decode cX4_sayLiteral 23 = .ok (.if_icmp .ge 21, 3) := by decide +kernel
theorem dX4_sayLiteral_26 : decode cX4_sayLiteral 26 = .ok (.aload_n 0, 1) := by decide +kernel
theorem dX4_sayLiteral_27 : decode cX4_sayLiteral 27 = .ok (.aload_n 0, 1) := by decide +kernel
theorem dX4_sayLiteral_28 : decode cX4_sayLiteral 28 = .ok (.getfield 36, 3) := by decide +kernel
theorem dX4_sayLiteral_31 : decode cX4_sayLiteral 31 = .ok (.iload_n 3, 1) := by decide +kernel
theorem dX4_sayLiteral_32 : decode cX4_sayLiteral 32 = .ok (.invokevirtual 76, 3) := by decide +kernel
theorem dX4_sayLiteral_35 : decode cX4_sayLiteral 35 = .ok (.invokevirtual 166, 3) := by decide +kernel
theorem dX4_sayLiteral_38 : decode cX4_sayLiteral 38 = .ok (.iinc 3 1, 3) := by decide +kernel
theorem dX4_sayLiteral_41 : decode cX4_sayLiteral 41 = .ok (.goto (-20), 3) := by decide +kernel
theorem dX4_sayLiteral_44 : decode cX4_sayLiteral 44 = .ok (.aload_n 0, 1) := by decide +kernel
theorem dX4_sayLiteral_45 : decode cX4_sayLiteral 45 = .ok (.bipush 34, 2) := by decide +kernel
theorem dX4_sayLiteral_47 : decode cX4_sayLiteral 47 = .ok (.invokevirtual 151, 3) := by decide +kernel
theorem dX4_sayLiteral_50 : decode cX4_sayLiteral 50 = .ok (.return_, 1) := by decide +kernel
def b_Pg_sayLiteral_21 (g : Nat) (k21 : St → Nat → Int32 → Int32 → Option St) (S : St) (x0 : Nat) (x2 : Int32) (x3 : Int32) : Option St :=
if x2 ≤ x3 then (
  (m_Pg_say g S x0 (34 : Int32)).bind fun S_4 =>
  some S_4
) else (
  (m_Row_at g S (8 + 3 * x0 + 0) x3).bind fun v_5 =>
  (m_Pg_sayUnit g S x0 v_5).bind fun S_6 =>
  lt (x3 + (1 : Int32)) fun x3_7 =>
  k21 S_6 x0 x2 x3_7
)
def m_Pg_sayLiteral_21 (g : Nat) : Nat → St → Nat → Int32 → Int32 → Option St
  | 0, _, _, _, _ => none
  | n + 1, S, x0, x2, x3 => b_Pg_sayLiteral_21 g (m_Pg_sayLiteral_21 g n) S x0 x2 x3
def m_Pg_sayLiteral (g : Nat) (S : St) (x0 : Nat) (x1 : Int32) : Option St :=
(m_Row_at g S (8 + 3 * x0 + 1) x1).bind fun v_1 =>
(m_Pg_say g S x0 (34 : Int32)).bind fun S_2 =>
(m_Pg_literalStart g S_2 x0 x1).bind fun v_3 =>
m_Pg_sayLiteral_21 g g S_2 x0 v_1 v_3
section S_Pg_sayLiteral
variable {p : Program} {l : Launch} {e : Env} {s : State} {m : MethodId} {args : Array Value} {below : List Frame} {meth : Method} {c : Code} {H : Heap} {locs : List Loc} {ls : Array Slot} {D : va_G} {T : Cy} {ρ : Nat → Nat} {A : Nat → Prop}
set_option maxRecDepth 100000 in
set_option maxHeartbeats 4000000 in
theorem wb_Pg_sayLiteral_21  {g : Nat} {S : St} {x0 : Nat} {x2 : Int32} {x3 : Int32} (C : CallFix p m c cX4_sayLiteral 4 s args tb RX4) (hr : meth.sig.returnType = none) (hk : meth.locks = false) {S' : St} {k21 : St → Nat → Int32 → Int32 → Option St} (kk21 : ∀ (S : St) (x0 : Nat) (x2 : Int32) (x3 : Int32) (H : Heap) (locs : List Loc) (ls : Array Slot), Wn Yc D T ρ S A s H locs → lv_has ls 4 [(0, .ref (ρ x0)), (2, .int x2), (3, .int x3)] → Ob Yc x0 2 → k21 S x0 x2 x3 = some S' → W p l e (rmN 2 44) s m args below meth c H locs 0 0 (MQ below (Qv Yc D T ρ A S') args s 0 0 A) (F0 m 21 ls [])) (w : Wn Yc D T ρ S A s H locs) (hl : lv_has ls 4 [(0, .ref (ρ x0)), (2, .int x2), (3, .int x3)]) (ho_x0 : Ob Yc x0 2) (h : b_Pg_sayLiteral_21 g k21 S x0 x2 x3 = some S') : W p l e (rmN 2 44) s m args below meth c H locs 0 0 (MQ below (Qv Yc D T ρ A S') args s 0 0 A) (F0 m 21 ls []) := by
  unfold b_Pg_sayLiteral_21 at h
  refine lv_iload_n C.1 C.2.1 dX4_sayLiteral_21 rfl (lv_at hl 2 rfl) ?_
  refine lv_iload_n C.1 C.2.1 dX4_sayLiteral_22 rfl (lv_at hl 1 rfl) ?_
  refine lv_icmp_ge (tgt := 44) C.1 C.2.1 dX4_sayLiteral_23 (by decide) (fun hc => ?_) (fun hc => ?_)
  · replace h := ift hc h
    refine lv_aload_n C.1 C.2.1 dX4_sayLiteral_44 rfl (lv_at hl 0 rfl) ?_
    refine lv_bipush (v := 34) C.1 C.2.1 dX4_sayLiteral_45 (by decide) ?_
    obtain ⟨S_4, hS_4, h⟩ := bnd h
    refine x_callVv (q := (RX4, TX4, 16)) (As := [.int (34 : Int32)]) (rest := []) C w (k_Pg_say l D T ρ g H.size S ho_x0 hS_4) vX4_151 ⟨by decide, by decide⟩ ho_x0 (by decide) rfl rfl rfl hl.1 (Nat.le_of_ble_eq_true rfl) ⟨Nat.zero_le _, Nat.zero_le _⟩ dX4_sayLiteral_47 (fun H locs w => ?_)
    obtain rfl := som h
    exact x_vret C w hr hk dX4_sayLiteral_50
  · replace h := iff0 hc h
    refine lv_aload_n C.1 C.2.1 dX4_sayLiteral_26 rfl (lv_at hl 0 rfl) ?_
    refine lv_aload_n C.1 C.2.1 dX4_sayLiteral_27 rfl (lv_at hl 0 rfl) ?_
    refine x_getC C w (8 + 3 * x0 + 0) fX4_36 ho_x0 (crP6 ho_x0) dX4_sayLiteral_28 ?_
    refine lv_iload_n C.1 C.2.1 dX4_sayLiteral_31 rfl (lv_at hl 2 rfl) ?_
    obtain ⟨v_5, hv_5, h⟩ := bnd h
    refine x_callVi (q := (RX6, TX6, 4)) (As := [.int x3]) (rest := [.ref (ρ x0)]) C w (k_Row_at l D T ρ g H.size S (obP6 ho_x0) hv_5) vX4_76 ⟨by decide, by decide⟩ (obP6 ho_x0) (by decide) rfl rfl rfl hl.1 (Nat.le_of_ble_eq_true rfl) ⟨Nat.zero_le _, Nat.zero_le _⟩ dX4_sayLiteral_32 (fun H locs w => ?_)
    obtain ⟨S_6, hS_6, h⟩ := bnd h
    refine x_callVv (q := (RX4, TX4, 16)) (As := [.int v_5]) (rest := []) C w (k_Pg_sayUnit l D T ρ g H.size S ho_x0 hS_6) vX4_166 ⟨by decide, by decide⟩ ho_x0 (by decide) rfl rfl rfl hl.1 (Nat.le_of_ble_eq_true rfl) ⟨Nat.zero_le _, Nat.zero_le _⟩ dX4_sayLiteral_35 (fun H locs w => ?_)
    obtain ⟨x3_7, ex3_7, h⟩ := lt_e h
    refine lv_iinc (v := x3_7) (lv' := [(3, .int x3_7), (0, .ref (ρ x0)), (2, .int x2)]) C.1 C.2.1 dX4_sayLiteral_38 hl (k := 2) rfl (by rw [ex3_7]; rfl) (by decide) rfl (fun ls hl => ?_)
    refine lv_goto (tgt := 21) C.1 C.2.1 dX4_sayLiteral_41 (by decide) ?_
    exact kk21 _ _ _ _ _ _ _ w (lv_sub hl [1, 2, 0] rfl) ho_x0 h
theorem w_Pg_sayLiteral_21 {g : Nat} (C : CallFix p m c cX4_sayLiteral 4 s args tb RX4) (hr : meth.sig.returnType = none) (hk : meth.locks = false) {S' : St} (n : Nat) : ∀ (S : St) (x0 : Nat) (x2 : Int32) (x3 : Int32) (H : Heap) (locs : List Loc) (ls : Array Slot), Wn Yc D T ρ S A s H locs → lv_has ls 4 [(0, .ref (ρ x0)), (2, .int x2), (3, .int x3)] → Ob Yc x0 2 → m_Pg_sayLiteral_21 g n S x0 x2 x3 = some S' → W p l e (rmN 2 44) s m args below meth c H locs 0 0 (MQ below (Qv Yc D T ρ A S') args s 0 0 A) (F0 m 21 ls []) := by
  induction n with
  | zero => intro S x0 x2 x3 H locs ls w hl ho_x0 h; exact absurd h (fun q => by cases q)
  | succ n ih => intro S x0 x2 x3 H locs ls w hl ho_x0 h; exact wb_Pg_sayLiteral_21 C hr hk ih w hl ho_x0 h
set_option maxRecDepth 100000 in
set_option maxHeartbeats 4000000 in
theorem w_Pg_sayLiteral_0  {g : Nat} {S : St} {x0 : Nat} {x1 : Int32} (C : CallFix p m c cX4_sayLiteral 4 s args tb RX4) (hr : meth.sig.returnType = none) (hk : meth.locks = false) {S' : St} (w : Wn Yc D T ρ S A s H locs) (hl : lv_has ls 4 [(0, .ref (ρ x0)), (1, .int x1)]) (ho_x0 : Ob Yc x0 2) (h : m_Pg_sayLiteral g S x0 x1 = some S') : W p l e (rmN 2 44) s m args below meth c H locs 0 0 (MQ below (Qv Yc D T ρ A S') args s 0 0 A) (F0 m 0 ls []) := by
  unfold m_Pg_sayLiteral at h
  refine lv_aload_n C.1 C.2.1 dX4_sayLiteral_0 rfl (lv_at hl 0 rfl) ?_
  refine x_getC C w (8 + 3 * x0 + 1) fX4_40 ho_x0 (crP7 ho_x0) dX4_sayLiteral_1 ?_
  refine lv_iload_n C.1 C.2.1 dX4_sayLiteral_4 rfl (lv_at hl 1 rfl) ?_
  obtain ⟨v_1, hv_1, h⟩ := bnd h
  refine x_callVi (q := (RX6, TX6, 4)) (As := [.int x1]) (rest := []) C w (k_Row_at l D T ρ g H.size S (obP7 ho_x0) hv_1) vX4_76 ⟨by decide, by decide⟩ (obP7 ho_x0) (by decide) rfl rfl rfl hl.1 (Nat.le_of_ble_eq_true rfl) ⟨Nat.zero_le _, Nat.zero_le _⟩ dX4_sayLiteral_5 (fun H locs w => ?_)
  refine lv_istore_n (lv' := [(2, .int v_1), (0, .ref (ρ x0)), (1, .int x1)]) C.1 C.2.1 dX4_sayLiteral_8 rfl hl (by decide) rfl (fun ls hl => ?_)
  refine lv_aload_n C.1 C.2.1 dX4_sayLiteral_9 rfl (lv_at hl 1 rfl) ?_
  refine lv_bipush (v := 34) C.1 C.2.1 dX4_sayLiteral_10 (by decide) ?_
  obtain ⟨S_2, hS_2, h⟩ := bnd h
  refine x_callVv (q := (RX4, TX4, 16)) (As := [.int (34 : Int32)]) (rest := []) C w (k_Pg_say l D T ρ g H.size S ho_x0 hS_2) vX4_151 ⟨by decide, by decide⟩ ho_x0 (by decide) rfl rfl rfl hl.1 (Nat.le_of_ble_eq_true rfl) ⟨Nat.zero_le _, Nat.zero_le _⟩ dX4_sayLiteral_12 (fun H locs w => ?_)
  refine lv_aload_n C.1 C.2.1 dX4_sayLiteral_15 rfl (lv_at hl 1 rfl) ?_
  refine lv_iload_n C.1 C.2.1 dX4_sayLiteral_16 rfl (lv_at hl 2 rfl) ?_
  obtain ⟨v_3, hv_3, h⟩ := bnd h
  refine x_callVi (q := (RX4, TX4, 16)) (As := [.int x1]) (rest := []) C w (k_Pg_literalStart l D T ρ g H.size S_2 ho_x0 hv_3) vX4_83 ⟨by decide, by decide⟩ ho_x0 (by decide) rfl rfl rfl hl.1 (Nat.le_of_ble_eq_true rfl) ⟨Nat.zero_le _, Nat.zero_le _⟩ dX4_sayLiteral_17 (fun H locs w => ?_)
  refine lv_istore_n (lv' := [(3, .int v_3), (2, .int v_1), (0, .ref (ρ x0)), (1, .int x1)]) C.1 C.2.1 dX4_sayLiteral_20 rfl hl (by decide) rfl (fun ls hl => ?_)
  exact w_Pg_sayLiteral_21 C hr hk g _ _ _ _ _ _ _ w (lv_sub hl [2, 1, 0] rfl) ho_x0 h
end S_Pg_sayLiteral
set_option maxRecDepth 100000 in
theorem k_Pg_sayLiteral (l : Launch) (D : va_G) (T : Cy) (ρ : Nat → Nat) (g sz : Nat) (S : St) {x0 : Nat} {x1 : Int32} (ho_x0 : Ob Yc x0 2) {S' : St} (h : m_Pg_sayLiteral g S x0 x1 = some S') : Mv l Yc D T ρ yX4_sayLiteral cX4_sayLiteral 4 none 2 44 S S' [.ref (ρ x0), .int x1] sz :=
  x_in (by decide) (Nat.le_of_ble_eq_true rfl) (fun p e s m below meth c ls C hr hk w hl => w_Pg_sayLiteral_0 C hr hk w hl ho_x0 h)
