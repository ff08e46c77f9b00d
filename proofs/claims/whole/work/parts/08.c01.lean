theorem dJ7_fill_53178_0 : decode cJ7_fill_53178 0 = .ok (.iconst 0, 1) := by decide +kernel
theorem dJ7_fill_53178_1 : decode cJ7_fill_53178 1 = .ok (.istore_n 2, 1) := by decide +kernel
theorem dJ7_fill_53178_2 : decode cJ7_fill_53178 2 = .ok (.aload_n 0, 1) := by decide +kernel
theorem dJ7_fill_53178_3 : decode cJ7_fill_53178 3 = .ok (.arraylength, 1) := by decide +kernel
theorem dJ7_fill_53178_4 : decode cJ7_fill_53178 4 = .ok (.istore_n 3, 1) := by decide +kernel
theorem dJ7_fill_53178_5 : decode cJ7_fill_53178 5 = .ok (.iload_n 2, 1) := by decide +kernel
theorem dJ7_fill_53178_6 : decode cJ7_fill_53178 6 = .ok (.iload_n 3, 1) := by decide +kernel
theorem dJ7_fill_53178_7 : decode cJ7_fill_53178 7 = .ok (.if_icmp .ge 13, 3) := by decide +kernel
theorem dJ7_fill_53178_10 : decode cJ7_fill_53178 10 = .ok (.aload_n 0, 1) := by decide +kernel
theorem dJ7_fill_53178_11 : decode cJ7_fill_53178 11 = .ok (.iload_n 2, 1) := by decide +kernel
theorem dJ7_fill_53178_12 : decode cJ7_fill_53178 12 = .ok (.iload_n 1, 1) := by decide +kernel
theorem dJ7_fill_53178_13 : decode cJ7_fill_53178 13 = .ok (.iastore, 1) := by decide +kernel
theorem dJ7_fill_53178_14 : decode cJ7_fill_53178 14 = .ok (.iinc 2 1, 3) := by decide +kernel
theorem dJ7_fill_53178_17 : decode cJ7_fill_53178 17 = .ok (.goto (-12), 3) := by decide +kernel
theorem dJ7_fill_53178_20 : decode cJ7_fill_53178 20 = .ok (.return_, 1) := by decide +kernel
def b_Arr_fill_53178_5 (g : Nat) (k5 : St → Nat → Int32 → Int32 → Int32 → Option St) (S : St) (x0 : Nat) (x1 : Int32) (x2 : Int32) (x3 : Int32) : Option St :=
if x3 ≤ x2 then (
  some S
) else (
  (tI S x0 x2 x1).bind fun S_2 =>
  lt (x2 + (1 : Int32)) fun x2_3 =>
  k5 S_2 x0 x1 x2_3 x3
)
def m_Arr_fill_53178_5 (g : Nat) : Nat → St → Nat → Int32 → Int32 → Int32 → Option St
  | 0, _, _, _, _, _ => none
  | n + 1, S, x0, x1, x2, x3 => b_Arr_fill_53178_5 g (m_Arr_fill_53178_5 g n) S x0 x1 x2 x3
def m_Arr_fill_53178 (g : Nat) (S : St) (x0 : Nat) (x1 : Int32) : Option St :=
lt (Int32.ofNat (gN S x0)) fun x3_1 =>
m_Arr_fill_53178_5 g g S x0 x1 (0 : Int32) x3_1
section S_Arr_fill_53178
variable {p : Program} {l : Launch} {e : Env} {s : State} {m : MethodId} {args : Array Value} {below : List Frame} {meth : Method} {c : Code} {H : Heap} {locs : List Loc} {ls : Array Slot} {D : va_G} {T : Cy} {ρ : Nat → Nat} {A : Nat → Prop}
set_option maxRecDepth 100000 in
set_option maxHeartbeats 4000000 in
theorem wb_Arr_fill_53178_5  {g : Nat} {S : St} {x0 : Nat} {x1 : Int32} {x2 : Int32} {x3 : Int32} (C : CallFix p m c cJ7_fill_53178 4 s args tb RJ7) (hr : meth.sig.returnType = none) (hk : meth.locks = false) {S' : St} {k5 : St → Nat → Int32 → Int32 → Int32 → Option St} (kk5 : ∀ (S : St) (x0 : Nat) (x1 : Int32) (x2 : Int32) (x3 : Int32) (H : Heap) (locs : List Loc) (ls : Array Slot), Wn Yc D T ρ S A s H locs → lv_has ls 4 [(0, .ref (ρ x0)), (1, .int x1), (2, .int x2), (3, .int x3)] → Ob Yc x0 100 → k5 S x0 x1 x2 x3 = some S' → W p l e (rmN 0 0) s m args below meth c H locs 0 0 (MQ below (Qv Yc D T ρ A S') args s 0 0 A) (F0 m 5 ls [])) (w : Wn Yc D T ρ S A s H locs) (hl : lv_has ls 4 [(0, .ref (ρ x0)), (1, .int x1), (2, .int x2), (3, .int x3)]) (ho_x0 : Ob Yc x0 100) (h : b_Arr_fill_53178_5 g k5 S x0 x1 x2 x3 = some S') : W p l e (rmN 0 0) s m args below meth c H locs 0 0 (MQ below (Qv Yc D T ρ A S') args s 0 0 A) (F0 m 5 ls []) := by
  unfold b_Arr_fill_53178_5 at h
  refine lv_iload_n C.1 C.2.1 dJ7_fill_53178_5 rfl (lv_at hl 2 rfl) ?_
  refine lv_iload_n C.1 C.2.1 dJ7_fill_53178_6 rfl (lv_at hl 3 rfl) ?_
  refine lv_icmp_ge (tgt := 20) C.1 C.2.1 dJ7_fill_53178_7 (by decide) (fun hc => ?_) (fun hc => ?_)
  · replace h := ift hc h
    obtain rfl := som h
    exact x_vret C w hr hk dJ7_fill_53178_20
  · replace h := iff0 hc h
    refine lv_aload_n C.1 C.2.1 dJ7_fill_53178_10 rfl (lv_at hl 0 rfl) ?_
    refine lv_iload_n C.1 C.2.1 dJ7_fill_53178_11 rfl (lv_at hl 2 rfl) ?_
    refine lv_iload_n C.1 C.2.1 dJ7_fill_53178_12 rfl (lv_at hl 1 rfl) ?_
    obtain ⟨S_2, hS_2, h⟩ := bnd h
    refine x_iast C w ho_x0 hS_2 dJ7_fill_53178_13 (fun H locs w => ?_)
    obtain ⟨x2_3, ex2_3, h⟩ := lt_e h
    refine lv_iinc (v := x2_3) (lv' := [(2, .int x2_3), (0, .ref (ρ x0)), (1, .int x1), (3, .int x3)]) C.1 C.2.1 dJ7_fill_53178_14 hl (k := 2) rfl (by rw [ex2_3]; rfl) (by decide) rfl (fun ls hl => ?_)
    refine lv_goto (tgt := 5) C.1 C.2.1 dJ7_fill_53178_17 (by decide) ?_
    exact kk5 _ _ _ _ _ _ _ _ w (lv_sub hl [1, 2, 0, 3] rfl) ho_x0 h
theorem w_Arr_fill_53178_5 {g : Nat} (C : CallFix p m c cJ7_fill_53178 4 s args tb RJ7) (hr : meth.sig.returnType = none) (hk : meth.locks = false) {S' : St} (n : Nat) : ∀ (S : St) (x0 : Nat) (x1 : Int32) (x2 : Int32) (x3 : Int32) (H : Heap) (locs : List Loc) (ls : Array Slot), Wn Yc D T ρ S A s H locs → lv_has ls 4 [(0, .ref (ρ x0)), (1, .int x1), (2, .int x2), (3, .int x3)] → Ob Yc x0 100 → m_Arr_fill_53178_5 g n S x0 x1 x2 x3 = some S' → W p l e (rmN 0 0) s m args below meth c H locs 0 0 (MQ below (Qv Yc D T ρ A S') args s 0 0 A) (F0 m 5 ls []) := by
  induction n with
  | zero => intro S x0 x1 x2 x3 H locs ls w hl ho_x0 h; exact absurd h (fun q => by cases q)
  | succ n ih => intro S x0 x1 x2 x3 H locs ls w hl ho_x0 h; exact wb_Arr_fill_53178_5 C hr hk ih w hl ho_x0 h
set_option maxRecDepth 100000 in
set_option maxHeartbeats 4000000 in
theorem w_Arr_fill_53178_0  {g : Nat} {S : St} {x0 : Nat} {x1 : Int32} (C : CallFix p m c cJ7_fill_53178 4 s args tb RJ7) (hr : meth.sig.returnType = none) (hk : meth.locks = false) {S' : St} (w : Wn Yc D T ρ S A s H locs) (hl : lv_has ls 4 [(0, .ref (ρ x0)), (1, .int x1)]) (ho_x0 : Ob Yc x0 100) (h : m_Arr_fill_53178 g S x0 x1 = some S') : W p l e (rmN 0 0) s m args below meth c H locs 0 0 (MQ below (Qv Yc D T ρ A S') args s 0 0 A) (F0 m 0 ls []) := by
  unfold m_Arr_fill_53178 at h
  refine lv_iconst (v := 0) C.1 C.2.1 dJ7_fill_53178_0 (by decide) ?_
  refine lv_istore_n (lv' := [(2, .int (0 : Int32)), (0, .ref (ρ x0)), (1, .int x1)]) C.1 C.2.1 dJ7_fill_53178_1 rfl hl (by decide) rfl (fun ls hl => ?_)
  refine lv_aload_n C.1 C.2.1 dJ7_fill_53178_2 rfl (lv_at hl 1 rfl) ?_
  refine x_alen C w ho_x0 dJ7_fill_53178_3 ?_
  obtain ⟨x3_1, ex3_1, h⟩ := lt_e h
  refine x_nm ex3_1 ?_
  refine lv_istore_n (lv' := [(3, .int x3_1), (2, .int (0 : Int32)), (0, .ref (ρ x0)), (1, .int x1)]) C.1 C.2.1 dJ7_fill_53178_4 rfl hl (by decide) rfl (fun ls hl => ?_)
  exact w_Arr_fill_53178_5 C hr hk g _ _ _ _ _ _ _ _ w (lv_sub hl [2, 3, 1, 0] rfl) ho_x0 h
end S_Arr_fill_53178
set_option maxRecDepth 100000 in
theorem k_Arr_fill_53178 (l : Launch) (D : va_G) (T : Cy) (ρ : Nat → Nat) (g sz : Nat) (S : St) {x0 : Nat} {x1 : Int32} (ho_x0 : Ob Yc x0 100) {S' : St} (h : m_Arr_fill_53178 g S x0 x1 = some S') : Mv l Yc D T ρ yJ7_fill_53178 cJ7_fill_53178 4 none 0 0 S S' [.ref (ρ x0), .int x1] sz :=
  x_in (by decide) (Nat.le_of_ble_eq_true rfl) (fun p e s m below meth c ls C hr hk w hl => w_Arr_fill_53178_0 C hr hk w hl ho_x0 h)

theorem dJ7_fill_d0a16_0 : decode cJ7_fill_d0a16 0 = .ok (.iconst 0, 1) := by decide +kernel
theorem dJ7_fill_d0a16_1 : decode cJ7_fill_d0a16 1 = .ok (.istore_n 3, 1) := by decide +kernel
theorem dJ7_fill_d0a16_2 : decode cJ7_fill_d0a16 2 = .ok (.aload_n 0, 1) := by decide +kernel
theorem dJ7_fill_d0a16_3 : decode cJ7_fill_d0a16 3 = .ok (.arraylength, 1) := by decide +kernel
theorem dJ7_fill_d0a16_4 : decode cJ7_fill_d0a16 4 = .ok (.istore 4, 2) := by decide +kernel
theorem dJ7_fill_d0a16_6 : decode cJ7_fill_d0a16 6 = .ok (.iload_n 3, 1) := by decide +kernel
theorem dJ7_fill_d0a16_7 : decode cJ7_fill_d0a16 7 = .ok (.iload 4, 2) := by decide +kernel
theorem dJ7_fill_d0a16_9 : decode cJ7_fill_d0a16 9 = .ok (.if_icmp .ge 13, 3) := by decide +kernel
theorem dJ7_fill_d0a16_12 : decode cJ7_fill_d0a16 12 = .ok (.aload_n 0, 1) := by decide +kernel
theorem dJ7_fill_d0a16_13 : decode cJ7_fill_d0a16 13 = .ok (.iload_n 3, 1) := by decide +kernel
theorem dJ7_fill_d0a16_14 : decode cJ7_fill_d0a16 14 = .ok (.lload_n 1, 1) := by decide +kernel
theorem dJ7_fill_d0a16_15 : decode cJ7_fill_d0a16 15 = .ok (.lastore, 1) := by decide +kernel
theorem dJ7_fill_d0a16_16 : decode cJ7_fill_d0a16 16 = .ok (.iinc 3 1, 3) := by decide +kernel
theorem dJ7_fill_d0a16_19 : decode cJ7_fill_d0a16 19 = .ok (.goto (-13), 3) := by decide +kernel
theorem dJ7_fill_d0a16_22 : decode cJ7_fill_d0a16 22 = .ok (.return_, 1) := by decide +kernel
def b_Arr_fill_d0a16_6 (g : Nat) (k6 : St → Nat → Int64 → Int32 → Int32 → Option St) (S : St) (x0 : Nat) (x1 : Int64) (x3 : Int32) (x4 : Int32) : Option St :=
if x4 ≤ x3 then (
  some S
) else (
  (tJ S x0 x3 x1).bind fun S_2 =>
  lt (x3 + (1 : Int32)) fun x3_3 =>
  k6 S_2 x0 x1 x3_3 x4
)
def m_Arr_fill_d0a16_6 (g : Nat) : Nat → St → Nat → Int64 → Int32 → Int32 → Option St
  | 0, _, _, _, _, _ => none
  | n + 1, S, x0, x1, x3, x4 => b_Arr_fill_d0a16_6 g (m_Arr_fill_d0a16_6 g n) S x0 x1 x3 x4
def m_Arr_fill_d0a16 (g : Nat) (S : St) (x0 : Nat) (x1 : Int64) : Option St :=
lt (Int32.ofNat (gN S x0)) fun x4_1 =>
m_Arr_fill_d0a16_6 g g S x0 x1 (0 : Int32) x4_1
section S_Arr_fill_d0a16
variable {p : Program} {l : Launch} {e : Env} {s : State} {m : MethodId} {args : Array Value} {below : List Frame} {meth : Method} {c : Code} {H : Heap} {locs : List Loc} {ls : Array Slot} {D : va_G} {T : Cy} {ρ : Nat → Nat} {A : Nat → Prop}
set_option maxRecDepth 100000 in
set_option maxHeartbeats 4000000 in
theorem wb_Arr_fill_d0a16_6  {g : Nat} {S : St} {x0 : Nat} {x1 : Int64} {x3 : Int32} {x4 : Int32} (C : CallFix p m c cJ7_fill_d0a16 5 s args tb RJ7) (hr : meth.sig.returnType = none) (hk : meth.locks = false) {S' : St} {k6 : St → Nat → Int64 → Int32 → Int32 → Option St} (kk6 : ∀ (S : St) (x0 : Nat) (x1 : Int64) (x3 : Int32) (x4 : Int32) (H : Heap) (locs : List Loc) (ls : Array Slot), Wn Yc D T ρ S A s H locs → lv_has ls 5 [(0, .ref (ρ x0)), (1, .long x1), (3, .int x3), (4, .int x4)] → Ob Yc x0 101 → k6 S x0 x1 x3 x4 = some S' → W p l e (rmN 0 0) s m args below meth c H locs 0 0 (MQ below (Qv Yc D T ρ A S') args s 0 0 A) (F0 m 6 ls [])) (w : Wn Yc D T ρ S A s H locs) (hl : lv_has ls 5 [(0, .ref (ρ x0)), (1, .long x1), (3, .int x3), (4, .int x4)]) (ho_x0 : Ob Yc x0 101) (h : b_Arr_fill_d0a16_6 g k6 S x0 x1 x3 x4 = some S') : W p l e (rmN 0 0) s m args below meth c H locs 0 0 (MQ below (Qv Yc D T ρ A S') args s 0 0 A) (F0 m 6 ls []) := by
  unfold b_Arr_fill_d0a16_6 at h
  refine lv_iload_n C.1 C.2.1 dJ7_fill_d0a16_6 rfl (lv_at hl 2 rfl) ?_
  refine lv_iload C.1 C.2.1 dJ7_fill_d0a16_7 (lv_at hl 3 rfl) ?_
  refine lv_icmp_ge (tgt := 22) C.1 C.2.1 dJ7_fill_d0a16_9 (by decide) (fun hc => ?_) (fun hc => ?_)
  · replace h := ift hc h
    obtain rfl := som h
    exact x_vret C w hr hk dJ7_fill_d0a16_22
  · replace h := iff0 hc h
    refine lv_aload_n C.1 C.2.1 dJ7_fill_d0a16_12 rfl (lv_at hl 0 rfl) ?_
    refine lv_iload_n C.1 C.2.1 dJ7_fill_d0a16_13 rfl (lv_at hl 2 rfl) ?_
    refine lv_lload_n C.1 C.2.1 dJ7_fill_d0a16_14 rfl (lv_at hl 1 rfl) ?_
    obtain ⟨S_2, hS_2, h⟩ := bnd h
    refine x_last C w ho_x0 hS_2 dJ7_fill_d0a16_15 (fun H locs w => ?_)
    obtain ⟨x3_3, ex3_3, h⟩ := lt_e h
    refine lv_iinc (v := x3_3) (lv' := [(3, .int x3_3), (0, .ref (ρ x0)), (1, .long x1), (4, .int x4)]) C.1 C.2.1 dJ7_fill_d0a16_16 hl (k := 2) rfl (by rw [ex3_3]; rfl) (by decide) rfl (fun ls hl => ?_)
    refine lv_goto (tgt := 6) C.1 C.2.1 dJ7_fill_d0a16_19 (by decide) ?_
    exact kk6 _ _ _ _ _ _ _ _ w (lv_sub hl [1, 2, 0, 3] rfl) ho_x0 h
theorem w_Arr_fill_d0a16_6 {g : Nat} (C : CallFix p m c cJ7_fill_d0a16 5 s args tb RJ7) (hr : meth.sig.returnType = none) (hk : meth.locks = false) {S' : St} (n : Nat) : ∀ (S : St) (x0 : Nat) (x1 : Int64) (x3 : Int32) (x4 : Int32) (H : Heap) (locs : List Loc) (ls : Array Slot), Wn Yc D T ρ S A s H locs → lv_has ls 5 [(0, .ref (ρ x0)), (1, .long x1), (3, .int x3), (4, .int x4)] → Ob Yc x0 101 → m_Arr_fill_d0a16_6 g n S x0 x1 x3 x4 = some S' → W p l e (rmN 0 0) s m args below meth c H locs 0 0 (MQ below (Qv Yc D T ρ A S') args s 0 0 A) (F0 m 6 ls []) := by
  induction n with
  | zero => intro S x0 x1 x3 x4 H locs ls w hl ho_x0 h; exact absurd h (fun q => by cases q)
  | succ n ih => intro S x0 x1 x3 x4 H locs ls w hl ho_x0 h; exact wb_Arr_fill_d0a16_6 C hr hk ih w hl ho_x0 h
set_option maxRecDepth 100000 in
set_option maxHeartbeats 4000000 in
theorem w_Arr_fill_d0a16_0  {g : Nat} {S : St} {x0 : Nat} {x1 : Int64} (C : CallFix p m c cJ7_fill_d0a16 5 s args tb RJ7) (hr : meth.sig.returnType = none) (hk : meth.locks = false) {S' : St} (w : Wn Yc D T ρ S A s H locs) (hl : lv_has ls 5 [(0, .ref (ρ x0)), (1, .long x1)]) (ho_x0 : Ob Yc x0 101) (h : m_Arr_fill_d0a16 g S x0 x1 = some S') : W p l e (rmN 0 0) s m args below meth c H locs 0 0 (MQ below (Qv Yc D T ρ A S') args s 0 0 A) (F0 m 0 ls []) := by
  unfold m_Arr_fill_d0a16 at h
  refine lv_iconst (v := 0) C.1 C.2.1 dJ7_fill_d0a16_0 (by decide) ?_
  refine lv_istore_n (lv' := [(3, .int (0 : Int32)), (0, .ref (ρ x0)), (1, .long x1)]) C.1 C.2.1 dJ7_fill_d0a16_1 rfl hl (by decide) rfl (fun ls hl => ?_)
  refine lv_aload_n C.1 C.2.1 dJ7_fill_d0a16_2 rfl (lv_at hl 1 rfl) ?_
  refine x_alenJ C w ho_x0 dJ7_fill_d0a16_3 ?_
  obtain ⟨x4_1, ex4_1, h⟩ := lt_e h
  refine x_nm ex4_1 ?_
  refine lv_istore (lv' := [(4, .int x4_1), (3, .int (0 : Int32)), (0, .ref (ρ x0)), (1, .long x1)]) C.1 C.2.1 dJ7_fill_d0a16_4 hl (by decide) rfl (fun ls hl => ?_)
  exact w_Arr_fill_d0a16_6 C hr hk g _ _ _ _ _ _ _ _ w (lv_sub hl [2, 3, 1, 0] rfl) ho_x0 h
end S_Arr_fill_d0a16
set_option maxRecDepth 100000 in
theorem k_Arr_fill_d0a16 (l : Launch) (D : va_G) (T : Cy) (ρ : Nat → Nat) (g sz : Nat) (S : St) {x0 : Nat} {x1 : Int64} (ho_x0 : Ob Yc x0 101) {S' : St} (h : m_Arr_fill_d0a16 g S x0 x1 = some S') : Mv l Yc D T ρ yJ7_fill_d0a16 cJ7_fill_d0a16 5 none 0 0 S S' [.ref (ρ x0), .long x1] sz :=
  x_in (by decide) (Nat.le_of_ble_eq_true rfl) (fun p e s m below meth c ls C hr hk w hl => w_Arr_fill_d0a16_0 C hr hk w hl ho_x0 h)

theorem dX6_at_0 : decode cX6_at 0 = .ok (.iload_n 1, 1) := by decide +kernel
theorem dX6_at_1 : decode cX6_at 1 = .ok (.ifCond .lt 11, 3) := by decide +kernel
theorem dX6_at_4 : decode cX6_at 4 = .ok (.iload_n 1, 1) := by decide +kernel
theorem dX6_at_5 : decode cX6_at 5 = .ok (.aload_n 0, 1) := by decide +kernel
theorem dX6_at_6 : decode cX6_at 6 = .ok (.getfield 19, 3) := by decide +kernel
theorem dX6_at_9 : decode cX6_at 9 = .ok (.if_icmp .lt 7, 3) := by decide +kernel
theorem dX6_at_12 : decode cX6_at 12 = .ok (.iconst (-1), 1) := by decide +kernel
theorem dX6_at_13 : decode cX6_at 13 = .ok (.goto 9, 3) := by decide +kernel
theorem dX6_at_16 : decode cX6_at 16 = .ok (.aload_n 0, 1) := by decide +kernel
theorem dX6_at_17 : decode cX6_at 17 = .ok (.getfield 15, 3) := by decide +kernel
theorem dX6_at_20 : decode cX6_at 20 = .ok (.iload_n 1, 1) := by decide +kernel
theorem dX6_at_21 : decode cX6_at 21 = .ok (.iaload, 1) := by decide +kernel
theorem dX6_at_22 : decode cX6_at 22 = .ok (.ireturn, 1) := by decide +kernel
def m_Row_at (g : Nat) (S : St) (x0 : Nat) (x1 : Int32) : Option Int32 :=
if x1 < 0 then (
  some (-1 : Int32)
) else (
  if x1 < (gI S x0 2) then (
    (aI S (x0 + 24) x1).bind fun v_1 =>
    some v_1
  ) else (
    some (-1 : Int32)
  )
)
section S_Row_at
variable {p : Program} {l : Launch} {e : Env} {s : State} {m : MethodId} {args : Array Value} {below : List Frame} {meth : Method} {c : Code} {H : Heap} {locs : List Loc} {ls : Array Slot} {D : va_G} {T : Cy} {ρ : Nat → Nat} {A : Nat → Prop}
set_option maxRecDepth 100000 in
set_option maxHeartbeats 4000000 in
theorem w_Row_at_0  {g : Nat} {S : St} {x0 : Nat} {x1 : Int32} (C : CallFix p m c cX6_at 2 s args tb RX6) (hr : meth.sig.returnType = (some .int)) (hk : meth.locks = false) {r : Int32} (w : Wn Yc D T ρ S A s H locs) (hl : lv_has ls 2 [(0, .ref (ρ x0)), (1, .int x1)]) (ho_x0 : Ob Yc x0 4) (h : m_Row_at g S x0 x1 = some r) : W p l e (rmN 0 0) s m args below meth c H locs 0 0 (MQ below (Qi Yc D T ρ A S r) args s 0 0 A) (F0 m 0 ls []) := by
  unfold m_Row_at at h
  refine lv_iload_n C.1 C.2.1 dX6_at_0 rfl (lv_at hl 1 rfl) ?_
  refine lv_if_lt (tgt := 12) C.1 C.2.1 dX6_at_1 (by decide) (fun hc => ?_) (fun hc => ?_)
  · replace h := ift hc h
    refine lv_iconst (v := (-1)) C.1 C.2.1 dX6_at_12 (by decide) ?_
    refine lv_goto (tgt := 22) C.1 C.2.1 dX6_at_13 (by decide) ?_
    obtain rfl := som h
    exact x_iret C w hr hk dX6_at_22
  · replace h := iff0 hc h
    refine lv_iload_n C.1 C.2.1 dX6_at_4 rfl (lv_at hl 1 rfl) ?_
    refine lv_aload_n C.1 C.2.1 dX6_at_5 rfl (lv_at hl 0 rfl) ?_
    refine x_getI C w fX6_19 ho_x0 dX6_at_6 ?_
    refine lv_icmp_lt (tgt := 16) C.1 C.2.1 dX6_at_9 (by decide) (fun hc => ?_) (fun hc => ?_)
    · replace h := ift hc h
      refine lv_aload_n C.1 C.2.1 dX6_at_16 rfl (lv_at hl 0 rfl) ?_
      refine x_getC C w (x0 + 24) fX6_15 ho_x0 (crCells ho_x0) dX6_at_17 ?_
      refine lv_iload_n C.1 C.2.1 dX6_at_20 rfl (lv_at hl 1 rfl) ?_
      obtain ⟨v_1, hv_1, h⟩ := bnd h
      refine x_iald C w (obCells ho_x0) hv_1 dX6_at_21 ?_
      obtain rfl := som h
      exact x_iret C w hr hk dX6_at_22
    · replace h := iff0 hc h
      refine lv_iconst (v := (-1)) C.1 C.2.1 dX6_at_12 (by decide) ?_
      refine lv_goto (tgt := 22) C.1 C.2.1 dX6_at_13 (by decide) ?_
      obtain rfl := som h
      exact x_iret C w hr hk dX6_at_22
end S_Row_at
set_option maxRecDepth 100000 in
theorem k_Row_at (l : Launch) (D : va_G) (T : Cy) (ρ : Nat → Nat) (g sz : Nat) (S : St) {x0 : Nat} {x1 : Int32} (ho_x0 : Ob Yc x0 4) {r : Int32} (h : m_Row_at g S x0 x1 = some r) : Mi l Yc D T ρ yX6_at cX6_at 2 (some .int) 0 0 S S r [.ref (ρ x0), .int x1] sz :=
  x_in (by decide) (Nat.le_of_ble_eq_true rfl) (fun p e s m below meth c ls C hr hk w hl => w_Row_at_0 C hr hk w hl ho_x0 h)

theorem dX6_clear_0 : decode cX6_clear 0 = .ok (.aload_n 0, 1) := by decide +kernel
theorem dX6_clear_1 : decode cX6_clear 1 = .ok (.iconst 0, 1) := by decide +kernel
theorem dX6_clear_2 : decode cX6_clear 2 = .ok (.putfield 19, 3) := by decide +kernel
theorem dX6_clear_5 : decode cX6_clear 5 = .ok (.aload_n 0, 1) := by decide +kernel
theorem dX6_clear_6 : decode cX6_clear 6 = .ok (.iconst 0, 1) := by decide +kernel
theorem dX6_clear_7 : decode cX6_clear 7 = .ok (.putfield 22, 3) := by decide +kernel
theorem dX6_clear_10 : decode cX6_clear 10 = .ok (.return_, 1) := by decide +kernel
def m_Row_clear (g : Nat) (S : St) (x0 : Nat) : Option St :=
lt (sI S x0 2 (0 : Int32)) fun S_1 =>
lt (sI S_1 x0 3 (0 : Int32)) fun S_2 =>
some S_2
section S_Row_clear
variable {p : Program} {l : Launch} {e : Env} {s : State} {m : MethodId} {args : Array Value} {below : List Frame} {meth : Method} {c : Code} {H : Heap} {locs : List Loc} {ls : Array Slot} {D : va_G} {T : Cy} {ρ : Nat → Nat} {A : Nat → Prop}
set_option maxRecDepth 100000 in
set_option maxHeartbeats 4000000 in
theorem w_Row_clear_0  {g : Nat} {S : St} {x0 : Nat} (C : CallFix p m c cX6_clear 1 s args tb RX6) (hr : meth.sig.returnType = none) (hk : meth.locks = false) {S' : St} (w : Wn Yc D T ρ S A s H locs) (hl : lv_has ls 1 [(0, .ref (ρ x0))]) (ho_x0 : Ob Yc x0 4) (h : m_Row_clear g S x0 = some S') : W p l e (rmN 0 0) s m args below meth c H locs 0 0 (MQ below (Qv Yc D T ρ A S') args s 0 0 A) (F0 m 0 ls []) := by
  unfold m_Row_clear at h
  refine lv_aload_n C.1 C.2.1 dX6_clear_0 rfl (lv_at hl 0 rfl) ?_
  refine lv_iconst (v := 0) C.1 C.2.1 dX6_clear_1 (by decide) ?_
  obtain ⟨S_1, eS_1, h⟩ := lt_e h
  refine y_putI C w eS_1 fX6_19 pX6_2 ho_x0 dX6_clear_2 (fun H locs w => ?_)
  refine lv_aload_n C.1 C.2.1 dX6_clear_5 rfl (lv_at hl 0 rfl) ?_
  refine lv_iconst (v := 0) C.1 C.2.1 dX6_clear_6 (by decide) ?_
  obtain ⟨S_2, eS_2, h⟩ := lt_e h
  refine y_putZ C w eS_2 fX6_22 pX6_3 (by decide) ho_x0 dX6_clear_7 (fun H locs w => ?_)
  obtain rfl := som h
  exact x_vret C w hr hk dX6_clear_10
end S_Row_clear
set_option maxRecDepth 100000 in
theorem k_Row_clear (l : Launch) (D : va_G) (T : Cy) (ρ : Nat → Nat) (g sz : Nat) (S : St) {x0 : Nat} (ho_x0 : Ob Yc x0 4) {S' : St} (h : m_Row_clear g S x0 = some S') : Mv l Yc D T ρ yX6_clear cX6_clear 1 none 0 0 S S' [.ref (ρ x0)] sz :=
  x_in (by decide) (Nat.le_of_ble_eq_true rfl) (fun p e s m below meth c ls C hr hk w hl => w_Row_clear_0 C hr hk w hl ho_x0 h)

theorem dX6_placeOf_0 : decode cX6_placeOf 0 = .ok (.iconst 0, 1) := by decide +kernel
theorem dX6_placeOf_1 : decode cX6_placeOf 1 = .ok (.istore_n 2, 1) := by decide +kernel
theorem dX6_placeOf_2 : decode cX6_placeOf 2 = .ok (.iload_n 2, 1) := by decide +kernel
theorem dX6_placeOf_3 : decode cX6_placeOf 3 = .ok (.aload_n 0, 1) := by decide +kernel
theorem dX6_placeOf_4 : decode cX6_placeOf 4 = .ok (.getfield 19, 3) := by decide +kernel
theorem dX6_placeOf_7 : decode cX6_placeOf 7 = .ok (.if_icmp .ge 21, 3) := by decide +kernel
theorem dX6_placeOf_10 : decode cX6_placeOf 10 = .ok (.aload_n 0, 1) := by decide +kernel
theorem dX6_placeOf_11 : decode cX6_placeOf 11 = .ok (.getfield 15, 3) := by decide +kernel
theorem dX6_placeOf_14 : decode cX6_placeOf 14 = .ok (.iload_n 2, 1) := by decide +kernel
theorem dX6_placeOf_15 : decode cX6_placeOf 15 = .ok (.iaload, 1) := by decide +kernel
theorem dX6_placeOf_16 : decode cX6_placeOf 16 = .ok (.iload_n 1, 1) := by decide +kernel
theorem dX6_placeOf_17 : decode cX6_placeOf 17 = .ok (.if_icmp .ne 5, 3) := by decide +kernel
theorem dX6_placeOf_20 : decode cX6_placeOf 20 = .ok (.iload_n 2, 1) := by decide +kernel
theorem dX6_placeOf_21 : decode cX6_placeOf 21 = .ok (.ireturn, 1) := by decide +kernel
theorem dX6_placeOf_22 : decode cX6_placeOf 22 = .ok (.iinc 2 1, 3) := by decide +kernel
theorem dX6_placeOf_25 : decode cX6_placeOf 25 = .ok (.goto (-23), 3) := by decide +kernel
theorem dX6_placeOf_28 : decode cX6_placeOf 28 = .ok (.iconst (-1), 1) := by decide +kernel
theorem dX6_placeOf_29 : decode cX6_placeOf 29 = .ok (.ireturn, 1) := by decide +kernel
def b_Row_placeOf_2 (g : Nat) (S : St) (k2 : Nat → Int32 → Int32 → Option Int32) (x0 : Nat) (x1 : Int32) (x2 : Int32) : Option Int32 :=
if (gI S x0 2) ≤ x2 then (
  some (-1 : Int32)
) else (
  (aI S (x0 + 24) x2).bind fun v_1 =>
  if v_1 = x1 then (
    some x2
  ) else (
    lt (x2 + (1 : Int32)) fun x2_2 =>
    k2 x0 x1 x2_2
  )
)
def m_Row_placeOf_2 (g : Nat) (S : St) : Nat → Nat → Int32 → Int32 → Option Int32
  | 0, _, _, _ => none
  | n + 1, x0, x1, x2 => b_Row_placeOf_2 g S (m_Row_placeOf_2 g S n) x0 x1 x2
def m_Row_placeOf (g : Nat) (S : St) (x0 : Nat) (x1 : Int32) : Option Int32 :=
m_Row_placeOf_2 g S g x0 x1 (0 : Int32)
section S_Row_placeOf
variable {p : Program} {l : Launch} {e : Env} {s : State} {m : MethodId} {args : Array Value} {below : List Frame} {meth : Method} {c : Code} {H : Heap} {locs : List Loc} {ls : Array Slot} {D : va_G} {T : Cy} {ρ : Nat → Nat} {A : Nat → Prop}
set_option maxRecDepth 100000 in
set_option maxHeartbeats 4000000 in
theorem wb_Row_placeOf_2  {g : Nat} {S : St} {x0 : Nat} {x1 : Int32} {x2 : Int32} (C : CallFix p m c cX6_placeOf 3 s args tb RX6) (hr : meth.sig.returnType = (some .int)) (hk : meth.locks = false) {r : Int32} {k2 : Nat → Int32 → Int32 → Option Int32} (kk2 : ∀ (x0 : Nat) (x1 : Int32) (x2 : Int32) (H : Heap) (locs : List Loc) (ls : Array Slot), Wn Yc D T ρ S A s H locs → lv_has ls 3 [(0, .ref (ρ x0)), (1, .int x1), (2, .int x2)] → Ob Yc x0 4 → k2 x0 x1 x2 = some r → W p l e (rmN 0 0) s m args below meth c H locs 0 0 (MQ below (Qi Yc D T ρ A S r) args s 0 0 A) (F0 m 2 ls [])) (w : Wn Yc D T ρ S A s H locs) (hl : lv_has ls 3 [(0, .ref (ρ x0)), (1, .int x1), (2, .int x2)]) (ho_x0 : Ob Yc x0 4) (h : b_Row_placeOf_2 g S k2 x0 x1 x2 = some r) : W p l e (rmN 0 0) s m args below meth c H locs 0 0 (MQ below (Qi Yc D T ρ A S r) args s 0 0 A) (F0 m 2 ls []) := by
  unfold b_Row_placeOf_2 at h
  refine lv_iload_n C.1 C.2.1 dX6_placeOf_2 rfl (lv_at hl 2 rfl) ?_
  refine lv_aload_n C.1 C.2.1 dX6_placeOf_3 rfl (lv_at hl 0 rfl) ?_
  refine x_getI C w fX6_19 ho_x0 dX6_placeOf_4 ?_
  refine lv_icmp_ge (tgt := 28) C.1 C.2.1 dX6_placeOf_7 (by decide) (fun hc => ?_) (fun hc => ?_)
  · replace h := ift hc h
    refine lv_iconst (v := (-1)) C.1 C.2.1 dX6_placeOf_28 (by decide) ?_
    obtain rfl := som h
    exact x_iret C w hr hk dX6_placeOf_29
  · replace h := iff0 hc h
    refine lv_aload_n C.1 C.2.1 dX6_placeOf_10 rfl (lv_at hl 0 rfl) ?_
    refine x_getC C w (x0 + 24) fX6_15 ho_x0 (crCells ho_x0) dX6_placeOf_11 ?_
    refine lv_iload_n C.1 C.2.1 dX6_placeOf_14 rfl (lv_at hl 2 rfl) ?_
    obtain ⟨v_1, hv_1, h⟩ := bnd h
    refine x_iald C w (obCells ho_x0) hv_1 dX6_placeOf_15 ?_
    refine lv_iload_n C.1 C.2.1 dX6_placeOf_16 rfl (lv_at hl 1 rfl) ?_
    refine lv_icmp_ne (tgt := 22) C.1 C.2.1 dX6_placeOf_17 (by decide) (fun hc => ?_) (fun hc => ?_)
    · replace h := iff0 hc h
      obtain ⟨x2_2, ex2_2, h⟩ := lt_e h
      refine lv_iinc (v := x2_2) (lv' := [(2, .int x2_2), (0, .ref (ρ x0)), (1, .int x1)]) C.1 C.2.1 dX6_placeOf_22 hl (k := 2) rfl (by rw [ex2_2]; rfl) (by decide) rfl (fun ls hl => ?_)
      refine lv_goto (tgt := 2) C.1 C.2.1 dX6_placeOf_25 (by decide) ?_
      exact kk2 _ _ _ _ _ _ w (lv_sub hl [1, 2, 0] rfl) ho_x0 h
    · replace h := ift hc h
      refine lv_iload_n C.1 C.2.1 dX6_placeOf_20 rfl (lv_at hl 2 rfl) ?_
      obtain rfl := som h
      exact x_iret C w hr hk dX6_placeOf_21
theorem w_Row_placeOf_2 {g : Nat} {S : St} (C : CallFix p m c cX6_placeOf 3 s args tb RX6) (hr : meth.sig.returnType = (some .int)) (hk : meth.locks = false) {r : Int32} (n : Nat) : ∀ (x0 : Nat) (x1 : Int32) (x2 : Int32) (H : Heap) (locs : List Loc) (ls : Array Slot), Wn Yc D T ρ S A s H locs → lv_has ls 3 [(0, .ref (ρ x0)), (1, .int x1), (2, .int x2)] → Ob Yc x0 4 → m_Row_placeOf_2 g S n x0 x1 x2 = some r → W p l e (rmN 0 0) s m args below meth c H locs 0 0 (MQ below (Qi Yc D T ρ A S r) args s 0 0 A) (F0 m 2 ls []) := by
  induction n with
  | zero => intro x0 x1 x2 H locs ls w hl ho_x0 h; exact absurd h (fun q => by cases q)
  | succ n ih => intro x0 x1 x2 H locs ls w hl ho_x0 h; exact wb_Row_placeOf_2 C hr hk ih w hl ho_x0 h
set_option maxRecDepth 100000 in
set_option maxHeartbeats 4000000 in
theorem w_Row_placeOf_0  {g : Nat} {S : St} {x0 : Nat} {x1 : Int32} (C : CallFix p m c cX6_placeOf 3 s args tb RX6) (hr : meth.sig.returnType = (some .int)) (hk : meth.locks = false) {r : Int32} (w : Wn Yc D T ρ S A s H locs) (hl : lv_has ls 3 [(0, .ref (ρ x0)), (1, .int x1)]) (ho_x0 : Ob Yc x0 4) (h : m_Row_placeOf g S x0 x1 = some r) : W p l e (rmN 0 0) s m args below meth c H locs 0 0 (MQ below (Qi Yc D T ρ A S r) args s 0 0 A) (F0 m 0 ls []) := by
  unfold m_Row_placeOf at h
  refine lv_iconst (v := 0) C.1 C.2.1 dX6_placeOf_0 (by decide) ?_
  refine lv_istore_n (lv' := [(2, .int (0 : Int32)), (0, .ref (ρ x0)), (1, .int x1)]) C.1 C.2.1 dX6_placeOf_1 rfl hl (by decide) rfl (fun ls hl => ?_)
  exact w_Row_placeOf_2 C hr hk g _ _ _ _ _ _ w (lv_sub hl [1, 2, 0] rfl) ho_x0 h
end S_Row_placeOf
set_option maxRecDepth 100000 in
theorem k_Row_placeOf (l : Launch) (D : va_G) (T : Cy) (ρ : Nat → Nat) (g sz : Nat) (S : St) {x0 : Nat} {x1 : Int32} (ho_x0 : Ob Yc x0 4) {r : Int32} (h : m_Row_placeOf g S x0 x1 = some r) : Mi l Yc D T ρ yX6_placeOf cX6_placeOf 3 (some .int) 0 0 S S r [.ref (ρ x0), .int x1] sz :=
  x_in (by decide) (Nat.le_of_ble_eq_true rfl) (fun p e s m below meth c ls C hr hk w hl => w_Row_placeOf_0 C hr hk w hl ho_x0 h)

theorem dX6_shorten_0 : decode cX6_shorten 0 = .ok (.iload_n 1, 1) := by decide +kernel
theorem dX6_shorten_1 : decode cX6_shorten 1 = .ok (.ifCond .lt 16, 3) := by decide +kernel
theorem dX6_shorten_4 : decode cX6_shorten 4 = .ok (.iload_n 1, 1) := by decide +kernel
theorem dX6_shorten_5 : decode cX6_shorten 5 = .ok (.aload_n 0, 1) := by decide +kernel
theorem dX6_shorten_6 : decode cX6_shorten 6 = .ok (.getfield 19, 3) := by decide +kernel
theorem dX6_shorten_9 : decode cX6_shorten 9 = .ok (.if_icmp .ge 8, 3) := by decide +kernel
theorem dX6_shorten_12 : decode cX6_shorten 12 = .ok (.aload_n 0, 1) := by decide +kernel
theorem dX6_shorten_13 : decode cX6_shorten 13 = .ok (.iload_n 1, 1) := by decide +kernel
theorem dX6_shorten_14 : decode cX6_shorten 14 = .ok (.putfield 19, 3) := by decide +kernel
theorem dX6_shorten_17 : decode cX6_shorten 17 = .ok (.return_, 1) := by decide +kernel
def m_Row_shorten (g : Nat) (S : St) (x0 : Nat) (x1 : Int32) : Option St :=
if x1 < 0 then (
  some S
) else (
  if (gI S x0 2) ≤ x1 then (
    some S
  ) else (
    lt (sI S x0 2 x1) fun S_1 =>
    some S_1
  )
)
section S_Row_shorten
variable {p : Program} {l : Launch} {e : Env} {s : State} {m : MethodId} {args : Array Value} {below : List Frame} {meth : Method} {c : Code} {H : Heap} {locs : List Loc} {ls : Array Slot} {D : va_G} {T : Cy} {ρ : Nat → Nat} {A : Nat → Prop}
set_option maxRecDepth 100000 in
set_option maxHeartbeats 4000000 in
theorem w_Row_shorten_0  {g : Nat} {S : St} {x0 : Nat} {x1 : Int32} (C : CallFix p m c cX6_shorten 2 s args tb RX6) (hr : meth.sig.returnType = none) (hk : meth.locks = false) {S' : St} (w : Wn Yc D T ρ S A s H locs) (hl : lv_has ls 2 [(0, .ref (ρ x0)), (1, .int x1)]) (ho_x0 : Ob Yc x0 4) (h : m_Row_shorten g S x0 x1 = some S') : W p l e (rmN 0 0) s m args below meth c H locs 0 0 (MQ below (Qv Yc D T ρ A S') args s 0 0 A) (F0 m 0 ls []) := by
  unfold m_Row_shorten at h
  refine lv_iload_n C.1 C.2.1 dX6_shorten_0 rfl (lv_at hl 1 rfl) ?_
  refine lv_if_lt (tgt := 17) C.1 C.2.1 dX6_shorten_1 (by decide) (fun hc => ?_) (fun hc => ?_)
  · replace h := ift hc h
    obtain rfl := som h
    exact x_vret C w hr hk dX6_shorten_17
  · replace h := iff0 hc h
    refine lv_iload_n C.1 C.2.1 dX6_shorten_4 rfl (lv_at hl 1 rfl) ?_
    refine lv_aload_n C.1 C.2.1 dX6_shorten_5 rfl (lv_at hl 0 rfl) ?_
    refine x_getI C w fX6_19 ho_x0 dX6_shorten_6 ?_
    refine lv_icmp_ge (tgt := 17) C.1 C.2.1 dX6_shorten_9 (by decide) (fun hc => ?_) (fun hc => ?_)
    · replace h := ift hc h
      obtain rfl := som h
      exact x_vret C w hr hk dX6_shorten_17
    · replace h := iff0 hc h
      refine lv_aload_n C.1 C.2.1 dX6_shorten_12 rfl (lv_at hl 0 rfl) ?_
      refine lv_iload_n C.1 C.2.1 dX6_shorten_13 rfl (lv_at hl 1 rfl) ?_
      obtain ⟨S_1, eS_1, h⟩ := lt_e h
      refine y_putI C w eS_1 fX6_19 pX6_2 ho_x0 dX6_shorten_14 (fun H locs w => ?_)
      obtain rfl := som h
      exact x_vret C w hr hk dX6_shorten_17
end S_Row_shorten
set_option maxRecDepth 100000 in
theorem k_Row_shorten (l : Launch) (D : va_G) (T : Cy) (ρ : Nat → Nat) (g sz : Nat) (S : St) {x0 : Nat} {x1 : Int32} (ho_x0 : Ob Yc x0 4) {S' : St} (h : m_Row_shorten g S x0 x1 = some S') : Mv l Yc D T ρ yX6_shorten cX6_shorten 2 none 0 0 S S' [.ref (ρ x0), .int x1] sz :=
  x_in (by decide) (Nat.le_of_ble_eq_true rfl) (fun p e s m below meth c ls C hr hk w hl => w_Row_shorten_0 C hr hk w hl ho_x0 h)

theorem dX1_goTo_0 : decode cX1_goTo 0 = .ok (.aload_n 0, 1) := by decide +kernel
theorem dX1_goTo_1 : decode cX1_goTo 1 = .ok (.aload_n 0, 1) := by decide +kernel
theorem dX1_goTo_2 : decode cX1_goTo 2 = .ok (.getfield 58, 3) := by decide +kernel
theorem dX1_goTo_5 : decode cX1_goTo 5 = .ok (.getfield 78, 3) := by decide +kernel
theorem dX1_goTo_8 : decode cX1_goTo 8 = .ok (.iload_n 1, 1) := by decide +kernel
theorem dX1_goTo_9 : decode cX1_goTo 9 = .ok (.iaload, 1) := by decide +kernel
theorem dX1_goTo_10 : decode cX1_goTo 10 = .ok (.putfield 52, 3) := by decide +kernel
theorem dX1_goTo_13 : decode cX1_goTo 13 = .ok (.aload_n 0, 1) := by decide +kernel
theorem dX1_goTo_14 : decode cX1_goTo 14 = .ok (.aload_n 0, 1) := by decide +kernel
theorem dX1_goTo_15 : decode cX1_goTo 15 = .ok (.getfield 58, 3) := by decide +kernel
theorem dX1_goTo_18 : decode cX1_goTo 18 = .ok (.getfield 78, 3) := by decide +kernel
theorem dX1_goTo_21 : decode cX1_goTo 21 = .ok (.iload_n 1, 1) := by decide +kernel
theorem dX1_goTo_22 : decode cX1_goTo 22 = .ok (.iconst 1, 1) := by decide +kernel
theorem dX1_goTo_23 : decode cX1_goTo 23 = .ok (.iadd, 1) := by decide +kernel
theorem dX1_goTo_24 : decode cX1_goTo 24 = .ok (.iaload, 1) := by decide +kernel
theorem dX1_goTo_25 : decode cX1_goTo 25 = .ok (.aload_n 0, 1) := by decide +kernel
theorem dX1_goTo_26 : decode cX1_goTo 26 = .ok (.getfield 52, 3) := by decide +kernel
theorem dX1_goTo_29 : decode cX1_goTo 29 = .ok (.isub, 1) := by decide +kernel
theorem dX1_goTo_30 : decode cX1_goTo 30 = .ok (.putfield 55, 3) := by decide +kernel
theorem dX1_goTo_33 : decode cX1_goTo 33 = .ok (.return_, 1) := by decide +kernel
def m_Bn_goTo (g : Nat) (S : St) (x1 : Int32) : Option St :=
if gR S 4 9 = 1 ∨ gR S 4 9 = 2 then
lt (gR S 4 9) fun p_2 =>
(aI S (50 + 8 * p_2 + 1) x1).bind fun v_3 =>
lt (sI S 4 10 v_3) fun S_4 =>
if gR S_4 4 9 = 1 ∨ gR S_4 4 9 = 2 then
lt (gR S_4 4 9) fun p_6 =>
(aI S_4 (50 + 8 * p_6 + 1) (x1 + (1 : Int32))).bind fun v_7 =>
lt (sI S_4 4 11 (v_7 - (gI S_4 4 10))) fun S_8 =>
some S_8
else none
else none
section S_Bn_goTo
variable {p : Program} {l : Launch} {e : Env} {s : State} {m : MethodId} {args : Array Value} {below : List Frame} {meth : Method} {c : Code} {H : Heap} {locs : List Loc} {ls : Array Slot} {D : va_G} {T : Cy} {ρ : Nat → Nat} {A : Nat → Prop}
set_option maxRecDepth 100000 in
set_option maxHeartbeats 4000000 in
theorem w_Bn_goTo_0  {g : Nat} {S : St} {x1 : Int32} (C : CallFix p m c cX1_goTo 2 s args tb RX1) (hr : meth.sig.returnType = none) (hk : meth.locks = false) {S' : St} (w : Wn Yc D T ρ S A s H locs) (hl : lv_has ls 2 [(0, .ref (ρ 4)), (1, .int x1)]) (h : m_Bn_goTo g S x1 = some S') : W p l e (rmN 0 0) s m args below meth c H locs 0 0 (MQ below (Qv Yc D T ρ A S') args s 0 0 A) (F0 m 0 ls []) := by
  unfold m_Bn_goTo at h
  refine lv_aload_n C.1 C.2.1 dX1_goTo_0 rfl (lv_at hl 0 rfl) ?_
  refine lv_aload_n C.1 C.2.1 dX1_goTo_1 rfl (lv_at hl 0 rfl) ?_
  by_cases hz_1 : gR S 4 9 = 1 ∨ gR S 4 9 = 2
  case neg => exact absurd (iff0 hz_1 h) (fun q => by cases q)
  replace h := ift hz_1 h
  obtain ⟨p_2, ep_2, h⟩ := lt_e h
  have ho_p_2 : Ob Yc p_2 2 := obPg (by rw [ep_2]; exact hz_1)
  refine x_getR C w fX1_58 obC4 dX1_goTo_2 ?_
  refine x_nmR ep_2 ?_
  refine x_getC C w (50 + 8 * p_2 + 1) fX1_78 ho_p_2 (crP1 ho_p_2) dX1_goTo_5 ?_
  refine lv_iload_n C.1 C.2.1 dX1_goTo_8 rfl (lv_at hl 1 rfl) ?_
  obtain ⟨v_3, hv_3, h⟩ := bnd h
  refine x_iald C w (obP1 ho_p_2) hv_3 dX1_goTo_9 ?_
  obtain ⟨S_4, eS_4, h⟩ := lt_e h
  refine y_putI C w eS_4 fX1_52 pX1_10 obC4 dX1_goTo_10 (fun H locs w => ?_)
  refine lv_aload_n C.1 C.2.1 dX1_goTo_13 rfl (lv_at hl 0 rfl) ?_
  refine lv_aload_n C.1 C.2.1 dX1_goTo_14 rfl (lv_at hl 0 rfl) ?_
  by_cases hz_5 : gR S_4 4 9 = 1 ∨ gR S_4 4 9 = 2
  case neg => exact absurd (iff0 hz_5 h) (fun q => by cases q)
  replace h := ift hz_5 h
  obtain ⟨p_6, ep_6, h⟩ := lt_e h
  have ho_p_6 : Ob Yc p_6 2 := obPg (by rw [ep_6]; exact hz_5)
  refine x_getR C w fX1_58 obC4 dX1_goTo_15 ?_
  refine x_nmR ep_6 ?_
  refine x_getC C w (50 + 8 * p_6 + 1) fX1_78 ho_p_6 (crP1 ho_p_6) dX1_goTo_18 ?_
  refine lv_iload_n C.1 C.2.1 dX1_goTo_21 rfl (lv_at hl 1 rfl) ?_
  refine lv_iconst (v := 1) C.1 C.2.1 dX1_goTo_22 (by decide) ?_
  refine lv_iadd C.1 C.2.1 dX1_goTo_23 ?_
  obtain ⟨v_7, hv_7, h⟩ := bnd h
  refine x_iald C w (obP1 ho_p_6) hv_7 dX1_goTo_24 ?_
  refine lv_aload_n C.1 C.2.1 dX1_goTo_25 rfl (lv_at hl 0 rfl) ?_
  refine x_getI C w fX1_52 obC4 dX1_goTo_26 ?_
  refine lv_isub C.1 C.2.1 dX1_goTo_29 ?_
  obtain ⟨S_8, eS_8, h⟩ := lt_e h
  refine y_putI C w eS_8 fX1_55 pX1_11 obC4 dX1_goTo_30 (fun H locs w => ?_)
  obtain rfl := som h
  exact x_vret C w hr hk dX1_goTo_33
end S_Bn_goTo
set_option maxRecDepth 100000 in
theorem k_Bn_goTo (l : Launch) (D : va_G) (T : Cy) (ρ : Nat → Nat) (g sz : Nat) (S : St) {x1 : Int32} {S' : St} (h : m_Bn_goTo g S x1 = some S') : Mv l Yc D T ρ yX1_goTo cX1_goTo 2 none 0 0 S S' [.ref (ρ 4), .int x1] sz :=
  x_in (by decide) (Nat.le_of_ble_eq_true rfl) (fun p e s m below meth c ls C hr hk w hl => w_Bn_goTo_0 C hr hk w hl h)

theorem dX1_textOf_0 : decode cX1_textOf 0 = .ok (.iload_n 1, 1) := by decide +kernel
theorem dX1_textOf_1 : decode cX1_textOf 1 = .ok (.ifCond .lt 9, 3) := by decide +kernel
theorem dX1_textOf_4 : decode cX1_textOf 4 = .ok (.iload_n 1, 1) := by decide +kernel
theorem dX1_textOf_5 : decode cX1_textOf 5 = .ok (.bipush 20, 2) := by decide +kernel
theorem dX1_textOf_7 : decode cX1_textOf 7 = .ok (.if_icmp .lt 7, 3) := by decide +kernel
theorem dX1_textOf_10 : decode cX1_textOf 10 = .ok (.iconst (-1), 1) := by decide +kernel
theorem dX1_textOf_11 : decode cX1_textOf 11 = .ok (.goto 9, 3) := by decide +kernel
theorem dX1_textOf_14 : decode cX1_textOf 14 = .ok (.aload_n 0, 1) := by decide +kernel
theorem dX1_textOf_15 : decode cX1_textOf 15 = .ok (.getfield 18, 3) := by decide +kernel
theorem dX1_textOf_18 : decode cX1_textOf 18 = .ok (.iload_n 1, 1) := by decide +kernel
theorem dX1_textOf_19 : decode cX1_textOf 19 = .ok (.iaload, 1) := by decide +kernel
theorem dX1_textOf_20 : decode cX1_textOf 20 = .ok (.ireturn, 1) := by decide +kernel
def m_Bn_textOf (g : Nat) (S : St) (x1 : Int32) : Option Int32 :=
if x1 < 0 then (
  some (-1 : Int32)
) else (
  if x1 < (20 : Int32) then (
    (aI S 74 x1).bind fun v_1 =>
    some v_1
  ) else (
    some (-1 : Int32)
  )
)
section S_Bn_textOf
variable {p : Program} {l : Launch} {e : Env} {s : State} {m : MethodId} {args : Array Value} {below : List Frame} {meth : Method} {c : Code} {H : Heap} {locs : List Loc} {ls : Array Slot} {D : va_G} {T : Cy} {ρ : Nat → Nat} {A : Nat → Prop}
set_option maxRecDepth 100000 in
set_option maxHeartbeats 4000000 in
theorem w_Bn_textOf_0  {g : Nat} {S : St} {x1 : Int32} (C : CallFix p m c cX1_textOf 2 s args tb RX1) (hr : meth.sig.returnType = (some .int)) (hk : meth.locks = false) {r : Int32} (w : Wn Yc D T ρ S A s H locs) (hl : lv_has ls 2 [(0, .ref (ρ 4)), (1, .int x1)]) (h : m_Bn_textOf g S x1 = some r) : W p l e (rmN 0 0) s m args below meth c H locs 0 0 (MQ below (Qi Yc D T ρ A S r) args s 0 0 A) (F0 m 0 ls []) := by
  unfold m_Bn_textOf at h
  refine lv_iload_n C.1 C.2.1 dX1_textOf_0 rfl (lv_at hl 1 rfl) ?_
  refine lv_if_lt (tgt := 10) C.1 C.2.1 dX1_textOf_1 (by decide) (fun hc => ?_) (fun hc => ?_)
  · replace h := ift hc h
    refine lv_iconst (v := (-1)) C.1 C.2.1 dX1_textOf_10 (by decide) ?_
    refine lv_goto (tgt := 20) C.1 C.2.1 dX1_textOf_11 (by decide) ?_
    obtain rfl := som h
    exact x_iret C w hr hk dX1_textOf_20
  · replace h := iff0 hc h
    refine lv_iload_n C.1 C.2.1 dX1_textOf_4 rfl (lv_at hl 1 rfl) ?_
    refine lv_bipush (v := 20) C.1 C.2.1 dX1_textOf_5 (by decide) ?_
    refine lv_icmp_lt (tgt := 14) C.1 C.2.1 dX1_textOf_7 (by decide) (fun hc => ?_) (fun hc => ?_)
    · replace h := ift hc h
      refine lv_aload_n C.1 C.2.1 dX1_textOf_14 rfl (lv_at hl 0 rfl) ?_
      refine x_getC C w 74 fX1_18 obC4 rfl dX1_textOf_15 ?_
      refine lv_iload_n C.1 C.2.1 dX1_textOf_18 rfl (lv_at hl 1 rfl) ?_
      obtain ⟨v_1, hv_1, h⟩ := bnd h
      refine x_iald C w obC74 hv_1 dX1_textOf_19 ?_
      obtain rfl := som h
      exact x_iret C w hr hk dX1_textOf_20
    · replace h := iff0 hc h
      refine lv_iconst (v := (-1)) C.1 C.2.1 dX1_textOf_10 (by decide) ?_
      refine lv_goto (tgt := 20) C.1 C.2.1 dX1_textOf_11 (by decide) ?_
      obtain rfl := som h
      exact x_iret C w hr hk dX1_textOf_20
end S_Bn_textOf
set_option maxRecDepth 100000 in
theorem k_Bn_textOf (l : Launch) (D : va_G) (T : Cy) (ρ : Nat → Nat) (g sz : Nat) (S : St) {x1 : Int32} {r : Int32} (h : m_Bn_textOf g S x1 = some r) : Mi l Yc D T ρ yX1_textOf cX1_textOf 2 (some .int) 0 0 S S r [.ref (ρ 4), .int x1] sz :=
  x_in (by decide) (Nat.le_of_ble_eq_true rfl) (fun p e s m below meth c ls C hr hk w hl => w_Bn_textOf_0 C hr hk w hl h)

theorem dX1_hasBuilder_0 : decode cX1_hasBuilder 0 = .ok (.iload_n 1, 1) := by decide +kernel
theorem dX1_hasBuilder_1 : decode cX1_hasBuilder 1 = .ok (.ifCond .lt 23, 3) := by decide +kernel
theorem dX1_hasBuilder_4 : decode cX1_hasBuilder 4 = .ok (.iload_n 1, 1) := by decide +kernel
theorem dX1_hasBuilder_5 : decode cX1_hasBuilder 5 = .ok (.bipush 6, 2) := by decide +kernel
theorem dX1_hasBuilder_7 : decode cX1_hasBuilder 7 = .ok (.if_icmp .ge 17, 3) := by decide +kernel
theorem dX1_hasBuilder_10 : decode cX1_hasBuilder 10 = .ok (.aload_n 0, 1) := by decide +kernel
theorem dX1_hasBuilder_11 : decode cX1_hasBuilder 11 = .ok (.getfield 32, 3) := by decide +kernel
theorem dX1_hasBuilder_14 : decode cX1_hasBuilder 14 = .ok (.iload_n 1, 1) := by decide +kernel
theorem dX1_hasBuilder_15 : decode cX1_hasBuilder 15 = .ok (.iaload, 1) := by decide +kernel
theorem dX1_hasBuilder_16 : decode cX1_hasBuilder 16 = .ok (.iconst (-1), 1) := by decide +kernel
theorem dX1_hasBuilder_17 : decode cX1_hasBuilder 17 = .ok (.if_icmp .eq 7, 3) := by decide +kernel
theorem dX1_hasBuilder_20 : decode cX1_hasBuilder 20 = .ok (.iconst 1, 1) := by decide +kernel
theorem dX1_hasBuilder_21 : decode cX1_hasBuilder 21 = .ok (.goto 4, 3) := by decide +kernel
theorem dX1_hasBuilder_24 : decode cX1_hasBuilder 24 = .ok (.iconst 0, 1) := by decide +kernel
theorem dX1_hasBuilder_25 : decode cX1_hasBuilder 25 = .ok (.ireturn, 1) := by decide +kernel
def m_Bn_hasBuilder (g : Nat) (S : St) (x1 : Int32) : Option Int32 :=
if x1 < 0 then (
  some (0 : Int32)
) else (
  if (6 : Int32) ≤ x1 then (
    some (0 : Int32)
  ) else (
    (aI S 77 x1).bind fun v_1 =>
    if v_1 = (-1 : Int32) then (
      some (0 : Int32)
    ) else (
      some (1 : Int32)
    )
  )
)
section S_Bn_hasBuilder
variable {p : Program} {l : Launch} {e : Env} {s : State} {m : MethodId} {args : Array Value} {below : List Frame} {meth : Method} {c : Code} {H : Heap} {locs : List Loc} {ls : Array Slot} {D : va_G} {T : Cy} {ρ : Nat → Nat} {A : Nat → Prop}
set_option maxRecDepth 100000 in
set_option maxHeartbeats 4000000 in
theorem w_Bn_hasBuilder_0  {g : Nat} {S : St} {x1 : Int32} (C : CallFix p m c cX1_hasBuilder 2 s args tb RX1) (hr : meth.sig.returnType = (some .boolean)) (hk : meth.locks = false) {r : Int32} (w : Wn Yc D T ρ S A s H locs) (hl : lv_has ls 2 [(0, .ref (ρ 4)), (1, .int x1)]) (h : m_Bn_hasBuilder g S x1 = some r) : W p l e (rmN 0 0) s m args below meth c H locs 0 0 (MQ below (Qi Yc D T ρ A S r) args s 0 0 A) (F0 m 0 ls []) := by
  unfold m_Bn_hasBuilder at h
  refine lv_iload_n C.1 C.2.1 dX1_hasBuilder_0 rfl (lv_at hl 1 rfl) ?_
  refine lv_if_lt (tgt := 24) C.1 C.2.1 dX1_hasBuilder_1 (by decide) (fun hc => ?_) (fun hc => ?_)
  · replace h := ift hc h
    refine lv_iconst (v := 0) C.1 C.2.1 dX1_hasBuilder_24 (by decide) ?_
    obtain rfl := som h
    exact x_zret C w hr hk (by decide) dX1_hasBuilder_25
  · replace h := iff0 hc h
    refine lv_iload_n C.1 C.2.1 dX1_hasBuilder_4 rfl (lv_at hl 1 rfl) ?_
    refine lv_bipush (v := 6) C.1 C.2.1 dX1_hasBuilder_5 (by decide) ?_
    refine lv_icmp_ge (tgt := 24) C.1 C.2.1 dX1_hasBuilder_7 (by decide) (fun hc => ?_) (fun hc => ?_)
    · replace h := ift hc h
      refine lv_iconst (v := 0) C.1 C.2.1 dX1_hasBuilder_24 (by decide) ?_
      obtain rfl := som h
      exact x_zret C w hr hk (by decide) dX1_hasBuilder_25
    · replace h := iff0 hc h
      refine lv_aload_n C.1 C.2.1 dX1_hasBuilder_10 rfl (lv_at hl 0 rfl) ?_
      refine x_getC C w 77 fX1_32 obC4 rfl dX1_hasBuilder_11 ?_
      refine lv_iload_n C.1 C.2.1 dX1_hasBuilder_14 rfl (lv_at hl 1 rfl) ?_
      obtain ⟨v_1, hv_1, h⟩ := bnd h
      refine x_iald C w obC77 hv_1 dX1_hasBuilder_15 ?_
      refine lv_iconst (v := (-1)) C.1 C.2.1 dX1_hasBuilder_16 (by decide) ?_
      refine lv_icmp_eq (tgt := 24) C.1 C.2.1 dX1_hasBuilder_17 (by decide) (fun hc => ?_) (fun hc => ?_)
      · replace h := ift hc h
        refine lv_iconst (v := 0) C.1 C.2.1 dX1_hasBuilder_24 (by decide) ?_
        obtain rfl := som h
        exact x_zret C w hr hk (by decide) dX1_hasBuilder_25
      · replace h := iff0 hc h
        refine lv_iconst (v := 1) C.1 C.2.1 dX1_hasBuilder_20 (by decide) ?_
        refine lv_goto (tgt := 25) C.1 C.2.1 dX1_hasBuilder_21 (by decide) ?_
        obtain rfl := som h
        exact x_zret C w hr hk (by decide) dX1_hasBuilder_25
end S_Bn_hasBuilder
set_option maxRecDepth 100000 in
theorem k_Bn_hasBuilder (l : Launch) (D : va_G) (T : Cy) (ρ : Nat → Nat) (g sz : Nat) (S : St) {x1 : Int32} {r : Int32} (h : m_Bn_hasBuilder g S x1 = some r) : Mi l Yc D T ρ yX1_hasBuilder cX1_hasBuilder 2 (some .boolean) 0 0 S S r [.ref (ρ 4), .int x1] sz :=
  x_in (by decide) (Nat.le_of_ble_eq_true rfl) (fun p e s m below meth c ls C hr hk w hl => w_Bn_hasBuilder_0 C hr hk w hl h)

theorem dX1_signAt_0 : decode cX1_signAt 0 = .ok (.iload_n 1, 1) := by decide +kernel
theorem dX1_signAt_1 : decode cX1_signAt 1 = .ok (.ifCond .lt 11, 3) := by decide +kernel
theorem dX1_signAt_4 : decode cX1_signAt 4 = .ok (.iload_n 1, 1) := by decide +kernel
theorem dX1_signAt_5 : decode cX1_signAt 5 = .ok (.aload_n 0, 1) := by decide +kernel
theorem dX1_signAt_6 : decode cX1_signAt 6 = .ok (.getfield 55, 3) := by decide +kernel
theorem dX1_signAt_9 : decode cX1_signAt 9 = .ok (.if_icmp .lt 8, 3) := by decide +kernel
theorem dX1_signAt_12 : decode cX1_signAt 12 = .ok (.bipush 32, 2) := by decide +kernel
theorem dX1_signAt_14 : decode cX1_signAt 14 = .ok (.goto 17, 3) := by decide +kernel
theorem dX1_signAt_17 : decode cX1_signAt 17 = .ok (.aload_n 0, 1) := by decide +kernel
theorem dX1_signAt_18 : decode cX1_signAt 18 = .ok (.getfield 58, 3) := by decide +kernel
theorem dX1_signAt_21 : decode cX1_signAt 21 = .ok (.getfield 83, 3) := by decide +kernel
theorem dX1_signAt_24 : decode cX1_signAt 24 = .ok (.aload_n 0, 1) := by decide +kernel
theorem dX1_signAt_25 : decode cX1_signAt 25 = .ok (.getfield 52, 3) := by decide +kernel
theorem dX1_signAt_28 : decode cX1_signAt 28 = .ok (.iload_n 1, 1) := by decide +kernel
theorem dX1_signAt_29 : decode cX1_signAt 29 = .ok (.iadd, 1) := by decide +kernel
theorem dX1_signAt_30 : decode cX1_signAt 30 = .ok (.iaload, 1) := by decide +kernel
theorem dX1_signAt_31 : decode cX1_signAt 31 = .ok (.ireturn, 1) := by decide +kernel
def m_Bn_signAt (g : Nat) (S : St) (x1 : Int32) : Option Int32 :=
if x1 < 0 then (
  some (32 : Int32)
) else (
  if x1 < (gI S 4 11) then (
    if gR S 4 9 = 1 ∨ gR S 4 9 = 2 then
    lt (gR S 4 9) fun p_2 =>
    (aI S (50 + 8 * p_2 + 3) ((gI S 4 10) + x1)).bind fun v_3 =>
    some v_3
    else none
  ) else (
    some (32 : Int32)
  )
)
section S_Bn_signAt
variable {p : Program} {l : Launch} {e : Env} {s : State} {m : MethodId} {args : Array Value} {below : List Frame} {meth : Method} {c : Code} {H : Heap} {locs : List Loc} {ls : Array Slot} {D : va_G} {T : Cy} {ρ : Nat → Nat} {A : Nat → Prop}
set_option maxRecDepth 100000 in
set_option maxHeartbeats 4000000 in
theorem w_Bn_signAt_0  {g : Nat} {S : St} {x1 : Int32} (C : CallFix p m c cX1_signAt 2 s args tb RX1) (hr : meth.sig.returnType = (some .int)) (hk : meth.locks = false) {r : Int32} (w : Wn Yc D T ρ S A s H locs) (hl : lv_has ls 2 [(0, .ref (ρ 4)), (1, .int x1)]) (h : m_Bn_signAt g S x1 = some r) : W p l e (rmN 0 0) s m args below meth c H locs 0 0 (MQ below (Qi Yc D T ρ A S r) args s 0 0 A) (F0 m 0 ls []) := by
  unfold m_Bn_signAt at h
  refine lv_iload_n C.1 C.2.1 dX1_signAt_0 rfl (lv_at hl 1 rfl) ?_
  refine lv_if_lt (tgt := 12) C.1 C.2.1 dX1_signAt_1 (by decide) (fun hc => ?_) (fun hc => ?_)
  · replace h := ift hc h
    refine lv_bipush (v := 32) C.1 C.2.1 dX1_signAt_12 (by decide) ?_
    refine lv_goto (tgt := 31) C.1 C.2.1 dX1_signAt_14 (by decide) ?_
    obtain rfl := som h
    exact x_iret C w hr hk dX1_signAt_31
  · replace h := iff0 hc h
    refine lv_iload_n C.1 C.2.1 dX1_signAt_4 rfl (lv_at hl 1 rfl) ?_
    refine lv_aload_n C.1 C.2.1 dX1_signAt_5 rfl (lv_at hl 0 rfl) ?_
    refine x_getI C w fX1_55 obC4 dX1_signAt_6 ?_
    refine lv_icmp_lt (tgt := 17) C.1 C.2.1 dX1_signAt_9 (by decide) (fun hc => ?_) (fun hc => ?_)
    · replace h := ift hc h
      refine lv_aload_n C.1 C.2.1 dX1_signAt_17 rfl (lv_at hl 0 rfl) ?_
      by_cases hz_1 : gR S 4 9 = 1 ∨ gR S 4 9 = 2
      case neg => exact absurd (iff0 hz_1 h) (fun q => by cases q)
      replace h := ift hz_1 h
      obtain ⟨p_2, ep_2, h⟩ := lt_e h
      have ho_p_2 : Ob Yc p_2 2 := obPg (by rw [ep_2]; exact hz_1)
      refine x_getR C w fX1_58 obC4 dX1_signAt_18 ?_
      refine x_nmR ep_2 ?_
      refine x_getC C w (50 + 8 * p_2 + 3) fX1_83 ho_p_2 (crP3 ho_p_2) dX1_signAt_21 ?_
      refine lv_aload_n C.1 C.2.1 dX1_signAt_24 rfl (lv_at hl 0 rfl) ?_
      refine x_getI C w fX1_52 obC4 dX1_signAt_25 ?_
      refine lv_iload_n C.1 C.2.1 dX1_signAt_28 rfl (lv_at hl 1 rfl) ?_
      refine lv_iadd C.1 C.2.1 dX1_signAt_29 ?_
      obtain ⟨v_3, hv_3, h⟩ := bnd h
      refine x_iald C w (obP3 ho_p_2) hv_3 dX1_signAt_30 ?_
      obtain rfl := som h
      exact x_iret C w hr hk dX1_signAt_31
    · replace h := iff0 hc h
      refine lv_bipush (v := 32) C.1 C.2.1 dX1_signAt_12 (by decide) ?_
      refine lv_goto (tgt := 31) C.1 C.2.1 dX1_signAt_14 (by decide) ?_
      obtain rfl := som h
      exact x_iret C w hr hk dX1_signAt_31
end S_Bn_signAt
set_option maxRecDepth 100000 in
theorem k_Bn_signAt (l : Launch) (D : va_G) (T : Cy) (ρ : Nat → Nat) (g sz : Nat) (S : St) {x1 : Int32} {r : Int32} (h : m_Bn_signAt g S x1 = some r) : Mi l Yc D T ρ yX1_signAt cX1_signAt 2 (some .int) 0 0 S S r [.ref (ρ 4), .int x1] sz :=
  x_in (by decide) (Nat.le_of_ble_eq_true rfl) (fun p e s m below meth c ls C hr hk w hl => w_Bn_signAt_0 C hr hk w hl h)

theorem dX1_kindAt_0 : decode cX1_kindAt 0 = .ok (.iload_n 1, 1) := by decide +kernel
theorem dX1_kindAt_1 : decode cX1_kindAt 1 = .ok (.ifCond .lt 11, 3) := by decide +kernel
theorem dX1_kindAt_4 : decode cX1_kindAt 4 = .ok (.iload_n 1, 1) := by decide +kernel
theorem dX1_kindAt_5 : decode cX1_kindAt 5 = .ok (.aload_n 0, 1) := by decide +kernel
theorem dX1_kindAt_6 : decode cX1_kindAt 6 = .ok (.getfield 55, 3) := by decide +kernel
theorem dX1_kindAt_9 : decode cX1_kindAt 9 = .ok (.if_icmp .lt 7, 3) := by decide +kernel
theorem dX1_kindAt_12 : decode cX1_kindAt 12 = .ok (.iconst (-1), 1) := by decide +kernel
theorem dX1_kindAt_13 : decode cX1_kindAt 13 = .ok (.goto 17, 3) := by decide +kernel
theorem dX1_kindAt_16 : decode cX1_kindAt 16 = .ok (.aload_n 0, 1) := by decide +kernel
theorem dX1_kindAt_17 : decode cX1_kindAt 17 = .ok (.getfield 58, 3) := by decide +kernel
theorem dX1_kindAt_20 : decode cX1_kindAt 20 = .ok (.getfield 86, 3) := by decide +kernel
theorem dX1_kindAt_23 : decode cX1_kindAt 23 = .ok (.aload_n 0, 1) := by decide +kernel
theorem dX1_kindAt_24 : decode cX1_kindAt 24 = .ok (.getfield 52, 3) := by decide +kernel
theorem dX1_kindAt_27 : decode cX1_kindAt 27 = .ok (.iload_n 1, 1) := by decide +kernel
theorem dX1_kindAt_28 : decode cX1_kindAt 28 = .ok (.iadd, 1) := by decide +kernel
theorem dX1_kindAt_29 : decode cX1_kindAt 29 = .ok (.iaload, 1) := by decide +kernel
theorem dX1_kindAt_30 : decode cX1_kindAt 30 = .ok (.ireturn, 1) := by decide +kernel
def m_Bn_kindAt (g : Nat) (S : St) (x1 : Int32) : Option Int32 :=
if x1 < 0 then (
  some (-1 : Int32)
) else (
  if x1 < (gI S 4 11) then (
    if gR S 4 9 = 1 ∨ gR S 4 9 = 2 then
    lt (gR S 4 9) fun p_2 =>
    (aI S (50 + 8 * p_2 + 2) ((gI S 4 10) + x1)).bind fun v_3 =>
    some v_3
    else none
  ) else (
    some (-1 : Int32)
  )
)
section S_Bn_kindAt
variable {p : Program} {l : Launch} {e : Env} {s : State} {m : MethodId} {args : Array Value} {below : List Frame} {meth : Method} {c : Code} {H : Heap} {locs : List Loc} {ls : Array Slot} {D : va_G} {T : Cy} {ρ : Nat → Nat} {A : Nat → Prop}
set_option maxRecDepth 100000 in
set_option maxHeartbeats 4000000 in
theorem w_Bn_kindAt_0  {g : Nat} {S : St} {x1 : Int32} (C : CallFix p m c cX1_kindAt 2 s args tb RX1) (hr : meth.sig.returnType = (some .int)) (hk : meth.locks = false) {r : Int32} (w : Wn Yc D T ρ S A s H locs) (hl : lv_has ls 2 [(0, .ref (ρ 4)), (1, .int x1)]) (h : m_Bn_kindAt g S x1 = some r) : W p l e (rmN 0 0) s m args below meth c H locs 0 0 (MQ below (Qi Yc D T ρ A S r) args s 0 0 A) (F0 m 0 ls []) := by
  unfold m_Bn_kindAt at h
  refine lv_iload_n C.1 C.2.1 dX1_kindAt_0 rfl (lv_at hl 1 rfl) ?_
  refine lv_if_lt (tgt := 12) C.1 C.2.1 dX1_kindAt_1 (by decide) (fun hc => ?_) (fun hc => ?_)
  · replace h := ift hc h
    refine lv_iconst (v := (-1)) C.1 C.2.1 dX1_kindAt_12 (by decide) ?_
    refine lv_goto (tgt := 30) C.1 C.2.1 dX1_kindAt_13 (by decide) ?_
    obtain rfl := som h
    exact x_iret C w hr hk dX1_kindAt_30
  · replace h := iff0 hc h
    refine lv_iload_n C.1 C.2.1 dX1_kindAt_4 rfl (lv_at hl 1 rfl) ?_
    refine lv_aload_n C.1 C.2.1 dX1_kindAt_5 rfl (lv_at hl 0 rfl) ?_
    refine x_getI C w fX1_55 obC4 dX1_kindAt_6 ?_
    refine lv_icmp_lt (tgt := 16) C.1 C.2.1 dX1_kindAt_9 (by decide) (fun hc => ?_) (fun hc => ?_)
    · replace h := ift hc h
      refine lv_aload_n C.1 C.2.1 dX1_kindAt_16 rfl (lv_at hl 0 rfl) ?_
      by_cases hz_1 : gR S 4 9 = 1 ∨ gR S 4 9 = 2
      case neg => exact absurd (iff0 hz_1 h) (fun q => by cases q)
      replace h := ift hz_1 h
      obtain ⟨p_2, ep_2, h⟩ := lt_e h
      have ho_p_2 : Ob Yc p_2 2 := obPg (by rw [ep_2]; exact hz_1)
      refine x_getR C w fX1_58 obC4 dX1_kindAt_17 ?_
      refine x_nmR ep_2 ?_
      refine x_getC C w (50 + 8 * p_2 + 2) fX1_86 ho_p_2 (crP2 ho_p_2) dX1_kindAt_20 ?_
      refine lv_aload_n C.1 C.2.1 dX1_kindAt_23 rfl (lv_at hl 0 rfl) ?_
      refine x_getI C w fX1_52 obC4 dX1_kindAt_24 ?_
      refine lv_iload_n C.1 C.2.1 dX1_kindAt_27 rfl (lv_at hl 1 rfl) ?_
      refine lv_iadd C.1 C.2.1 dX1_kindAt_28 ?_
      obtain ⟨v_3, hv_3, h⟩ := bnd h
      refine x_iald C w (obP2 ho_p_2) hv_3 dX1_kindAt_29 ?_
      obtain rfl := som h
      exact x_iret C w hr hk dX1_kindAt_30
    · replace h := iff0 hc h
      refine lv_iconst (v := (-1)) C.1 C.2.1 dX1_kindAt_12 (by decide) ?_
      refine lv_goto (tgt := 30) C.1 C.2.1 dX1_kindAt_13 (by decide) ?_
      obtain rfl := som h
      exact x_iret C w hr hk dX1_kindAt_30
end S_Bn_kindAt
set_option maxRecDepth 100000 in
theorem k_Bn_kindAt (l : Launch) (D : va_G) (T : Cy) (ρ : Nat → Nat) (g sz : Nat) (S : St) {x1 : Int32} {r : Int32} (h : m_Bn_kindAt g S x1 = some r) : Mi l Yc D T ρ yX1_kindAt cX1_kindAt 2 (some .int) 0 0 S S r [.ref (ρ 4), .int x1] sz :=
  x_in (by decide) (Nat.le_of_ble_eq_true rfl) (fun p e s m below meth c ls C hr hk w hl => w_Bn_kindAt_0 C hr hk w hl h)

theorem dX1_valueAt_0 : decode cX1_valueAt 0 = .ok (.iload_n 1, 1) := by decide +kernel
theorem dX1_valueAt_1 : decode cX1_valueAt 1 = .ok (.ifCond .lt 11, 3) := by decide +kernel
theorem dX1_valueAt_4 : decode cX1_valueAt 4 = .ok (.iload_n 1, 1) := by decide +kernel
theorem dX1_valueAt_5 : decode cX1_valueAt 5 = .ok (.aload_n 0, 1) := by decide +kernel
theorem dX1_valueAt_6 : decode cX1_valueAt 6 = .ok (.getfield 55, 3) := by decide +kernel
theorem dX1_valueAt_9 : decode cX1_valueAt 9 = .ok (.if_icmp .lt 7, 3) := by decide +kernel
theorem dX1_valueAt_12 : decode cX1_valueAt 12 = .ok (.lconst 0, 1) := by decide +kernel
theorem dX1_valueAt_13 : decode cX1_valueAt 13 = .ok (.goto 17, 3) := by decide +kernel
theorem dX1_valueAt_16 : decode cX1_valueAt 16 = .ok (.aload_n 0, 1) := by decide +kernel
theorem dX1_valueAt_17 : decode cX1_valueAt 17 = .ok (.getfield 58, 3) := by decide +kernel
theorem dX1_valueAt_20 : decode cX1_valueAt 20 = .ok (.getfield 89, 3) := by decide +kernel
theorem dX1_valueAt_23 : decode cX1_valueAt 23 = .ok (.aload_n 0, 1) := by decide +kernel
theorem dX1_valueAt_24 : decode cX1_valueAt 24 = .ok (.getfield 52, 3) := by decide +kernel
theorem dX1_valueAt_27 : decode cX1_valueAt 27 = .ok (.iload_n 1, 1) := by decide +kernel
theorem dX1_valueAt_28 : decode cX1_valueAt 28 = .ok (.iadd, 1) := by decide +kernel
theorem dX1_valueAt_29 : decode cX1_valueAt 29 = .ok (.laload, 1) := by decide +kernel
theorem dX1_valueAt_30 : decode cX1_valueAt 30 = .ok (.lreturn, 1) := by decide +kernel
def m_Bn_valueAt (g : Nat) (S : St) (x1 : Int32) : Option Int64 :=
if x1 < 0 then (
  some (0 : Int64)
) else (
  if x1 < (gI S 4 11) then (
    if gR S 4 9 = 1 ∨ gR S 4 9 = 2 then
    lt (gR S 4 9) fun p_2 =>
    (aJ S (50 + 8 * p_2 + 4) ((gI S 4 10) + x1)).bind fun v_3 =>
    some v_3
    else none
  ) else (
    some (0 : Int64)
  )
)
section S_Bn_valueAt
variable {p : Program} {l : Launch} {e : Env} {s : State} {m : MethodId} {args : Array Value} {below : List Frame} {meth : Method} {c : Code} {H : Heap} {locs : List Loc} {ls : Array Slot} {D : va_G} {T : Cy} {ρ : Nat → Nat} {A : Nat → Prop}
set_option maxRecDepth 100000 in
set_option maxHeartbeats 4000000 in
theorem w_Bn_valueAt_0  {g : Nat} {S : St} {x1 : Int32} (C : CallFix p m c cX1_valueAt 2 s args tb RX1) (hr : meth.sig.returnType = (some .long)) (hk : meth.locks = false) {r : Int64} (w : Wn Yc D T ρ S A s H locs) (hl : lv_has ls 2 [(0, .ref (ρ 4)), (1, .int x1)]) (h : m_Bn_valueAt g S x1 = some r) : W p l e (rmN 0 0) s m args below meth c H locs 0 0 (MQ below (Qj Yc D T ρ A S r) args s 0 0 A) (F0 m 0 ls []) := by
  unfold m_Bn_valueAt at h
  refine lv_iload_n C.1 C.2.1 dX1_valueAt_0 rfl (lv_at hl 1 rfl) ?_
  refine lv_if_lt (tgt := 12) C.1 C.2.1 dX1_valueAt_1 (by decide) (fun hc => ?_) (fun hc => ?_)
  · replace h := ift hc h
    refine lv_lconst (v := 0) C.1 C.2.1 dX1_valueAt_12 (by decide) ?_
    refine lv_goto (tgt := 30) C.1 C.2.1 dX1_valueAt_13 (by decide) ?_
    obtain rfl := som h
    exact x_lret C w hr hk dX1_valueAt_30
  · replace h := iff0 hc h
    refine lv_iload_n C.1 C.2.1 dX1_valueAt_4 rfl (lv_at hl 1 rfl) ?_
    refine lv_aload_n C.1 C.2.1 dX1_valueAt_5 rfl (lv_at hl 0 rfl) ?_
    refine x_getI C w fX1_55 obC4 dX1_valueAt_6 ?_
    refine lv_icmp_lt (tgt := 16) C.1 C.2.1 dX1_valueAt_9 (by decide) (fun hc => ?_) (fun hc => ?_)
    · replace h := ift hc h
      refine lv_aload_n C.1 C.2.1 dX1_valueAt_16 rfl (lv_at hl 0 rfl) ?_
      by_cases hz_1 : gR S 4 9 = 1 ∨ gR S 4 9 = 2
      case neg => exact absurd (iff0 hz_1 h) (fun q => by cases q)
      replace h := ift hz_1 h
      obtain ⟨p_2, ep_2, h⟩ := lt_e h
      have ho_p_2 : Ob Yc p_2 2 := obPg (by rw [ep_2]; exact hz_1)
      refine x_getR C w fX1_58 obC4 dX1_valueAt_17 ?_
      refine x_nmR ep_2 ?_
      refine x_getC C w (50 + 8 * p_2 + 4) fX1_89 ho_p_2 (crP4 ho_p_2) dX1_valueAt_20 ?_
      refine lv_aload_n C.1 C.2.1 dX1_valueAt_23 rfl (lv_at hl 0 rfl) ?_
      refine x_getI C w fX1_52 obC4 dX1_valueAt_24 ?_
      refine lv_iload_n C.1 C.2.1 dX1_valueAt_27 rfl (lv_at hl 1 rfl) ?_
      refine lv_iadd C.1 C.2.1 dX1_valueAt_28 ?_
      obtain ⟨v_3, hv_3, h⟩ := bnd h
      refine x_lald C w (obP4 ho_p_2) hv_3 dX1_valueAt_29 ?_
      obtain rfl := som h
      exact x_lret C w hr hk dX1_valueAt_30
    · replace h := iff0 hc h
      refine lv_lconst (v := 0) C.1 C.2.1 dX1_valueAt_12 (by decide) ?_
      refine lv_goto (tgt := 30) C.1 C.2.1 dX1_valueAt_13 (by decide) ?_
      obtain rfl := som h
      exact x_lret C w hr hk dX1_valueAt_30
end S_Bn_valueAt
set_option maxRecDepth 100000 in
theorem k_Bn_valueAt (l : Launch) (D : va_G) (T : Cy) (ρ : Nat → Nat) (g sz : Nat) (S : St) {x1 : Int32} {r : Int64} (h : m_Bn_valueAt g S x1 = some r) : Mj l Yc D T ρ yX1_valueAt cX1_valueAt 2 (some .long) 0 0 S S r [.ref (ρ 4), .int x1] sz :=
  x_in (by decide) (Nat.le_of_ble_eq_true rfl) (fun p e s m below meth c ls C hr hk w hl => w_Bn_valueAt_0 C hr hk w hl h)

theorem dX1_textAt_0 : decode cX1_textAt 0 = .ok (.aload_n 0, 1) := by decide +kernel
theorem dX1_textAt_1 : decode cX1_textAt 1 = .ok (.iload_n 1, 1) := by decide +kernel
theorem dX1_textAt_2 : decode cX1_textAt 2 = .ok (.invokevirtual 92, 3) := by decide +kernel
theorem dX1_textAt_5 : decode cX1_textAt 5 = .ok (.l2i, 1) := by decide +kernel
theorem dX1_textAt_6 : decode cX1_textAt 6 = .ok (.istore_n 2, 1) := by decide +kernel
theorem dX1_textAt_7 : decode cX1_textAt 7 = .ok (.aload_n 0, 1) := by decide +kernel
theorem dX1_textAt_8 : decode cX1_textAt 8 = .ok (.iload_n 1, 1) := by decide +kernel
theorem dX1_textAt_9 : decode cX1_textAt 9 = .ok (.invokevirtual 96, 3) := by decide +kernel
theorem dX1_textAt_12 : decode cX1_textAt 12 = .ok (.bipush 34, 2) := by decide +kernel
theorem dX1_textAt_14 : decode cX1_textAt 14 = .ok (.if_icmp .ne 17, 3) := by decide +kernel
theorem dX1_textAt_17 : decode cX1_textAt 17 = .ok (.aload_n 0, 1) := by decide +kernel
theorem dX1_textAt_18 : decode cX1_textAt 18 = .ok (.getfield 12, 3) := by decide +kernel
theorem dX1_textAt_21 : decode cX1_textAt 21 = .ok (.getfield 100, 3) := by decide +kernel
theorem dX1_textAt_24 : decode cX1_textAt 24 = .ok (.iload_n 2, 1) := by decide +kernel
theorem dX1_textAt_25 : decode cX1_textAt 25 = .ok (.invokevirtual 103, 3) := by decide +kernel
theorem dX1_textAt_28 : decode cX1_textAt 28 = .ok (.goto 8, 3) := by decide +kernel
theorem dX1_textAt_31 : decode cX1_textAt 31 = .ok (.aload_n 0, 1) := by decide +kernel
theorem dX1_textAt_32 : decode cX1_textAt 32 = .ok (.iload_n 2, 1) := by decide +kernel
theorem dX1_textAt_33 : decode cX1_textAt 33 = .ok (.invokevirtual 106, 3) := by decide +kernel
theorem dX1_textAt_36 : decode cX1_textAt 36 = .ok (.ireturn, 1) := by decide +kernel
def m_Bn_textAt (g : Nat) (S : St) (x1 : Int32) : Option Int32 :=
(m_Bn_valueAt g S x1).bind fun v_1 =>
lt (v_1.toInt32) fun x2_2 =>
(m_Bn_kindAt g S x1).bind fun v_3 =>
if v_3 = (34 : Int32) then (
  (m_Row_at g S 21 x2_2).bind fun v_5 =>
  some v_5
) else (
  (m_Bn_textOf g S x2_2).bind fun v_4 =>
  some v_4
)
section S_Bn_textAt
variable {p : Program} {l : Launch} {e : Env} {s : State} {m : MethodId} {args : Array Value} {below : List Frame} {meth : Method} {c : Code} {H : Heap} {locs : List Loc} {ls : Array Slot} {D : va_G} {T : Cy} {ρ : Nat → Nat} {A : Nat → Prop}
set_option maxRecDepth 100000 in
set_option maxHeartbeats 4000000 in
theorem w_Bn_textAt_0  {g : Nat} {S : St} {x1 : Int32} (C : CallFix p m c cX1_textAt 3 s args tb RX1) (hr : meth.sig.returnType = (some .int)) (hk : meth.locks = false) {r : Int32} (w : Wn Yc D T ρ S A s H locs) (hl : lv_has ls 3 [(0, .ref (ρ 4)), (1, .int x1)]) (h : m_Bn_textAt g S x1 = some r) : W p l e (rmN 1 21) s m args below meth c H locs 0 0 (MQ below (Qi Yc D T ρ A S r) args s 0 0 A) (F0 m 0 ls []) := by
  unfold m_Bn_textAt at h
  refine lv_aload_n C.1 C.2.1 dX1_textAt_0 rfl (lv_at hl 0 rfl) ?_
  refine lv_iload_n C.1 C.2.1 dX1_textAt_1 rfl (lv_at hl 1 rfl) ?_
  obtain ⟨v_1, hv_1, h⟩ := bnd h
  refine x_callVj (q := (RX1, TX1, 12)) (As := [.int x1]) (rest := []) C w (k_Bn_valueAt l D T ρ g H.size S hv_1) vX1_92 ⟨by decide, by decide⟩ obC4 (by decide) rfl rfl rfl hl.1 (Nat.le_of_ble_eq_true rfl) ⟨Nat.zero_le _, Nat.zero_le _⟩ dX1_textAt_2 (fun H locs w => ?_)
  refine lv_l2i C.1 C.2.1 dX1_textAt_5 rfl ?_
  obtain ⟨x2_2, ex2_2, h⟩ := lt_e h
  refine x_nm ex2_2 ?_
  refine lv_istore_n (lv' := [(2, .int x2_2), (0, .ref (ρ 4)), (1, .int x1)]) C.1 C.2.1 dX1_textAt_6 rfl hl (by decide) rfl (fun ls hl => ?_)
  refine lv_aload_n C.1 C.2.1 dX1_textAt_7 rfl (lv_at hl 1 rfl) ?_
  refine lv_iload_n C.1 C.2.1 dX1_textAt_8 rfl (lv_at hl 2 rfl) ?_
  obtain ⟨v_3, hv_3, h⟩ := bnd h
  refine x_callVi (q := (RX1, TX1, 12)) (As := [.int x1]) (rest := []) C w (k_Bn_kindAt l D T ρ g H.size S hv_3) vX1_96 ⟨by decide, by decide⟩ obC4 (by decide) rfl rfl rfl hl.1 (Nat.le_of_ble_eq_true rfl) ⟨Nat.zero_le _, Nat.zero_le _⟩ dX1_textAt_9 (fun H locs w => ?_)
  refine lv_bipush (v := 34) C.1 C.2.1 dX1_textAt_12 (by decide) ?_
  refine lv_icmp_ne (tgt := 31) C.1 C.2.1 dX1_textAt_14 (by decide) (fun hc => ?_) (fun hc => ?_)
  · replace h := iff0 hc h
    refine lv_aload_n C.1 C.2.1 dX1_textAt_31 rfl (lv_at hl 1 rfl) ?_
    refine lv_iload_n C.1 C.2.1 dX1_textAt_32 rfl (lv_at hl 0 rfl) ?_
    obtain ⟨v_4, hv_4, h⟩ := bnd h
    refine x_callVi (q := (RX1, TX1, 12)) (As := [.int x2_2]) (rest := []) C w (k_Bn_textOf l D T ρ g H.size S hv_4) vX1_106 ⟨by decide, by decide⟩ obC4 (by decide) rfl rfl rfl hl.1 (Nat.le_of_ble_eq_true rfl) ⟨Nat.zero_le _, Nat.zero_le _⟩ dX1_textAt_33 (fun H locs w => ?_)
    obtain rfl := som h
    exact x_iret C w hr hk dX1_textAt_36
  · replace h := ift hc h
    refine lv_aload_n C.1 C.2.1 dX1_textAt_17 rfl (lv_at hl 1 rfl) ?_
    refine x_getC C w 5 fX1_12 obC4 rfl dX1_textAt_18 ?_
    refine x_getC C w 21 fX1_100 obC5 rfl dX1_textAt_21 ?_
    refine lv_iload_n C.1 C.2.1 dX1_textAt_24 rfl (lv_at hl 0 rfl) ?_
    obtain ⟨v_5, hv_5, h⟩ := bnd h
    refine x_callVi (q := (RX6, TX6, 4)) (As := [.int x2_2]) (rest := []) C w (k_Row_at l D T ρ g H.size S obC21 hv_5) vX1_103 ⟨by decide, by decide⟩ obC21 (by decide) rfl rfl rfl hl.1 (Nat.le_of_ble_eq_true rfl) ⟨Nat.zero_le _, Nat.zero_le _⟩ dX1_textAt_25 (fun H locs w => ?_)
    refine lv_goto (tgt := 36) C.1 C.2.1 dX1_textAt_28 (by decide) ?_
    obtain rfl := som h
    exact x_iret C w hr hk dX1_textAt_36
end S_Bn_textAt
set_option maxRecDepth 100000 in
theorem k_Bn_textAt (l : Launch) (D : va_G) (T : Cy) (ρ : Nat → Nat) (g sz : Nat) (S : St) {x1 : Int32} {r : Int32} (h : m_Bn_textAt g S x1 = some r) : Mi l Yc D T ρ yX1_textAt cX1_textAt 3 (some .int) 1 21 S S r [.ref (ρ 4), .int x1] sz :=
  x_in (by decide) (Nat.le_of_ble_eq_true rfl) (fun p e s m below meth c ls C hr hk w hl => w_Bn_textAt_0 C hr hk w hl h)

theorem dX1_wholeAt_0 : decode cX1_wholeAt 0 = .ok (.aload_n 0, 1) := by decide +kernel
theorem dX1_wholeAt_1 : decode cX1_wholeAt 1 = .ok (.iload_n 1, 1) := by decide +kernel
theorem dX1_wholeAt_2 : decode cX1_wholeAt 2 = .ok (.invokevirtual 92, 3) := by decide +kernel
theorem dX1_wholeAt_5 : decode cX1_wholeAt 5 = .ok (.lstore_n 2, 1) := by decide +kernel
theorem dX1_wholeAt_6 : decode cX1_wholeAt 6 = .ok (.aload_n 0, 1) := by decide +kernel
theorem dX1_wholeAt_7 : decode cX1_wholeAt 7 = .ok (.iload_n 1, 1) := by decide +kernel
theorem dX1_wholeAt_8 : decode cX1_wholeAt 8 = .ok (.invokevirtual 96, 3) := by decide +kernel
theorem dX1_wholeAt_11 : decode cX1_wholeAt 11 = .ok (.bipush 48, 2) := by decide +kernel
theorem dX1_wholeAt_13 : decode cX1_wholeAt 13 = .ok (.if_icmp .ne 5, 3) := by decide +kernel
theorem dX1_wholeAt_16 : decode cX1_wholeAt 16 = .ok (.lload_n 2, 1) := by decide +kernel
theorem dX1_wholeAt_17 : decode cX1_wholeAt 17 = .ok (.lreturn, 1) := by decide +kernel
theorem dX1_wholeAt_18 : decode cX1_wholeAt 18 = .ok (.lload_n 2, 1) := by decide +kernel
theorem dX1_wholeAt_19 : decode cX1_wholeAt 19 = .ok (.lconst 0, 1) := by decide +kernel
theorem dX1_wholeAt_20 : decode cX1_wholeAt 20 = .ok (.lcmp, 1) := by decide +kernel
theorem dX1_wholeAt_21 : decode cX1_wholeAt 21 = .ok (.ifCond .lt 11, 3) := by decide +kernel
theorem dX1_wholeAt_24 : decode cX1_wholeAt 24 = .ok (.lload_n 2, 1) := by decide +kernel
theorem dX1_wholeAt_25 : decode cX1_wholeAt 25 = .ok (.ldc2_w 109, 3) := by decide +kernel
theorem dX1_wholeAt_28 : decode cX1_wholeAt 28 = .ok (.lcmp, 1) := by decide +kernel
theorem dX1_wholeAt_29 : decode cX1_wholeAt 29 = .ok (.ifCond .lt 7, 3) := by decide +kernel
theorem dX1_wholeAt_32 : decode cX1_wholeAt 32 = .ok (.lconst 0, 1) := by decide +kernel
theorem dX1_wholeAt_33 : decode cX1_wholeAt 33 = .ok (.goto 10, 3) := by decide +kernel
theorem dX1_wholeAt_36 : decode cX1_wholeAt 36 = .ok (.aload_n 0, 1) := by decide +kernel
theorem dX1_wholeAt_37 : decode cX1_wholeAt 37 = .ok (.getfield 22, 3) := by decide +kernel
theorem dX1_wholeAt_40 : decode cX1_wholeAt 40 = .ok (.lload_n 2, 1) := by decide +kernel
theorem dX1_wholeAt_41 : decode cX1_wholeAt 41 = .ok (.l2i, 1) := by decide +kernel
theorem dX1_wholeAt_42 : decode cX1_wholeAt 42 = .ok (.laload, 1) := by decide +kernel
theorem dX1_wholeAt_43 : decode cX1_wholeAt 43 = .ok (.lreturn, 1) := by decide +kernel
def m_Bn_wholeAt (g : Nat) (S : St) (x1 : Int32) : Option Int64 :=
(m_Bn_valueAt g S x1).bind fun v_1 =>
(m_Bn_kindAt g S x1).bind fun v_2 =>
if v_2 = (48 : Int32) then (
  some v_1
) else (
  if v_1 < (0 : Int64) then (
    some (0 : Int64)
  ) else (
    if v_1 < (12 : Int64) then (
      (aJ S 75 (v_1.toInt32)).bind fun v_3 =>
      some v_3
    ) else (
      some (0 : Int64)
    )
  )
)
section S_Bn_wholeAt
variable {p : Program} {l : Launch} {e : Env} {s : State} {m : MethodId} {args : Array Value} {below : List Frame} {meth : Method} {c : Code} {H : Heap} {locs : List Loc} {ls : Array Slot} {D : va_G} {T : Cy} {ρ : Nat → Nat} {A : Nat → Prop}
set_option maxRecDepth 100000 in
set_option maxHeartbeats 4000000 in
theorem w_Bn_wholeAt_0  {g : Nat} {S : St} {x1 : Int32} (C : CallFix p m c cX1_wholeAt 4 s args tb RX1) (hr : meth.sig.returnType = (some .long)) (hk : meth.locks = false) {r : Int64} (w : Wn Yc D T ρ S A s H locs) (hl : lv_has ls 4 [(0, .ref (ρ 4)), (1, .int x1)]) (h : m_Bn_wholeAt g S x1 = some r) : W p l e (rmN 1 21) s m args below meth c H locs 0 0 (MQ below (Qj Yc D T ρ A S r) args s 0 0 A) (F0 m 0 ls []) := by
  unfold m_Bn_wholeAt at h
  refine lv_aload_n C.1 C.2.1 dX1_wholeAt_0 rfl (lv_at hl 0 rfl) ?_
  refine lv_iload_n C.1 C.2.1 dX1_wholeAt_1 rfl (lv_at hl 1 rfl) ?_
  obtain ⟨v_1, hv_1, h⟩ := bnd h
  refine x_callVj (q := (RX1, TX1, 12)) (As := [.int x1]) (rest := []) C w (k_Bn_valueAt l D T ρ g H.size S hv_1) vX1_92 ⟨by decide, by decide⟩ obC4 (by decide) rfl rfl rfl hl.1 (Nat.le_of_ble_eq_true rfl) ⟨Nat.zero_le _, Nat.zero_le _⟩ dX1_wholeAt_2 (fun H locs w => ?_)
  refine lv_lstore_n (lv' := [(2, .long v_1), (0, .ref (ρ 4)), (1, .int x1)]) C.1 C.2.1 dX1_wholeAt_5 rfl hl (by decide) rfl (fun ls hl => ?_)
  refine lv_aload_n C.1 C.2.1 dX1_wholeAt_6 rfl (lv_at hl 1 rfl) ?_
  refine lv_iload_n C.1 C.2.1 dX1_wholeAt_7 rfl (lv_at hl 2 rfl) ?_
  obtain ⟨v_2, hv_2, h⟩ := bnd h
  refine x_callVi (q := (RX1, TX1, 12)) (As := [.int x1]) (rest := []) C w (k_Bn_kindAt l D T ρ g H.size S hv_2) vX1_96 ⟨by decide, by decide⟩ obC4 (by decide) rfl rfl rfl hl.1 (Nat.le_of_ble_eq_true rfl) ⟨Nat.zero_le _, Nat.zero_le _⟩ dX1_wholeAt_8 (fun H locs w => ?_)
  refine lv_bipush (v := 48) C.1 C.2.1 dX1_wholeAt_11 (by decide) ?_
  refine lv_icmp_ne (tgt := 18) C.1 C.2.1 dX1_wholeAt_13 (by decide) (fun hc => ?_) (fun hc => ?_)
  · replace h := iff0 hc h
    refine lv_lload_n C.1 C.2.1 dX1_wholeAt_18 rfl (lv_at hl 0 rfl) ?_
    refine lv_lconst (v := 0) C.1 C.2.1 dX1_wholeAt_19 (by decide) ?_
    refine x_l_lt (tgt := 32) C dX1_wholeAt_20 dX1_wholeAt_21 (by decide) (fun hc => ?_) (fun hc => ?_)
    · replace h := ift hc h
      refine lv_lconst (v := 0) C.1 C.2.1 dX1_wholeAt_32 (by decide) ?_
      refine lv_goto (tgt := 43) C.1 C.2.1 dX1_wholeAt_33 (by decide) ?_
      obtain rfl := som h
      exact x_lret C w hr hk dX1_wholeAt_43
    · replace h := iff0 hc h
      refine lv_lload_n C.1 C.2.1 dX1_wholeAt_24 rfl (lv_at hl 0 rfl) ?_
      refine lv_ldc2 C.1 C.2.1 C.2.2.2.1 (C.2.2.2.2 _ nX1_109) dX1_wholeAt_25 ?_
      refine x_l_lt (tgt := 36) C dX1_wholeAt_28 dX1_wholeAt_29 (by decide) (fun hc => ?_) (fun hc => ?_)
      · replace h := ift hc h
        refine lv_aload_n C.1 C.2.1 dX1_wholeAt_36 rfl (lv_at hl 1 rfl) ?_
        refine x_getC C w 75 fX1_22 obC4 rfl dX1_wholeAt_37 ?_
        refine lv_lload_n C.1 C.2.1 dX1_wholeAt_40 rfl (lv_at hl 0 rfl) ?_
        refine lv_l2i C.1 C.2.1 dX1_wholeAt_41 rfl ?_
        obtain ⟨v_3, hv_3, h⟩ := bnd h
        refine x_lald C w obC75 hv_3 dX1_wholeAt_42 ?_
        obtain rfl := som h
        exact x_lret C w hr hk dX1_wholeAt_43
      · replace h := iff0 hc h
        refine lv_lconst (v := 0) C.1 C.2.1 dX1_wholeAt_32 (by decide) ?_
        refine lv_goto (tgt := 43) C.1 C.2.1 dX1_wholeAt_33 (by decide) ?_
        obtain rfl := som h
        exact x_lret C w hr hk dX1_wholeAt_43
  · replace h := ift hc h
    refine lv_lload_n C.1 C.2.1 dX1_wholeAt_16 rfl (lv_at hl 0 rfl) ?_
    obtain rfl := som h
    exact x_lret C w hr hk dX1_wholeAt_17
end S_Bn_wholeAt
set_option maxRecDepth 100000 in
theorem k_Bn_wholeAt (l : Launch) (D : va_G) (T : Cy) (ρ : Nat → Nat) (g sz : Nat) (S : St) {x1 : Int32} {r : Int64} (h : m_Bn_wholeAt g S x1 = some r) : Mj l Yc D T ρ yX1_wholeAt cX1_wholeAt 4 (some .long) 1 21 S S r [.ref (ρ 4), .int x1] sz :=
  x_in (by decide) (Nat.le_of_ble_eq_true rfl) (fun p e s m below meth c ls C hr hk w hl => w_Bn_wholeAt_0 C hr hk w hl h)

theorem dX1_placeAt_0 : decode cX1_placeAt 0 = .ok (.ldc2_w 111, 3) := by decide +kernel
theorem dX1_placeAt_3 : decode cX1_placeAt 3 = .ok (.aload_n 0, 1) := by decide +kernel
theorem dX1_placeAt_4 : decode cX1_placeAt 4 = .ok (.iload_n 1, 1) := by decide +kernel
theorem dX1_placeAt_5 : decode cX1_placeAt 5 = .ok (.invokevirtual 113, 3) := by decide +kernel
theorem dX1_placeAt_8 : decode cX1_placeAt 8 = .ok (.iload_n 2, 1) := by decide +kernel
theorem dX1_placeAt_9 : decode cX1_placeAt 9 = .ok (.i2l, 1) := by decide +kernel
theorem dX1_placeAt_10 : decode cX1_placeAt 10 = .ok (.lconst 1, 1) := by decide +kernel
theorem dX1_placeAt_11 : decode cX1_placeAt 11 = .ok (.ladd, 1) := by decide +kernel
theorem dX1_placeAt_12 : decode cX1_placeAt 12 = .ok (.invokestatic 116, 3) := by decide +kernel
theorem dX1_placeAt_15 : decode cX1_placeAt 15 = .ok (.invokestatic 122, 3) := by decide +kernel
theorem dX1_placeAt_18 : decode cX1_placeAt 18 = .ok (.l2i, 1) := by decide +kernel
theorem dX1_placeAt_19 : decode cX1_placeAt 19 = .ok (.ireturn, 1) := by decide +kernel
def m_Bn_placeAt (g : Nat) (S : St) (x1 : Int32) (x2 : Int32) : Option Int32 :=
(m_Bn_wholeAt g S x1).bind fun v_1 =>
some ((maxJ (-1 : Int64) (minJ v_1 ((x2.toInt64) + (1 : Int64)))).toInt32)
section S_Bn_placeAt
variable {p : Program} {l : Launch} {e : Env} {s : State} {m : MethodId} {args : Array Value} {below : List Frame} {meth : Method} {c : Code} {H : Heap} {locs : List Loc} {ls : Array Slot} {D : va_G} {T : Cy} {ρ : Nat → Nat} {A : Nat → Prop}
set_option maxRecDepth 100000 in
set_option maxHeartbeats 4000000 in
theorem w_Bn_placeAt_0  {g : Nat} {S : St} {x1 : Int32} {x2 : Int32} (C : CallFix p m c cX1_placeAt 3 s args tb RX1) (hr : meth.sig.returnType = (some .int)) (hk : meth.locks = false) {r : Int32} (w : Wn Yc D T ρ S A s H locs) (hl : lv_has ls 3 [(0, .ref (ρ 4)), (1, .int x1), (2, .int x2)]) (h : m_Bn_placeAt g S x1 x2 = some r) : W p l e (rmN 2 44) s m args below meth c H locs 0 0 (MQ below (Qi Yc D T ρ A S r) args s 0 0 A) (F0 m 0 ls []) := by
  unfold m_Bn_placeAt at h
  refine lv_ldc2 C.1 C.2.1 C.2.2.2.1 (C.2.2.2.2 _ nX1_111) dX1_placeAt_0 ?_
  refine lv_aload_n C.1 C.2.1 dX1_placeAt_3 rfl (lv_at hl 0 rfl) ?_
  refine lv_iload_n C.1 C.2.1 dX1_placeAt_4 rfl (lv_at hl 1 rfl) ?_
  obtain ⟨v_1, hv_1, h⟩ := bnd h
  refine x_callVj (q := (RX1, TX1, 12)) (As := [.int x1]) (rest := [.long (-1 : Int64)]) C w (k_Bn_wholeAt l D T ρ g H.size S hv_1) vX1_113 ⟨by decide, by decide⟩ obC4 (by decide) rfl rfl rfl hl.1 (Nat.le_of_ble_eq_true rfl) ⟨Nat.zero_le _, Nat.zero_le _⟩ dX1_placeAt_5 (fun H locs w => ?_)
  refine lv_iload_n C.1 C.2.1 dX1_placeAt_8 rfl (lv_at hl 2 rfl) ?_
  refine lv_i2l C.1 C.2.1 dX1_placeAt_9 rfl ?_
  refine lv_lconst (v := 1) C.1 C.2.1 dX1_placeAt_10 (by decide) ?_
  refine lv_ladd C.1 C.2.1 dX1_placeAt_11 ?_
  refine x_minJ C hl.1 vX1_116.1 ⟨by decide, by decide⟩ (Nat.le_of_ble_eq_true rfl) ⟨Nat.zero_le _, Nat.zero_le _⟩ dX1_placeAt_12 ?_
  refine x_maxJ C hl.1 vX1_122.1 ⟨by decide, by decide⟩ (Nat.le_of_ble_eq_true rfl) ⟨Nat.zero_le _, Nat.zero_le _⟩ dX1_placeAt_15 ?_
  refine lv_l2i C.1 C.2.1 dX1_placeAt_18 rfl ?_
  obtain rfl := som h
  exact x_iret C w hr hk dX1_placeAt_19
end S_Bn_placeAt
set_option maxRecDepth 100000 in
theorem k_Bn_placeAt (l : Launch) (D : va_G) (T : Cy) (ρ : Nat → Nat) (g sz : Nat) (S : St) {x1 : Int32} {x2 : Int32} {r : Int32} (h : m_Bn_placeAt g S x1 x2 = some r) : Mi l Yc D T ρ yX1_placeAt cX1_placeAt 3 (some .int) 2 44 S S r [.ref (ρ 4), .int x1, .int x2] sz :=
  x_in (by decide) (Nat.le_of_ble_eq_true rfl) (fun p e s m below meth c ls C hr hk w hl => w_Bn_placeAt_0 C hr hk w hl h)

theorem dX1_builderAt_0 : decode cX1_builderAt 0 = .ok (.aload_n 0, 1) := by decide +kernel
theorem dX1_builderAt_1 : decode cX1_builderAt 1 = .ok (.iload_n 1, 1) := by decide +kernel
theorem dX1_builderAt_2 : decode cX1_builderAt 2 = .ok (.invokevirtual 92, 3) := by decide +kernel
theorem dX1_builderAt_5 : decode cX1_builderAt 5 = .ok (.l2i, 1) := by decide +kernel
theorem dX1_builderAt_6 : decode cX1_builderAt 6 = .ok (.istore_n 2, 1) := by decide +kernel
theorem dX1_builderAt_7 : decode cX1_builderAt 7 = .ok (.iload_n 2, 1) := by decide +kernel
theorem dX1_builderAt_8 : decode cX1_builderAt 8 = .ok (.ifCond .lt 9, 3) := by decide +kernel
theorem dX1_builderAt_11 : decode cX1_builderAt 11 = .ok (.iload_n 2, 1) := by decide +kernel
theorem dX1_builderAt_12 : decode cX1_builderAt 12 = .ok (.bipush 6, 2) := by decide +kernel
theorem dX1_builderAt_14 : decode cX1_builderAt 14 = .ok (.if_icmp .lt 7, 3) := by decide +kernel
theorem dX1_builderAt_17 : decode cX1_builderAt 17 = .ok (.iconst 0, 1) := by decide +kernel
theorem dX1_builderAt_18 : decode cX1_builderAt 18 = .ok (.goto 4, 3) := by decide +kernel
theorem dX1_builderAt_21 : decode cX1_builderAt 21 = .ok (.iload_n 2, 1) := by decide +kernel
theorem dX1_builderAt_22 : decode cX1_builderAt 22 = .ok (.ireturn, 1) := by decide +kernel
def m_Bn_builderAt (g : Nat) (S : St) (x1 : Int32) : Option Int32 :=
(m_Bn_valueAt g S x1).bind fun v_1 =>
lt (v_1.toInt32) fun x2_2 =>
if x2_2 < 0 then (
  some (0 : Int32)
) else (
  if x2_2 < (6 : Int32) then (
    some x2_2
  ) else (
    some (0 : Int32)
  )
)
section S_Bn_builderAt
variable {p : Program} {l : Launch} {e : Env} {s : State} {m : MethodId} {args : Array Value} {below : List Frame} {meth : Method} {c : Code} {H : Heap} {locs : List Loc} {ls : Array Slot} {D : va_G} {T : Cy} {ρ : Nat → Nat} {A : Nat → Prop}
set_option maxRecDepth 100000 in
set_option maxHeartbeats 4000000 in
theorem w_Bn_builderAt_0  {g : Nat} {S : St} {x1 : Int32} (C : CallFix p m c cX1_builderAt 3 s args tb RX1) (hr : meth.sig.returnType = (some .int)) (hk : meth.locks = false) {r : Int32} (w : Wn Yc D T ρ S A s H locs) (hl : lv_has ls 3 [(0, .ref (ρ 4)), (1, .int x1)]) (h : m_Bn_builderAt g S x1 = some r) : W p l e (rmN 1 21) s m args below meth c H locs 0 0 (MQ below (Qi Yc D T ρ A S r) args s 0 0 A) (F0 m 0 ls []) := by
  unfold m_Bn_builderAt at h
  refine lv_aload_n C.1 C.2.1 dX1_builderAt_0 rfl (lv_at hl 0 rfl) ?_
  refine lv_iload_n C.1 C.2.1 dX1_builderAt_1 rfl (lv_at hl 1 rfl) ?_
  obtain ⟨v_1, hv_1, h⟩ := bnd h
  refine x_callVj (q := (RX1, TX1, 12)) (As := [.int x1]) (rest := []) C w (k_Bn_valueAt l D T ρ g H.size S hv_1) vX1_92 ⟨by decide, by decide⟩ obC4 (by decide) rfl rfl rfl hl.1 (Nat.le_of_ble_eq_true rfl) ⟨Nat.zero_le _, Nat.zero_le _⟩ dX1_builderAt_2 (fun H locs w => ?_)
  refine lv_l2i C.1 C.2.1 dX1_builderAt_5 rfl ?_
  obtain ⟨x2_2, ex2_2, h⟩ := lt_e h
  refine x_nm ex2_2 ?_
  refine lv_istore_n (lv' := [(2, .int x2_2), (0, .ref (ρ 4)), (1, .int x1)]) C.1 C.2.1 dX1_builderAt_6 rfl hl (by decide) rfl (fun ls hl => ?_)
  refine lv_iload_n C.1 C.2.1 dX1_builderAt_7 rfl (lv_at hl 0 rfl) ?_
  refine lv_if_lt (tgt := 17) C.1 C.2.1 dX1_builderAt_8 (by decide) (fun hc => ?_) (fun hc => ?_)
  · replace h := ift hc h
    refine lv_iconst (v := 0) C.1 C.2.1 dX1_builderAt_17 (by decide) ?_
    refine lv_goto (tgt := 22) C.1 C.2.1 dX1_builderAt_18 (by decide) ?_
    obtain rfl := som h
    exact x_iret C w hr hk dX1_builderAt_22
  · replace h := iff0 hc h
    refine lv_iload_n C.1 C.2.1 dX1_builderAt_11 rfl (lv_at hl 0 rfl) ?_
    refine lv_bipush (v := 6) C.1 C.2.1 dX1_builderAt_12 (by decide) ?_
    refine lv_icmp_lt (tgt := 21) C.1 C.2.1 dX1_builderAt_14 (by decide) (fun hc => ?_) (fun hc => ?_)
    · replace h := ift hc h
      refine lv_iload_n C.1 C.2.1 dX1_builderAt_21 rfl (lv_at hl 0 rfl) ?_
      obtain rfl := som h
      exact x_iret C w hr hk dX1_builderAt_22
    · replace h := iff0 hc h
      refine lv_iconst (v := 0) C.1 C.2.1 dX1_builderAt_17 (by decide) ?_
      refine lv_goto (tgt := 22) C.1 C.2.1 dX1_builderAt_18 (by decide) ?_
      obtain rfl := som h
      exact x_iret C w hr hk dX1_builderAt_22
end S_Bn_builderAt
set_option maxRecDepth 100000 in
theorem k_Bn_builderAt (l : Launch) (D : va_G) (T : Cy) (ρ : Nat → Nat) (g sz : Nat) (S : St) {x1 : Int32} {r : Int32} (h : m_Bn_builderAt g S x1 = some r) : Mi l Yc D T ρ yX1_builderAt cX1_builderAt 3 (some .int) 1 21 S S r [.ref (ρ 4), .int x1] sz :=
  x_in (by decide) (Nat.le_of_ble_eq_true rfl) (fun p e s m below meth c ls C hr hk w hl => w_Bn_builderAt_0 C hr hk w hl h)

theorem dX1_giveText_0 : decode cX1_giveText 0 = .ok (.aload_n 0, 1) := by decide +kernel
theorem dX1_giveText_1 : decode cX1_giveText 1 = .ok (.iconst 0, 1) := by decide +kernel
theorem dX1_giveText_2 : decode cX1_giveText 2 = .ok (.invokevirtual 92, 3) := by decide +kernel
theorem dX1_giveText_5 : decode cX1_giveText 5 = .ok (.l2i, 1) := by decide +kernel
theorem dX1_giveText_6 : decode cX1_giveText 6 = .ok (.istore_n 2, 1) := by decide +kernel
theorem dX1_giveText_7 : decode cX1_giveText 7 = .ok (.iload_n 2, 1) := by decide +kernel
theorem dX1_giveText_8 : decode cX1_giveText 8 = .ok (.ifCond .lt 16, 3) := by decide +kernel
theorem dX1_giveText_11 : decode cX1_giveText 11 = .ok (.iload_n 2, 1) := by decide +kernel
theorem dX1_giveText_12 : decode cX1_giveText 12 = .ok (.bipush 20, 2) := by decide +kernel
theorem dX1_giveText_14 : decode cX1_giveText 14 = .ok (.if_icmp .ge 10, 3) := by decide +kernel
theorem dX1_giveText_17 : decode cX1_giveText 17 = .ok (.aload_n 0, 1) := by decide +kernel
theorem dX1_giveText_18 : decode cX1_giveText 18 = .ok (.getfield 18, 3) := by decide +kernel
theorem dX1_giveText_21 : decode cX1_giveText 21 = .ok (.iload_n 2, 1) := by decide +kernel
theorem dX1_giveText_22 : decode cX1_giveText 22 = .ok (.iload_n 1, 1) := by decide +kernel
theorem dX1_giveText_23 : decode cX1_giveText 23 = .ok (.iastore, 1) := by decide +kernel
theorem dX1_giveText_24 : decode cX1_giveText 24 = .ok (.iconst 0, 1) := by decide +kernel
theorem dX1_giveText_25 : decode cX1_giveText 25 = .ok (.ireturn, 1) := by decide +kernel
def m_Bn_giveText (g : Nat) (S : St) (x1 : Int32) : Option (St × Int32) :=
(m_Bn_valueAt g S (0 : Int32)).bind fun v_1 =>
lt (v_1.toInt32) fun x2_2 =>
if x2_2 < 0 then (
  some (S, (0 : Int32))
) else (
  if (20 : Int32) ≤ x2_2 then (
    some (S, (0 : Int32))
  ) else (
    (tI S 74 x2_2 x1).bind fun S_3 =>
    some (S_3, (0 : Int32))
  )
)
section S_Bn_giveText
variable {p : Program} {l : Launch} {e : Env} {s : State} {m : MethodId} {args : Array Value} {below : List Frame} {meth : Method} {c : Code} {H : Heap} {locs : List Loc} {ls : Array Slot} {D : va_G} {T : Cy} {ρ : Nat → Nat} {A : Nat → Prop}
set_option maxRecDepth 100000 in
set_option maxHeartbeats 4000000 in
theorem w_Bn_giveText_0  {g : Nat} {S : St} {x1 : Int32} (C : CallFix p m c cX1_giveText 3 s args tb RX1) (hr : meth.sig.returnType = (some .int)) (hk : meth.locks = false) {S' : St} {r : Int32} (w : Wn Yc D T ρ S A s H locs) (hl : lv_has ls 3 [(0, .ref (ρ 4)), (1, .int x1)]) (h : m_Bn_giveText g S x1 = some (S', r)) : W p l e (rmN 1 21) s m args below meth c H locs 0 0 (MQ below (Qi Yc D T ρ A S' r) args s 0 0 A) (F0 m 0 ls []) := by
  unfold m_Bn_giveText at h
  refine lv_aload_n C.1 C.2.1 dX1_giveText_0 rfl (lv_at hl 0 rfl) ?_
  refine lv_iconst (v := 0) C.1 C.2.1 dX1_giveText_1 (by decide) ?_
  obtain ⟨v_1, hv_1, h⟩ := bnd h
  refine x_callVj (q := (RX1, TX1, 12)) (As := [.int (0 : Int32)]) (rest := []) C w (k_Bn_valueAt l D T ρ g H.size S hv_1) vX1_92 ⟨by decide, by decide⟩ obC4 (by decide) rfl rfl rfl hl.1 (Nat.le_of_ble_eq_true rfl) ⟨Nat.zero_le _, Nat.zero_le _⟩ dX1_giveText_2 (fun H locs w => ?_)
  refine lv_l2i C.1 C.2.1 dX1_giveText_5 rfl ?_
  obtain ⟨x2_2, ex2_2, h⟩ := lt_e h
  refine x_nm ex2_2 ?_
  refine lv_istore_n (lv' := [(2, .int x2_2), (0, .ref (ρ 4)), (1, .int x1)]) C.1 C.2.1 dX1_giveText_6 rfl hl (by decide) rfl (fun ls hl => ?_)
  refine lv_iload_n C.1 C.2.1 dX1_giveText_7 rfl (lv_at hl 0 rfl) ?_
  refine lv_if_lt (tgt := 24) C.1 C.2.1 dX1_giveText_8 (by decide) (fun hc => ?_) (fun hc => ?_)
  · replace h := ift hc h
    refine lv_iconst (v := 0) C.1 C.2.1 dX1_giveText_24 (by decide) ?_
    obtain ⟨rfl, rfl⟩ := prI h
    exact x_iret C w hr hk dX1_giveText_25
  · replace h := iff0 hc h
    refine lv_iload_n C.1 C.2.1 dX1_giveText_11 rfl (lv_at hl 0 rfl) ?_
    refine lv_bipush (v := 20) C.1 C.2.1 dX1_giveText_12 (by decide) ?_
    refine lv_icmp_ge (tgt := 24) C.1 C.2.1 dX1_giveText_14 (by decide) (fun hc => ?_) (fun hc => ?_)
    · replace h := ift hc h
      refine lv_iconst (v := 0) C.1 C.2.1 dX1_giveText_24 (by decide) ?_
      obtain ⟨rfl, rfl⟩ := prI h
      exact x_iret C w hr hk dX1_giveText_25
    · replace h := iff0 hc h
      refine lv_aload_n C.1 C.2.1 dX1_giveText_17 rfl (lv_at hl 1 rfl) ?_
      refine x_getC C w 74 fX1_18 obC4 rfl dX1_giveText_18 ?_
      refine lv_iload_n C.1 C.2.1 dX1_giveText_21 rfl (lv_at hl 0 rfl) ?_
      refine lv_iload_n C.1 C.2.1 dX1_giveText_22 rfl (lv_at hl 2 rfl) ?_
      obtain ⟨S_3, hS_3, h⟩ := bnd h
      refine x_iast C w obC74 hS_3 dX1_giveText_23 (fun H locs w => ?_)
      refine lv_iconst (v := 0) C.1 C.2.1 dX1_giveText_24 (by decide) ?_
      obtain ⟨rfl, rfl⟩ := prI h
      exact x_iret C w hr hk dX1_giveText_25
end S_Bn_giveText
set_option maxRecDepth 100000 in
theorem k_Bn_giveText (l : Launch) (D : va_G) (T : Cy) (ρ : Nat → Nat) (g sz : Nat) (S : St) {x1 : Int32} {S' : St} {r : Int32} (h : m_Bn_giveText g S x1 = some (S', r)) : Mi l Yc D T ρ yX1_giveText cX1_giveText 3 (some .int) 1 21 S S' r [.ref (ρ 4), .int x1] sz :=
  x_in (by decide) (Nat.le_of_ble_eq_true rfl) (fun p e s m below meth c ls C hr hk w hl => w_Bn_giveText_0 C hr hk w hl h)

theorem dX1_setWhole_0 : decode cX1_setWhole 0 = .ok (.iload_n 1, 1) := by decide +kernel
theorem dX1_setWhole_1 : decode cX1_setWhole 1 = .ok (.ifCond .lt 16, 3) := by decide +kernel
theorem dX1_setWhole_4 : decode cX1_setWhole 4 = .ok (.iload_n 1, 1) := by decide +kernel
theorem dX1_setWhole_5 : decode cX1_setWhole 5 = .ok (.bipush 12, 2) := by decide +kernel
theorem dX1_setWhole_7 : decode cX1_setWhole 7 = .ok (.if_icmp .ge 10, 3) := by decide +kernel
theorem dX1_setWhole_10 : decode cX1_setWhole 10 = .ok (.aload_n 0, 1) := by decide +kernel
theorem dX1_setWhole_11 : decode cX1_setWhole 11 = .ok (.getfield 22, 3) := by decide +kernel
theorem dX1_setWhole_14 : decode cX1_setWhole 14 = .ok (.iload_n 1, 1) := by decide +kernel
theorem dX1_setWhole_15 : decode cX1_setWhole 15 = .ok (.lload_n 2, 1) := by decide +kernel
theorem dX1_setWhole_16 : decode cX1_setWhole 16 = .ok (.lastore, 1) := by decide +kernel
theorem dX1_setWhole_17 : decode cX1_setWhole 17 = .ok (.return_, 1) := by decide +kernel
def m_Bn_setWhole (g : Nat) (S : St) (x1 : Int32) (x2 : Int64) : Option St :=
if x1 < 0 then (
  some S
) else (
  if (12 : Int32) ≤ x1 then (
    some S
  ) else (
    (tJ S 75 x1 x2).bind fun S_1 =>
    some S_1
  )
)
section S_Bn_setWhole
variable {p : Program} {l : Launch} {e : Env} {s : State} {m : MethodId} {args : Array Value} {below : List Frame} {meth : Method} {c : Code} {H : Heap} {locs : List Loc} {ls : Array Slot} {D : va_G} {T : Cy} {ρ : Nat → Nat} {A : Nat → Prop}
set_option maxRecDepth 100000 in
set_option maxHeartbeats 4000000 in
theorem w_Bn_setWhole_0  {g : Nat} {S : St} {x1 : Int32} {x2 : Int64} (C : CallFix p m c cX1_setWhole 4 s args tb RX1) (hr : meth.sig.returnType = none) (hk : meth.locks = false) {S' : St} (w : Wn Yc D T ρ S A s H locs) (hl : lv_has ls 4 [(0, .ref (ρ 4)), (1, .int x1), (2, .long x2)]) (h : m_Bn_setWhole g S x1 x2 = some S') : W p l e (rmN 0 0) s m args below meth c H locs 0 0 (MQ below (Qv Yc D T ρ A S') args s 0 0 A) (F0 m 0 ls []) := by
  unfold m_Bn_setWhole at h
  refine lv_iload_n C.1 C.2.1 dX1_setWhole_0 rfl (lv_at hl 1 rfl) ?_
  refine lv_if_lt (tgt := 17) C.1 C.2.1 dX1_setWhole_1 (by decide) (fun hc => ?_) (fun hc => ?_)
  · replace h := ift hc h
    obtain rfl := som h
    exact x_vret C w hr hk dX1_setWhole_17
  · replace h := iff0 hc h
    refine lv_iload_n C.1 C.2.1 dX1_setWhole_4 rfl (lv_at hl 1 rfl) ?_
    refine lv_bipush (v := 12) C.1 C.2.1 dX1_setWhole_5 (by decide) ?_
    refine lv_icmp_ge (tgt := 17) C.1 C.2.1 dX1_setWhole_7 (by decide) (fun hc => ?_) (fun hc => ?_)
    · replace h := ift hc h
      obtain rfl := som h
      exact x_vret C w hr hk dX1_setWhole_17
    · replace h := iff0 hc h
      refine lv_aload_n C.1 C.2.1 dX1_setWhole_10 rfl (lv_at hl 0 rfl) ?_
      refine x_getC C w 75 fX1_22 obC4 rfl dX1_setWhole_11 ?_
      refine lv_iload_n C.1 C.2.1 dX1_setWhole_14 rfl (lv_at hl 1 rfl) ?_
      refine lv_lload_n C.1 C.2.1 dX1_setWhole_15 rfl (lv_at hl 2 rfl) ?_
      obtain ⟨S_1, hS_1, h⟩ := bnd h
      refine x_last C w obC75 hS_1 dX1_setWhole_16 (fun H locs w => ?_)
      obtain rfl := som h
      exact x_vret C w hr hk dX1_setWhole_17
end S_Bn_setWhole
set_option maxRecDepth 100000 in
theorem k_Bn_setWhole (l : Launch) (D : va_G) (T : Cy) (ρ : Nat → Nat) (g sz : Nat) (S : St) {x1 : Int32} {x2 : Int64} {S' : St} (h : m_Bn_setWhole g S x1 x2 = some S') : Mv l Yc D T ρ yX1_setWhole cX1_setWhole 4 none 0 0 S S' [.ref (ρ 4), .int x1, .long x2] sz :=
  x_in (by decide) (Nat.le_of_ble_eq_true rfl) (fun p e s m below meth c ls C hr hk w hl => w_Bn_setWhole_0 C hr hk w hl h)

theorem dX1_giveWhole_0 : decode cX1_giveWhole 0 = .ok (.aload_n 0, 1) := by decide +kernel
theorem dX1_giveWhole_1 : decode cX1_giveWhole 1 = .ok (.aload_n 0, 1) := by decide +kernel
theorem dX1_giveWhole_2 : decode cX1_giveWhole 2 = .ok (.iconst 0, 1) := by decide +kernel
theorem dX1_giveWhole_3 : decode cX1_giveWhole 3 = .ok (.invokevirtual 92, 3) := by decide +kernel
theorem dX1_giveWhole_6 : decode cX1_giveWhole 6 = .ok (.l2i, 1) := by decide +kernel
theorem dX1_giveWhole_7 : decode cX1_giveWhole 7 = .ok (.lload_n 1, 1) := by decide +kernel
theorem dX1_giveWhole_8 : decode cX1_giveWhole 8 = .ok (.invokevirtual 134, 3) := by decide +kernel
theorem dX1_giveWhole_11 : decode cX1_giveWhole 11 = .ok (.iconst 0, 1) := by decide +kernel
theorem dX1_giveWhole_12 : decode cX1_giveWhole 12 = .ok (.ireturn, 1) := by decide +kernel
def m_Bn_giveWhole (g : Nat) (S : St) (x1 : Int64) : Option (St × Int32) :=
(m_Bn_valueAt g S (0 : Int32)).bind fun v_1 =>
(m_Bn_setWhole g S (v_1.toInt32) x1).bind fun S_2 =>
some (S_2, (0 : Int32))
section S_Bn_giveWhole
variable {p : Program} {l : Launch} {e : Env} {s : State} {m : MethodId} {args : Array Value} {below : List Frame} {meth : Method} {c : Code} {H : Heap} {locs : List Loc} {ls : Array Slot} {D : va_G} {T : Cy} {ρ : Nat → Nat} {A : Nat → Prop}
set_option maxRecDepth 100000 in
set_option maxHeartbeats 4000000 in
theorem w_Bn_giveWhole_0  {g : Nat} {S : St} {x1 : Int64} (C : CallFix p m c cX1_giveWhole 3 s args tb RX1) (hr : meth.sig.returnType = (some .int)) (hk : meth.locks = false) {S' : St} {r : Int32} (w : Wn Yc D T ρ S A s H locs) (hl : lv_has ls 3 [(0, .ref (ρ 4)), (1, .long x1)]) (h : m_Bn_giveWhole g S x1 = some (S', r)) : W p l e (rmN 1 23) s m args below meth c H locs 0 0 (MQ below (Qi Yc D T ρ A S' r) args s 0 0 A) (F0 m 0 ls []) := by
  unfold m_Bn_giveWhole at h
  refine lv_aload_n C.1 C.2.1 dX1_giveWhole_0 rfl (lv_at hl 0 rfl) ?_
  refine lv_aload_n C.1 C.2.1 dX1_giveWhole_1 rfl (lv_at hl 0 rfl) ?_
  refine lv_iconst (v := 0) C.1 C.2.1 dX1_giveWhole_2 (by decide) ?_
  obtain ⟨v_1, hv_1, h⟩ := bnd h
  refine x_callVj (q := (RX1, TX1, 12)) (As := [.int (0 : Int32)]) (rest := [.ref (ρ 4)]) C w (k_Bn_valueAt l D T ρ g H.size S hv_1) vX1_92 ⟨by decide, by decide⟩ obC4 (by decide) rfl rfl rfl hl.1 (Nat.le_of_ble_eq_true rfl) ⟨Nat.zero_le _, Nat.zero_le _⟩ dX1_giveWhole_3 (fun H locs w => ?_)
  refine lv_l2i C.1 C.2.1 dX1_giveWhole_6 rfl ?_
  refine lv_lload_n C.1 C.2.1 dX1_giveWhole_7 rfl (lv_at hl 1 rfl) ?_
  obtain ⟨S_2, hS_2, h⟩ := bnd h
  refine x_callVv (q := (RX1, TX1, 12)) (As := [.int (v_1.toInt32), .long x1]) (rest := []) C w (k_Bn_setWhole l D T ρ g H.size S hS_2) vX1_134 ⟨by decide, by decide⟩ obC4 (by decide) rfl rfl rfl hl.1 (Nat.le_of_ble_eq_true rfl) ⟨Nat.zero_le _, Nat.zero_le _⟩ dX1_giveWhole_8 (fun H locs w => ?_)
  refine lv_iconst (v := 0) C.1 C.2.1 dX1_giveWhole_11 (by decide) ?_
  obtain ⟨rfl, rfl⟩ := prI h
  exact x_iret C w hr hk dX1_giveWhole_12
end S_Bn_giveWhole
set_option maxRecDepth 100000 in
theorem k_Bn_giveWhole (l : Launch) (D : va_G) (T : Cy) (ρ : Nat → Nat) (g sz : Nat) (S : St) {x1 : Int64} {S' : St} {r : Int32} (h : m_Bn_giveWhole g S x1 = some (S', r)) : Mi l Yc D T ρ yX1_giveWhole cX1_giveWhole 3 (some .int) 1 23 S S' r [.ref (ρ 4), .long x1] sz :=
  x_in (by decide) (Nat.le_of_ble_eq_true rfl) (fun p e s m below meth c ls C hr hk w hl => w_Bn_giveWhole_0 C hr hk w hl h)

theorem dX1_addMark_0 : decode cX1_addMark 0 = .ok (.aload_n 0, 1) := by decide +kernel
theorem dX1_addMark_1 : decode cX1_addMark 1 = .ok (.getfield 45, 3) := by decide +kernel
theorem dX1_addMark_4 : decode cX1_addMark 4 = .ok (.bipush 30, 2) := by decide +kernel
theorem dX1_addMark_6 : decode cX1_addMark 6 = .ok (.if_icmp .lt 5, 3) := by decide +kernel
theorem dX1_addMark_9 : decode cX1_addMark 9 = .ok (.iconst 5, 1) := by decide +kernel
theorem dX1_addMark_10 : decode cX1_addMark 10 = .ok (.ireturn, 1) := by decide +kernel
theorem dX1_addMark_11 : decode cX1_addMark 11 = .ok (.aload_n 0, 1) := by decide +kernel
theorem dX1_addMark_12 : decode cX1_addMark 12 = .ok (.getfield 42, 3) := by decide +kernel
theorem dX1_addMark_15 : decode cX1_addMark 15 = .ok (.aload_n 0, 1) := by decide +kernel
theorem dX1_addMark_16 : decode cX1_addMark 16 = .ok (.getfield 45, 3) := by decide +kernel
theorem dX1_addMark_19 : decode cX1_addMark 19 = .ok (.aload_n 0, 1) := by decide +kernel
theorem dX1_addMark_20 : decode cX1_addMark 20 = .ok (.iconst 0, 1) := by decide +kernel
theorem dX1_addMark_21 : decode cX1_addMark 21 = .ok (.invokevirtual 113, 3) := by decide +kernel
theorem dX1_addMark_24 : decode cX1_addMark 24 = .ok (.lastore, 1) := by decide +kernel
theorem dX1_addMark_25 : decode cX1_addMark 25 = .ok (.aload_n 0, 1) := by decide +kernel
theorem dX1_addMark_26 : decode cX1_addMark 26 = .ok (.dup, 1) := by decide +kernel
theorem dX1_addMark_27 : decode cX1_addMark 27 = .ok (.getfield 45, 3) := by decide +kernel
theorem dX1_addMark_30 : decode cX1_addMark 30 = .ok (.iconst 1, 1) := by decide +kernel
theorem dX1_addMark_31 : decode cX1_addMark 31 = .ok (.iadd, 1) := by decide +kernel
theorem dX1_addMark_32 : decode cX1_addMark 32 = .ok (.putfield 45, 3) := by decide +kernel
theorem dX1_addMark_35 : decode cX1_addMark 35 = .ok (.iconst 0, 1) := by decide +kernel
theorem dX1_addMark_36 : decode cX1_addMark 36 = .ok (.ireturn, 1) := by decide +kernel
def m_Bn_addMark (g : Nat) (S : St) : Option (St × Int32) :=
if (gI S 4 7) < (30 : Int32) then (
  (m_Bn_wholeAt g S (0 : Int32)).bind fun v_1 =>
  (tJ S 78 (gI S 4 7) v_1).bind fun S_2 =>
  lt (sI S_2 4 7 ((gI S_2 4 7) + (1 : Int32))) fun S_3 =>
  some (S_3, (0 : Int32))
) else (
  some (S, (5 : Int32))
)
section S_Bn_addMark
variable {p : Program} {l : Launch} {e : Env} {s : State} {m : MethodId} {args : Array Value} {below : List Frame} {meth : Method} {c : Code} {H : Heap} {locs : List Loc} {ls : Array Slot} {D : va_G} {T : Cy} {ρ : Nat → Nat} {A : Nat → Prop}
set_option maxRecDepth 100000 in
set_option maxHeartbeats 4000000 in
theorem w_Bn_addMark_0  {g : Nat} {S : St} (C : CallFix p m c cX1_addMark 1 s args tb RX1) (hr : meth.sig.returnType = (some .int)) (hk : meth.locks = false) {S' : St} {r : Int32} (w : Wn Yc D T ρ S A s H locs) (hl : lv_has ls 1 [(0, .ref (ρ 4))]) (h : m_Bn_addMark g S = some (S', r)) : W p l e (rmN 2 44) s m args below meth c H locs 0 0 (MQ below (Qi Yc D T ρ A S' r) args s 0 0 A) (F0 m 0 ls []) := by
  unfold m_Bn_addMark at h
  refine lv_aload_n C.1 C.2.1 dX1_addMark_0 rfl (lv_at hl 0 rfl) ?_
  refine x_getI C w fX1_45 obC4 dX1_addMark_1 ?_
  refine lv_bipush (v := 30) C.1 C.2.1 dX1_addMark_4 (by decide) ?_
  refine lv_icmp_lt (tgt := 11) C.1 C.2.1 dX1_addMark_6 (by decide) (fun hc => ?_) (fun hc => ?_)
  · replace h := ift hc h
    refine lv_aload_n C.1 C.2.1 dX1_addMark_11 rfl (lv_at hl 0 rfl) ?_
    refine x_getC C w 78 fX1_42 obC4 rfl dX1_addMark_12 ?_
    refine lv_aload_n C.1 C.2.1 dX1_addMark_15 rfl (lv_at hl 0 rfl) ?_
    refine x_getI C w fX1_45 obC4 dX1_addMark_16 ?_
    refine lv_aload_n C.1 C.2.1 dX1_addMark_19 rfl (lv_at hl 0 rfl) ?_
    refine lv_iconst (v := 0) C.1 C.2.1 dX1_addMark_20 (by decide) ?_
    obtain ⟨v_1, hv_1, h⟩ := bnd h
    refine x_callVj (q := (RX1, TX1, 12)) (As := [.int (0 : Int32)]) (rest := [.int (gI S 4 7), .ref (ρ 78)]) C w (k_Bn_wholeAt l D T ρ g H.size S hv_1) vX1_113 ⟨by decide, by decide⟩ obC4 (by decide) rfl rfl rfl hl.1 (Nat.le_of_ble_eq_true rfl) ⟨Nat.zero_le _, Nat.zero_le _⟩ dX1_addMark_21 (fun H locs w => ?_)
    obtain ⟨S_2, hS_2, h⟩ := bnd h
    refine x_last C w obC78 hS_2 dX1_addMark_24 (fun H locs w => ?_)
    refine lv_aload_n C.1 C.2.1 dX1_addMark_25 rfl (lv_at hl 0 rfl) ?_
    refine lv_dup C.1 C.2.1 dX1_addMark_26 rfl ?_
    refine x_getI C w fX1_45 obC4 dX1_addMark_27 ?_
    refine lv_iconst (v := 1) C.1 C.2.1 dX1_addMark_30 (by decide) ?_
    refine lv_iadd C.1 C.2.1 dX1_addMark_31 ?_
    obtain ⟨S_3, eS_3, h⟩ := lt_e h
    refine y_putI C w eS_3 fX1_45 pX1_7 obC4 dX1_addMark_32 (fun H locs w => ?_)
    refine lv_iconst (v := 0) C.1 C.2.1 dX1_addMark_35 (by decide) ?_
    obtain ⟨rfl, rfl⟩ := prI h
    exact x_iret C w hr hk dX1_addMark_36
  · replace h := iff0 hc h
    refine lv_iconst (v := 5) C.1 C.2.1 dX1_addMark_9 (by decide) ?_
    obtain ⟨rfl, rfl⟩ := prI h
    exact x_iret C w hr hk dX1_addMark_10
end S_Bn_addMark
set_option maxRecDepth 100000 in
theorem k_Bn_addMark (l : Launch) (D : va_G) (T : Cy) (ρ : Nat → Nat) (g sz : Nat) (S : St) {S' : St} {r : Int32} (h : m_Bn_addMark g S = some (S', r)) : Mi l Yc D T ρ yX1_addMark cX1_addMark 1 (some .int) 2 44 S S' r [.ref (ρ 4)] sz :=
  x_in (by decide) (Nat.le_of_ble_eq_true rfl) (fun p e s m below meth c ls C hr hk w hl => w_Bn_addMark_0 C hr hk w hl h)

theorem dX10_endOf_0 : decode cX10_endOf 0 = .ok (.iload_n 1, 1) := by decide +kernel
theorem dX10_endOf_1 : decode cX10_endOf 1 = .ok (.ifCond .lt 14, 3) := by decide +kernel
theorem dX10_endOf_4 : decode cX10_endOf 4 = .ok (.iload_n 1, 1) := by decide +kernel
theorem dX10_endOf_5 : decode cX10_endOf 5 = .ok (.aload_n 0, 1) := by decide +kernel
theorem dX10_endOf_6 : decode cX10_endOf 6 = .ok (.getfield 20, 3) := by decide +kernel
theorem dX10_endOf_9 : decode cX10_endOf 9 = .ok (.getfield 44, 3) := by decide +kernel
theorem dX10_endOf_12 : decode cX10_endOf 12 = .ok (.if_icmp .lt 7, 3) := by decide +kernel
theorem dX10_endOf_15 : decode cX10_endOf 15 = .ok (.iconst 0, 1) := by decide +kernel
theorem dX10_endOf_16 : decode cX10_endOf 16 = .ok (.goto 12, 3) := by decide +kernel
theorem dX10_endOf_19 : decode cX10_endOf 19 = .ok (.aload_n 0, 1) := by decide +kernel
theorem dX10_endOf_20 : decode cX10_endOf 20 = .ok (.getfield 20, 3) := by decide +kernel
theorem dX10_endOf_23 : decode cX10_endOf 23 = .ok (.getfield 81, 3) := by decide +kernel
theorem dX10_endOf_26 : decode cX10_endOf 26 = .ok (.iload_n 1, 1) := by decide +kernel
theorem dX10_endOf_27 : decode cX10_endOf 27 = .ok (.iaload, 1) := by decide +kernel
theorem dX10_endOf_28 : decode cX10_endOf 28 = .ok (.ireturn, 1) := by decide +kernel
def m_Tx_endOf (g : Nat) (S : St) (x1 : Int32) : Option Int32 :=
if x1 < 0 then (
  some (0 : Int32)
) else (
  if x1 < (gI S 19 2) then (
    (aI S 43 x1).bind fun v_1 =>
    some v_1
  ) else (
    some (0 : Int32)
  )
)
section S_Tx_endOf
variable {p : Program} {l : Launch} {e : Env} {s : State} {m : MethodId} {args : Array Value} {below : List Frame} {meth : Method} {c : Code} {H : Heap} {locs : List Loc} {ls : Array Slot} {D : va_G} {T : Cy} {ρ : Nat → Nat} {A : Nat → Prop}
set_option maxRecDepth 100000 in
set_option maxHeartbeats 4000000 in
theorem w_Tx_endOf_0  {g : Nat} {S : St} {x1 : Int32} (C : CallFix p m c cX10_endOf 2 s args tb RX10) (hr : meth.sig.returnType = (some .int)) (hk : meth.locks = false) {r : Int32} (w : Wn Yc D T ρ S A s H locs) (hl : lv_has ls 2 [(0, .ref (ρ 5)), (1, .int x1)]) (h : m_Tx_endOf g S x1 = some r) : W p l e (rmN 0 0) s m args below meth c H locs 0 0 (MQ below (Qi Yc D T ρ A S r) args s 0 0 A) (F0 m 0 ls []) := by
  unfold m_Tx_endOf at h
  refine lv_iload_n C.1 C.2.1 dX10_endOf_0 rfl (lv_at hl 1 rfl) ?_
  refine lv_if_lt (tgt := 15) C.1 C.2.1 dX10_endOf_1 (by decide) (fun hc => ?_) (fun hc => ?_)
  · replace h := ift hc h
    refine lv_iconst (v := 0) C.1 C.2.1 dX10_endOf_15 (by decide) ?_
    refine lv_goto (tgt := 28) C.1 C.2.1 dX10_endOf_16 (by decide) ?_
    obtain rfl := som h
    exact x_iret C w hr hk dX10_endOf_28
  · replace h := iff0 hc h
    refine lv_iload_n C.1 C.2.1 dX10_endOf_4 rfl (lv_at hl 1 rfl) ?_
    refine lv_aload_n C.1 C.2.1 dX10_endOf_5 rfl (lv_at hl 0 rfl) ?_
    refine x_getC C w 19 fX10_20 obC5 rfl dX10_endOf_6 ?_
    refine x_getI C w fX10_44 obC19 dX10_endOf_9 ?_
    refine lv_icmp_lt (tgt := 19) C.1 C.2.1 dX10_endOf_12 (by decide) (fun hc => ?_) (fun hc => ?_)
    · replace h := ift hc h
      refine lv_aload_n C.1 C.2.1 dX10_endOf_19 rfl (lv_at hl 0 rfl) ?_
      refine x_getC C w 19 fX10_20 obC5 rfl dX10_endOf_20 ?_
      refine x_getC C w 43 fX10_81 obC19 rfl dX10_endOf_23 ?_
      refine lv_iload_n C.1 C.2.1 dX10_endOf_26 rfl (lv_at hl 1 rfl) ?_
      obtain ⟨v_1, hv_1, h⟩ := bnd h
      refine x_iald C w obC43 hv_1 dX10_endOf_27 ?_
      obtain rfl := som h
      exact x_iret C w hr hk dX10_endOf_28
    · replace h := iff0 hc h
      refine lv_iconst (v := 0) C.1 C.2.1 dX10_endOf_15 (by decide) ?_
      refine lv_goto (tgt := 28) C.1 C.2.1 dX10_endOf_16 (by decide) ?_
      obtain rfl := som h
      exact x_iret C w hr hk dX10_endOf_28
end S_Tx_endOf
set_option maxRecDepth 100000 in
theorem k_Tx_endOf (l : Launch) (D : va_G) (T : Cy) (ρ : Nat → Nat) (g sz : Nat) (S : St) {x1 : Int32} {r : Int32} (h : m_Tx_endOf g S x1 = some r) : Mi l Yc D T ρ yX10_endOf cX10_endOf 2 (some .int) 0 0 S S r [.ref (ρ 5), .int x1] sz :=
  x_in (by decide) (Nat.le_of_ble_eq_true rfl) (fun p e s m below meth c ls C hr hk w hl => w_Tx_endOf_0 C hr hk w hl h)

theorem dX10_startOf_0 : decode cX10_startOf 0 = .ok (.iload_n 1, 1) := by decide +kernel
theorem dX10_startOf_1 : decode cX10_startOf 1 = .ok (.ifCond .le 14, 3) := by decide +kernel
theorem dX10_startOf_4 : decode cX10_startOf 4 = .ok (.iload_n 1, 1) := by decide +kernel
theorem dX10_startOf_5 : decode cX10_startOf 5 = .ok (.aload_n 0, 1) := by decide +kernel
theorem dX10_startOf_6 : decode cX10_startOf 6 = .ok (.getfield 20, 3) := by decide +kernel
theorem dX10_startOf_9 : decode cX10_startOf 9 = .ok (.getfield 44, 3) := by decide +kernel
theorem dX10_startOf_12 : decode cX10_startOf 12 = .ok (.if_icmp .le 7, 3) := by decide +kernel
theorem dX10_startOf_15 : decode cX10_startOf 15 = .ok (.iconst 0, 1) := by decide +kernel
theorem dX10_startOf_16 : decode cX10_startOf 16 = .ok (.goto 14, 3) := by decide +kernel
theorem dX10_startOf_19 : decode cX10_startOf 19 = .ok (.aload_n 0, 1) := by decide +kernel
theorem dX10_startOf_20 : decode cX10_startOf 20 = .ok (.getfield 20, 3) := by decide +kernel
theorem dX10_startOf_23 : decode cX10_startOf 23 = .ok (.getfield 81, 3) := by decide +kernel
theorem dX10_startOf_26 : decode cX10_startOf 26 = .ok (.iload_n 1, 1) := by decide +kernel
theorem dX10_startOf_27 : decode cX10_startOf 27 = .ok (.iconst 1, 1) := by decide +kernel
theorem dX10_startOf_28 : decode cX10_startOf 28 = .ok (.isub, 1) := by decide +kernel
theorem dX10_startOf_29 : decode cX10_startOf 29 = .ok (.iaload, 1) := by decide +kernel
theorem dX10_startOf_30 : decode cX10_startOf 30 = .ok (.ireturn, 1) := by decide +kernel
def m_Tx_startOf (g : Nat) (S : St) (x1 : Int32) : Option Int32 :=
if x1 ≤ 0 then (
  some (0 : Int32)
) else (
  if x1 ≤ (gI S 19 2) then (
    (aI S 43 (x1 - (1 : Int32))).bind fun v_1 =>
    some v_1
  ) else (
    some (0 : Int32)
  )
)
section S_Tx_startOf
variable {p : Program} {l : Launch} {e : Env} {s : State} {m : MethodId} {args : Array Value} {below : List Frame} {meth : Method} {c : Code} {H : Heap} {locs : List Loc} {ls : Array Slot} {D : va_G} {T : Cy} {ρ : Nat → Nat} {A : Nat → Prop}
set_option maxRecDepth 100000 in
set_option maxHeartbeats 4000000 in
theorem w_Tx_startOf_0  {g : Nat} {S : St} {x1 : Int32} (C : CallFix p m c cX10_startOf 2 s args tb RX10) (hr : meth.sig.returnType = (some .int)) (hk : meth.locks = false) {r : Int32} (w : Wn Yc D T ρ S A s H locs) (hl : lv_has ls 2 [(0, .ref (ρ 5)), (1, .int x1)]) (h : m_Tx_startOf g S x1 = some r) : W p l e (rmN 0 0) s m args below meth c H locs 0 0 (MQ below (Qi Yc D T ρ A S r) args s 0 0 A) (F0 m 0 ls []) := by
  unfold m_Tx_startOf at h
  refine lv_iload_n C.1 C.2.1 dX10_startOf_0 rfl (lv_at hl 1 rfl) ?_
  refine lv_if_le (tgt := 15) C.1 C.2.1 dX10_startOf_1 (by decide) (fun hc => ?_) (fun hc => ?_)
  · replace h := ift hc h
    refine lv_iconst (v := 0) C.1 C.2.1 dX10_startOf_15 (by decide) ?_
    refine lv_goto (tgt := 30) C.1 C.2.1 dX10_startOf_16 (by decide) ?_
    obtain rfl := som h
    exact x_iret C w hr hk dX10_startOf_30
  · replace h := iff0 hc h
    refine lv_iload_n C.1 C.2.1 dX10_startOf_4 rfl (lv_at hl 1 rfl) ?_
    refine lv_aload_n C.1 C.2.1 dX10_startOf_5 rfl (lv_at hl 0 rfl) ?_
    refine x_getC C w 19 fX10_20 obC5 rfl dX10_startOf_6 ?_
    refine x_getI C w fX10_44 obC19 dX10_startOf_9 ?_
    refine lv_icmp_le (tgt := 19) C.1 C.2.1 dX10_startOf_12 (by decide) (fun hc => ?_) (fun hc => ?_)
    · replace h := ift hc h
      refine lv_aload_n C.1 C.2.1 dX10_startOf_19 rfl (lv_at hl 0 rfl) ?_
      refine x_getC C w 19 fX10_20 obC5 rfl dX10_startOf_20 ?_
      refine x_getC C w 43 fX10_81 obC19 rfl dX10_startOf_23 ?_
      refine lv_iload_n C.1 C.2.1 dX10_startOf_26 rfl (lv_at hl 1 rfl) ?_
      refine lv_iconst (v := 1) C.1 C.2.1 dX10_startOf_27 (by decide) ?_
      refine lv_isub C.1 C.2.1 dX10_startOf_28 ?_
      obtain ⟨v_1, hv_1, h⟩ := bnd h
      refine x_iald C w obC43 hv_1 dX10_startOf_29 ?_
      obtain rfl := som h
      exact x_iret C w hr hk dX10_startOf_30
    · replace h := iff0 hc h
      refine lv_iconst (v := 0) C.1 C.2.1 dX10_startOf_15 (by decide) ?_
      refine lv_goto (tgt := 30) C.1 C.2.1 dX10_startOf_16 (by decide) ?_
      obtain rfl := som h
      exact x_iret C w hr hk dX10_startOf_30
end S_Tx_startOf
set_option maxRecDepth 100000 in
theorem k_Tx_startOf (l : Launch) (D : va_G) (T : Cy) (ρ : Nat → Nat) (g sz : Nat) (S : St) {x1 : Int32} {r : Int32} (h : m_Tx_startOf g S x1 = some r) : Mi l Yc D T ρ yX10_startOf cX10_startOf 2 (some .int) 0 0 S S r [.ref (ρ 5), .int x1] sz :=
  x_in (by decide) (Nat.le_of_ble_eq_true rfl) (fun p e s m below meth c ls C hr hk w hl => w_Tx_startOf_0 C hr hk w hl h)

theorem dX3_isPoint_0 : decode cX3_isPoint 0 = .ok (.lload_n 0, 1) := by decide +kernel
theorem dX3_isPoint_1 : decode cX3_isPoint 1 = .ok (.lconst 0, 1) := by decide +kernel
theorem dX3_isPoint_2 : decode cX3_isPoint 2 = .ok (.lcmp, 1) := by decide +kernel
theorem dX3_isPoint_3 : decode cX3_isPoint 3 = .ok (.ifCond .lt 15, 3) := by decide +kernel
theorem dX3_isPoint_6 : decode cX3_isPoint 6 = .ok (.lload_n 0, 1) := by decide +kernel
theorem dX3_isPoint_7 : decode cX3_isPoint 7 = .ok (.ldc2_w 16, 3) := by decide +kernel
theorem dX3_isPoint_10 : decode cX3_isPoint 10 = .ok (.lcmp, 1) := by decide +kernel
theorem dX3_isPoint_11 : decode cX3_isPoint 11 = .ok (.ifCond .gt 7, 3) := by decide +kernel
theorem dX3_isPoint_14 : decode cX3_isPoint 14 = .ok (.iconst 1, 1) := by decide +kernel
theorem dX3_isPoint_15 : decode cX3_isPoint 15 = .ok (.goto 4, 3) := by decide +kernel
theorem dX3_isPoint_18 : decode cX3_isPoint 18 = .ok (.iconst 0, 1) := by decide +kernel
theorem dX3_isPoint_19 : decode cX3_isPoint 19 = .ok (.ireturn, 1) := by decide +kernel
def m_Lt_isPoint (g : Nat) (x0 : Int64) : Option Int32 :=
if x0 < (0 : Int64) then (
  some (0 : Int32)
) else (
  if (1114111 : Int64) < x0 then (
    some (0 : Int32)
  ) else (
    some (1 : Int32)
  )
)
section S_Lt_isPoint
variable {p : Program} {l : Launch} {e : Env} {s : State} {m : MethodId} {args : Array Value} {below : List Frame} {meth : Method} {c : Code} {H : Heap} {locs : List Loc} {ls : Array Slot} {D : va_G} {T : Cy} {ρ : Nat → Nat} {A : Nat → Prop}
set_option maxRecDepth 100000 in
set_option maxHeartbeats 4000000 in
theorem w_Lt_isPoint_0  {g : Nat} {S : St} {x0 : Int64} (C : CallFix p m c cX3_isPoint 2 s args tb RX3) (hr : meth.sig.returnType = (some .boolean)) (hk : meth.locks = false) {r : Int32} (w : Wn Yc D T ρ S A s H locs) (hl : lv_has ls 2 [(0, .long x0)]) (h : m_Lt_isPoint g x0 = some r) : W p l e (rmN 0 0) s m args below meth c H locs 0 0 (MQ below (Qi Yc D T ρ A S r) args s 0 0 A) (F0 m 0 ls []) := by
  unfold m_Lt_isPoint at h
  refine lv_lload_n C.1 C.2.1 dX3_isPoint_0 rfl (lv_at hl 0 rfl) ?_
  refine lv_lconst (v := 0) C.1 C.2.1 dX3_isPoint_1 (by decide) ?_
  refine x_l_lt (tgt := 18) C dX3_isPoint_2 dX3_isPoint_3 (by decide) (fun hc => ?_) (fun hc => ?_)
  · replace h := ift hc h
    refine lv_iconst (v := 0) C.1 C.2.1 dX3_isPoint_18 (by decide) ?_
    obtain rfl := som h
    exact x_zret C w hr hk (by decide) dX3_isPoint_19
  · replace h := iff0 hc h
    refine lv_lload_n C.1 C.2.1 dX3_isPoint_6 rfl (lv_at hl 0 rfl) ?_
    refine lv_ldc2 C.1 C.2.1 C.2.2.2.1 (C.2.2.2.2 _ nX3_16) dX3_isPoint_7 ?_
    refine x_l_gt (tgt := 18) C dX3_isPoint_10 dX3_isPoint_11 (by decide) (fun hc => ?_) (fun hc => ?_)
    · replace h := ift hc h
      refine lv_iconst (v := 0) C.1 C.2.1 dX3_isPoint_18 (by decide) ?_
      obtain rfl := som h
      exact x_zret C w hr hk (by decide) dX3_isPoint_19
    · replace h := iff0 hc h
      refine lv_iconst (v := 1) C.1 C.2.1 dX3_isPoint_14 (by decide) ?_
      refine lv_goto (tgt := 19) C.1 C.2.1 dX3_isPoint_15 (by decide) ?_
      obtain rfl := som h
      exact x_zret C w hr hk (by decide) dX3_isPoint_19
end S_Lt_isPoint
set_option maxRecDepth 100000 in
theorem k_Lt_isPoint (l : Launch) (D : va_G) (T : Cy) (ρ : Nat → Nat) (g sz : Nat) (S : St) {x0 : Int64} {r : Int32} (h : m_Lt_isPoint g x0 = some r) : Mi l Yc D T ρ yX3_isPoint cX3_isPoint 2 (some .boolean) 0 0 S S r [.long x0] sz :=
  x_in (by decide) (Nat.le_of_ble_eq_true rfl) (fun p e s m below meth c ls C hr hk w hl => w_Lt_isPoint_0 C hr hk w hl h)

theorem dX3_highOf_0 : decode cX3_highOf 0 = .ok (.ldc 9, 2) := by decide +kernel
theorem dX3_highOf_2 : decode cX3_highOf 2 = .ok (.iload_n 0, 1) := by decide +kernel
theorem dX3_highOf_3 : decode cX3_highOf 3 = .ok (.ldc 13, 2) := by decide +kernel
theorem dX3_highOf_5 : decode cX3_highOf 5 = .ok (.isub, 1) := by decide +kernel
theorem dX3_highOf_6 : decode cX3_highOf 6 = .ok (.sipush 1024, 3) := by decide +kernel
theorem dX3_highOf_9 : decode cX3_highOf 9 = .ok (.idiv, 1) := by decide +kernel
theorem dX3_highOf_10 : decode cX3_highOf 10 = .ok (.iadd, 1) := by decide +kernel
theorem dX3_highOf_11 : decode cX3_highOf 11 = .ok (.ireturn, 1) := by decide +kernel
def m_Lt_highOf (g : Nat) (x0 : Int32) : Option Int32 :=
some ((55296 : Int32) + ((x0 - (65536 : Int32)) / (1024 : Int32)))
section S_Lt_highOf
variable {p : Program} {l : Launch} {e : Env} {s : State} {m : MethodId} {args : Array Value} {below : List Frame} {meth : Method} {c : Code} {H : Heap} {locs : List Loc} {ls : Array Slot} {D : va_G} {T : Cy} {ρ : Nat → Nat} {A : Nat → Prop}
set_option maxRecDepth 100000 in
set_option maxHeartbeats 4000000 in
theorem w_Lt_highOf_0  {g : Nat} {S : St} {x0 : Int32} (C : CallFix p m c cX3_highOf 1 s args tb RX3) (hr : meth.sig.returnType = (some .int)) (hk : meth.locks = false) {r : Int32} (w : Wn Yc D T ρ S A s H locs) (hl : lv_has ls 1 [(0, .int x0)]) (h : m_Lt_highOf g x0 = some r) : W p l e (rmN 0 0) s m args below meth c H locs 0 0 (MQ below (Qi Yc D T ρ A S r) args s 0 0 A) (F0 m 0 ls []) := by
  unfold m_Lt_highOf at h
  refine lv_ldc C.1 C.2.1 C.2.2.2.1 (C.2.2.2.2 _ nX3_9) dX3_highOf_0 ?_
  refine lv_iload_n C.1 C.2.1 dX3_highOf_2 rfl (lv_at hl 0 rfl) ?_
  refine lv_ldc C.1 C.2.1 C.2.2.2.1 (C.2.2.2.2 _ nX3_13) dX3_highOf_3 ?_
  refine lv_isub C.1 C.2.1 dX3_highOf_5 ?_
  refine lv_sipush (v := 1024) C.1 C.2.1 dX3_highOf_6 (by decide) ?_
  refine lv_idiv C.1 C.2.1 dX3_highOf_9 (by decide) ?_
  refine lv_iadd C.1 C.2.1 dX3_highOf_10 ?_
  obtain rfl := som h
  exact x_iret C w hr hk dX3_highOf_11
end S_Lt_highOf
set_option maxRecDepth 100000 in
theorem k_Lt_highOf (l : Launch) (D : va_G) (T : Cy) (ρ : Nat → Nat) (g sz : Nat) (S : St) {x0 : Int32} {r : Int32} (h : m_Lt_highOf g x0 = some r) : Mi l Yc D T ρ yX3_highOf cX3_highOf 1 (some .int) 0 0 S S r [.int x0] sz :=
  x_in (by decide) (Nat.le_of_ble_eq_true rfl) (fun p e s m below meth c ls C hr hk w hl => w_Lt_highOf_0 C hr hk w hl h)

theorem dX3_lowOf_0 : decode cX3_lowOf 0 = .ok (.ldc 11, 2) := by decide +kernel
theorem dX3_lowOf_2 : decode cX3_lowOf 2 = .ok (.iload_n 0, 1) := by decide +kernel
theorem dX3_lowOf_3 : decode cX3_lowOf 3 = .ok (.ldc 13, 2) := by decide +kernel
theorem dX3_lowOf_5 : decode cX3_lowOf 5 = .ok (.isub, 1) := by decide +kernel
theorem dX3_lowOf_6 : decode cX3_lowOf 6 = .ok (.sipush 1024, 3) := by decide +kernel
theorem dX3_lowOf_9 : decode cX3_lowOf 9 = .ok (.irem, 1) := by decide +kernel
theorem dX3_lowOf_10 : decode cX3_lowOf 10 = .ok (.iadd, 1) := by decide +kernel
theorem dX3_lowOf_11 : decode cX3_lowOf 11 = .ok (.ireturn, 1) := by decide +kernel
def m_Lt_lowOf (g : Nat) (x0 : Int32) : Option Int32 :=
some ((56320 : Int32) + ((x0 - (65536 : Int32)) - (x0 - (65536 : Int32)) / (1024 : Int32) * (1024 : Int32)))
section S_Lt_lowOf
variable {p : Program} {l : Launch} {e : Env} {s : State} {m : MethodId} {args : Array Value} {below : List Frame} {meth : Method} {c : Code} {H : Heap} {locs : List Loc} {ls : Array Slot} {D : va_G} {T : Cy} {ρ : Nat → Nat} {A : Nat → Prop}
set_option maxRecDepth 100000 in
set_option maxHeartbeats 4000000 in
theorem w_Lt_lowOf_0  {g : Nat} {S : St} {x0 : Int32} (C : CallFix p m c cX3_lowOf 1 s args tb RX3) (hr : meth.sig.returnType = (some .int)) (hk : meth.locks = false) {r : Int32} (w : Wn Yc D T ρ S A s H locs) (hl : lv_has ls 1 [(0, .int x0)]) (h : m_Lt_lowOf g x0 = some r) : W p l e (rmN 0 0) s m args below meth c H locs 0 0 (MQ below (Qi Yc D T ρ A S r) args s 0 0 A) (F0 m 0 ls []) := by
  unfold m_Lt_lowOf at h
  refine lv_ldc C.1 C.2.1 C.2.2.2.1 (C.2.2.2.2 _ nX3_11) dX3_lowOf_0 ?_
  refine lv_iload_n C.1 C.2.1 dX3_lowOf_2 rfl (lv_at hl 0 rfl) ?_
  refine lv_ldc C.1 C.2.1 C.2.2.2.1 (C.2.2.2.2 _ nX3_13) dX3_lowOf_3 ?_
  refine lv_isub C.1 C.2.1 dX3_lowOf_5 ?_
  refine lv_sipush (v := 1024) C.1 C.2.1 dX3_lowOf_6 (by decide) ?_
  refine lv_irem C.1 C.2.1 dX3_lowOf_9 (by decide) ?_
  refine lv_iadd C.1 C.2.1 dX3_lowOf_10 ?_
  obtain rfl := som h
  exact x_iret C w hr hk dX3_lowOf_11
end S_Lt_lowOf
set_option maxRecDepth 100000 in
theorem k_Lt_lowOf (l : Launch) (D : va_G) (T : Cy) (ρ : Nat → Nat) (g sz : Nat) (S : St) {x0 : Int32} {r : Int32} (h : m_Lt_lowOf g x0 = some r) : Mi l Yc D T ρ yX3_lowOf cX3_lowOf 1 (some .int) 0 0 S S r [.int x0] sz :=
  x_in (by decide) (Nat.le_of_ble_eq_true rfl) (fun p e s m below meth c ls C hr hk w hl => w_Lt_lowOf_0 C hr hk w hl h)

theorem dX6_turnFrom_0 : decode cX6_turnFrom 0 = .ok (.iload_n 1, 1) := by decide +kernel
theorem dX6_turnFrom_1 : decode cX6_turnFrom 1 = .ok (.istore_n 2, 1) := by decide +kernel
theorem dX6_turnFrom_2 : decode cX6_turnFrom 2 = .ok (.aload_n 0, 1) := by decide +kernel
theorem dX6_turnFrom_3 : decode cX6_turnFrom 3 = .ok (.getfield 19, 3) := by decide +kernel
theorem dX6_turnFrom_6 : decode cX6_turnFrom 6 = .ok (.iconst 1, 1) := by decide +kernel
theorem dX6_turnFrom_7 : decode cX6_turnFrom 7 = .ok (.isub, 1) := by decide +kernel
theorem dX6_turnFrom_8 : decode cX6_turnFrom 8 = .ok (.istore_n 3, 1) := by decide +kernel
theorem dX6_turnFrom_9 : decode cX6_turnFrom 9 = .ok (.iload_n 2, 1) := by decide +kernel
theorem dX6_turnFrom_10 : decode cX6_turnFrom 10 = .ok (.iload_n 3, 1) := by decide +kernel
theorem dX6_turnFrom_11 : decode cX6_turnFrom 11 = .ok (.if_icmp .ge 40, 3) := by decide +kernel
theorem dX6_turnFrom_14 : decode cX6_turnFrom 14 = .ok (.aload_n 0, 1) := by decide +kernel
theorem dX6_turnFrom_15 : decode cX6_turnFrom 15 = .ok (.getfield 15, 3) := by decide +kernel
theorem dX6_turnFrom_18 : decode cX6_turnFrom 18 = .ok (.iload_n 2, 1) := by decide +kernel
theorem dX6_turnFrom_19 : decode cX6_turnFrom 19 = .ok (.iaload, 1) := by decide +kernel
theorem dX6_turnFrom_20 : decode cX6_turnFrom 20 = .ok (.istore 4, 2) := by decide +kernel
theorem dX6_turnFrom_22 : decode cX6_turnFrom 22 = .ok (.aload_n 0, 1) := by decide +kernel
theorem dX6_turnFrom_23 : decode cX6_turnFrom 23 = .ok (.getfield 15, 3) := by decide +kernel
theorem dX6_turnFrom_26 : decode cX6_turnFrom 26 = .ok (.iload_n 2, 1) := by decide +kernel
theorem dX6_turnFrom_27 : decode cX6_turnFrom 27 = .ok (.aload_n 0, 1) := by decide +kernel
theorem dX6_turnFrom_28 : decode cX6_turnFrom 28 = .ok (.getfield 15, 3) := by decide +kernel
theorem dX6_turnFrom_31 : decode cX6_turnFrom 31 = .ok (.iload_n 3, 1) := by decide +kernel
theorem dX6_turnFrom_32 : decode cX6_turnFrom 32 = .ok (.iaload, 1) := by decide +kernel
theorem dX6_turnFrom_33 : decode cX6_turnFrom 33 = .ok (.iastore, 1) := by decide +kernel
theorem dX6_turnFrom_34 : decode cX6_turnFrom 34 = .ok (.aload_n 0, 1) := by decide +kernel
theorem dX6_turnFrom_35 : decode cX6_turnFrom 35 = .ok (.getfield 15, 3) := by decide +kernel
theorem dX6_turnFrom_38 : decode cX6_turnFrom 38 = .ok (.iload_n 3, 1) := by decide +kernel
theorem dX6_turnFrom_39 : decode cX6_turnFrom 39 = .ok (.iload 4, 2) := by decide +kernel
theorem dX6_turnFrom_41 : decode cX6_turnFrom 41 = .ok (.iastore, 1) := by decide +kernel
theorem dX6_turnFrom_42 : decode cX6_turnFrom 42 = .ok (.iinc 2 1, 3) := by decide +kernel
theorem dX6_turnFrom_45 : decode cX6_turnFrom 45 = .ok (.iinc 3 (-1), 3) := by decide +kernel
theorem dX6_turnFrom_48 : decode cX6_turnFrom 48 = .ok (.goto (-39), 3) := by decide +kernel
theorem dX6_turnFrom_51 : decode cX6_turnFrom 51 = .ok (.return_, 1) := by decide +kernel
def b_Row_turnFrom_9 (g : Nat) (k9 : St → Nat → Int32 → Int32 → Option St) (S : St) (x0 : Nat) (x2 : Int32) (x3 : Int32) : Option St :=
if x3 ≤ x2 then (
  some S
) else (
  (aI S (x0 + 24) x2).bind fun v_2 =>
  (aI S (x0 + 24) x3).bind fun v_3 =>
  (tI S (x0 + 24) x2 v_3).bind fun S_4 =>
  (tI S_4 (x0 + 24) x3 v_2).bind fun S_5 =>
  lt (x2 + (1 : Int32)) fun x2_6 =>
  lt (x3 + (-1 : Int32)) fun x3_7 =>
  k9 S_5 x0 x2_6 x3_7
)
def m_Row_turnFrom_9 (g : Nat) : Nat → St → Nat → Int32 → Int32 → Option St
  | 0, _, _, _, _ => none
  | n + 1, S, x0, x2, x3 => b_Row_turnFrom_9 g (m_Row_turnFrom_9 g n) S x0 x2 x3
def m_Row_turnFrom (g : Nat) (S : St) (x0 : Nat) (x1 : Int32) : Option St :=
lt ((gI S x0 2) - (1 : Int32)) fun x3_1 =>
m_Row_turnFrom_9 g g S x0 x1 x3_1
section S_Row_turnFrom
variable {p : Program} {l : Launch} {e : Env} {s : State} {m : MethodId} {args : Array Value} {below : List Frame} {meth : Method} {c : Code} {H : Heap} {locs : List Loc} {ls : Array Slot} {D : va_G} {T : Cy} {ρ : Nat → Nat} {A : Nat → Prop}
set_option maxRecDepth 100000 in
set_option maxHeartbeats 4000000 in
theorem wb_Row_turnFrom_9  {g : Nat} {S : St} {x0 : Nat} {x2 : Int32} {x3 : Int32} (C : CallFix p m c cX6_turnFrom 5 s args tb RX6) (hr : meth.sig.returnType = none) (hk : meth.locks = false) {S' : St} {k9 : St → Nat → Int32 → Int32 → Option St} (kk9 : ∀ (S : St) (x0 : Nat) (x2 : Int32) (x3 : Int32) (H : Heap) (locs : List Loc) (ls : Array Slot), Wn Yc D T ρ S A s H locs → lv_has ls 5 [(0, .ref (ρ x0)), (2, .int x2), (3, .int x3)] → Ob Yc x0 4 → k9 S x0 x2 x3 = some S' → W p l e (rmN 0 0) s m args below meth c H locs 0 0 (MQ below (Qv Yc D T ρ A S') args s 0 0 A) (F0 m 9 ls [])) (w : Wn Yc D T ρ S A s H locs) (hl : lv_has ls 5 [(0, .ref (ρ x0)), (2, .int x2), (3, .int x3)]) (ho_x0 : Ob Yc x0 4) (h : b_Row_turnFrom_9 g k9 S x0 x2 x3 = some S') : W p l e (rmN 0 0) s m args below meth c H locs 0 0 (MQ below (Qv Yc D T ρ A S') args s 0 0 A) (F0 m 9 ls []) := by
  unfold b_Row_turnFrom_9 at h
  refine lv_iload_n C.1 C.2.1 dX6_turnFrom_9 rfl (lv_at hl 1 rfl) ?_
  refine lv_iload_n C.1 C.2.1 dX6_turnFrom_10 rfl (lv_at hl 2 rfl) ?_
  refine lv_icmp_ge (tgt := 51) C.1 C.2.1 dX6_turnFrom_11 (by decide) (fun hc => ?_) (fun hc => ?_)
  · replace h := ift hc h
    obtain rfl := som h
    exact x_vret C w hr hk dX6_turnFrom_51
  · replace h := iff0 hc h
    refine lv_aload_n C.1 C.2.1 dX6_turnFrom_14 rfl (lv_at hl 0 rfl) ?_
    refine x_getC C w (x0 + 24) fX6_15 ho_x0 (crCells ho_x0) dX6_turnFrom_15 ?_
    refine lv_iload_n C.1 C.2.1 dX6_turnFrom_18 rfl (lv_at hl 1 rfl) ?_
    obtain ⟨v_2, hv_2, h⟩ := bnd h
    refine x_iald C w (obCells ho_x0) hv_2 dX6_turnFrom_19 ?_
    refine lv_istore (lv' := [(4, .int v_2), (0, .ref (ρ x0)), (2, .int x2), (3, .int x3)]) C.1 C.2.1 dX6_turnFrom_20 hl (by decide) rfl (fun ls hl => ?_)
    refine lv_aload_n C.1 C.2.1 dX6_turnFrom_22 rfl (lv_at hl 1 rfl) ?_
    refine x_getC C w (x0 + 24) fX6_15 ho_x0 (crCells ho_x0) dX6_turnFrom_23 ?_
    refine lv_iload_n C.1 C.2.1 dX6_turnFrom_26 rfl (lv_at hl 2 rfl) ?_
    refine lv_aload_n C.1 C.2.1 dX6_turnFrom_27 rfl (lv_at hl 1 rfl) ?_
    refine x_getC C w (x0 + 24) fX6_15 ho_x0 (crCells ho_x0) dX6_turnFrom_28 ?_
    refine lv_iload_n C.1 C.2.1 dX6_turnFrom_31 rfl (lv_at hl 3 rfl) ?_
    obtain ⟨v_3, hv_3, h⟩ := bnd h
    refine x_iald C w (obCells ho_x0) hv_3 dX6_turnFrom_32 ?_
    obtain ⟨S_4, hS_4, h⟩ := bnd h
    refine x_iast C w (obCells ho_x0) hS_4 dX6_turnFrom_33 (fun H locs w => ?_)
    refine lv_aload_n C.1 C.2.1 dX6_turnFrom_34 rfl (lv_at hl 1 rfl) ?_
    refine x_getC C w (x0 + 24) fX6_15 ho_x0 (crCells ho_x0) dX6_turnFrom_35 ?_
    refine lv_iload_n C.1 C.2.1 dX6_turnFrom_38 rfl (lv_at hl 3 rfl) ?_
    refine lv_iload C.1 C.2.1 dX6_turnFrom_39 (lv_at hl 0 rfl) ?_
    obtain ⟨S_5, hS_5, h⟩ := bnd h
    refine x_iast C w (obCells ho_x0) hS_5 dX6_turnFrom_41 (fun H locs w => ?_)
    obtain ⟨x2_6, ex2_6, h⟩ := lt_e h
    refine lv_iinc (v := x2_6) (lv' := [(2, .int x2_6), (4, .int v_2), (0, .ref (ρ x0)), (3, .int x3)]) C.1 C.2.1 dX6_turnFrom_42 hl (k := 2) rfl (by rw [ex2_6]; rfl) (by decide) rfl (fun ls hl => ?_)
    obtain ⟨x3_7, ex3_7, h⟩ := lt_e h
    refine lv_iinc (v := x3_7) (lv' := [(3, .int x3_7), (2, .int x2_6), (4, .int v_2), (0, .ref (ρ x0))]) C.1 C.2.1 dX6_turnFrom_45 hl (k := 3) rfl (by rw [ex3_7]; rfl) (by decide) rfl (fun ls hl => ?_)
    refine lv_goto (tgt := 9) C.1 C.2.1 dX6_turnFrom_48 (by decide) ?_
    exact kk9 _ _ _ _ _ _ _ w (lv_sub hl [3, 1, 0] rfl) ho_x0 h
theorem w_Row_turnFrom_9 {g : Nat} (C : CallFix p m c cX6_turnFrom 5 s args tb RX6) (hr : meth.sig.returnType = none) (hk : meth.locks = false) {S' : St} (n : Nat) : ∀ (S : St) (x0 : Nat) (x2 : Int32) (x3 : Int32) (H : Heap) (locs : List Loc) (ls : Array Slot), Wn Yc D T ρ S A s H locs → lv_has ls 5 [(0, .ref (ρ x0)), (2, .int x2), (3, .int x3)] → Ob Yc x0 4 → m_Row_turnFrom_9 g n S x0 x2 x3 = some S' → W p l e (rmN 0 0) s m args below meth c H locs 0 0 (MQ below (Qv Yc D T ρ A S') args s 0 0 A) (F0 m 9 ls []) := by
  induction n with
  | zero => intro S x0 x2 x3 H locs ls w hl ho_x0 h; exact absurd h (fun q => by cases q)
  | succ n ih => intro S x0 x2 x3 H locs ls w hl ho_x0 h; exact wb_Row_turnFrom_9 C hr hk ih w hl ho_x0 h
set_option maxRecDepth 100000 in
set_option maxHeartbeats 4000000 in
theorem w_Row_turnFrom_0  {g : Nat} {S : St} {x0 : Nat} {x1 : Int32} (C : CallFix p m c cX6_turnFrom 5 s args tb RX6) (hr : meth.sig.returnType = none) (hk : meth.locks = false) {S' : St} (w : Wn Yc D T ρ S A s H locs) (hl : lv_has ls 5 [(0, .ref (ρ x0)), (1, .int x1)]) (ho_x0 : Ob Yc x0 4) (h : m_Row_turnFrom g S x0 x1 = some S') : W p l e (rmN 0 0) s m args below meth c H locs 0 0 (MQ below (Qv Yc D T ρ A S') args s 0 0 A) (F0 m 0 ls []) := by
  unfold m_Row_turnFrom at h
  refine lv_iload_n C.1 C.2.1 dX6_turnFrom_0 rfl (lv_at hl 1 rfl) ?_
  refine lv_istore_n (lv' := [(2, .int x1), (0, .ref (ρ x0)), (1, .int x1)]) C.1 C.2.1 dX6_turnFrom_1 rfl hl (by decide) rfl (fun ls hl => ?_)
  refine lv_aload_n C.1 C.2.1 dX6_turnFrom_2 rfl (lv_at hl 1 rfl) ?_
  refine x_getI C w fX6_19 ho_x0 dX6_turnFrom_3 ?_
  refine lv_iconst (v := 1) C.1 C.2.1 dX6_turnFrom_6 (by decide) ?_
  refine lv_isub C.1 C.2.1 dX6_turnFrom_7 ?_
  obtain ⟨x3_1, ex3_1, h⟩ := lt_e h
  refine x_nm ex3_1 ?_
  refine lv_istore_n (lv' := [(3, .int x3_1), (2, .int x1), (0, .ref (ρ x0)), (1, .int x1)]) C.1 C.2.1 dX6_turnFrom_8 rfl hl (by decide) rfl (fun ls hl => ?_)
  exact w_Row_turnFrom_9 C hr hk g _ _ _ _ _ _ _ w (lv_sub hl [2, 1, 0] rfl) ho_x0 h
end S_Row_turnFrom
set_option maxRecDepth 100000 in
theorem k_Row_turnFrom (l : Launch) (D : va_G) (T : Cy) (ρ : Nat → Nat) (g sz : Nat) (S : St) {x0 : Nat} {x1 : Int32} (ho_x0 : Ob Yc x0 4) {S' : St} (h : m_Row_turnFrom g S x0 x1 = some S') : Mv l Yc D T ρ yX6_turnFrom cX6_turnFrom 5 none 0 0 S S' [.ref (ρ x0), .int x1] sz :=
  x_in (by decide) (Nat.le_of_ble_eq_true rfl) (fun p e s m below meth c ls C hr hk w hl => w_Row_turnFrom_0 C hr hk w hl ho_x0 h)

theorem dX2_makeFresh_0 : decode cX2_makeFresh 0 = .ok (.aload_n 0, 1) := by decide +kernel
theorem dX2_makeFresh_1 : decode cX2_makeFresh 1 = .ok (.getfield 9, 3) := by decide +kernel
theorem dX2_makeFresh_4 : decode cX2_makeFresh 4 = .ok (.iconst 1, 1) := by decide +kernel
theorem dX2_makeFresh_5 : decode cX2_makeFresh 5 = .ok (.invokevirtual 78, 3) := by decide +kernel
theorem dX2_makeFresh_8 : decode cX2_makeFresh 8 = .ok (.lstore_n 2, 1) := by decide +kernel
theorem dX2_makeFresh_9 : decode cX2_makeFresh 9 = .ok (.lload_n 2, 1) := by decide +kernel
theorem dX2_makeFresh_10 : decode cX2_makeFresh 10 = .ok (.lconst 0, 1) := by decide +kernel
theorem dX2_makeFresh_11 : decode cX2_makeFresh 11 = .ok (.lcmp, 1) := by decide +kernel
theorem dX2_makeFresh_12 : decode cX2_makeFresh 12 = .ok (.ifCond .lt 11, 3) := by decide +kernel
theorem dX2_makeFresh_15 : decode cX2_makeFresh 15 = .ok (.lload_n 2, 1) := by decide +kernel
theorem dX2_makeFresh_16 : decode cX2_makeFresh 16 = .ok (.ldc2_w 82, 3) := by decide +kernel
theorem dX2_makeFresh_19 : decode cX2_makeFresh 19 = .ok (.lcmp, 1) := by decide +kernel
theorem dX2_makeFresh_20 : decode cX2_makeFresh 20 = .ok (.ifCond .le 5, 3) := by decide +kernel
theorem dX2_makeFresh_23 : decode cX2_makeFresh 23 = .ok (.iconst 3, 1) := by decide +kernel
theorem dX2_makeFresh_24 : decode cX2_makeFresh 24 = .ok (.ireturn, 1) := by decide +kernel
theorem dX2_makeFresh_25 : decode cX2_makeFresh 25 = .ok (.aload_n 0, 1) := by decide +kernel
theorem dX2_makeFresh_26 : decode cX2_makeFresh 26 = .ok (.getfield 9, 3) := by decide +kernel
theorem dX2_makeFresh_29 : decode cX2_makeFresh 29 = .ok (.getfield 26, 3) := by decide +kernel
theorem dX2_makeFresh_32 : decode cX2_makeFresh 32 = .ok (.iload_n 1, 1) := by decide +kernel
theorem dX2_makeFresh_33 : decode cX2_makeFresh 33 = .ok (.aaload, 1) := by decide +kernel
theorem dX2_makeFresh_34 : decode cX2_makeFresh 34 = .ok (.invokevirtual 30, 3) := by decide +kernel
theorem dX2_makeFresh_37 : decode cX2_makeFresh 37 = .ok (.aload_n 0, 1) := by decide +kernel
theorem dX2_makeFresh_38 : decode cX2_makeFresh 38 = .ok (.getfield 9, 3) := by decide +kernel
theorem dX2_makeFresh_41 : decode cX2_makeFresh 41 = .ok (.getfield 84, 3) := by decide +kernel
theorem dX2_makeFresh_44 : decode cX2_makeFresh 44 = .ok (.iload_n 1, 1) := by decide +kernel
theorem dX2_makeFresh_45 : decode cX2_makeFresh 45 = .ok (.lload_n 2, 1) := by decide +kernel
theorem dX2_makeFresh_46 : decode cX2_makeFresh 46 = .ok (.l2i, 1) := by decide +kernel
theorem dX2_makeFresh_47 : decode cX2_makeFresh 47 = .ok (.iastore, 1) := by decide +kernel
theorem dX2_makeFresh_48 : decode cX2_makeFresh 48 = .ok (.iconst 0, 1) := by decide +kernel
theorem dX2_makeFresh_49 : decode cX2_makeFresh 49 = .ok (.ireturn, 1) := by decide +kernel
def m_BS_makeFresh (g : Nat) (S : St) (x1 : Int32) : Option (St × Int32) :=
(m_Bn_wholeAt g S (1 : Int32)).bind fun v_1 =>
if v_1 < (0 : Int64) then (
  some (S, (3 : Int32))
) else (
  if (400 : Int64) < v_1 then (
    some (S, (3 : Int32))
  ) else (
    (bR S x1).bind fun r_2 =>
    (m_Row_clear g S r_2).bind fun S_3 =>
    (tI S_3 77 x1 (v_1.toInt32)).bind fun S_4 =>
    some (S_4, (0 : Int32))
  )
)
section S_BS_makeFresh
variable {p : Program} {l : Launch} {e : Env} {s : State} {m : MethodId} {args : Array Value} {below : List Frame} {meth : Method} {c : Code} {H : Heap} {locs : List Loc} {ls : Array Slot} {D : va_G} {T : Cy} {ρ : Nat → Nat} {A : Nat → Prop}
set_option maxRecDepth 100000 in
set_option maxHeartbeats 4000000 in
theorem w_BS_makeFresh_0  {g : Nat} {S : St} {x1 : Int32} (C : CallFix p m c cX2_makeFresh 4 s args tb RX2) (hr : meth.sig.returnType = (some .int)) (hk : meth.locks = false) {S' : St} {r : Int32} (w : Wn Yc D T ρ S A s H locs) (hl : lv_has ls 4 [(0, .ref (ρ 9)), (1, .int x1)]) (h : m_BS_makeFresh g S x1 = some (S', r)) : W p l e (rmN 2 44) s m args below meth c H locs 0 0 (MQ below (Qi Yc D T ρ A S' r) args s 0 0 A) (F0 m 0 ls []) := by
  unfold m_BS_makeFresh at h
  refine lv_aload_n C.1 C.2.1 dX2_makeFresh_0 rfl (lv_at hl 0 rfl) ?_
  refine x_getC C w 4 fX2_9 obC9 rfl dX2_makeFresh_1 ?_
  refine lv_iconst (v := 1) C.1 C.2.1 dX2_makeFresh_4 (by decide) ?_
  obtain ⟨v_1, hv_1, h⟩ := bnd h
  refine x_callVj (q := (RX1, TX1, 12)) (As := [.int (1 : Int32)]) (rest := []) C w (k_Bn_wholeAt l D T ρ g H.size S hv_1) vX2_78 ⟨by decide, by decide⟩ obC4 (by decide) rfl rfl rfl hl.1 (Nat.le_of_ble_eq_true rfl) ⟨Nat.zero_le _, Nat.zero_le _⟩ dX2_makeFresh_5 (fun H locs w => ?_)
  refine lv_lstore_n (lv' := [(2, .long v_1), (0, .ref (ρ 9)), (1, .int x1)]) C.1 C.2.1 dX2_makeFresh_8 rfl hl (by decide) rfl (fun ls hl => ?_)
  refine lv_lload_n C.1 C.2.1 dX2_makeFresh_9 rfl (lv_at hl 0 rfl) ?_
  refine lv_lconst (v := 0) C.1 C.2.1 dX2_makeFresh_10 (by decide) ?_
  refine x_l_lt (tgt := 23) C dX2_makeFresh_11 dX2_makeFresh_12 (by decide) (fun hc => ?_) (fun hc => ?_)
  · replace h := ift hc h
    refine lv_iconst (v := 3) C.1 C.2.1 dX2_makeFresh_23 (by decide) ?_
    obtain ⟨rfl, rfl⟩ := prI h
    exact x_iret C w hr hk dX2_makeFresh_24
  · replace h := iff0 hc h
    refine lv_lload_n C.1 C.2.1 dX2_makeFresh_15 rfl (lv_at hl 0 rfl) ?_
    refine lv_ldc2 C.1 C.2.1 C.2.2.2.1 (C.2.2.2.2 _ nX2_82) dX2_makeFresh_16 ?_
    refine x_l_le (tgt := 25) C dX2_makeFresh_19 dX2_makeFresh_20 (by decide) (fun hc => ?_) (fun hc => ?_)
    · replace h := iff0 hc h
      refine lv_aload_n C.1 C.2.1 dX2_makeFresh_25 rfl (lv_at hl 1 rfl) ?_
      refine x_getC C w 4 fX2_9 obC9 rfl dX2_makeFresh_26 ?_
      refine x_getC C w 76 fX2_26 obC4 rfl dX2_makeFresh_29 ?_
      refine lv_iload_n C.1 C.2.1 dX2_makeFresh_32 rfl (lv_at hl 2 rfl) ?_
      obtain ⟨r_2, hr_2, h⟩ := bnd h
      refine x_bald C w hr_2 dX2_makeFresh_33 ?_
      obtain ⟨S_3, hS_3, h⟩ := bnd h
      refine x_callVv (q := (RX6, TX6, 4)) (As := []) (rest := []) C w (k_Row_clear l D T ρ g H.size S (bR_ob hr_2) hS_3) vX2_30 ⟨by decide, by decide⟩ (bR_ob hr_2) (by decide) rfl rfl rfl hl.1 (Nat.le_of_ble_eq_true rfl) ⟨Nat.zero_le _, Nat.zero_le _⟩ dX2_makeFresh_34 (fun H locs w => ?_)
      refine lv_aload_n C.1 C.2.1 dX2_makeFresh_37 rfl (lv_at hl 1 rfl) ?_
      refine x_getC C w 4 fX2_9 obC9 rfl dX2_makeFresh_38 ?_
      refine x_getC C w 77 fX2_84 obC4 rfl dX2_makeFresh_41 ?_
      refine lv_iload_n C.1 C.2.1 dX2_makeFresh_44 rfl (lv_at hl 2 rfl) ?_
      refine lv_lload_n C.1 C.2.1 dX2_makeFresh_45 rfl (lv_at hl 0 rfl) ?_
      refine lv_l2i C.1 C.2.1 dX2_makeFresh_46 rfl ?_
      obtain ⟨S_4, hS_4, h⟩ := bnd h
      refine x_iast C w obC77 hS_4 dX2_makeFresh_47 (fun H locs w => ?_)
      refine lv_iconst (v := 0) C.1 C.2.1 dX2_makeFresh_48 (by decide) ?_
      obtain ⟨rfl, rfl⟩ := prI h
      exact x_iret C w hr hk dX2_makeFresh_49
    · replace h := ift hc h
      refine lv_iconst (v := 3) C.1 C.2.1 dX2_makeFresh_23 (by decide) ?_
      obtain ⟨rfl, rfl⟩ := prI h
      exact x_iret C w hr hk dX2_makeFresh_24
end S_BS_makeFresh
set_option maxRecDepth 100000 in
theorem k_BS_makeFresh (l : Launch) (D : va_G) (T : Cy) (ρ : Nat → Nat) (g sz : Nat) (S : St) {x1 : Int32} {S' : St} {r : Int32} (h : m_BS_makeFresh g S x1 = some (S', r)) : Mi l Yc D T ρ yX2_makeFresh cX2_makeFresh 4 (some .int) 2 44 S S' r [.ref (ρ 9), .int x1] sz :=
  x_in (by decide) (Nat.le_of_ble_eq_true rfl) (fun p e s m below meth c ls C hr hk w hl => w_BS_makeFresh_0 C hr hk w hl h)

theorem dX2_makeRoom_0 : decode cX2_makeRoom 0 = .ok (.aload_n 0, 1) := by decide +kernel
theorem dX2_makeRoom_1 : decode cX2_makeRoom 1 = .ok (.getfield 9, 3) := by decide +kernel
theorem dX2_makeRoom_4 : decode cX2_makeRoom 4 = .ok (.getfield 26, 3) := by decide +kernel
theorem dX2_makeRoom_7 : decode cX2_makeRoom 7 = .ok (.iload_n 1, 1) := by decide +kernel
theorem dX2_makeRoom_8 : decode cX2_makeRoom 8 = .ok (.aaload, 1) := by decide +kernel
theorem dX2_makeRoom_9 : decode cX2_makeRoom 9 = .ok (.getfield 53, 3) := by decide +kernel
theorem dX2_makeRoom_12 : decode cX2_makeRoom 12 = .ok (.istore_n 2, 1) := by decide +kernel
theorem dX2_makeRoom_13 : decode cX2_makeRoom 13 = .ok (.iload_n 2, 1) := by decide +kernel
theorem dX2_makeRoom_14 : decode cX2_makeRoom 14 = .ok (.aload_n 0, 1) := by decide +kernel
theorem dX2_makeRoom_15 : decode cX2_makeRoom 15 = .ok (.getfield 9, 3) := by decide +kernel
theorem dX2_makeRoom_18 : decode cX2_makeRoom 18 = .ok (.getfield 84, 3) := by decide +kernel
theorem dX2_makeRoom_21 : decode cX2_makeRoom 21 = .ok (.iload_n 1, 1) := by decide +kernel
theorem dX2_makeRoom_22 : decode cX2_makeRoom 22 = .ok (.iaload, 1) := by decide +kernel
theorem dX2_makeRoom_23 : decode cX2_makeRoom 23 = .ok (.if_icmp .le 29, 3) := by decide +kernel
theorem dX2_makeRoom_26 : decode cX2_makeRoom 26 = .ok (.aload_n 0, 1) := by decide +kernel
theorem dX2_makeRoom_27 : decode cX2_makeRoom 27 = .ok (.getfield 9, 3) := by decide +kernel
theorem dX2_makeRoom_30 : decode cX2_makeRoom 30 = .ok (.getfield 84, 3) := by decide +kernel
theorem dX2_makeRoom_33 : decode cX2_makeRoom 33 = .ok (.iload_n 1, 1) := by decide +kernel
theorem dX2_makeRoom_34 : decode cX2_makeRoom 34 = .ok (.iload_n 2, 1) := by decide +kernel
theorem dX2_makeRoom_35 : decode cX2_makeRoom 35 = .ok (.iconst 2, 1) := by decide +kernel
theorem dX2_makeRoom_36 : decode cX2_makeRoom 36 = .ok (.aload_n 0, 1) := by decide +kernel
theorem dX2_makeRoom_37 : decode cX2_makeRoom 37 = .ok (.getfield 9, 3) := by decide +kernel
theorem dX2_makeRoom_40 : decode cX2_makeRoom 40 = .ok (.getfield 84, 3) := by decide +kernel
theorem dX2_makeRoom_43 : decode cX2_makeRoom 43 = .ok (.iload_n 1, 1) := by decide +kernel
theorem dX2_makeRoom_44 : decode cX2_makeRoom 44 = .ok (.iaload, 1) := by decide +kernel
theorem dX2_makeRoom_45 : decode cX2_makeRoom 45 = .ok (.imul, 1) := by decide +kernel
theorem dX2_makeRoom_46 : decode cX2_makeRoom 46 = .ok (.iconst 2, 1) := by decide +kernel
theorem dX2_makeRoom_47 : decode cX2_makeRoom 47 = .ok (.iadd, 1) := by decide +kernel
theorem dX2_makeRoom_48 : decode cX2_makeRoom 48 = .ok (.invokestatic 108, 3) := by decide +kernel
theorem dX2_makeRoom_51 : decode cX2_makeRoom 51 = .ok (.iastore, 1) := by decide +kernel
theorem dX2_makeRoom_52 : decode cX2_makeRoom 52 = .ok (.return_, 1) := by decide +kernel
def m_BS_makeRoom (g : Nat) (S : St) (x1 : Int32) : Option St :=
(bR S x1).bind fun r_1 =>
lt (gI S r_1 2) fun x2_2 =>
(aI S 77 x1).bind fun v_3 =>
if x2_2 ≤ v_3 then (
  some S
) else (
  (aI S 77 x1).bind fun v_4 =>
  (tI S 77 x1 (maxI x2_2 (((2 : Int32) * v_4) + (2 : Int32)))).bind fun S_5 =>
  some S_5
)
section S_BS_makeRoom
variable {p : Program} {l : Launch} {e : Env} {s : State} {m : MethodId} {args : Array Value} {below : List Frame} {meth : Method} {c : Code} {H : Heap} {locs : List Loc} {ls : Array Slot} {D : va_G} {T : Cy} {ρ : Nat → Nat} {A : Nat → Prop}
set_option maxRecDepth 100000 in
set_option maxHeartbeats 4000000 in
theorem w_BS_makeRoom_0  {g : Nat} {S : St} {x1 : Int32} (C : CallFix p m c cX2_makeRoom 3 s args tb RX2) (hr : meth.sig.returnType = none) (hk : meth.locks = false) {S' : St} (w : Wn Yc D T ρ S A s H locs) (hl : lv_has ls 3 [(0, .ref (ρ 9)), (1, .int x1)]) (h : m_BS_makeRoom g S x1 = some S') : W p l e (rmN 1 23) s m args below meth c H locs 0 0 (MQ below (Qv Yc D T ρ A S') args s 0 0 A) (F0 m 0 ls []) := by
  unfold m_BS_makeRoom at h
  refine lv_aload_n C.1 C.2.1 dX2_makeRoom_0 rfl (lv_at hl 0 rfl) ?_
  refine x_getC C w 4 fX2_9 obC9 rfl dX2_makeRoom_1 ?_
  refine x_getC C w 76 fX2_26 obC4 rfl dX2_makeRoom_4 ?_
  refine lv_iload_n C.1 C.2.1 dX2_makeRoom_7 rfl (lv_at hl 1 rfl) ?_
  obtain ⟨r_1, hr_1, h⟩ := bnd h
  refine x_bald C w hr_1 dX2_makeRoom_8 ?_
  refine x_getI C w fX2_53 (bR_ob hr_1) dX2_makeRoom_9 ?_
  obtain ⟨x2_2, ex2_2, h⟩ := lt_e h
  refine x_nm ex2_2 ?_
  refine lv_istore_n (lv' := [(2, .int x2_2), (0, .ref (ρ 9)), (1, .int x1)]) C.1 C.2.1 dX2_makeRoom_12 rfl hl (by decide) rfl (fun ls hl => ?_)
  refine lv_iload_n C.1 C.2.1 dX2_makeRoom_13 rfl (lv_at hl 0 rfl) ?_
  refine lv_aload_n C.1 C.2.1 dX2_makeRoom_14 rfl (lv_at hl 1 rfl) ?_
  refine x_getC C w 4 fX2_9 obC9 rfl dX2_makeRoom_15 ?_
  refine x_getC C w 77 fX2_84 obC4 rfl dX2_makeRoom_18 ?_
  refine lv_iload_n C.1 C.2.1 dX2_makeRoom_21 rfl (lv_at hl 2 rfl) ?_
  obtain ⟨v_3, hv_3, h⟩ := bnd h
  refine x_iald C w obC77 hv_3 dX2_makeRoom_22 ?_
  refine lv_icmp_le (tgt := 52) C.1 C.2.1 dX2_makeRoom_23 (by decide) (fun hc => ?_) (fun hc => ?_)
  · replace h := ift hc h
    obtain rfl := som h
    exact x_vret C w hr hk dX2_makeRoom_52
  · replace h := iff0 hc h
    refine lv_aload_n C.1 C.2.1 dX2_makeRoom_26 rfl (lv_at hl 1 rfl) ?_
    refine x_getC C w 4 fX2_9 obC9 rfl dX2_makeRoom_27 ?_
    refine x_getC C w 77 fX2_84 obC4 rfl dX2_makeRoom_30 ?_
    refine lv_iload_n C.1 C.2.1 dX2_makeRoom_33 rfl (lv_at hl 2 rfl) ?_
    refine lv_iload_n C.1 C.2.1 dX2_makeRoom_34 rfl (lv_at hl 0 rfl) ?_
    refine lv_iconst (v := 2) C.1 C.2.1 dX2_makeRoom_35 (by decide) ?_
    refine lv_aload_n C.1 C.2.1 dX2_makeRoom_36 rfl (lv_at hl 1 rfl) ?_
    refine x_getC C w 4 fX2_9 obC9 rfl dX2_makeRoom_37 ?_
    refine x_getC C w 77 fX2_84 obC4 rfl dX2_makeRoom_40 ?_
    refine lv_iload_n C.1 C.2.1 dX2_makeRoom_43 rfl (lv_at hl 2 rfl) ?_
    obtain ⟨v_4, hv_4, h⟩ := bnd h
    refine x_iald C w obC77 hv_4 dX2_makeRoom_44 ?_
    refine lv_imul C.1 C.2.1 dX2_makeRoom_45 ?_
    refine lv_iconst (v := 2) C.1 C.2.1 dX2_makeRoom_46 (by decide) ?_
    refine lv_iadd C.1 C.2.1 dX2_makeRoom_47 ?_
    refine x_maxI C hl.1 vX2_108.1 ⟨by decide, by decide⟩ (Nat.le_of_ble_eq_true rfl) ⟨Nat.zero_le _, Nat.zero_le _⟩ dX2_makeRoom_48 ?_
    obtain ⟨S_5, hS_5, h⟩ := bnd h
    refine x_iast C w obC77 hS_5 dX2_makeRoom_51 (fun H locs w => ?_)
    obtain rfl := som h
    exact x_vret C w hr hk dX2_makeRoom_52
end S_BS_makeRoom
set_option maxRecDepth 100000 in
theorem k_BS_makeRoom (l : Launch) (D : va_G) (T : Cy) (ρ : Nat → Nat) (g sz : Nat) (S : St) {x1 : Int32} {S' : St} (h : m_BS_makeRoom g S x1 = some S') : Mv l Yc D T ρ yX2_makeRoom cX2_makeRoom 3 none 1 23 S S' [.ref (ρ 9), .int x1] sz :=
  x_in (by decide) (Nat.le_of_ble_eq_true rfl) (fun p e s m below meth c ls C hr hk w hl => w_BS_makeRoom_0 C hr hk w hl h)

theorem dX6_remove_0 : decode cX6_remove 0 = .ok (.iload_n 1, 1) := by decide +kernel
theorem dX6_remove_1 : decode cX6_remove 1 = .ok (.ifCond .lt 16, 3) := by decide +kernel
theorem dX6_remove_4 : decode cX6_remove 4 = .ok (.iload_n 1, 1) := by decide +kernel
theorem dX6_remove_5 : decode cX6_remove 5 = .ok (.iload_n 2, 1) := by decide +kernel
theorem dX6_remove_6 : decode cX6_remove 6 = .ok (.if_icmp .gt 11, 3) := by decide +kernel
theorem dX6_remove_9 : decode cX6_remove 9 = .ok (.iload_n 2, 1) := by decide +kernel
theorem dX6_remove_10 : decode cX6_remove 10 = .ok (.aload_n 0, 1) := by decide +kernel
theorem dX6_remove_11 : decode cX6_remove 11 = .ok (.getfield 19, 3) := by decide +kernel
theorem dX6_remove_14 : decode cX6_remove 14 = .ok (.if_icmp .le 4, 3) := by decide +kernel
theorem dX6_remove_17 : decode cX6_remove 17 = .ok (.return_, 1) := by decide +kernel
theorem dX6_remove_18 : decode cX6_remove 18 = .ok (.aload_n 0, 1) := by decide +kernel
theorem dX6_remove_19 : decode cX6_remove 19 = .ok (.getfield 15, 3) := by decide +kernel
theorem dX6_remove_22 : decode cX6_remove 22 = .ok (.iload_n 2, 1) := by decide +kernel
theorem dX6_remove_23 : decode cX6_remove 23 = .ok (.aload_n 0, 1) := by decide +kernel
theorem dX6_remove_24 : decode cX6_remove 24 = .ok (.getfield 15, 3) := by decide +kernel
theorem dX6_remove_27 : decode cX6_remove 27 = .ok (.iload_n 1, 1) := by decide +kernel
theorem dX6_remove_28 : decode cX6_remove 28 = .ok (.aload_n 0, 1) := by decide +kernel
theorem dX6_remove_29 : decode cX6_remove 29 = .ok (.getfield 19, 3) := by decide +kernel
theorem dX6_remove_32 : decode cX6_remove 32 = .ok (.iload_n 2, 1) := by decide +kernel
theorem dX6_remove_33 : decode cX6_remove 33 = .ok (.isub, 1) := by decide +kernel
theorem dX6_remove_34 : decode cX6_remove 34 = .ok (.invokestatic 71, 3) := by decide +kernel
theorem dX6_remove_37 : decode cX6_remove 37 = .ok (.aload_n 0, 1) := by decide +kernel
theorem dX6_remove_38 : decode cX6_remove 38 = .ok (.dup, 1) := by decide +kernel
theorem dX6_remove_39 : decode cX6_remove 39 = .ok (.getfield 19, 3) := by decide +kernel
theorem dX6_remove_42 : decode cX6_remove 42 = .ok (.iload_n 2, 1) := by decide +kernel
theorem dX6_remove_43 : decode cX6_remove 43 = .ok (.iload_n 1, 1) := by decide +kernel
theorem dX6_remove_44 : decode cX6_remove 44 = .ok (.isub, 1) := by decide +kernel
theorem dX6_remove_45 : decode cX6_remove 45 = .ok (.isub, 1) := by decide +kernel
theorem dX6_remove_46 : decode cX6_remove 46 = .ok (.putfield 19, 3) := by decide +kernel
theorem dX6_remove_49 : decode cX6_remove 49 = .ok (.return_, 1) := by decide +kernel
def m_Row_remove (g : Nat) (S : St) (x0 : Nat) (x1 : Int32) (x2 : Int32) : Option St :=
if x1 < 0 then (
  some S
) else (
  if x2 < x1 then (
    some S
  ) else (
    if x2 ≤ (gI S x0 2) then (
      (cpI S (x0 + 24) x2 (x0 + 24) x1 ((gI S x0 2) - x2)).bind fun S_1 =>
      lt (sI S_1 x0 2 ((gI S_1 x0 2) - (x2 - x1))) fun S_2 =>
      some S_2
    ) else (
      some S
    )
  )
)
section S_Row_remove
variable {p : Program} {l : Launch} {e : Env} {s : State} {m : MethodId} {args : Array Value} {below : List Frame} {meth : Method} {c : Code} {H : Heap} {locs : List Loc} {ls : Array Slot} {D : va_G} {T : Cy} {ρ : Nat → Nat} {A : Nat → Prop}
set_option maxRecDepth 100000 in
set_option maxHeartbeats 4000000 in
theorem w_Row_remove_0  {g : Nat} {S : St} {x0 : Nat} {x1 : Int32} {x2 : Int32} (C : CallFix p m c cX6_remove 3 s args tb RX6) (hr : meth.sig.returnType = none) (hk : meth.locks = false) {S' : St} (w : Wn Yc D T ρ S A s H locs) (hl : lv_has ls 3 [(0, .ref (ρ x0)), (1, .int x1), (2, .int x2)]) (ho_x0 : Ob Yc x0 4) (h : m_Row_remove g S x0 x1 x2 = some S') : W p l e (rmN 1 26) s m args below meth c H locs 0 0 (MQ below (Qv Yc D T ρ A S') args s 0 0 A) (F0 m 0 ls []) := by
  unfold m_Row_remove at h
  refine lv_iload_n C.1 C.2.1 dX6_remove_0 rfl (lv_at hl 1 rfl) ?_
  refine lv_if_lt (tgt := 17) C.1 C.2.1 dX6_remove_1 (by decide) (fun hc => ?_) (fun hc => ?_)
  · replace h := ift hc h
    obtain rfl := som h
    exact x_vret C w hr hk dX6_remove_17
  · replace h := iff0 hc h
    refine lv_iload_n C.1 C.2.1 dX6_remove_4 rfl (lv_at hl 1 rfl) ?_
    refine lv_iload_n C.1 C.2.1 dX6_remove_5 rfl (lv_at hl 2 rfl) ?_
    refine lv_icmp_gt (tgt := 17) C.1 C.2.1 dX6_remove_6 (by decide) (fun hc => ?_) (fun hc => ?_)
    · replace h := ift hc h
      obtain rfl := som h
      exact x_vret C w hr hk dX6_remove_17
    · replace h := iff0 hc h
      refine lv_iload_n C.1 C.2.1 dX6_remove_9 rfl (lv_at hl 2 rfl) ?_
      refine lv_aload_n C.1 C.2.1 dX6_remove_10 rfl (lv_at hl 0 rfl) ?_
      refine x_getI C w fX6_19 ho_x0 dX6_remove_11 ?_
      refine lv_icmp_le (tgt := 18) C.1 C.2.1 dX6_remove_14 (by decide) (fun hc => ?_) (fun hc => ?_)
      · replace h := ift hc h
        refine lv_aload_n C.1 C.2.1 dX6_remove_18 rfl (lv_at hl 0 rfl) ?_
        refine x_getC C w (x0 + 24) fX6_15 ho_x0 (crCells ho_x0) dX6_remove_19 ?_
        refine lv_iload_n C.1 C.2.1 dX6_remove_22 rfl (lv_at hl 2 rfl) ?_
        refine lv_aload_n C.1 C.2.1 dX6_remove_23 rfl (lv_at hl 0 rfl) ?_
        refine x_getC C w (x0 + 24) fX6_15 ho_x0 (crCells ho_x0) dX6_remove_24 ?_
        refine lv_iload_n C.1 C.2.1 dX6_remove_27 rfl (lv_at hl 1 rfl) ?_
        refine lv_aload_n C.1 C.2.1 dX6_remove_28 rfl (lv_at hl 0 rfl) ?_
        refine x_getI C w fX6_19 ho_x0 dX6_remove_29 ?_
        refine lv_iload_n C.1 C.2.1 dX6_remove_32 rfl (lv_at hl 2 rfl) ?_
        refine lv_isub C.1 C.2.1 dX6_remove_33 ?_
        obtain ⟨S_1, hS_1, h⟩ := bnd h
        refine x_cpI C w hl.1 ac_X6 (obCells ho_x0) (obCells ho_x0) hS_1 ⟨by decide, by decide⟩ (Nat.le_of_ble_eq_true rfl) dX6_remove_34 (fun H locs w => ?_)
        refine lv_aload_n C.1 C.2.1 dX6_remove_37 rfl (lv_at hl 0 rfl) ?_
        refine lv_dup C.1 C.2.1 dX6_remove_38 rfl ?_
        refine x_getI C w fX6_19 ho_x0 dX6_remove_39 ?_
        refine lv_iload_n C.1 C.2.1 dX6_remove_42 rfl (lv_at hl 2 rfl) ?_
        refine lv_iload_n C.1 C.2.1 dX6_remove_43 rfl (lv_at hl 1 rfl) ?_
        refine lv_isub C.1 C.2.1 dX6_remove_44 ?_
        refine lv_isub C.1 C.2.1 dX6_remove_45 ?_
        obtain ⟨S_2, eS_2, h⟩ := lt_e h
        refine y_putI C w eS_2 fX6_19 pX6_2 ho_x0 dX6_remove_46 (fun H locs w => ?_)
        obtain rfl := som h
        exact x_vret C w hr hk dX6_remove_49
      · replace h := iff0 hc h
        obtain rfl := som h
        exact x_vret C w hr hk dX6_remove_17
end S_Row_remove
set_option maxRecDepth 100000 in
theorem k_Row_remove (l : Launch) (D : va_G) (T : Cy) (ρ : Nat → Nat) (g sz : Nat) (S : St) {x0 : Nat} {x1 : Int32} {x2 : Int32} (ho_x0 : Ob Yc x0 4) {S' : St} (h : m_Row_remove g S x0 x1 x2 = some S') : Mv l Yc D T ρ yX6_remove cX6_remove 3 none 1 26 S S' [.ref (ρ x0), .int x1, .int x2] sz :=
  x_in (by decide) (Nat.le_of_ble_eq_true rfl) (fun p e s m below meth c ls C hr hk w hl => w_Row_remove_0 C hr hk w hl ho_x0 h)

theorem dX2_delete_0 : decode cX2_delete 0 = .ok (.aload_n 0, 1) := by decide +kernel
theorem dX2_delete_1 : decode cX2_delete 1 = .ok (.getfield 9, 3) := by decide +kernel
theorem dX2_delete_4 : decode cX2_delete 4 = .ok (.iconst 1, 1) := by decide +kernel
theorem dX2_delete_5 : decode cX2_delete 5 = .ok (.aload_n 1, 1) := by decide +kernel
theorem dX2_delete_6 : decode cX2_delete 6 = .ok (.getfield 53, 3) := by decide +kernel
theorem dX2_delete_9 : decode cX2_delete 9 = .ok (.invokevirtual 61, 3) := by decide +kernel
theorem dX2_delete_12 : decode cX2_delete 12 = .ok (.istore_n 2, 1) := by decide +kernel
theorem dX2_delete_13 : decode cX2_delete 13 = .ok (.aload_n 1, 1) := by decide +kernel
theorem dX2_delete_14 : decode cX2_delete 14 = .ok (.getfield 53, 3) := by decide +kernel
theorem dX2_delete_17 : decode cX2_delete 17 = .ok (.aload_n 0, 1) := by decide +kernel
theorem dX2_delete_18 : decode cX2_delete 18 = .ok (.getfield 9, 3) := by decide +kernel
theorem dX2_delete_21 : decode cX2_delete 21 = .ok (.iconst 2, 1) := by decide +kernel
theorem dX2_delete_22 : decode cX2_delete 22 = .ok (.aload_n 1, 1) := by decide +kernel
theorem dX2_delete_23 : decode cX2_delete 23 = .ok (.getfield 53, 3) := by decide +kernel
theorem dX2_delete_26 : decode cX2_delete 26 = .ok (.invokevirtual 61, 3) := by decide +kernel
theorem dX2_delete_29 : decode cX2_delete 29 = .ok (.invokestatic 113, 3) := by decide +kernel
theorem dX2_delete_32 : decode cX2_delete 32 = .ok (.istore_n 3, 1) := by decide +kernel
theorem dX2_delete_33 : decode cX2_delete 33 = .ok (.iload_n 2, 1) := by decide +kernel
theorem dX2_delete_34 : decode cX2_delete 34 = .ok (.ifCond .lt 8, 3) := by decide +kernel
theorem dX2_delete_37 : decode cX2_delete 37 = .ok (.iload_n 2, 1) := by decide +kernel
theorem dX2_delete_38 : decode cX2_delete 38 = .ok (.iload_n 3, 1) := by decide +kernel
theorem dX2_delete_39 : decode cX2_delete 39 = .ok (.if_icmp .le 5, 3) := by decide +kernel
theorem dX2_delete_42 : decode cX2_delete 42 = .ok (.iconst 1, 1) := by decide +kernel
theorem dX2_delete_43 : decode cX2_delete 43 = .ok (.ireturn, 1) := by decide +kernel
theorem dX2_delete_44 : decode cX2_delete 44 = .ok (.aload_n 1, 1) := by decide +kernel
theorem dX2_delete_45 : decode cX2_delete 45 = .ok (.iload_n 2, 1) := by decide +kernel
theorem dX2_delete_46 : decode cX2_delete 46 = .ok (.iload_n 3, 1) := by decide +kernel
theorem dX2_delete_47 : decode cX2_delete 47 = .ok (.invokevirtual 116, 3) := by decide +kernel
theorem dX2_delete_50 : decode cX2_delete 50 = .ok (.iconst 0, 1) := by decide +kernel
theorem dX2_delete_51 : decode cX2_delete 51 = .ok (.ireturn, 1) := by decide +kernel
def m_BS_delete (g : Nat) (S : St) (x1 : Nat) : Option (St × Int32) :=
(m_Bn_placeAt g S (1 : Int32) (gI S x1 2)).bind fun v_1 =>
(m_Bn_placeAt g S (2 : Int32) (gI S x1 2)).bind fun v_2 =>
lt (minI (gI S x1 2) v_2) fun x3_3 =>
if v_1 < 0 then (
  some (S, (1 : Int32))
) else (
  if v_1 ≤ x3_3 then (
    (m_Row_remove g S x1 v_1 x3_3).bind fun S_4 =>
    some (S_4, (0 : Int32))
  ) else (
    some (S, (1 : Int32))
  )
)
section S_BS_delete
variable {p : Program} {l : Launch} {e : Env} {s : State} {m : MethodId} {args : Array Value} {below : List Frame} {meth : Method} {c : Code} {H : Heap} {locs : List Loc} {ls : Array Slot} {D : va_G} {T : Cy} {ρ : Nat → Nat} {A : Nat → Prop}
set_option maxRecDepth 100000 in
set_option maxHeartbeats 4000000 in
theorem w_BS_delete_0  {g : Nat} {S : St} {x1 : Nat} (C : CallFix p m c cX2_delete 4 s args tb RX2) (hr : meth.sig.returnType = (some .int)) (hk : meth.locks = false) {S' : St} {r : Int32} (w : Wn Yc D T ρ S A s H locs) (hl : lv_has ls 4 [(0, .ref (ρ 9)), (1, .ref (ρ x1))]) (ho_x1 : Ob Yc x1 4) (h : m_BS_delete g S x1 = some (S', r)) : W p l e (rmN 3 66) s m args below meth c H locs 0 0 (MQ below (Qi Yc D T ρ A S' r) args s 0 0 A) (F0 m 0 ls []) := by
  unfold m_BS_delete at h
  refine lv_aload_n C.1 C.2.1 dX2_delete_0 rfl (lv_at hl 0 rfl) ?_
  refine x_getC C w 4 fX2_9 obC9 rfl dX2_delete_1 ?_
  refine lv_iconst (v := 1) C.1 C.2.1 dX2_delete_4 (by decide) ?_
  refine lv_aload_n C.1 C.2.1 dX2_delete_5 rfl (lv_at hl 1 rfl) ?_
  refine x_getI C w fX2_53 ho_x1 dX2_delete_6 ?_
  obtain ⟨v_1, hv_1, h⟩ := bnd h
  refine x_callVi (q := (RX1, TX1, 12)) (As := [.int (1 : Int32), .int (gI S x1 2)]) (rest := []) C w (k_Bn_placeAt l D T ρ g H.size S hv_1) vX2_61 ⟨by decide, by decide⟩ obC4 (by decide) rfl rfl rfl hl.1 (Nat.le_of_ble_eq_true rfl) ⟨Nat.zero_le _, Nat.zero_le _⟩ dX2_delete_9 (fun H locs w => ?_)
  refine lv_istore_n (lv' := [(2, .int v_1), (0, .ref (ρ 9)), (1, .ref (ρ x1))]) C.1 C.2.1 dX2_delete_12 rfl hl (by decide) rfl (fun ls hl => ?_)
  refine lv_aload_n C.1 C.2.1 dX2_delete_13 rfl (lv_at hl 2 rfl) ?_
  refine x_getI C w fX2_53 ho_x1 dX2_delete_14 ?_
  refine lv_aload_n C.1 C.2.1 dX2_delete_17 rfl (lv_at hl 1 rfl) ?_
  refine x_getC C w 4 fX2_9 obC9 rfl dX2_delete_18 ?_
  refine lv_iconst (v := 2) C.1 C.2.1 dX2_delete_21 (by decide) ?_
  refine lv_aload_n C.1 C.2.1 dX2_delete_22 rfl (lv_at hl 2 rfl) ?_
  refine x_getI C w fX2_53 ho_x1 dX2_delete_23 ?_
  obtain ⟨v_2, hv_2, h⟩ := bnd h
  refine x_callVi (q := (RX1, TX1, 12)) (As := [.int (2 : Int32), .int (gI S x1 2)]) (rest := [.int (gI S x1 2)]) C w (k_Bn_placeAt l D T ρ g H.size S hv_2) vX2_61 ⟨by decide, by decide⟩ obC4 (by decide) rfl rfl rfl hl.1 (Nat.le_of_ble_eq_true rfl) ⟨Nat.zero_le _, Nat.zero_le _⟩ dX2_delete_26 (fun H locs w => ?_)
  refine x_minI C hl.1 vX2_113.1 ⟨by decide, by decide⟩ (Nat.le_of_ble_eq_true rfl) ⟨Nat.zero_le _, Nat.zero_le _⟩ dX2_delete_29 ?_
  obtain ⟨x3_3, ex3_3, h⟩ := lt_e h
  refine x_nm ex3_3 ?_
  refine lv_istore_n (lv' := [(3, .int x3_3), (2, .int v_1), (0, .ref (ρ 9)), (1, .ref (ρ x1))]) C.1 C.2.1 dX2_delete_32 rfl hl (by decide) rfl (fun ls hl => ?_)
  refine lv_iload_n C.1 C.2.1 dX2_delete_33 rfl (lv_at hl 1 rfl) ?_
  refine lv_if_lt (tgt := 42) C.1 C.2.1 dX2_delete_34 (by decide) (fun hc => ?_) (fun hc => ?_)
  · replace h := ift hc h
    refine lv_iconst (v := 1) C.1 C.2.1 dX2_delete_42 (by decide) ?_
    obtain ⟨rfl, rfl⟩ := prI h
    exact x_iret C w hr hk dX2_delete_43
  · replace h := iff0 hc h
    refine lv_iload_n C.1 C.2.1 dX2_delete_37 rfl (lv_at hl 1 rfl) ?_
    refine lv_iload_n C.1 C.2.1 dX2_delete_38 rfl (lv_at hl 0 rfl) ?_
    refine lv_icmp_le (tgt := 44) C.1 C.2.1 dX2_delete_39 (by decide) (fun hc => ?_) (fun hc => ?_)
    · replace h := ift hc h
      refine lv_aload_n C.1 C.2.1 dX2_delete_44 rfl (lv_at hl 3 rfl) ?_
      refine lv_iload_n C.1 C.2.1 dX2_delete_45 rfl (lv_at hl 1 rfl) ?_
      refine lv_iload_n C.1 C.2.1 dX2_delete_46 rfl (lv_at hl 0 rfl) ?_
      obtain ⟨S_4, hS_4, h⟩ := bnd h
      refine x_callVv (q := (RX6, TX6, 4)) (As := [.int v_1, .int x3_3]) (rest := []) C w (k_Row_remove l D T ρ g H.size S ho_x1 hS_4) vX2_116 ⟨by decide, by decide⟩ ho_x1 (by decide) rfl rfl rfl hl.1 (Nat.le_of_ble_eq_true rfl) ⟨Nat.zero_le _, Nat.zero_le _⟩ dX2_delete_47 (fun H locs w => ?_)
      refine lv_iconst (v := 0) C.1 C.2.1 dX2_delete_50 (by decide) ?_
      obtain ⟨rfl, rfl⟩ := prI h
      exact x_iret C w hr hk dX2_delete_51
    · replace h := iff0 hc h
      refine lv_iconst (v := 1) C.1 C.2.1 dX2_delete_42 (by decide) ?_
      obtain ⟨rfl, rfl⟩ := prI h
      exact x_iret C w hr hk dX2_delete_43
end S_BS_delete
set_option maxRecDepth 100000 in
theorem k_BS_delete (l : Launch) (D : va_G) (T : Cy) (ρ : Nat → Nat) (g sz : Nat) (S : St) {x1 : Nat} (ho_x1 : Ob Yc x1 4) {S' : St} {r : Int32} (h : m_BS_delete g S x1 = some (S', r)) : Mi l Yc D T ρ yX2_delete cX2_delete 4 (some .int) 3 66 S S' r [.ref (ρ 9), .ref (ρ x1)] sz :=
  x_in (by decide) (Nat.le_of_ble_eq_true rfl) (fun p e s m below meth c ls C hr hk w hl => w_BS_delete_0 C hr hk w hl ho_x1 h)

theorem dX3_isUnit_0 : decode cX3_isUnit 0 = .ok (.lload_n 0, 1) := by decide +kernel
theorem dX3_isUnit_1 : decode cX3_isUnit 1 = .ok (.lconst 0, 1) := by decide +kernel
theorem dX3_isUnit_2 : decode cX3_isUnit 2 = .ok (.lcmp, 1) := by decide +kernel
theorem dX3_isUnit_3 : decode cX3_isUnit 3 = .ok (.ifCond .lt 15, 3) := by decide +kernel
theorem dX3_isUnit_6 : decode cX3_isUnit 6 = .ok (.lload_n 0, 1) := by decide +kernel
theorem dX3_isUnit_7 : decode cX3_isUnit 7 = .ok (.ldc2_w 14, 3) := by decide +kernel
theorem dX3_isUnit_10 : decode cX3_isUnit 10 = .ok (.lcmp, 1) := by decide +kernel
theorem dX3_isUnit_11 : decode cX3_isUnit 11 = .ok (.ifCond .gt 7, 3) := by decide +kernel
theorem dX3_isUnit_14 : decode cX3_isUnit 14 = .ok (.iconst 1, 1) := by decide +kernel
theorem dX3_isUnit_15 : decode cX3_isUnit 15 = .ok (.goto 4, 3) := by decide +kernel
theorem dX3_isUnit_18 : decode cX3_isUnit 18 = .ok (.iconst 0, 1) := by decide +kernel
theorem dX3_isUnit_19 : decode cX3_isUnit 19 = .ok (.ireturn, 1) := by decide +kernel
def m_Lt_isUnit (g : Nat) (x0 : Int64) : Option Int32 :=
if x0 < (0 : Int64) then (
  some (0 : Int32)
) else (
  if (65535 : Int64) < x0 then (
    some (0 : Int32)
  ) else (
    some (1 : Int32)
  )
)
section S_Lt_isUnit
variable {p : Program} {l : Launch} {e : Env} {s : State} {m : MethodId} {args : Array Value} {below : List Frame} {meth : Method} {c : Code} {H : Heap} {locs : List Loc} {ls : Array Slot} {D : va_G} {T : Cy} {ρ : Nat → Nat} {A : Nat → Prop}
set_option maxRecDepth 100000 in
set_option maxHeartbeats 4000000 in
theorem w_Lt_isUnit_0  {g : Nat} {S : St} {x0 : Int64} (C : CallFix p m c cX3_isUnit 2 s args tb RX3) (hr : meth.sig.returnType = (some .boolean)) (hk : meth.locks = false) {r : Int32} (w : Wn Yc D T ρ S A s H locs) (hl : lv_has ls 2 [(0, .long x0)]) (h : m_Lt_isUnit g x0 = some r) : W p l e (rmN 0 0) s m args below meth c H locs 0 0 (MQ below (Qi Yc D T ρ A S r) args s 0 0 A) (F0 m 0 ls []) := by
  unfold m_Lt_isUnit at h
  refine lv_lload_n C.1 C.2.1 dX3_isUnit_0 rfl (lv_at hl 0 rfl) ?_
  refine lv_lconst (v := 0) C.1 C.2.1 dX3_isUnit_1 (by decide) ?_
  refine x_l_lt (tgt := 18) C dX3_isUnit_2 dX3_isUnit_3 (by decide) (fun hc => ?_) (fun hc => ?_)
  · replace h := ift hc h
    refine lv_iconst (v := 0) C.1 C.2.1 dX3_isUnit_18 (by decide) ?_
    obtain rfl := som h
    exact x_zret C w hr hk (by decide) dX3_isUnit_19
  · replace h := iff0 hc h
    refine lv_lload_n C.1 C.2.1 dX3_isUnit_6 rfl (lv_at hl 0 rfl) ?_
    refine lv_ldc2 C.1 C.2.1 C.2.2.2.1 (C.2.2.2.2 _ nX3_14) dX3_isUnit_7 ?_
    refine x_l_gt (tgt := 18) C dX3_isUnit_10 dX3_isUnit_11 (by decide) (fun hc => ?_) (fun hc => ?_)
    · replace h := ift hc h
      refine lv_iconst (v := 0) C.1 C.2.1 dX3_isUnit_18 (by decide) ?_
      obtain rfl := som h
      exact x_zret C w hr hk (by decide) dX3_isUnit_19
    · replace h := iff0 hc h
      refine lv_iconst (v := 1) C.1 C.2.1 dX3_isUnit_14 (by decide) ?_
      refine lv_goto (tgt := 19) C.1 C.2.1 dX3_isUnit_15 (by decide) ?_
      obtain rfl := som h
      exact x_zret C w hr hk (by decide) dX3_isUnit_19
end S_Lt_isUnit
set_option maxRecDepth 100000 in
theorem k_Lt_isUnit (l : Launch) (D : va_G) (T : Cy) (ρ : Nat → Nat) (g sz : Nat) (S : St) {x0 : Int64} {r : Int32} (h : m_Lt_isUnit g x0 = some r) : Mi l Yc D T ρ yX3_isUnit cX3_isUnit 2 (some .boolean) 0 0 S S r [.long x0] sz :=
  x_in (by decide) (Nat.le_of_ble_eq_true rfl) (fun p e s m below meth c ls C hr hk w hl => w_Lt_isUnit_0 C hr hk w hl h)

theorem dX6_change_0 : decode cX6_change 0 = .ok (.iload_n 1, 1) := by decide +kernel
theorem dX6_change_1 : decode cX6_change 1 = .ok (.ifCond .lt 18, 3) := by decide +kernel
theorem dX6_change_4 : decode cX6_change 4 = .ok (.iload_n 1, 1) := by decide +kernel
theorem dX6_change_5 : decode cX6_change 5 = .ok (.aload_n 0, 1) := by decide +kernel
theorem dX6_change_6 : decode cX6_change 6 = .ok (.getfield 19, 3) := by decide +kernel
theorem dX6_change_9 : decode cX6_change 9 = .ok (.if_icmp .ge 10, 3) := by decide +kernel
theorem dX6_change_12 : decode cX6_change 12 = .ok (.aload_n 0, 1) := by decide +kernel
theorem dX6_change_13 : decode cX6_change 13 = .ok (.getfield 15, 3) := by decide +kernel
theorem dX6_change_16 : decode cX6_change 16 = .ok (.iload_n 1, 1) := by decide +kernel
theorem dX6_change_17 : decode cX6_change 17 = .ok (.iload_n 2, 1) := by decide +kernel
theorem dX6_change_18 : decode cX6_change 18 = .ok (.iastore, 1) := by decide +kernel
theorem dX6_change_19 : decode cX6_change 19 = .ok (.return_, 1) := by decide +kernel
def m_Row_change (g : Nat) (S : St) (x0 : Nat) (x1 : Int32) (x2 : Int32) : Option St :=
if x1 < 0 then (
  some S
) else (
  if (gI S x0 2) ≤ x1 then (
    some S
  ) else (
    (tI S (x0 + 24) x1 x2).bind fun S_1 =>
    some S_1
  )
)
section S_Row_change
variable {p : Program} {l : Launch} {e : Env} {s : State} {m : MethodId} {args : Array Value} {below : List Frame} {meth : Method} {c : Code} {H : Heap} {locs : List Loc} {ls : Array Slot} {D : va_G} {T : Cy} {ρ : Nat → Nat} {A : Nat → Prop}
set_option maxRecDepth 100000 in
set_option maxHeartbeats 4000000 in
theorem w_Row_change_0  {g : Nat} {S : St} {x0 : Nat} {x1 : Int32} {x2 : Int32} (C : CallFix p m c cX6_change 3 s args tb RX6) (hr : meth.sig.returnType = none) (hk : meth.locks = false) {S' : St} (w : Wn Yc D T ρ S A s H locs) (hl : lv_has ls 3 [(0, .ref (ρ x0)), (1, .int x1), (2, .int x2)]) (ho_x0 : Ob Yc x0 4) (h : m_Row_change g S x0 x1 x2 = some S') : W p l e (rmN 0 0) s m args below meth c H locs 0 0 (MQ below (Qv Yc D T ρ A S') args s 0 0 A) (F0 m 0 ls []) := by
  unfold m_Row_change at h
  refine lv_iload_n C.1 C.2.1 dX6_change_0 rfl (lv_at hl 1 rfl) ?_
  refine lv_if_lt (tgt := 19) C.1 C.2.1 dX6_change_1 (by decide) (fun hc => ?_) (fun hc => ?_)
  · replace h := ift hc h
    obtain rfl := som h
    exact x_vret C w hr hk dX6_change_19
  · replace h := iff0 hc h
    refine lv_iload_n C.1 C.2.1 dX6_change_4 rfl (lv_at hl 1 rfl) ?_
    refine lv_aload_n C.1 C.2.1 dX6_change_5 rfl (lv_at hl 0 rfl) ?_
    refine x_getI C w fX6_19 ho_x0 dX6_change_6 ?_
    refine lv_icmp_ge (tgt := 19) C.1 C.2.1 dX6_change_9 (by decide) (fun hc => ?_) (fun hc => ?_)
    · replace h := ift hc h
      obtain rfl := som h
      exact x_vret C w hr hk dX6_change_19
    · replace h := iff0 hc h
      refine lv_aload_n C.1 C.2.1 dX6_change_12 rfl (lv_at hl 0 rfl) ?_
      refine x_getC C w (x0 + 24) fX6_15 ho_x0 (crCells ho_x0) dX6_change_13 ?_
      refine lv_iload_n C.1 C.2.1 dX6_change_16 rfl (lv_at hl 1 rfl) ?_
      refine lv_iload_n C.1 C.2.1 dX6_change_17 rfl (lv_at hl 2 rfl) ?_
      obtain ⟨S_1, hS_1, h⟩ := bnd h
      refine x_iast C w (obCells ho_x0) hS_1 dX6_change_18 (fun H locs w => ?_)
      obtain rfl := som h
      exact x_vret C w hr hk dX6_change_19
end S_Row_change
set_option maxRecDepth 100000 in
theorem k_Row_change (l : Launch) (D : va_G) (T : Cy) (ρ : Nat → Nat) (g sz : Nat) (S : St) {x0 : Nat} {x1 : Int32} {x2 : Int32} (ho_x0 : Ob Yc x0 4) {S' : St} (h : m_Row_change g S x0 x1 x2 = some S') : Mv l Yc D T ρ yX6_change cX6_change 3 none 0 0 S S' [.ref (ρ x0), .int x1, .int x2] sz :=
  x_in (by decide) (Nat.le_of_ble_eq_true rfl) (fun p e s m below meth c ls C hr hk w hl => w_Row_change_0 C hr hk w hl ho_x0 h)

theorem dX2_put_0 : decode cX2_put 0 = .ok (.aload_n 0, 1) := by decide +kernel
theorem dX2_put_1 : decode cX2_put 1 = .ok (.getfield 9, 3) := by decide +kernel
theorem dX2_put_4 : decode cX2_put 4 = .ok (.iconst 1, 1) := by decide +kernel
theorem dX2_put_5 : decode cX2_put 5 = .ok (.aload_n 1, 1) := by decide +kernel
theorem dX2_put_6 : decode cX2_put 6 = .ok (.getfield 53, 3) := by decide +kernel
theorem dX2_put_9 : decode cX2_put 9 = .ok (.invokevirtual 61, 3) := by decide +kernel
theorem dX2_put_12 : decode cX2_put 12 = .ok (.istore_n 2, 1) := by decide +kernel
theorem dX2_put_13 : decode cX2_put 13 = .ok (.aload_n 0, 1) := by decide +kernel
theorem dX2_put_14 : decode cX2_put 14 = .ok (.getfield 9, 3) := by decide +kernel
theorem dX2_put_17 : decode cX2_put 17 = .ok (.iconst 2, 1) := by decide +kernel
theorem dX2_put_18 : decode cX2_put 18 = .ok (.invokevirtual 78, 3) := by decide +kernel
theorem dX2_put_21 : decode cX2_put 21 = .ok (.lstore_n 3, 1) := by decide +kernel
theorem dX2_put_22 : decode cX2_put 22 = .ok (.iload_n 2, 1) := by decide +kernel
theorem dX2_put_23 : decode cX2_put 23 = .ok (.ifCond .lt 11, 3) := by decide +kernel
theorem dX2_put_26 : decode cX2_put 26 = .ok (.iload_n 2, 1) := by decide +kernel
theorem dX2_put_27 : decode cX2_put 27 = .ok (.aload_n 1, 1) := by decide +kernel
theorem dX2_put_28 : decode cX2_put 28 = .ok (.getfield 53, 3) := by decide +kernel
theorem dX2_put_31 : decode cX2_put 31 = .ok (.if_icmp .lt 5, 3) := by decide +kernel
theorem dX2_put_34 : decode cX2_put 34 = .ok (.iconst 1, 1) := by decide +kernel
theorem dX2_put_35 : decode cX2_put 35 = .ok (.ireturn, 1) := by decide +kernel
theorem dX2_put_36 : decode cX2_put 36 = .ok (.lload_n 3, 1) := by decide +kernel
theorem dX2_put_37 : decode cX2_put 37 = .ok (.invokestatic 120, 3) := by decide +kernel
theorem dX2_put_40 : decode cX2_put 40 = .ok (.ifCond .ne 5, 3) := by decide +kernel
theorem dX2_put_43 : decode cX2_put 43 = .ok (.iconst 3, 1) := by decide +kernel
theorem dX2_put_44 : decode cX2_put 44 = .ok (.ireturn, 1) := by decide +kernel
theorem dX2_put_45 : decode cX2_put 45 = .ok (.aload_n 1, 1) := by decide +kernel
theorem dX2_put_46 : decode cX2_put 46 = .ok (.iload_n 2, 1) := by decide +kernel
theorem dX2_put_47 : decode cX2_put 47 = .ok (.lload_n 3, 1) := by decide +kernel
theorem dX2_put_48 : decode cX2_put 48 = .ok (.l2i, 1) := by decide +kernel
theorem dX2_put_49 : decode cX2_put 49 = .ok (.invokevirtual 126, 3) := by decide +kernel
theorem dX2_put_52 : decode cX2_put 52 = .ok (.iconst 0, 1) := by decide +kernel
theorem dX2_put_53 : decode cX2_put 53 = .ok (.ireturn, 1) := by decide +kernel
def m_BS_put (g : Nat) (S : St) (x1 : Nat) : Option (St × Int32) :=
(m_Bn_placeAt g S (1 : Int32) (gI S x1 2)).bind fun v_1 =>
(m_Bn_wholeAt g S (2 : Int32)).bind fun v_2 =>
if v_1 < 0 then (
  some (S, (1 : Int32))
) else (
  if v_1 < (gI S x1 2) then (
    (m_Lt_isUnit g v_2).bind fun v_3 =>
    if v_3 = 0 then (
      some (S, (3 : Int32))
    ) else (
      (m_Row_change g S x1 v_1 (v_2.toInt32)).bind fun S_4 =>
      some (S_4, (0 : Int32))
    )
  ) else (
    some (S, (1 : Int32))
  )
)
section S_BS_put
variable {p : Program} {l : Launch} {e : Env} {s : State} {m : MethodId} {args : Array Value} {below : List Frame} {meth : Method} {c : Code} {H : Heap} {locs : List Loc} {ls : Array Slot} {D : va_G} {T : Cy} {ρ : Nat → Nat} {A : Nat → Prop}
set_option maxRecDepth 100000 in
set_option maxHeartbeats 4000000 in
theorem w_BS_put_0  {g : Nat} {S : St} {x1 : Nat} (C : CallFix p m c cX2_put 5 s args tb RX2) (hr : meth.sig.returnType = (some .int)) (hk : meth.locks = false) {S' : St} {r : Int32} (w : Wn Yc D T ρ S A s H locs) (hl : lv_has ls 5 [(0, .ref (ρ 9)), (1, .ref (ρ x1))]) (ho_x1 : Ob Yc x1 4) (h : m_BS_put g S x1 = some (S', r)) : W p l e (rmN 3 66) s m args below meth c H locs 0 0 (MQ below (Qi Yc D T ρ A S' r) args s 0 0 A) (F0 m 0 ls []) := by
  unfold m_BS_put at h
  refine lv_aload_n C.1 C.2.1 dX2_put_0 rfl (lv_at hl 0 rfl) ?_
  refine x_getC C w 4 fX2_9 obC9 rfl dX2_put_1 ?_
  refine lv_iconst (v := 1) C.1 C.2.1 dX2_put_4 (by decide) ?_
  refine lv_aload_n C.1 C.2.1 dX2_put_5 rfl (lv_at hl 1 rfl) ?_
  refine x_getI C w fX2_53 ho_x1 dX2_put_6 ?_
  obtain ⟨v_1, hv_1, h⟩ := bnd h
  refine x_callVi (q := (RX1, TX1, 12)) (As := [.int (1 : Int32), .int (gI S x1 2)]) (rest := []) C w (k_Bn_placeAt l D T ρ g H.size S hv_1) vX2_61 ⟨by decide, by decide⟩ obC4 (by decide) rfl rfl rfl hl.1 (Nat.le_of_ble_eq_true rfl) ⟨Nat.zero_le _, Nat.zero_le _⟩ dX2_put_9 (fun H locs w => ?_)
  refine lv_istore_n (lv' := [(2, .int v_1), (0, .ref (ρ 9)), (1, .ref (ρ x1))]) C.1 C.2.1 dX2_put_12 rfl hl (by decide) rfl (fun ls hl => ?_)
  refine lv_aload_n C.1 C.2.1 dX2_put_13 rfl (lv_at hl 1 rfl) ?_
  refine x_getC C w 4 fX2_9 obC9 rfl dX2_put_14 ?_
  refine lv_iconst (v := 2) C.1 C.2.1 dX2_put_17 (by decide) ?_
  obtain ⟨v_2, hv_2, h⟩ := bnd h
  refine x_callVj (q := (RX1, TX1, 12)) (As := [.int (2 : Int32)]) (rest := []) C w (k_Bn_wholeAt l D T ρ g H.size S hv_2) vX2_78 ⟨by decide, by decide⟩ obC4 (by decide) rfl rfl rfl hl.1 (Nat.le_of_ble_eq_true rfl) ⟨Nat.zero_le _, Nat.zero_le _⟩ dX2_put_18 (fun H locs w => ?_)
  refine lv_lstore_n (lv' := [(3, .long v_2), (2, .int v_1), (0, .ref (ρ 9)), (1, .ref (ρ x1))]) C.1 C.2.1 dX2_put_21 rfl hl (by decide) rfl (fun ls hl => ?_)
  refine lv_iload_n C.1 C.2.1 dX2_put_22 rfl (lv_at hl 1 rfl) ?_
  refine lv_if_lt (tgt := 34) C.1 C.2.1 dX2_put_23 (by decide) (fun hc => ?_) (fun hc => ?_)
  · replace h := ift hc h
    refine lv_iconst (v := 1) C.1 C.2.1 dX2_put_34 (by decide) ?_
    obtain ⟨rfl, rfl⟩ := prI h
    exact x_iret C w hr hk dX2_put_35
  · replace h := iff0 hc h
    refine lv_iload_n C.1 C.2.1 dX2_put_26 rfl (lv_at hl 1 rfl) ?_
    refine lv_aload_n C.1 C.2.1 dX2_put_27 rfl (lv_at hl 3 rfl) ?_
    refine x_getI C w fX2_53 ho_x1 dX2_put_28 ?_
    refine lv_icmp_lt (tgt := 36) C.1 C.2.1 dX2_put_31 (by decide) (fun hc => ?_) (fun hc => ?_)
    · replace h := ift hc h
      refine lv_lload_n C.1 C.2.1 dX2_put_36 rfl (lv_at hl 0 rfl) ?_
      obtain ⟨v_3, hv_3, h⟩ := bnd h
      refine x_callSi (As := [.long v_2]) (rest := []) C w (k_Lt_isUnit l D T ρ g H.size S hv_3) vX2_120 ⟨by decide, by decide⟩ rfl rfl hl.1 (Nat.le_of_ble_eq_true rfl) ⟨Nat.zero_le _, Nat.zero_le _⟩ dX2_put_37 (fun H locs w => ?_)
      refine lv_if_ne (tgt := 45) C.1 C.2.1 dX2_put_40 (by decide) (fun hc => ?_) (fun hc => ?_)
      · replace h := iff0 hc h
        refine lv_aload_n C.1 C.2.1 dX2_put_45 rfl (lv_at hl 3 rfl) ?_
        refine lv_iload_n C.1 C.2.1 dX2_put_46 rfl (lv_at hl 1 rfl) ?_
        refine lv_lload_n C.1 C.2.1 dX2_put_47 rfl (lv_at hl 0 rfl) ?_
        refine lv_l2i C.1 C.2.1 dX2_put_48 rfl ?_
        obtain ⟨S_4, hS_4, h⟩ := bnd h
        refine x_callVv (q := (RX6, TX6, 4)) (As := [.int v_1, .int (v_2.toInt32)]) (rest := []) C w (k_Row_change l D T ρ g H.size S ho_x1 hS_4) vX2_126 ⟨by decide, by decide⟩ ho_x1 (by decide) rfl rfl rfl hl.1 (Nat.le_of_ble_eq_true rfl) ⟨Nat.zero_le _, Nat.zero_le _⟩ dX2_put_49 (fun H locs w => ?_)
        refine lv_iconst (v := 0) C.1 C.2.1 dX2_put_52 (by decide) ?_
        obtain ⟨rfl, rfl⟩ := prI h
        exact x_iret C w hr hk dX2_put_53
      · replace h := ift hc h
        refine lv_iconst (v := 3) C.1 C.2.1 dX2_put_43 (by decide) ?_
        obtain ⟨rfl, rfl⟩ := prI h
        exact x_iret C w hr hk dX2_put_44
    · replace h := iff0 hc h
      refine lv_iconst (v := 1) C.1 C.2.1 dX2_put_34 (by decide) ?_
      obtain ⟨rfl, rfl⟩ := prI h
      exact x_iret C w hr hk dX2_put_35
end S_BS_put
set_option maxRecDepth 100000 in
theorem k_BS_put (l : Launch) (D : va_G) (T : Cy) (ρ : Nat → Nat) (g sz : Nat) (S : St) {x1 : Nat} (ho_x1 : Ob Yc x1 4) {S' : St} {r : Int32} (h : m_BS_put g S x1 = some (S', r)) : Mi l Yc D T ρ yX2_put cX2_put 5 (some .int) 3 66 S S' r [.ref (ρ 9), .ref (ρ x1)] sz :=
  x_in (by decide) (Nat.le_of_ble_eq_true rfl) (fun p e s m below meth c ls C hr hk w hl => w_BS_put_0 C hr hk w hl ho_x1 h)

theorem dX3_isHigh_0 : decode cX3_isHigh 0 = .ok (.iload_n 0, 1) := by decide +kernel
theorem dX3_isHigh_1 : decode cX3_isHigh 1 = .ok (.ldc 9, 2) := by decide +kernel
theorem dX3_isHigh_3 : decode cX3_isHigh 3 = .ok (.if_icmp .lt 13, 3) := by decide +kernel
theorem dX3_isHigh_6 : decode cX3_isHigh 6 = .ok (.iload_n 0, 1) := by decide +kernel
theorem dX3_isHigh_7 : decode cX3_isHigh 7 = .ok (.ldc 10, 2) := by decide +kernel
theorem dX3_isHigh_9 : decode cX3_isHigh 9 = .ok (.if_icmp .gt 7, 3) := by decide +kernel
theorem dX3_isHigh_12 : decode cX3_isHigh 12 = .ok (.iconst 1, 1) := by decide +kernel
theorem dX3_isHigh_13 : decode cX3_isHigh 13 = .ok (.goto 4, 3) := by decide +kernel
theorem dX3_isHigh_16 : decode cX3_isHigh 16 = .ok (.iconst 0, 1) := by decide +kernel
theorem dX3_isHigh_17 : decode cX3_isHigh 17 = .ok (.ireturn, 1) := by decide +kernel
def m_Lt_isHigh (g : Nat) (x0 : Int32) : Option Int32 :=
if x0 < (55296 : Int32) then (
  some (0 : Int32)
) else (
  if (56319 : Int32) < x0 then (
    some (0 : Int32)
  ) else (
    some (1 : Int32)
  )
)
section S_Lt_isHigh
variable {p : Program} {l : Launch} {e : Env} {s : State} {m : MethodId} {args : Array Value} {below : List Frame} {meth : Method} {c : Code} {H : Heap} {locs : List Loc} {ls : Array Slot} {D : va_G} {T : Cy} {ρ : Nat → Nat} {A : Nat → Prop}
set_option maxRecDepth 100000 in
set_option maxHeartbeats 4000000 in
theorem w_Lt_isHigh_0  {g : Nat} {S : St} {x0 : Int32} (C : CallFix p m c cX3_isHigh 1 s args tb RX3) (hr : meth.sig.returnType = (some .boolean)) (hk : meth.locks = false) {r : Int32} (w : Wn Yc D T ρ S A s H locs) (hl : lv_has ls 1 [(0, .int x0)]) (h : m_Lt_isHigh g x0 = some r) : W p l e (rmN 0 0) s m args below meth c H locs 0 0 (MQ below (Qi Yc D T ρ A S r) args s 0 0 A) (F0 m 0 ls []) := by
  unfold m_Lt_isHigh at h
  refine lv_iload_n C.1 C.2.1 dX3_isHigh_0 rfl (lv_at hl 0 rfl) ?_
  refine lv_ldc C.1 C.2.1 C.2.2.2.1 (C.2.2.2.2 _ nX3_9) dX3_isHigh_1 ?_
  refine lv_icmp_lt (tgt := 16) C.1 C.2.1 dX3_isHigh_3 (by decide) (fun hc => ?_) (fun hc => ?_)
  · replace h := ift hc h
    refine lv_iconst (v := 0) C.1 C.2.1 dX3_isHigh_16 (by decide) ?_
    obtain rfl := som h
    exact x_zret C w hr hk (by decide) dX3_isHigh_17
  · replace h := iff0 hc h
    refine lv_iload_n C.1 C.2.1 dX3_isHigh_6 rfl (lv_at hl 0 rfl) ?_
    refine lv_ldc C.1 C.2.1 C.2.2.2.1 (C.2.2.2.2 _ nX3_10) dX3_isHigh_7 ?_
    refine lv_icmp_gt (tgt := 16) C.1 C.2.1 dX3_isHigh_9 (by decide) (fun hc => ?_) (fun hc => ?_)
    · replace h := ift hc h
      refine lv_iconst (v := 0) C.1 C.2.1 dX3_isHigh_16 (by decide) ?_
      obtain rfl := som h
      exact x_zret C w hr hk (by decide) dX3_isHigh_17
    · replace h := iff0 hc h
      refine lv_iconst (v := 1) C.1 C.2.1 dX3_isHigh_12 (by decide) ?_
      refine lv_goto (tgt := 17) C.1 C.2.1 dX3_isHigh_13 (by decide) ?_
      obtain rfl := som h
      exact x_zret C w hr hk (by decide) dX3_isHigh_17
end S_Lt_isHigh
set_option maxRecDepth 100000 in
theorem k_Lt_isHigh (l : Launch) (D : va_G) (T : Cy) (ρ : Nat → Nat) (g sz : Nat) (S : St) {x0 : Int32} {r : Int32} (h : m_Lt_isHigh g x0 = some r) : Mi l Yc D T ρ yX3_isHigh cX3_isHigh 1 (some .boolean) 0 0 S S r [.int x0] sz :=
  x_in (by decide) (Nat.le_of_ble_eq_true rfl) (fun p e s m below meth c ls C hr hk w hl => w_Lt_isHigh_0 C hr hk w hl h)

theorem dX3_isLow_0 : decode cX3_isLow 0 = .ok (.iload_n 0, 1) := by decide +kernel
theorem dX3_isLow_1 : decode cX3_isLow 1 = .ok (.ldc 11, 2) := by decide +kernel
theorem dX3_isLow_3 : decode cX3_isLow 3 = .ok (.if_icmp .lt 13, 3) := by decide +kernel
theorem dX3_isLow_6 : decode cX3_isLow 6 = .ok (.iload_n 0, 1) := by decide +kernel
theorem dX3_isLow_7 : decode cX3_isLow 7 = .ok (.ldc 12, 2) := by decide +kernel
theorem dX3_isLow_9 : decode cX3_isLow 9 = .ok (.if_icmp .gt 7, 3) := by decide +kernel
theorem dX3_isLow_12 : decode cX3_isLow 12 = .ok (.iconst 1, 1) := by decide +kernel
theorem dX3_isLow_13 : decode cX3_isLow 13 = .ok (.goto 4, 3) := by decide +kernel
theorem dX3_isLow_16 : decode cX3_isLow 16 = .ok (.iconst 0, 1) := by decide +kernel
theorem dX3_isLow_17 : decode cX3_isLow 17 = .ok (.ireturn, 1) := by decide +kernel
def m_Lt_isLow (g : Nat) (x0 : Int32) : Option Int32 :=
if x0 < (56320 : Int32) then (
  some (0 : Int32)
) else (
  if (57343 : Int32) < x0 then (
    some (0 : Int32)
  ) else (
    some (1 : Int32)
  )
)
section S_Lt_isLow
variable {p : Program} {l : Launch} {e : Env} {s : State} {m : MethodId} {args : Array Value} {below : List Frame} {meth : Method} {c : Code} {H : Heap} {locs : List Loc} {ls : Array Slot} {D : va_G} {T : Cy} {ρ : Nat → Nat} {A : Nat → Prop}
set_option maxRecDepth 100000 in
set_option maxHeartbeats 4000000 in
theorem w_Lt_isLow_0  {g : Nat} {S : St} {x0 : Int32} (C : CallFix p m c cX3_isLow 1 s args tb RX3) (hr : meth.sig.returnType = (some .boolean)) (hk : meth.locks = false) {r : Int32} (w : Wn Yc D T ρ S A s H locs) (hl : lv_has ls 1 [(0, .int x0)]) (h : m_Lt_isLow g x0 = some r) : W p l e (rmN 0 0) s m args below meth c H locs 0 0 (MQ below (Qi Yc D T ρ A S r) args s 0 0 A) (F0 m 0 ls []) := by
  unfold m_Lt_isLow at h
  refine lv_iload_n C.1 C.2.1 dX3_isLow_0 rfl (lv_at hl 0 rfl) ?_
  refine lv_ldc C.1 C.2.1 C.2.2.2.1 (C.2.2.2.2 _ nX3_11) dX3_isLow_1 ?_
  refine lv_icmp_lt (tgt := 16) C.1 C.2.1 dX3_isLow_3 (by decide) (fun hc => ?_) (fun hc => ?_)
  · replace h := ift hc h
    refine lv_iconst (v := 0) C.1 C.2.1 dX3_isLow_16 (by decide) ?_
    obtain rfl := som h
    exact x_zret C w hr hk (by decide) dX3_isLow_17
  · replace h := iff0 hc h
    refine lv_iload_n C.1 C.2.1 dX3_isLow_6 rfl (lv_at hl 0 rfl) ?_
    refine lv_ldc C.1 C.2.1 C.2.2.2.1 (C.2.2.2.2 _ nX3_12) dX3_isLow_7 ?_
    refine lv_icmp_gt (tgt := 16) C.1 C.2.1 dX3_isLow_9 (by decide) (fun hc => ?_) (fun hc => ?_)
    · replace h := ift hc h
      refine lv_iconst (v := 0) C.1 C.2.1 dX3_isLow_16 (by decide) ?_
      obtain rfl := som h
      exact x_zret C w hr hk (by decide) dX3_isLow_17
    · replace h := iff0 hc h
      refine lv_iconst (v := 1) C.1 C.2.1 dX3_isLow_12 (by decide) ?_
      refine lv_goto (tgt := 17) C.1 C.2.1 dX3_isLow_13 (by decide) ?_
      obtain rfl := som h
      exact x_zret C w hr hk (by decide) dX3_isLow_17
end S_Lt_isLow
set_option maxRecDepth 100000 in
theorem k_Lt_isLow (l : Launch) (D : va_G) (T : Cy) (ρ : Nat → Nat) (g sz : Nat) (S : St) {x0 : Int32} {r : Int32} (h : m_Lt_isLow g x0 = some r) : Mi l Yc D T ρ yX3_isLow cX3_isLow 1 (some .boolean) 0 0 S S r [.int x0] sz :=
  x_in (by decide) (Nat.le_of_ble_eq_true rfl) (fun p e s m below meth c ls C hr hk w hl => w_Lt_isLow_0 C hr hk w hl h)

theorem dX6_hasPair_0 : decode cX6_hasPair 0 = .ok (.iload_n 1, 1) := by decide +kernel
theorem dX6_hasPair_1 : decode cX6_hasPair 1 = .ok (.ifCond .lt 48, 3) := by decide +kernel
theorem dX6_hasPair_4 : decode cX6_hasPair 4 = .ok (.iload_n 1, 1) := by decide +kernel
theorem dX6_hasPair_5 : decode cX6_hasPair 5 = .ok (.iload_n 2, 1) := by decide +kernel
theorem dX6_hasPair_6 : decode cX6_hasPair 6 = .ok (.iconst 1, 1) := by decide +kernel
theorem dX6_hasPair_7 : decode cX6_hasPair 7 = .ok (.isub, 1) := by decide +kernel
theorem dX6_hasPair_8 : decode cX6_hasPair 8 = .ok (.if_icmp .ge 41, 3) := by decide +kernel
theorem dX6_hasPair_11 : decode cX6_hasPair 11 = .ok (.iload_n 2, 1) := by decide +kernel
theorem dX6_hasPair_12 : decode cX6_hasPair 12 = .ok (.aload_n 0, 1) := by decide +kernel
theorem dX6_hasPair_13 : decode cX6_hasPair 13 = .ok (.getfield 19, 3) := by decide +kernel
theorem dX6_hasPair_16 : decode cX6_hasPair 16 = .ok (.if_icmp .gt 33, 3) := by decide +kernel
theorem dX6_hasPair_19 : decode cX6_hasPair 19 = .ok (.aload_n 0, 1) := by decide +kernel
theorem dX6_hasPair_20 : decode cX6_hasPair 20 = .ok (.getfield 15, 3) := by decide +kernel
theorem dX6_hasPair_23 : decode cX6_hasPair 23 = .ok (.iload_n 1, 1) := by decide +kernel
theorem dX6_hasPair_24 : decode cX6_hasPair 24 = .ok (.iaload, 1) := by decide +kernel
theorem dX6_hasPair_25 : decode cX6_hasPair 25 = .ok (.invokestatic 83, 3) := by decide +kernel
theorem dX6_hasPair_28 : decode cX6_hasPair 28 = .ok (.ifCond .eq 21, 3) := by decide +kernel
theorem dX6_hasPair_31 : decode cX6_hasPair 31 = .ok (.aload_n 0, 1) := by decide +kernel
theorem dX6_hasPair_32 : decode cX6_hasPair 32 = .ok (.getfield 15, 3) := by decide +kernel
theorem dX6_hasPair_35 : decode cX6_hasPair 35 = .ok (.iload_n 1, 1) := by decide +kernel
theorem dX6_hasPair_36 : decode cX6_hasPair 36 = .ok (.iconst 1, 1) := by decide +kernel
theorem dX6_hasPair_37 : decode cX6_hasPair 37 = .ok (.iadd, 1) := by decide +kernel
theorem dX6_hasPair_38 : decode cX6_hasPair 38 = .ok (.iaload, 1) := by decide +kernel
theorem dX6_hasPair_39 : decode cX6_hasPair 39 = .ok (.invokestatic 87, 3) := by decide +kernel
theorem dX6_hasPair_42 : decode cX6_hasPair 42 = .ok (.ifCond .eq 7, 3) := by decide +kernel
theorem dX6_hasPair_45 : decode cX6_hasPair 45 = .ok (.iconst 1, 1) := by decide +kernel
theorem dX6_hasPair_46 : decode cX6_hasPair 46 = .ok (.goto 4, 3) := by decide +kernel
theorem dX6_hasPair_49 : decode cX6_hasPair 49 = .ok (.iconst 0, 1) := by decide +kernel
theorem dX6_hasPair_50 : decode cX6_hasPair 50 = .ok (.ireturn, 1) := by decide +kernel
def m_Row_hasPair (g : Nat) (S : St) (x0 : Nat) (x1 : Int32) (x2 : Int32) : Option Int32 :=
if x1 < 0 then (
  some (0 : Int32)
) else (
  if (x2 - (1 : Int32)) ≤ x1 then (
    some (0 : Int32)
  ) else (
    if (gI S x0 2) < x2 then (
      some (0 : Int32)
    ) else (
      (aI S (x0 + 24) x1).bind fun v_1 =>
      (m_Lt_isHigh g v_1).bind fun v_2 =>
      if v_2 = 0 then (
        some (0 : Int32)
      ) else (
        (aI S (x0 + 24) (x1 + (1 : Int32))).bind fun v_3 =>
        (m_Lt_isLow g v_3).bind fun v_4 =>
        if v_4 = 0 then (
          some (0 : Int32)
        ) else (
          some (1 : Int32)
        )
      )
    )
  )
)
section S_Row_hasPair
variable {p : Program} {l : Launch} {e : Env} {s : State} {m : MethodId} {args : Array Value} {below : List Frame} {meth : Method} {c : Code} {H : Heap} {locs : List Loc} {ls : Array Slot} {D : va_G} {T : Cy} {ρ : Nat → Nat} {A : Nat → Prop}
set_option maxRecDepth 100000 in
set_option maxHeartbeats 4000000 in
theorem w_Row_hasPair_0  {g : Nat} {S : St} {x0 : Nat} {x1 : Int32} {x2 : Int32} (C : CallFix p m c cX6_hasPair 3 s args tb RX6) (hr : meth.sig.returnType = (some .boolean)) (hk : meth.locks = false) {r : Int32} (w : Wn Yc D T ρ S A s H locs) (hl : lv_has ls 3 [(0, .ref (ρ x0)), (1, .int x1), (2, .int x2)]) (ho_x0 : Ob Yc x0 4) (h : m_Row_hasPair g S x0 x1 x2 = some r) : W p l e (rmN 1 20) s m args below meth c H locs 0 0 (MQ below (Qi Yc D T ρ A S r) args s 0 0 A) (F0 m 0 ls []) := by
  unfold m_Row_hasPair at h
  refine lv_iload_n C.1 C.2.1 dX6_hasPair_0 rfl (lv_at hl 1 rfl) ?_
  refine lv_if_lt (tgt := 49) C.1 C.2.1 dX6_hasPair_1 (by decide) (fun hc => ?_) (fun hc => ?_)
  · replace h := ift hc h
    refine lv_iconst (v := 0) C.1 C.2.1 dX6_hasPair_49 (by decide) ?_
    obtain rfl := som h
    exact x_zret C w hr hk (by decide) dX6_hasPair_50
  · replace h := iff0 hc h
    refine lv_iload_n C.1 C.2.1 dX6_hasPair_4 rfl (lv_at hl 1 rfl) ?_
    refine lv_iload_n C.1 C.2.1 dX6_hasPair_5 rfl (lv_at hl 2 rfl) ?_
    refine lv_iconst (v := 1) C.1 C.2.1 dX6_hasPair_6 (by decide) ?_
    refine lv_isub C.1 C.2.1 dX6_hasPair_7 ?_
    refine lv_icmp_ge (tgt := 49) C.1 C.2.1 dX6_hasPair_8 (by decide) (fun hc => ?_) (fun hc => ?_)
    · replace h := ift hc h
      refine lv_iconst (v := 0) C.1 C.2.1 dX6_hasPair_49 (by decide) ?_
      obtain rfl := som h
      exact x_zret C w hr hk (by decide) dX6_hasPair_50
    · replace h := iff0 hc h
      refine lv_iload_n C.1 C.2.1 dX6_hasPair_11 rfl (lv_at hl 2 rfl) ?_
      refine lv_aload_n C.1 C.2.1 dX6_hasPair_12 rfl (lv_at hl 0 rfl) ?_
      refine x_getI C w fX6_19 ho_x0 dX6_hasPair_13 ?_
      refine lv_icmp_gt (tgt := 49) C.1 C.2.1 dX6_hasPair_16 (by decide) (fun hc => ?_) (fun hc => ?_)
      · replace h := ift hc h
        refine lv_iconst (v := 0) C.1 C.2.1 dX6_hasPair_49 (by decide) ?_
        obtain rfl := som h
        exact x_zret C w hr hk (by decide) dX6_hasPair_50
      · replace h := iff0 hc h
        refine lv_aload_n C.1 C.2.1 dX6_hasPair_19 rfl (lv_at hl 0 rfl) ?_
        refine x_getC C w (x0 + 24) fX6_15 ho_x0 (crCells ho_x0) dX6_hasPair_20 ?_
        refine lv_iload_n C.1 C.2.1 dX6_hasPair_23 rfl (lv_at hl 1 rfl) ?_
        obtain ⟨v_1, hv_1, h⟩ := bnd h
        refine x_iald C w (obCells ho_x0) hv_1 dX6_hasPair_24 ?_
        obtain ⟨v_2, hv_2, h⟩ := bnd h
        refine x_callSi (As := [.int v_1]) (rest := []) C w (k_Lt_isHigh l D T ρ g H.size S hv_2) vX6_83 ⟨by decide, by decide⟩ rfl rfl hl.1 (Nat.le_of_ble_eq_true rfl) ⟨Nat.zero_le _, Nat.zero_le _⟩ dX6_hasPair_25 (fun H locs w => ?_)
        refine lv_if_eq (tgt := 49) C.1 C.2.1 dX6_hasPair_28 (by decide) (fun hc => ?_) (fun hc => ?_)
        · replace h := ift hc h
          refine lv_iconst (v := 0) C.1 C.2.1 dX6_hasPair_49 (by decide) ?_
          obtain rfl := som h
          exact x_zret C w hr hk (by decide) dX6_hasPair_50
        · replace h := iff0 hc h
          refine lv_aload_n C.1 C.2.1 dX6_hasPair_31 rfl (lv_at hl 0 rfl) ?_
          refine x_getC C w (x0 + 24) fX6_15 ho_x0 (crCells ho_x0) dX6_hasPair_32 ?_
          refine lv_iload_n C.1 C.2.1 dX6_hasPair_35 rfl (lv_at hl 1 rfl) ?_
          refine lv_iconst (v := 1) C.1 C.2.1 dX6_hasPair_36 (by decide) ?_
          refine lv_iadd C.1 C.2.1 dX6_hasPair_37 ?_
          obtain ⟨v_3, hv_3, h⟩ := bnd h
          refine x_iald C w (obCells ho_x0) hv_3 dX6_hasPair_38 ?_
          obtain ⟨v_4, hv_4, h⟩ := bnd h
          refine x_callSi (As := [.int v_3]) (rest := []) C w (k_Lt_isLow l D T ρ g H.size S hv_4) vX6_87 ⟨by decide, by decide⟩ rfl rfl hl.1 (Nat.le_of_ble_eq_true rfl) ⟨Nat.zero_le _, Nat.zero_le _⟩ dX6_hasPair_39 (fun H locs w => ?_)
          refine lv_if_eq (tgt := 49) C.1 C.2.1 dX6_hasPair_42 (by decide) (fun hc => ?_) (fun hc => ?_)
          · replace h := ift hc h
            refine lv_iconst (v := 0) C.1 C.2.1 dX6_hasPair_49 (by decide) ?_
            obtain rfl := som h
            exact x_zret C w hr hk (by decide) dX6_hasPair_50
          · replace h := iff0 hc h
            refine lv_iconst (v := 1) C.1 C.2.1 dX6_hasPair_45 (by decide) ?_
            refine lv_goto (tgt := 50) C.1 C.2.1 dX6_hasPair_46 (by decide) ?_
            obtain rfl := som h
            exact x_zret C w hr hk (by decide) dX6_hasPair_50
end S_Row_hasPair
set_option maxRecDepth 100000 in
theorem k_Row_hasPair (l : Launch) (D : va_G) (T : Cy) (ρ : Nat → Nat) (g sz : Nat) (S : St) {x0 : Nat} {x1 : Int32} {x2 : Int32} (ho_x0 : Ob Yc x0 4) {r : Int32} (h : m_Row_hasPair g S x0 x1 x2 = some r) : Mi l Yc D T ρ yX6_hasPair cX6_hasPair 3 (some .boolean) 1 20 S S r [.ref (ρ x0), .int x1, .int x2] sz :=
  x_in (by decide) (Nat.le_of_ble_eq_true rfl) (fun p e s m below meth c ls C hr hk w hl => w_Row_hasPair_0 C hr hk w hl ho_x0 h)

theorem dX3_isBlank_0 : decode cX3_isBlank 0 = .ok (.iload_n 0, 1) := by decide +kernel
theorem dX3_isBlank_1 : decode cX3_isBlank 1 = .ok (.bipush 9, 2) := by decide +kernel
theorem dX3_isBlank_3 : decode cX3_isBlank 3 = .ok (.if_icmp .lt 9, 3) := by decide +kernel
theorem dX3_isBlank_6 : decode cX3_isBlank 6 = .ok (.iload_n 0, 1) := by decide +kernel
theorem dX3_isBlank_7 : decode cX3_isBlank 7 = .ok (.bipush 13, 2) := by decide +kernel
theorem dX3_isBlank_9 : decode cX3_isBlank 9 = .ok (.if_icmp .le 71, 3) := by decide +kernel
theorem dX3_isBlank_12 : decode cX3_isBlank 12 = .ok (.iload_n 0, 1) := by decide +kernel
theorem dX3_isBlank_13 : decode cX3_isBlank 13 = .ok (.bipush 28, 2) := by decide +kernel
theorem dX3_isBlank_15 : decode cX3_isBlank 15 = .ok (.if_icmp .lt 9, 3) := by decide +kernel
theorem dX3_isBlank_18 : decode cX3_isBlank 18 = .ok (.iload_n 0, 1) := by decide +kernel
theorem dX3_isBlank_19 : decode cX3_isBlank 19 = .ok (.bipush 32, 2) := by decide +kernel
theorem dX3_isBlank_21 : decode cX3_isBlank 21 = .ok (.if_icmp .le 59, 3) := by decide +kernel
theorem dX3_isBlank_24 : decode cX3_isBlank 24 = .ok (.iload_n 0, 1) := by decide +kernel
theorem dX3_isBlank_25 : decode cX3_isBlank 25 = .ok (.sipush 5760, 3) := by decide +kernel
theorem dX3_isBlank_28 : decode cX3_isBlank 28 = .ok (.if_icmp .eq 52, 3) := by decide +kernel
theorem dX3_isBlank_31 : decode cX3_isBlank 31 = .ok (.iload_n 0, 1) := by decide +kernel
theorem dX3_isBlank_32 : decode cX3_isBlank 32 = .ok (.sipush 8192, 3) := by decide +kernel
theorem dX3_isBlank_35 : decode cX3_isBlank 35 = .ok (.if_icmp .lt 17, 3) := by decide +kernel
theorem dX3_isBlank_38 : decode cX3_isBlank 38 = .ok (.iload_n 0, 1) := by decide +kernel
theorem dX3_isBlank_39 : decode cX3_isBlank 39 = .ok (.sipush 8202, 3) := by decide +kernel
theorem dX3_isBlank_42 : decode cX3_isBlank 42 = .ok (.if_icmp .gt 10, 3) := by decide +kernel
theorem dX3_isBlank_45 : decode cX3_isBlank 45 = .ok (.iload_n 0, 1) := by decide +kernel
theorem dX3_isBlank_46 : decode cX3_isBlank 46 = .ok (.sipush 8199, 3) := by decide +kernel
theorem dX3_isBlank_49 : decode cX3_isBlank 49 = .ok (.if_icmp .ne 31, 3) := by decide +kernel
theorem dX3_isBlank_52 : decode cX3_isBlank 52 = .ok (.iload_n 0, 1) := by decide +kernel
theorem dX3_isBlank_53 : decode cX3_isBlank 53 = .ok (.sipush 8232, 3) := by decide +kernel
theorem dX3_isBlank_56 : decode cX3_isBlank 56 = .ok (.if_icmp .eq 24, 3) := by decide +kernel
theorem dX3_isBlank_59 : decode cX3_isBlank 59 = .ok (.iload_n 0, 1) := by decide +kernel
theorem dX3_isBlank_60 : decode cX3_isBlank 60 = .ok (.sipush 8233, 3) := by decide +kernel
theorem dX3_isBlank_63 : decode cX3_isBlank 63 = .ok (.if_icmp .eq 17, 3) := by decide +kernel
theorem dX3_isBlank_66 : decode cX3_isBlank 66 = .ok (.iload_n 0, 1) := by decide +kernel
theorem dX3_isBlank_67 : decode cX3_isBlank 67 = .ok (.sipush 8287, 3) := by decide +kernel
theorem dX3_isBlank_70 : decode cX3_isBlank 70 = .ok (.if_icmp .eq 10, 3) := by decide +kernel
theorem dX3_isBlank_73 : decode cX3_isBlank 73 = .ok (.iload_n 0, 1) := by decide +kernel
theorem dX3_isBlank_74 : decode cX3_isBlank 74 = .ok (.sipush 12288, 3) := by decide +kernel
theorem dX3_isBlank_77 : decode cX3_isBlank 77 = .ok (.if_icmp .ne 7, 3) := by decide +kernel
theorem dX3_isBlank_80 : decode cX3_isBlank 80 = .ok (.iconst 1, 1) := by decide +kernel
theorem dX3_isBlank_81 : decode cX3_isBlank 81 = .ok (.goto 4, 3) := by decide +kernel
theorem dX3_isBlank_84 : decode cX3_isBlank 84 = .ok (.iconst 0, 1) := by decide +kernel
theorem dX3_isBlank_85 : decode cX3_isBlank 85 = .ok (.ireturn, 1) := by decide +kernel
def m_Lt_isBlank_52 (g : Nat) (x0 : Int32) : Option Int32 :=
if x0 = (8232 : Int32) then (
  some (1 : Int32)
) else (
  if x0 = (8233 : Int32) then (
    some (1 : Int32)
  ) else (
    if x0 = (8287 : Int32) then (
      some (1 : Int32)
    ) else (
      if x0 = (12288 : Int32) then (
        some (1 : Int32)
      ) else (
        some (0 : Int32)
      )
    )
  )
)
def m_Lt_isBlank_24 (g : Nat) (x0 : Int32) : Option Int32 :=
if x0 = (5760 : Int32) then (
  some (1 : Int32)
) else (
  if x0 < (8192 : Int32) then (
    m_Lt_isBlank_52 g x0
  ) else (
    if (8202 : Int32) < x0 then (
      m_Lt_isBlank_52 g x0
    ) else (
      if x0 = (8199 : Int32) then (
        m_Lt_isBlank_52 g x0
      ) else (
        some (1 : Int32)
      )
    )
  )
)
def m_Lt_isBlank_12 (g : Nat) (x0 : Int32) : Option Int32 :=
if x0 < (28 : Int32) then (
  m_Lt_isBlank_24 g x0
) else (
  if x0 ≤ (32 : Int32) then (
    some (1 : Int32)
  ) else (
    m_Lt_isBlank_24 g x0
  )
)
def m_Lt_isBlank (g : Nat) (x0 : Int32) : Option Int32 :=
if x0 < (9 : Int32) then (
  m_Lt_isBlank_12 g x0
) else (
  if x0 ≤ (13 : Int32) then (
    some (1 : Int32)
  ) else (
    m_Lt_isBlank_12 g x0
  )
)
section S_Lt_isBlank
variable {p : Program} {l : Launch} {e : Env} {s : State} {m : MethodId} {args : Array Value} {below : List Frame} {meth : Method} {c : Code} {H : Heap} {locs : List Loc} {ls : Array Slot} {D : va_G} {T : Cy} {ρ : Nat → Nat} {A : Nat → Prop}
set_option maxRecDepth 100000 in
set_option maxHeartbeats 4000000 in
theorem w_Lt_isBlank_52  {g : Nat} {S : St} {x0 : Int32} (C : CallFix p m c cX3_isBlank 1 s args tb RX3) (hr : meth.sig.returnType = (some .boolean)) (hk : meth.locks = false) {r : Int32} (w : Wn Yc D T ρ S A s H locs) (hl : lv_has ls 1 [(0, .int x0)]) (h : m_Lt_isBlank_52 g x0 = some r) : W p l e (rmN 0 0) s m args below meth c H locs 0 0 (MQ below (Qi Yc D T ρ A S r) args s 0 0 A) (F0 m 52 ls []) := by
  unfold m_Lt_isBlank_52 at h
  refine lv_iload_n C.1 C.2.1 dX3_isBlank_52 rfl (lv_at hl 0 rfl) ?_
  refine lv_sipush (v := 8232) C.1 C.2.1 dX3_isBlank_53 (by decide) ?_
  refine lv_icmp_eq (tgt := 80) C.1 C.2.1 dX3_isBlank_56 (by decide) (fun hc => ?_) (fun hc => ?_)
  · replace h := ift hc h
    refine lv_iconst (v := 1) C.1 C.2.1 dX3_isBlank_80 (by decide) ?_
    refine lv_goto (tgt := 85) C.1 C.2.1 dX3_isBlank_81 (by decide) ?_
    obtain rfl := som h
    exact x_zret C w hr hk (by decide) dX3_isBlank_85
  · replace h := iff0 hc h
    refine lv_iload_n C.1 C.2.1 dX3_isBlank_59 rfl (lv_at hl 0 rfl) ?_
    refine lv_sipush (v := 8233) C.1 C.2.1 dX3_isBlank_60 (by decide) ?_
    refine lv_icmp_eq (tgt := 80) C.1 C.2.1 dX3_isBlank_63 (by decide) (fun hc => ?_) (fun hc => ?_)
    · replace h := ift hc h
      refine lv_iconst (v := 1) C.1 C.2.1 dX3_isBlank_80 (by decide) ?_
      refine lv_goto (tgt := 85) C.1 C.2.1 dX3_isBlank_81 (by decide) ?_
      obtain rfl := som h
      exact x_zret C w hr hk (by decide) dX3_isBlank_85
    · replace h := iff0 hc h
      refine lv_iload_n C.1 C.2.1 dX3_isBlank_66 rfl (lv_at hl 0 rfl) ?_
      refine lv_sipush (v := 8287) C.1 C.2.1 dX3_isBlank_67 (by decide) ?_
      refine lv_icmp_eq (tgt := 80) C.1 C.2.1 dX3_isBlank_70 (by decide) (fun hc => ?_) (fun hc => ?_)
      · replace h := ift hc h
        refine lv_iconst (v := 1) C.1 C.2.1 dX3_isBlank_80 (by decide) ?_
        refine lv_goto (tgt := 85) C.1 C.2.1 dX3_isBlank_81 (by decide) ?_
        obtain rfl := som h
        exact x_zret C w hr hk (by decide) dX3_isBlank_85
      · replace h := iff0 hc h
        refine lv_iload_n C.1 C.2.1 dX3_isBlank_73 rfl (lv_at hl 0 rfl) ?_
        refine lv_sipush (v := 12288) C.1 C.2.1 dX3_isBlank_74 (by decide) ?_
        refine lv_icmp_ne (tgt := 84) C.1 C.2.1 dX3_isBlank_77 (by decide) (fun hc => ?_) (fun hc => ?_)
        · replace h := iff0 hc h
          refine lv_iconst (v := 0) C.1 C.2.1 dX3_isBlank_84 (by decide) ?_
          obtain rfl := som h
          exact x_zret C w hr hk (by decide) dX3_isBlank_85
        · replace h := ift hc h
          refine lv_iconst (v := 1) C.1 C.2.1 dX3_isBlank_80 (by decide) ?_
          refine lv_goto (tgt := 85) C.1 C.2.1 dX3_isBlank_81 (by decide) ?_
          obtain rfl := som h
          exact x_zret C w hr hk (by decide) dX3_isBlank_85
set_option maxRecDepth 100000 in
set_option maxHeartbeats 4000000 in
theorem w_Lt_isBlank_24  {g : Nat} {S : St} {x0 : Int32} (C : CallFix p m c cX3_isBlank 1 s args tb RX3) (hr : meth.sig.returnType = (some .boolean)) (hk : meth.locks = false) {r : Int32} (w : Wn Yc D T ρ S A s H locs) (hl : lv_has ls 1 [(0, .int x0)]) (h : m_Lt_isBlank_24 g x0 = some r) : W p l e (rmN 0 0) s m args below meth c H locs 0 0 (MQ below (Qi Yc D T ρ A S r) args s 0 0 A) (F0 m 24 ls []) := by
  unfold m_Lt_isBlank_24 at h
  refine lv_iload_n C.1 C.2.1 dX3_isBlank_24 rfl (lv_at hl 0 rfl) ?_
  refine lv_sipush (v := 5760) C.1 C.2.1 dX3_isBlank_25 (by decide) ?_
  refine lv_icmp_eq (tgt := 80) C.1 C.2.1 dX3_isBlank_28 (by decide) (fun hc => ?_) (fun hc => ?_)
  · replace h := ift hc h
    refine lv_iconst (v := 1) C.1 C.2.1 dX3_isBlank_80 (by decide) ?_
    refine lv_goto (tgt := 85) C.1 C.2.1 dX3_isBlank_81 (by decide) ?_
    obtain rfl := som h
    exact x_zret C w hr hk (by decide) dX3_isBlank_85
  · replace h := iff0 hc h
    refine lv_iload_n C.1 C.2.1 dX3_isBlank_31 rfl (lv_at hl 0 rfl) ?_
    refine lv_sipush (v := 8192) C.1 C.2.1 dX3_isBlank_32 (by decide) ?_
    refine lv_icmp_lt (tgt := 52) C.1 C.2.1 dX3_isBlank_35 (by decide) (fun hc => ?_) (fun hc => ?_)
    · replace h := ift hc h
      exact w_Lt_isBlank_52 C hr hk w (lv_sub hl [0] rfl) h
    · replace h := iff0 hc h
      refine lv_iload_n C.1 C.2.1 dX3_isBlank_38 rfl (lv_at hl 0 rfl) ?_
      refine lv_sipush (v := 8202) C.1 C.2.1 dX3_isBlank_39 (by decide) ?_
      refine lv_icmp_gt (tgt := 52) C.1 C.2.1 dX3_isBlank_42 (by decide) (fun hc => ?_) (fun hc => ?_)
      · replace h := ift hc h
        exact w_Lt_isBlank_52 C hr hk w (lv_sub hl [0] rfl) h
      · replace h := iff0 hc h
        refine lv_iload_n C.1 C.2.1 dX3_isBlank_45 rfl (lv_at hl 0 rfl) ?_
        refine lv_sipush (v := 8199) C.1 C.2.1 dX3_isBlank_46 (by decide) ?_
        refine lv_icmp_ne (tgt := 80) C.1 C.2.1 dX3_isBlank_49 (by decide) (fun hc => ?_) (fun hc => ?_)
        · replace h := iff0 hc h
          refine lv_iconst (v := 1) C.1 C.2.1 dX3_isBlank_80 (by decide) ?_
          refine lv_goto (tgt := 85) C.1 C.2.1 dX3_isBlank_81 (by decide) ?_
          obtain rfl := som h
          exact x_zret C w hr hk (by decide) dX3_isBlank_85
        · replace h := ift hc h
          exact w_Lt_isBlank_52 C hr hk w (lv_sub hl [0] rfl) h
set_option maxRecDepth 100000 in
set_option maxHeartbeats 4000000 in
theorem w_Lt_isBlank_12  {g : Nat} {S : St} {x0 : Int32} (C : CallFix p m c cX3_isBlank 1 s args tb RX3) (hr : meth.sig.returnType = (some .boolean)) (hk : meth.locks = false) {r : Int32} (w : Wn Yc D T ρ S A s H locs) (hl : lv_has ls 1 [(0, .int x0)]) (h : m_Lt_isBlank_12 g x0 = some r) : W p l e (rmN 0 0) s m args below meth c H locs 0 0 (MQ below (Qi Yc D T ρ A S r) args s 0 0 A) (F0 m 12 ls []) := by
  unfold m_Lt_isBlank_12 at h
  refine lv_iload_n C.1 C.2.1 dX3_isBlank_12 rfl (lv_at hl 0 rfl) ?_
  refine lv_bipush (v := 28) C.1 C.2.1 dX3_isBlank_13 (by decide) ?_
  refine lv_icmp_lt (tgt := 24) C.1 C.2.1 dX3_isBlank_15 (by decide) (fun hc => ?_) (fun hc => ?_)
  · replace h := ift hc h
    exact w_Lt_isBlank_24 C hr hk w (lv_sub hl [0] rfl) h
  · replace h := iff0 hc h
    refine lv_iload_n C.1 C.2.1 dX3_isBlank_18 rfl (lv_at hl 0 rfl) ?_
    refine lv_bipush (v := 32) C.1 C.2.1 dX3_isBlank_19 (by decide) ?_
    refine lv_icmp_le (tgt := 80) C.1 C.2.1 dX3_isBlank_21 (by decide) (fun hc => ?_) (fun hc => ?_)
    · replace h := ift hc h
      refine lv_iconst (v := 1) C.1 C.2.1 dX3_isBlank_80 (by decide) ?_
      refine lv_goto (tgt := 85) C.1 C.2.1 dX3_isBlank_81 (by decide) ?_
      obtain rfl := som h
      exact x_zret C w hr hk (by decide) dX3_isBlank_85
    · replace h := iff0 hc h
      exact w_Lt_isBlank_24 C hr hk w (lv_sub hl [0] rfl) h
set_option maxRecDepth 100000 in
set_option maxHeartbeats 4000000 in
theorem w_Lt_isBlank_0  {g : Nat} {S : St} {x0 : Int32} (C : CallFix p m c cX3_isBlank 1 s args tb RX3) (hr : meth.sig.returnType = (some .boolean)) (hk : meth.locks = false) {r : Int32} (w : Wn Yc D T ρ S A s H locs) (hl : lv_has ls 1 [(0, .int x0)]) (h : m_Lt_isBlank g x0 = some r) : W p l e (rmN 0 0) s m args below meth c H locs 0 0 (MQ below (Qi Yc D T ρ A S r) args s 0 0 A) (F0 m 0 ls []) := by
  unfold m_Lt_isBlank at h
  refine lv_iload_n C.1 C.2.1 dX3_isBlank_0 rfl (lv_at hl 0 rfl) ?_
  refine lv_bipush (v := 9) C.1 C.2.1 dX3_isBlank_1 (by decide) ?_
  refine lv_icmp_lt (tgt := 12) C.1 C.2.1 dX3_isBlank_3 (by decide) (fun hc => ?_) (fun hc => ?_)
  · replace h := ift hc h
    exact w_Lt_isBlank_12 C hr hk w (lv_sub hl [0] rfl) h
  · replace h := iff0 hc h
    refine lv_iload_n C.1 C.2.1 dX3_isBlank_6 rfl (lv_at hl 0 rfl) ?_
    refine lv_bipush (v := 13) C.1 C.2.1 dX3_isBlank_7 (by decide) ?_
    refine lv_icmp_le (tgt := 80) C.1 C.2.1 dX3_isBlank_9 (by decide) (fun hc => ?_) (fun hc => ?_)
    · replace h := ift hc h
      refine lv_iconst (v := 1) C.1 C.2.1 dX3_isBlank_80 (by decide) ?_
      refine lv_goto (tgt := 85) C.1 C.2.1 dX3_isBlank_81 (by decide) ?_
      obtain rfl := som h
      exact x_zret C w hr hk (by decide) dX3_isBlank_85
    · replace h := iff0 hc h
      exact w_Lt_isBlank_12 C hr hk w (lv_sub hl [0] rfl) h
end S_Lt_isBlank
set_option maxRecDepth 100000 in
theorem k_Lt_isBlank (l : Launch) (D : va_G) (T : Cy) (ρ : Nat → Nat) (g sz : Nat) (S : St) {x0 : Int32} {r : Int32} (h : m_Lt_isBlank g x0 = some r) : Mi l Yc D T ρ yX3_isBlank cX3_isBlank 1 (some .boolean) 0 0 S S r [.int x0] sz :=
  x_in (by decide) (Nat.le_of_ble_eq_true rfl) (fun p e s m below meth c ls C hr hk w hl => w_Lt_isBlank_0 C hr hk w hl h)
