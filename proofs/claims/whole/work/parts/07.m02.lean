theorem dX13_keeps_0 : decode cX13_keeps 0 = .ok (.aload_n 0, 1) := by decide +kernel
theorem dX13_keeps_1 : decode cX13_keeps 1 = .ok (.getfield 144, 3) := by decide +kernel
theorem dX13_keeps_4 : decode cX13_keeps 4 = .ok (.iload_n 1, 1) := by decide +kernel
theorem dX13_keeps_5 : decode cX13_keeps 5 = .ok (.iload_n 2, 1) := by decide +kernel
theorem dX13_keeps_6 : decode cX13_keeps 6 = .ok (.iastore, 1) := by decide +kernel
theorem dX13_keeps_7 : decode cX13_keeps 7 = .ok (.aload_n 0, 1) := by decide +kernel
theorem dX13_keeps_8 : decode cX13_keeps 8 = .ok (.getfield 150, 3) := by decide +kernel
theorem dX13_keeps_11 : decode cX13_keeps 11 = .ok (.iload_n 1, 1) := by decide +kernel
theorem dX13_keeps_12 : decode cX13_keeps 12 = .ok (.lload_n 3, 1) := by decide +kernel
theorem dX13_keeps_13 : decode cX13_keeps 13 = .ok (.lastore, 1) := by decide +kernel
theorem dX13_keeps_14 : decode cX13_keeps 14 = .ok (.aload_n 0, 1) := by decide +kernel
theorem dX13_keeps_15 : decode cX13_keeps 15 = .ok (.getfield 147, 3) := by decide +kernel
theorem dX13_keeps_18 : decode cX13_keeps 18 = .ok (.iload_n 1, 1) := by decide +kernel
theorem dX13_keeps_19 : decode cX13_keeps 19 = .ok (.aload_n 0, 1) := by decide +kernel
theorem dX13_keeps_20 : decode cX13_keeps 20 = .ok (.getfield 262, 3) := by decide +kernel
theorem dX13_keeps_23 : decode cX13_keeps 23 = .ok (.iastore, 1) := by decide +kernel
theorem dX13_keeps_24 : decode cX13_keeps 24 = .ok (.iconst 1, 1) := by decide +kernel
theorem dX13_keeps_25 : decode cX13_keeps 25 = .ok (.ireturn, 1) := by decide +kernel
def m_keeps (g : Nat) (S : St) (x1 : Int32) (x2 : Int32) (x3 : Int64) : Option (St × Int32) :=
(tI S 8 x1 x2).bind fun S_1 =>
(tJ S_1 10 x1 x3).bind fun S_2 =>
(tI S_2 9 x1 (gI S_2 0 20)).bind fun S_3 =>
some (S_3, (1 : Int32))
section S_keeps
variable {p : Program} {l : Launch} {e : Env} {s : State} {m : MethodId} {args : Array Value} {below : List Frame} {meth : Method} {c : Code} {H : Heap} {locs : List Loc} {ls : Array Slot} {D : va_G} {T : Cy} {ρ : Nat → Nat} {A : Nat → Prop}
set_option maxRecDepth 100000 in
set_option maxHeartbeats 4000000 in
theorem w_keeps_0  {g : Nat} {S : St} {x1 : Int32} {x2 : Int32} {x3 : Int64} (C : CallFix p m c cX13_keeps 5 s args tb RX13) (hr : meth.sig.returnType = (some .boolean)) (hk : meth.locks = false) {S' : St} {r : Int32} (w : Wn Ym D T ρ S A s H locs) (hl : lv_has ls 5 [(0, .ref (ρ 0)), (1, .int x1), (2, .int x2), (3, .long x3)]) (h : m_keeps g S x1 x2 x3 = some (S', r)) : W p l e (rmN 0 0) s m args below meth c H locs 0 0 (MQ below (Qi Ym D T ρ A S' r) args s 0 0 A) (F0 m 0 ls []) := by
  unfold m_keeps at h
  refine lv_aload_n C.1 C.2.1 dX13_keeps_0 rfl (lv_at hl 0 rfl) ?_
  refine x_getC C w 8 fM144 obM rfl dX13_keeps_1 ?_
  refine lv_iload_n C.1 C.2.1 dX13_keeps_4 rfl (lv_at hl 1 rfl) ?_
  refine lv_iload_n C.1 C.2.1 dX13_keeps_5 rfl (lv_at hl 2 rfl) ?_
  obtain ⟨S_1, hS_1, h⟩ := bnd h
  refine x_iast C w obM8 hS_1 dX13_keeps_6 (fun H locs w => ?_)
  refine lv_aload_n C.1 C.2.1 dX13_keeps_7 rfl (lv_at hl 0 rfl) ?_
  refine x_getC C w 10 fM150 obM rfl dX13_keeps_8 ?_
  refine lv_iload_n C.1 C.2.1 dX13_keeps_11 rfl (lv_at hl 1 rfl) ?_
  refine lv_lload_n C.1 C.2.1 dX13_keeps_12 rfl (lv_at hl 3 rfl) ?_
  obtain ⟨S_2, hS_2, h⟩ := bnd h
  refine x_last C w obM10 hS_2 dX13_keeps_13 (fun H locs w => ?_)
  refine lv_aload_n C.1 C.2.1 dX13_keeps_14 rfl (lv_at hl 0 rfl) ?_
  refine x_getC C w 9 fM147 obM rfl dX13_keeps_15 ?_
  refine lv_iload_n C.1 C.2.1 dX13_keeps_18 rfl (lv_at hl 1 rfl) ?_
  refine lv_aload_n C.1 C.2.1 dX13_keeps_19 rfl (lv_at hl 0 rfl) ?_
  refine x_getI C w fM262 obM dX13_keeps_20 ?_
  obtain ⟨S_3, hS_3, h⟩ := bnd h
  refine x_iast C w obM9 hS_3 dX13_keeps_23 (fun H locs w => ?_)
  refine lv_iconst (v := 1) C.1 C.2.1 dX13_keeps_24 (by decide) ?_
  obtain ⟨rfl, rfl⟩ := prI h
  exact x_zret C w hr hk (by decide) dX13_keeps_25
end S_keeps
set_option maxRecDepth 100000 in
theorem k_keeps (l : Launch) (D : va_G) (T : Cy) (ρ : Nat → Nat) (g sz : Nat) (S : St) {x1 : Int32} {x2 : Int32} {x3 : Int64} {S' : St} {r : Int32} (h : m_keeps g S x1 x2 x3 = some (S', r)) : Mi l Ym D T ρ yX13_keeps cX13_keeps 5 (some .boolean) 0 0 S S' r [.ref (ρ 0), .int x1, .int x2, .long x3] sz :=
  x_in (by decide) (Nat.le_of_ble_eq_true rfl) (fun p e s m below meth c ls C hr hk w hl => w_keeps_0 C hr hk w hl h)

theorem dX13_numbered_0 : decode cX13_numbered 0 = .ok (.aload_n 0, 1) := by decide +kernel
theorem dX13_numbered_1 : decode cX13_numbered 1 = .ok (.getfield 275, 3) := by decide +kernel
theorem dX13_numbered_4 : decode cX13_numbered 4 = .ok (.iload_n 1, 1) := by decide +kernel
theorem dX13_numbered_5 : decode cX13_numbered 5 = .ok (.isub, 1) := by decide +kernel
theorem dX13_numbered_6 : decode cX13_numbered 6 = .ok (.istore 4, 2) := by decide +kernel
theorem dX13_numbered_8 : decode cX13_numbered 8 = .ok (.aload_n 0, 1) := by decide +kernel
theorem dX13_numbered_9 : decode cX13_numbered 9 = .ok (.getfield 265, 3) := by decide +kernel
theorem dX13_numbered_12 : decode cX13_numbered 12 = .ok (.ifCond .ne 25, 3) := by decide +kernel
theorem dX13_numbered_15 : decode cX13_numbered 15 = .ok (.iload 4, 2) := by decide +kernel
theorem dX13_numbered_17 : decode cX13_numbered 17 = .ok (.iconst 2, 1) := by decide +kernel
theorem dX13_numbered_18 : decode cX13_numbered 18 = .ok (.if_icmp .lt 19, 3) := by decide +kernel
theorem dX13_numbered_21 : decode cX13_numbered 21 = .ok (.iload 4, 2) := by decide +kernel
theorem dX13_numbered_23 : decode cX13_numbered 23 = .ok (.iconst 3, 1) := by decide +kernel
theorem dX13_numbered_24 : decode cX13_numbered 24 = .ok (.if_icmp .gt 13, 3) := by decide +kernel
theorem dX13_numbered_27 : decode cX13_numbered 27 = .ok (.aload_n 0, 1) := by decide +kernel
theorem dX13_numbered_28 : decode cX13_numbered 28 = .ok (.getfield 135, 3) := by decide +kernel
theorem dX13_numbered_31 : decode cX13_numbered 31 = .ok (.iload_n 1, 1) := by decide +kernel
theorem dX13_numbered_32 : decode cX13_numbered 32 = .ok (.iaload, 1) := by decide +kernel
theorem dX13_numbered_33 : decode cX13_numbered 33 = .ok (.iload_n 2, 1) := by decide +kernel
theorem dX13_numbered_34 : decode cX13_numbered 34 = .ok (.if_icmp .eq 5, 3) := by decide +kernel
theorem dX13_numbered_37 : decode cX13_numbered 37 = .ok (.iconst (-1), 1) := by decide +kernel
theorem dX13_numbered_38 : decode cX13_numbered 38 = .ok (.ireturn, 1) := by decide +kernel
theorem dX13_numbered_39 : decode cX13_numbered 39 = .ok (.iconst 0, 1) := by decide +kernel
theorem dX13_numbered_40 : decode cX13_numbered 40 = .ok (.istore 5, 2) := by decide +kernel
theorem dX13_numbered_42 : decode cX13_numbered 42 = .ok (.iload_n 1, 1) := by decide +kernel
theorem dX13_numbered_43 : decode cX13_numbered 43 = .ok (.iconst 1, 1) := by decide +kernel
theorem dX13_numbered_44 : decode cX13_numbered 44 = .ok (.iadd, 1) := by decide +kernel
theorem dX13_numbered_45 : decode cX13_numbered 45 = .ok (.istore 6, 2) := by decide +kernel
theorem dX13_numbered_47 : decode cX13_numbered 47 = .ok (.iload 6, 2) := by decide +kernel
theorem dX13_numbered_49 : decode cX13_numbered 49 = .ok (.aload_n 0, 1) := by decide +kernel
theorem dX13_numbered_50 : decode cX13_numbered 50 = .ok (.getfield 275, 3) := by decide +kernel
theorem dX13_numbered_53 : decode cX13_numbered 53 = .ok (.if_icmp .ge 49, 3) := by decide +kernel
theorem dX13_numbered_56 : decode cX13_numbered 56 = .ok (.aload_n 0, 1) := by decide +kernel
theorem dX13_numbered_57 : decode cX13_numbered 57 = .ok (.getfield 135, 3) := by decide +kernel
theorem dX13_numbered_60 : decode cX13_numbered 60 = .ok (.iload 6, 2) := by decide +kernel
theorem dX13_numbered_62 : decode cX13_numbered 62 = .ok (.iaload, 1) := by decide +kernel
theorem dX13_numbered_63 : decode cX13_numbered 63 = .ok (.i2l, 1) := by decide +kernel
theorem dX13_numbered_64 : decode cX13_numbered 64 = .ok (.ldc2_w 314, 3) := by decide +kernel
theorem dX13_numbered_67 : decode cX13_numbered 67 = .ok (.ldc2_w 316, 3) := by decide +kernel
theorem dX13_numbered_70 : decode cX13_numbered 70 = .ok (.invokestatic 318, 3) := by decide +kernel
theorem dX13_numbered_73 : decode cX13_numbered 73 = .ok (.ifCond .ne 5, 3) := by decide +kernel
theorem dX13_numbered_76 : decode cX13_numbered 76 = .ok (.iconst (-1), 1) := by decide +kernel
theorem dX13_numbered_77 : decode cX13_numbered 77 = .ok (.ireturn, 1) := by decide +kernel
theorem dX13_numbered_78 : decode cX13_numbered 78 = .ok (.bipush 10, 2) := by decide +kernel
theorem dX13_numbered_80 : decode cX13_numbered 80 = .ok (.iload 5, 2) := by decide +kernel
theorem dX13_numbered_82 : decode cX13_numbered 82 = .ok (.imul, 1) := by decide +kernel
theorem dX13_numbered_83 : decode cX13_numbered 83 = .ok (.aload_n 0, 1) := by decide +kernel
theorem dX13_numbered_84 : decode cX13_numbered 84 = .ok (.getfield 135, 3) := by decide +kernel
theorem dX13_numbered_87 : decode cX13_numbered 87 = .ok (.iload 6, 2) := by decide +kernel
theorem dX13_numbered_89 : decode cX13_numbered 89 = .ok (.iaload, 1) := by decide +kernel
theorem dX13_numbered_90 : decode cX13_numbered 90 = .ok (.iadd, 1) := by decide +kernel
theorem dX13_numbered_91 : decode cX13_numbered 91 = .ok (.bipush 48, 2) := by decide +kernel
theorem dX13_numbered_93 : decode cX13_numbered 93 = .ok (.isub, 1) := by decide +kernel
theorem dX13_numbered_94 : decode cX13_numbered 94 = .ok (.istore 5, 2) := by decide +kernel
theorem dX13_numbered_96 : decode cX13_numbered 96 = .ok (.iinc 6 1, 3) := by decide +kernel
theorem dX13_numbered_99 : decode cX13_numbered 99 = .ok (.goto (-52), 3) := by decide +kernel
theorem dX13_numbered_102 : decode cX13_numbered 102 = .ok (.iload 4, 2) := by decide +kernel
theorem dX13_numbered_104 : decode cX13_numbered 104 = .ok (.iconst 3, 1) := by decide +kernel
theorem dX13_numbered_105 : decode cX13_numbered 105 = .ok (.if_icmp .ne 16, 3) := by decide +kernel
theorem dX13_numbered_108 : decode cX13_numbered 108 = .ok (.aload_n 0, 1) := by decide +kernel
theorem dX13_numbered_109 : decode cX13_numbered 109 = .ok (.getfield 135, 3) := by decide +kernel
theorem dX13_numbered_112 : decode cX13_numbered 112 = .ok (.iload_n 1, 1) := by decide +kernel
theorem dX13_numbered_113 : decode cX13_numbered 113 = .ok (.iconst 1, 1) := by decide +kernel
theorem dX13_numbered_114 : decode cX13_numbered 114 = .ok (.iadd, 1) := by decide +kernel
theorem dX13_numbered_115 : decode cX13_numbered 115 = .ok (.iaload, 1) := by decide +kernel
theorem dX13_numbered_116 : decode cX13_numbered 116 = .ok (.bipush 48, 2) := by decide +kernel
theorem dX13_numbered_118 : decode cX13_numbered 118 = .ok (.if_icmp .eq 9, 3) := by decide +kernel
theorem dX13_numbered_121 : decode cX13_numbered 121 = .ok (.iload 5, 2) := by decide +kernel
theorem dX13_numbered_123 : decode cX13_numbered 123 = .ok (.iload_n 3, 1) := by decide +kernel
theorem dX13_numbered_124 : decode cX13_numbered 124 = .ok (.if_icmp .le 7, 3) := by decide +kernel
theorem dX13_numbered_127 : decode cX13_numbered 127 = .ok (.iconst (-1), 1) := by decide +kernel
theorem dX13_numbered_128 : decode cX13_numbered 128 = .ok (.goto 5, 3) := by decide +kernel
theorem dX13_numbered_131 : decode cX13_numbered 131 = .ok (.iload 5, 2) := by decide +kernel
theorem dX13_numbered_133 : decode cX13_numbered 133 = .ok (.ireturn, 1) := by decide +kernel
def m_numbered_121 (g : Nat) (S : St) (x3 : Int32) (x5 : Int32) : Option Int32 :=
if x5 ≤ x3 then (
  some x5
) else (
  some (-1 : Int32)
)
def b_numbered_47 (g : Nat) (S : St) (k47 : Int32 → Int32 → Int32 → Int32 → Int32 → Option Int32) (x1 : Int32) (x3 : Int32) (x4 : Int32) (x5 : Int32) (x6 : Int32) : Option Int32 :=
if (gI S 0 21) ≤ x6 then (
  if x4 = (3 : Int32) then (
    (aI S 5 (x1 + (1 : Int32))).bind fun v_4 =>
    if v_4 = (48 : Int32) then (
      some (-1 : Int32)
    ) else (
      m_numbered_121 g S x3 x5
    )
  ) else (
    m_numbered_121 g S x3 x5
  )
) else (
  (aI S 5 x6).bind fun v_5 =>
  (m_isIn g (v_5.toInt64) (48 : Int64) (57 : Int64)).bind fun v_6 =>
  if v_6 = 0 then (
    some (-1 : Int32)
  ) else (
    (aI S 5 x6).bind fun v_7 =>
    lt ((((10 : Int32) * x5) + v_7) - (48 : Int32)) fun x5_8 =>
    lt (x6 + (1 : Int32)) fun x6_9 =>
    k47 x1 x3 x4 x5_8 x6_9
  )
)
def m_numbered_47 (g : Nat) (S : St) : Nat → Int32 → Int32 → Int32 → Int32 → Int32 → Option Int32
  | 0, _, _, _, _, _ => none
  | n + 1, x1, x3, x4, x5, x6 => b_numbered_47 g S (m_numbered_47 g S n) x1 x3 x4 x5 x6
def m_numbered (g : Nat) (S : St) (x1 : Int32) (x2 : Int32) (x3 : Int32) : Option Int32 :=
lt ((gI S 0 21) - x1) fun x4_1 =>
if (gI S 0 23) = 0 then (
  if x4_1 < (2 : Int32) then (
    some (-1 : Int32)
  ) else (
    if (3 : Int32) < x4_1 then (
      some (-1 : Int32)
    ) else (
      (aI S 5 x1).bind fun v_2 =>
      if v_2 = x2 then (
        lt (x1 + (1 : Int32)) fun x6_3 =>
        m_numbered_47 g S g x1 x3 x4_1 (0 : Int32) x6_3
      ) else (
        some (-1 : Int32)
      )
    )
  )
) else (
  some (-1 : Int32)
)
section S_numbered
variable {p : Program} {l : Launch} {e : Env} {s : State} {m : MethodId} {args : Array Value} {below : List Frame} {meth : Method} {c : Code} {H : Heap} {locs : List Loc} {ls : Array Slot} {D : va_G} {T : Cy} {ρ : Nat → Nat} {A : Nat → Prop}
set_option maxRecDepth 100000 in
set_option maxHeartbeats 4000000 in
theorem w_numbered_121  {g : Nat} {S : St} {x3 : Int32} {x5 : Int32} (C : CallFix p m c cX13_numbered 7 s args tb RX13) (hr : meth.sig.returnType = (some .int)) (hk : meth.locks = false) {r : Int32} (w : Wn Ym D T ρ S A s H locs) (hl : lv_has ls 7 [(3, .int x3), (5, .int x5)]) (h : m_numbered_121 g S x3 x5 = some r) : W p l e (rmN 1 25) s m args below meth c H locs 0 0 (MQ below (Qi Ym D T ρ A S r) args s 0 0 A) (F0 m 121 ls []) := by
  unfold m_numbered_121 at h
  refine lv_iload C.1 C.2.1 dX13_numbered_121 (lv_at hl 1 rfl) ?_
  refine lv_iload_n C.1 C.2.1 dX13_numbered_123 rfl (lv_at hl 0 rfl) ?_
  refine lv_icmp_le (tgt := 131) C.1 C.2.1 dX13_numbered_124 (by decide) (fun hc => ?_) (fun hc => ?_)
  · replace h := ift hc h
    refine lv_iload C.1 C.2.1 dX13_numbered_131 (lv_at hl 1 rfl) ?_
    obtain rfl := som h
    exact x_iret C w hr hk dX13_numbered_133
  · replace h := iff0 hc h
    refine lv_iconst (v := (-1)) C.1 C.2.1 dX13_numbered_127 (by decide) ?_
    refine lv_goto (tgt := 133) C.1 C.2.1 dX13_numbered_128 (by decide) ?_
    obtain rfl := som h
    exact x_iret C w hr hk dX13_numbered_133
set_option maxRecDepth 100000 in
set_option maxHeartbeats 4000000 in
theorem wb_numbered_47  {g : Nat} {S : St} {x1 : Int32} {x3 : Int32} {x4 : Int32} {x5 : Int32} {x6 : Int32} (C : CallFix p m c cX13_numbered 7 s args tb RX13) (hr : meth.sig.returnType = (some .int)) (hk : meth.locks = false) {r : Int32} {k47 : Int32 → Int32 → Int32 → Int32 → Int32 → Option Int32} (kk47 : ∀ (x1 : Int32) (x3 : Int32) (x4 : Int32) (x5 : Int32) (x6 : Int32) (H : Heap) (locs : List Loc) (ls : Array Slot), Wn Ym D T ρ S A s H locs → lv_has ls 7 [(0, .ref (ρ 0)), (1, .int x1), (3, .int x3), (4, .int x4), (5, .int x5), (6, .int x6)] → k47 x1 x3 x4 x5 x6 = some r → W p l e (rmN 1 25) s m args below meth c H locs 0 0 (MQ below (Qi Ym D T ρ A S r) args s 0 0 A) (F0 m 47 ls [])) (w : Wn Ym D T ρ S A s H locs) (hl : lv_has ls 7 [(0, .ref (ρ 0)), (1, .int x1), (3, .int x3), (4, .int x4), (5, .int x5), (6, .int x6)]) (h : b_numbered_47 g S k47 x1 x3 x4 x5 x6 = some r) : W p l e (rmN 1 25) s m args below meth c H locs 0 0 (MQ below (Qi Ym D T ρ A S r) args s 0 0 A) (F0 m 47 ls []) := by
  unfold b_numbered_47 at h
  refine lv_iload C.1 C.2.1 dX13_numbered_47 (lv_at hl 5 rfl) ?_
  refine lv_aload_n C.1 C.2.1 dX13_numbered_49 rfl (lv_at hl 0 rfl) ?_
  refine x_getI C w fM275 obM dX13_numbered_50 ?_
  refine lv_icmp_ge (tgt := 102) C.1 C.2.1 dX13_numbered_53 (by decide) (fun hc => ?_) (fun hc => ?_)
  · replace h := ift hc h
    refine lv_iload C.1 C.2.1 dX13_numbered_102 (lv_at hl 3 rfl) ?_
    refine lv_iconst (v := 3) C.1 C.2.1 dX13_numbered_104 (by decide) ?_
    refine lv_icmp_ne (tgt := 121) C.1 C.2.1 dX13_numbered_105 (by decide) (fun hc => ?_) (fun hc => ?_)
    · replace h := iff0 hc h
      exact w_numbered_121 C hr hk w (lv_sub hl [2, 4] rfl) h
    · replace h := ift hc h
      refine lv_aload_n C.1 C.2.1 dX13_numbered_108 rfl (lv_at hl 0 rfl) ?_
      refine x_getC C w 5 fM135 obM rfl dX13_numbered_109 ?_
      refine lv_iload_n C.1 C.2.1 dX13_numbered_112 rfl (lv_at hl 1 rfl) ?_
      refine lv_iconst (v := 1) C.1 C.2.1 dX13_numbered_113 (by decide) ?_
      refine lv_iadd C.1 C.2.1 dX13_numbered_114 ?_
      obtain ⟨v_4, hv_4, h⟩ := bnd h
      refine x_iald C w obM5 hv_4 dX13_numbered_115 ?_
      refine lv_bipush (v := 48) C.1 C.2.1 dX13_numbered_116 (by decide) ?_
      refine lv_icmp_eq (tgt := 127) C.1 C.2.1 dX13_numbered_118 (by decide) (fun hc => ?_) (fun hc => ?_)
      · replace h := ift hc h
        refine lv_iconst (v := (-1)) C.1 C.2.1 dX13_numbered_127 (by decide) ?_
        refine lv_goto (tgt := 133) C.1 C.2.1 dX13_numbered_128 (by decide) ?_
        obtain rfl := som h
        exact x_iret C w hr hk dX13_numbered_133
      · replace h := iff0 hc h
        exact w_numbered_121 C hr hk w (lv_sub hl [2, 4] rfl) h
  · replace h := iff0 hc h
    refine lv_aload_n C.1 C.2.1 dX13_numbered_56 rfl (lv_at hl 0 rfl) ?_
    refine x_getC C w 5 fM135 obM rfl dX13_numbered_57 ?_
    refine lv_iload C.1 C.2.1 dX13_numbered_60 (lv_at hl 5 rfl) ?_
    obtain ⟨v_5, hv_5, h⟩ := bnd h
    refine x_iald C w obM5 hv_5 dX13_numbered_62 ?_
    refine lv_i2l C.1 C.2.1 dX13_numbered_63 rfl ?_
    refine lv_ldc2 C.1 C.2.1 C.2.2.2.1 (C.2.2.2.2 _ nM314) dX13_numbered_64 ?_
    refine lv_ldc2 C.1 C.2.1 C.2.2.2.1 (C.2.2.2.2 _ nM316) dX13_numbered_67 ?_
    obtain ⟨v_6, hv_6, h⟩ := bnd h
    refine x_callSi (As := [.long (v_5.toInt64), .long (48 : Int64), .long (57 : Int64)]) (rest := []) C w (k_isIn l D T ρ g H.size S hv_6) vM318 ⟨by decide, by decide⟩ rfl rfl hl.1 (Nat.le_of_ble_eq_true rfl) ⟨Nat.zero_le _, Nat.zero_le _⟩ dX13_numbered_70 (fun H locs w => ?_)
    refine lv_if_ne (tgt := 78) C.1 C.2.1 dX13_numbered_73 (by decide) (fun hc => ?_) (fun hc => ?_)
    · replace h := iff0 hc h
      refine lv_bipush (v := 10) C.1 C.2.1 dX13_numbered_78 (by decide) ?_
      refine lv_iload C.1 C.2.1 dX13_numbered_80 (lv_at hl 4 rfl) ?_
      refine lv_imul C.1 C.2.1 dX13_numbered_82 ?_
      refine lv_aload_n C.1 C.2.1 dX13_numbered_83 rfl (lv_at hl 0 rfl) ?_
      refine x_getC C w 5 fM135 obM rfl dX13_numbered_84 ?_
      refine lv_iload C.1 C.2.1 dX13_numbered_87 (lv_at hl 5 rfl) ?_
      obtain ⟨v_7, hv_7, h⟩ := bnd h
      refine x_iald C w obM5 hv_7 dX13_numbered_89 ?_
      refine lv_iadd C.1 C.2.1 dX13_numbered_90 ?_
      refine lv_bipush (v := 48) C.1 C.2.1 dX13_numbered_91 (by decide) ?_
      refine lv_isub C.1 C.2.1 dX13_numbered_93 ?_
      obtain ⟨x5_8, ex5_8, h⟩ := lt_e h
      refine x_nm ex5_8 ?_
      refine lv_istore (lv' := [(5, .int x5_8), (0, .ref (ρ 0)), (1, .int x1), (3, .int x3), (4, .int x4), (6, .int x6)]) C.1 C.2.1 dX13_numbered_94 hl (by decide) rfl (fun ls hl => ?_)
      obtain ⟨x6_9, ex6_9, h⟩ := lt_e h
      refine lv_iinc (v := x6_9) (lv' := [(6, .int x6_9), (5, .int x5_8), (0, .ref (ρ 0)), (1, .int x1), (3, .int x3), (4, .int x4)]) C.1 C.2.1 dX13_numbered_96 hl (k := 5) rfl (by rw [ex6_9]; rfl) (by decide) rfl (fun ls hl => ?_)
      refine lv_goto (tgt := 47) C.1 C.2.1 dX13_numbered_99 (by decide) ?_
      exact kk47 _ _ _ _ _ _ _ _ w (lv_sub hl [2, 3, 4, 5, 1, 0] rfl) h
    · replace h := ift hc h
      refine lv_iconst (v := (-1)) C.1 C.2.1 dX13_numbered_76 (by decide) ?_
      obtain rfl := som h
      exact x_iret C w hr hk dX13_numbered_77
theorem w_numbered_47 {g : Nat} {S : St} (C : CallFix p m c cX13_numbered 7 s args tb RX13) (hr : meth.sig.returnType = (some .int)) (hk : meth.locks = false) {r : Int32} (n : Nat) : ∀ (x1 : Int32) (x3 : Int32) (x4 : Int32) (x5 : Int32) (x6 : Int32) (H : Heap) (locs : List Loc) (ls : Array Slot), Wn Ym D T ρ S A s H locs → lv_has ls 7 [(0, .ref (ρ 0)), (1, .int x1), (3, .int x3), (4, .int x4), (5, .int x5), (6, .int x6)] → m_numbered_47 g S n x1 x3 x4 x5 x6 = some r → W p l e (rmN 1 25) s m args below meth c H locs 0 0 (MQ below (Qi Ym D T ρ A S r) args s 0 0 A) (F0 m 47 ls []) := by
  induction n with
  | zero => intro x1 x3 x4 x5 x6 H locs ls w hl h; exact absurd h (fun q => by cases q)
  | succ n ih => intro x1 x3 x4 x5 x6 H locs ls w hl h; exact wb_numbered_47 C hr hk ih w hl h
set_option maxRecDepth 100000 in
set_option maxHeartbeats 4000000 in
theorem w_numbered_0  {g : Nat} {S : St} {x1 : Int32} {x2 : Int32} {x3 : Int32} (C : CallFix p m c cX13_numbered 7 s args tb RX13) (hr : meth.sig.returnType = (some .int)) (hk : meth.locks = false) {r : Int32} (w : Wn Ym D T ρ S A s H locs) (hl : lv_has ls 7 [(0, .ref (ρ 0)), (1, .int x1), (2, .int x2), (3, .int x3)]) (h : m_numbered g S x1 x2 x3 = some r) : W p l e (rmN 1 25) s m args below meth c H locs 0 0 (MQ below (Qi Ym D T ρ A S r) args s 0 0 A) (F0 m 0 ls []) := by
  unfold m_numbered at h
  refine lv_aload_n C.1 C.2.1 dX13_numbered_0 rfl (lv_at hl 0 rfl) ?_
  refine x_getI C w fM275 obM dX13_numbered_1 ?_
  refine lv_iload_n C.1 C.2.1 dX13_numbered_4 rfl (lv_at hl 1 rfl) ?_
  refine lv_isub C.1 C.2.1 dX13_numbered_5 ?_
  obtain ⟨x4_1, ex4_1, h⟩ := lt_e h
  refine x_nm ex4_1 ?_
  refine lv_istore (lv' := [(4, .int x4_1), (0, .ref (ρ 0)), (1, .int x1), (2, .int x2), (3, .int x3)]) C.1 C.2.1 dX13_numbered_6 hl (by decide) rfl (fun ls hl => ?_)
  refine lv_aload_n C.1 C.2.1 dX13_numbered_8 rfl (lv_at hl 1 rfl) ?_
  refine x_getI C w fM265 obM dX13_numbered_9 ?_
  refine lv_if_ne (tgt := 37) C.1 C.2.1 dX13_numbered_12 (by decide) (fun hc => ?_) (fun hc => ?_)
  · replace h := iff0 hc h
    refine lv_iconst (v := (-1)) C.1 C.2.1 dX13_numbered_37 (by decide) ?_
    obtain rfl := som h
    exact x_iret C w hr hk dX13_numbered_38
  · replace h := ift hc h
    refine lv_iload C.1 C.2.1 dX13_numbered_15 (lv_at hl 0 rfl) ?_
    refine lv_iconst (v := 2) C.1 C.2.1 dX13_numbered_17 (by decide) ?_
    refine lv_icmp_lt (tgt := 37) C.1 C.2.1 dX13_numbered_18 (by decide) (fun hc => ?_) (fun hc => ?_)
    · replace h := ift hc h
      refine lv_iconst (v := (-1)) C.1 C.2.1 dX13_numbered_37 (by decide) ?_
      obtain rfl := som h
      exact x_iret C w hr hk dX13_numbered_38
    · replace h := iff0 hc h
      refine lv_iload C.1 C.2.1 dX13_numbered_21 (lv_at hl 0 rfl) ?_
      refine lv_iconst (v := 3) C.1 C.2.1 dX13_numbered_23 (by decide) ?_
      refine lv_icmp_gt (tgt := 37) C.1 C.2.1 dX13_numbered_24 (by decide) (fun hc => ?_) (fun hc => ?_)
      · replace h := ift hc h
        refine lv_iconst (v := (-1)) C.1 C.2.1 dX13_numbered_37 (by decide) ?_
        obtain rfl := som h
        exact x_iret C w hr hk dX13_numbered_38
      · replace h := iff0 hc h
        refine lv_aload_n C.1 C.2.1 dX13_numbered_27 rfl (lv_at hl 1 rfl) ?_
        refine x_getC C w 5 fM135 obM rfl dX13_numbered_28 ?_
        refine lv_iload_n C.1 C.2.1 dX13_numbered_31 rfl (lv_at hl 2 rfl) ?_
        obtain ⟨v_2, hv_2, h⟩ := bnd h
        refine x_iald C w obM5 hv_2 dX13_numbered_32 ?_
        refine lv_iload_n C.1 C.2.1 dX13_numbered_33 rfl (lv_at hl 3 rfl) ?_
        refine lv_icmp_eq (tgt := 39) C.1 C.2.1 dX13_numbered_34 (by decide) (fun hc => ?_) (fun hc => ?_)
        · replace h := ift hc h
          refine lv_iconst (v := 0) C.1 C.2.1 dX13_numbered_39 (by decide) ?_
          refine lv_istore (lv' := [(5, .int (0 : Int32)), (4, .int x4_1), (0, .ref (ρ 0)), (1, .int x1), (2, .int x2), (3, .int x3)]) C.1 C.2.1 dX13_numbered_40 hl (by decide) rfl (fun ls hl => ?_)
          refine lv_iload_n C.1 C.2.1 dX13_numbered_42 rfl (lv_at hl 3 rfl) ?_
          refine lv_iconst (v := 1) C.1 C.2.1 dX13_numbered_43 (by decide) ?_
          refine lv_iadd C.1 C.2.1 dX13_numbered_44 ?_
          obtain ⟨x6_3, ex6_3, h⟩ := lt_e h
          refine x_nm ex6_3 ?_
          refine lv_istore (lv' := [(6, .int x6_3), (5, .int (0 : Int32)), (4, .int x4_1), (0, .ref (ρ 0)), (1, .int x1), (2, .int x2), (3, .int x3)]) C.1 C.2.1 dX13_numbered_45 hl (by decide) rfl (fun ls hl => ?_)
          exact w_numbered_47 C hr hk g _ _ _ _ _ _ _ _ w (lv_sub hl [3, 4, 6, 2, 1, 0] rfl) h
        · replace h := iff0 hc h
          refine lv_iconst (v := (-1)) C.1 C.2.1 dX13_numbered_37 (by decide) ?_
          obtain rfl := som h
          exact x_iret C w hr hk dX13_numbered_38
end S_numbered
set_option maxRecDepth 100000 in
theorem k_numbered (l : Launch) (D : va_G) (T : Cy) (ρ : Nat → Nat) (g sz : Nat) (S : St) {x1 : Int32} {x2 : Int32} {x3 : Int32} {r : Int32} (h : m_numbered g S x1 x2 x3 = some r) : Mi l Ym D T ρ yX13_numbered cX13_numbered 7 (some .int) 1 25 S S r [.ref (ρ 0), .int x1, .int x2, .int x3] sz :=
  x_in (by decide) (Nat.le_of_ble_eq_true rfl) (fun p e s m below meth c ls C hr hk w hl => w_numbered_0 C hr hk w hl h)

theorem dX13_readsCount_0 : decode cX13_readsCount 0 = .ok (.aload_n 0, 1) := by decide +kernel
theorem dX13_readsCount_1 : decode cX13_readsCount 1 = .ok (.getfield 275, 3) := by decide +kernel
theorem dX13_readsCount_4 : decode cX13_readsCount 4 = .ok (.aload_n 0, 1) := by decide +kernel
theorem dX13_readsCount_5 : decode cX13_readsCount 5 = .ok (.getfield 262, 3) := by decide +kernel
theorem dX13_readsCount_8 : decode cX13_readsCount 8 = .ok (.isub, 1) := by decide +kernel
theorem dX13_readsCount_9 : decode cX13_readsCount 9 = .ok (.istore_n 2, 1) := by decide +kernel
theorem dX13_readsCount_10 : decode cX13_readsCount 10 = .ok (.aload_n 0, 1) := by decide +kernel
theorem dX13_readsCount_11 : decode cX13_readsCount 11 = .ok (.getfield 265, 3) := by decide +kernel
theorem dX13_readsCount_14 : decode cX13_readsCount 14 = .ok (.ifCond .ne 8, 3) := by decide +kernel
theorem dX13_readsCount_17 : decode cX13_readsCount 17 = .ok (.iload_n 2, 1) := by decide +kernel
theorem dX13_readsCount_18 : decode cX13_readsCount 18 = .ok (.iconst 2, 1) := by decide +kernel
theorem dX13_readsCount_19 : decode cX13_readsCount 19 = .ok (.if_icmp .le 5, 3) := by decide +kernel
theorem dX13_readsCount_22 : decode cX13_readsCount 22 = .ok (.iconst 0, 1) := by decide +kernel
theorem dX13_readsCount_23 : decode cX13_readsCount 23 = .ok (.ireturn, 1) := by decide +kernel
theorem dX13_readsCount_24 : decode cX13_readsCount 24 = .ok (.iconst 0, 1) := by decide +kernel
theorem dX13_readsCount_25 : decode cX13_readsCount 25 = .ok (.istore_n 3, 1) := by decide +kernel
theorem dX13_readsCount_26 : decode cX13_readsCount 26 = .ok (.aload_n 0, 1) := by decide +kernel
theorem dX13_readsCount_27 : decode cX13_readsCount 27 = .ok (.getfield 262, 3) := by decide +kernel
theorem dX13_readsCount_30 : decode cX13_readsCount 30 = .ok (.istore 4, 2) := by decide +kernel
theorem dX13_readsCount_32 : decode cX13_readsCount 32 = .ok (.iload 4, 2) := by decide +kernel
theorem dX13_readsCount_34 : decode cX13_readsCount 34 = .ok (.aload_n 0, 1) := by decide +kernel
theorem dX13_readsCount_35 : decode cX13_readsCount 35 = .ok (.getfield 275, 3) := by decide +kernel
theorem dX13_readsCount_38 : decode cX13_readsCount 38 = .ok (.if_icmp .ge 47, 3) := by decide +kernel
theorem dX13_readsCount_41 : decode cX13_readsCount 41 = .ok (.aload_n 0, 1) := by decide +kernel
theorem dX13_readsCount_42 : decode cX13_readsCount 42 = .ok (.getfield 135, 3) := by decide +kernel
theorem dX13_readsCount_45 : decode cX13_readsCount 45 = .ok (.iload 4, 2) := by decide +kernel
theorem dX13_readsCount_47 : decode cX13_readsCount 47 = .ok (.iaload, 1) := by decide +kernel
theorem dX13_readsCount_48 : decode cX13_readsCount 48 = .ok (.i2l, 1) := by decide +kernel
theorem dX13_readsCount_49 : decode cX13_readsCount 49 = .ok (.ldc2_w 314, 3) := by decide +kernel
theorem dX13_readsCount_52 : decode cX13_readsCount 52 = .ok (.ldc2_w 316, 3) := by decide +kernel
theorem dX13_readsCount_55 : decode cX13_readsCount 55 = .ok (.invokestatic 318, 3) := by decide +kernel
theorem dX13_readsCount_58 : decode cX13_readsCount 58 = .ok (.ifCond .ne 5, 3) := by decide +kernel
theorem dX13_readsCount_61 : decode cX13_readsCount 61 = .ok (.iconst 0, 1) := by decide +kernel
theorem dX13_readsCount_62 : decode cX13_readsCount 62 = .ok (.ireturn, 1) := by decide +kernel
theorem dX13_readsCount_63 : decode cX13_readsCount 63 = .ok (.bipush 10, 2) := by decide +kernel
theorem dX13_readsCount_65 : decode cX13_readsCount 65 = .ok (.iload_n 3, 1) := by decide +kernel
theorem dX13_readsCount_66 : decode cX13_readsCount 66 = .ok (.imul, 1) := by decide +kernel
theorem dX13_readsCount_67 : decode cX13_readsCount 67 = .ok (.aload_n 0, 1) := by decide +kernel
theorem dX13_readsCount_68 : decode cX13_readsCount 68 = .ok (.getfield 135, 3) := by decide +kernel
theorem dX13_readsCount_71 : decode cX13_readsCount 71 = .ok (.iload 4, 2) := by decide +kernel
theorem dX13_readsCount_73 : decode cX13_readsCount 73 = .ok (.iaload, 1) := by decide +kernel
theorem dX13_readsCount_74 : decode cX13_readsCount 74 = .ok (.iadd, 1) := by decide +kernel
theorem dX13_readsCount_75 : decode cX13_readsCount 75 = .ok (.bipush 48, 2) := by decide +kernel
theorem dX13_readsCount_77 : decode cX13_readsCount 77 = .ok (.isub, 1) := by decide +kernel
theorem dX13_readsCount_78 : decode cX13_readsCount 78 = .ok (.istore_n 3, 1) := by decide +kernel
theorem dX13_readsCount_79 : decode cX13_readsCount 79 = .ok (.iinc 4 1, 3) := by decide +kernel
theorem dX13_readsCount_82 : decode cX13_readsCount 82 = .ok (.goto (-50), 3) := by decide +kernel
theorem dX13_readsCount_85 : decode cX13_readsCount 85 = .ok (.aload_n 0, 1) := by decide +kernel
theorem dX13_readsCount_86 : decode cX13_readsCount 86 = .ok (.iload_n 1, 1) := by decide +kernel
theorem dX13_readsCount_87 : decode cX13_readsCount 87 = .ok (.bipush 9, 2) := by decide +kernel
theorem dX13_readsCount_89 : decode cX13_readsCount 89 = .ok (.iload_n 3, 1) := by decide +kernel
theorem dX13_readsCount_90 : decode cX13_readsCount 90 = .ok (.i2l, 1) := by decide +kernel
theorem dX13_readsCount_91 : decode cX13_readsCount 91 = .ok (.invokevirtual 336, 3) := by decide +kernel
theorem dX13_readsCount_94 : decode cX13_readsCount 94 = .ok (.ireturn, 1) := by decide +kernel
def b_readsCount_32 (g : Nat) (k32 : St → Int32 → Int32 → Int32 → Option (St × Int32)) (S : St) (x1 : Int32) (x3 : Int32) (x4 : Int32) : Option (St × Int32) :=
if (gI S 0 21) ≤ x4 then (
  (m_keeps g S x1 (9 : Int32) (x3.toInt64)).bind fun (S_3, v_4) =>
  if v_4 = 0 ∨ v_4 = 1 then some (S_3, v_4) else none
) else (
  (aI S 5 x4).bind fun v_6 =>
  (m_isIn g (v_6.toInt64) (48 : Int64) (57 : Int64)).bind fun v_7 =>
  if v_7 = 0 then (
    some (S, (0 : Int32))
  ) else (
    (aI S 5 x4).bind fun v_8 =>
    lt ((((10 : Int32) * x3) + v_8) - (48 : Int32)) fun x3_9 =>
    lt (x4 + (1 : Int32)) fun x4_10 =>
    k32 S x1 x3_9 x4_10
  )
)
def m_readsCount_32 (g : Nat) : Nat → St → Int32 → Int32 → Int32 → Option (St × Int32)
  | 0, _, _, _, _ => none
  | n + 1, S, x1, x3, x4 => b_readsCount_32 g (m_readsCount_32 g n) S x1 x3 x4
def m_readsCount (g : Nat) (S : St) (x1 : Int32) : Option (St × Int32) :=
lt ((gI S 0 21) - (gI S 0 20)) fun x2_1 =>
if (gI S 0 23) = 0 then (
  if x2_1 ≤ (2 : Int32) then (
    lt (gI S 0 20) fun x4_2 =>
    m_readsCount_32 g g S x1 (0 : Int32) x4_2
  ) else (
    some (S, (0 : Int32))
  )
) else (
  some (S, (0 : Int32))
)
section S_readsCount
variable {p : Program} {l : Launch} {e : Env} {s : State} {m : MethodId} {args : Array Value} {below : List Frame} {meth : Method} {c : Code} {H : Heap} {locs : List Loc} {ls : Array Slot} {D : va_G} {T : Cy} {ρ : Nat → Nat} {A : Nat → Prop}
set_option maxRecDepth 100000 in
set_option maxHeartbeats 4000000 in
theorem wb_readsCount_32  {g : Nat} {S : St} {x1 : Int32} {x3 : Int32} {x4 : Int32} (C : CallFix p m c cX13_readsCount 5 s args tb RX13) (hr : meth.sig.returnType = (some .boolean)) (hk : meth.locks = false) {S' : St} {r : Int32} {k32 : St → Int32 → Int32 → Int32 → Option (St × Int32)} (kk32 : ∀ (S : St) (x1 : Int32) (x3 : Int32) (x4 : Int32) (H : Heap) (locs : List Loc) (ls : Array Slot), Wn Ym D T ρ S A s H locs → lv_has ls 5 [(0, .ref (ρ 0)), (1, .int x1), (3, .int x3), (4, .int x4)] → k32 S x1 x3 x4 = some (S', r) → W p l e (rmN 1 25) s m args below meth c H locs 0 0 (MQ below (Qi Ym D T ρ A S' r) args s 0 0 A) (F0 m 32 ls [])) (w : Wn Ym D T ρ S A s H locs) (hl : lv_has ls 5 [(0, .ref (ρ 0)), (1, .int x1), (3, .int x3), (4, .int x4)]) (h : b_readsCount_32 g k32 S x1 x3 x4 = some (S', r)) : W p l e (rmN 1 25) s m args below meth c H locs 0 0 (MQ below (Qi Ym D T ρ A S' r) args s 0 0 A) (F0 m 32 ls []) := by
  unfold b_readsCount_32 at h
  refine lv_iload C.1 C.2.1 dX13_readsCount_32 (lv_at hl 3 rfl) ?_
  refine lv_aload_n C.1 C.2.1 dX13_readsCount_34 rfl (lv_at hl 0 rfl) ?_
  refine x_getI C w fM275 obM dX13_readsCount_35 ?_
  refine lv_icmp_ge (tgt := 85) C.1 C.2.1 dX13_readsCount_38 (by decide) (fun hc => ?_) (fun hc => ?_)
  · replace h := ift hc h
    refine lv_aload_n C.1 C.2.1 dX13_readsCount_85 rfl (lv_at hl 0 rfl) ?_
    refine lv_iload_n C.1 C.2.1 dX13_readsCount_86 rfl (lv_at hl 1 rfl) ?_
    refine lv_bipush (v := 9) C.1 C.2.1 dX13_readsCount_87 (by decide) ?_
    refine lv_iload_n C.1 C.2.1 dX13_readsCount_89 rfl (lv_at hl 2 rfl) ?_
    refine lv_i2l C.1 C.2.1 dX13_readsCount_90 rfl ?_
    obtain ⟨⟨S_3, v_4⟩, hv_4, h⟩ := bnd h
    refine x_callVi (q := (RX13, TX13, 68)) (As := [.int x1, .int (9 : Int32), .long (x3.toInt64)]) (rest := []) C w (k_keeps l D T ρ g H.size S hv_4) vM336 ⟨by decide, by decide⟩ obM (by decide) rfl rfl rfl hl.1 (Nat.le_of_ble_eq_true rfl) ⟨Nat.zero_le _, Nat.zero_le _⟩ dX13_readsCount_91 (fun H locs w => ?_)
    by_cases hz_5 : v_4 = 0 ∨ v_4 = 1
    case neg => exact absurd (iff0 hz_5 h) (fun q => by cases q)
    replace h := ift hz_5 h
    obtain ⟨rfl, rfl⟩ := prI h
    exact x_zret C w hr hk hz_5 dX13_readsCount_94
  · replace h := iff0 hc h
    refine lv_aload_n C.1 C.2.1 dX13_readsCount_41 rfl (lv_at hl 0 rfl) ?_
    refine x_getC C w 5 fM135 obM rfl dX13_readsCount_42 ?_
    refine lv_iload C.1 C.2.1 dX13_readsCount_45 (lv_at hl 3 rfl) ?_
    obtain ⟨v_6, hv_6, h⟩ := bnd h
    refine x_iald C w obM5 hv_6 dX13_readsCount_47 ?_
    refine lv_i2l C.1 C.2.1 dX13_readsCount_48 rfl ?_
    refine lv_ldc2 C.1 C.2.1 C.2.2.2.1 (C.2.2.2.2 _ nM314) dX13_readsCount_49 ?_
    refine lv_ldc2 C.1 C.2.1 C.2.2.2.1 (C.2.2.2.2 _ nM316) dX13_readsCount_52 ?_
    obtain ⟨v_7, hv_7, h⟩ := bnd h
    refine x_callSi (As := [.long (v_6.toInt64), .long (48 : Int64), .long (57 : Int64)]) (rest := []) C w (k_isIn l D T ρ g H.size S hv_7) vM318 ⟨by decide, by decide⟩ rfl rfl hl.1 (Nat.le_of_ble_eq_true rfl) ⟨Nat.zero_le _, Nat.zero_le _⟩ dX13_readsCount_55 (fun H locs w => ?_)
    refine lv_if_ne (tgt := 63) C.1 C.2.1 dX13_readsCount_58 (by decide) (fun hc => ?_) (fun hc => ?_)
    · replace h := iff0 hc h
      refine lv_bipush (v := 10) C.1 C.2.1 dX13_readsCount_63 (by decide) ?_
      refine lv_iload_n C.1 C.2.1 dX13_readsCount_65 rfl (lv_at hl 2 rfl) ?_
      refine lv_imul C.1 C.2.1 dX13_readsCount_66 ?_
      refine lv_aload_n C.1 C.2.1 dX13_readsCount_67 rfl (lv_at hl 0 rfl) ?_
      refine x_getC C w 5 fM135 obM rfl dX13_readsCount_68 ?_
      refine lv_iload C.1 C.2.1 dX13_readsCount_71 (lv_at hl 3 rfl) ?_
      obtain ⟨v_8, hv_8, h⟩ := bnd h
      refine x_iald C w obM5 hv_8 dX13_readsCount_73 ?_
      refine lv_iadd C.1 C.2.1 dX13_readsCount_74 ?_
      refine lv_bipush (v := 48) C.1 C.2.1 dX13_readsCount_75 (by decide) ?_
      refine lv_isub C.1 C.2.1 dX13_readsCount_77 ?_
      obtain ⟨x3_9, ex3_9, h⟩ := lt_e h
      refine x_nm ex3_9 ?_
      refine lv_istore_n (lv' := [(3, .int x3_9), (0, .ref (ρ 0)), (1, .int x1), (4, .int x4)]) C.1 C.2.1 dX13_readsCount_78 rfl hl (by decide) rfl (fun ls hl => ?_)
      obtain ⟨x4_10, ex4_10, h⟩ := lt_e h
      refine lv_iinc (v := x4_10) (lv' := [(4, .int x4_10), (3, .int x3_9), (0, .ref (ρ 0)), (1, .int x1)]) C.1 C.2.1 dX13_readsCount_79 hl (k := 3) rfl (by rw [ex4_10]; rfl) (by decide) rfl (fun ls hl => ?_)
      refine lv_goto (tgt := 32) C.1 C.2.1 dX13_readsCount_82 (by decide) ?_
      exact kk32 _ _ _ _ _ _ _ w (lv_sub hl [2, 3, 1, 0] rfl) h
    · replace h := ift hc h
      refine lv_iconst (v := 0) C.1 C.2.1 dX13_readsCount_61 (by decide) ?_
      obtain ⟨rfl, rfl⟩ := prI h
      exact x_zret C w hr hk (by decide) dX13_readsCount_62
theorem w_readsCount_32 {g : Nat} (C : CallFix p m c cX13_readsCount 5 s args tb RX13) (hr : meth.sig.returnType = (some .boolean)) (hk : meth.locks = false) {S' : St} {r : Int32} (n : Nat) : ∀ (S : St) (x1 : Int32) (x3 : Int32) (x4 : Int32) (H : Heap) (locs : List Loc) (ls : Array Slot), Wn Ym D T ρ S A s H locs → lv_has ls 5 [(0, .ref (ρ 0)), (1, .int x1), (3, .int x3), (4, .int x4)] → m_readsCount_32 g n S x1 x3 x4 = some (S', r) → W p l e (rmN 1 25) s m args below meth c H locs 0 0 (MQ below (Qi Ym D T ρ A S' r) args s 0 0 A) (F0 m 32 ls []) := by
  induction n with
  | zero => intro S x1 x3 x4 H locs ls w hl h; exact absurd h (fun q => by cases q)
  | succ n ih => intro S x1 x3 x4 H locs ls w hl h; exact wb_readsCount_32 C hr hk ih w hl h
set_option maxRecDepth 100000 in
set_option maxHeartbeats 4000000 in
theorem w_readsCount_0  {g : Nat} {S : St} {x1 : Int32} (C : CallFix p m c cX13_readsCount 5 s args tb RX13) (hr : meth.sig.returnType = (some .boolean)) (hk : meth.locks = false) {S' : St} {r : Int32} (w : Wn Ym D T ρ S A s H locs) (hl : lv_has ls 5 [(0, .ref (ρ 0)), (1, .int x1)]) (h : m_readsCount g S x1 = some (S', r)) : W p l e (rmN 1 25) s m args below meth c H locs 0 0 (MQ below (Qi Ym D T ρ A S' r) args s 0 0 A) (F0 m 0 ls []) := by
  unfold m_readsCount at h
  refine lv_aload_n C.1 C.2.1 dX13_readsCount_0 rfl (lv_at hl 0 rfl) ?_
  refine x_getI C w fM275 obM dX13_readsCount_1 ?_
  refine lv_aload_n C.1 C.2.1 dX13_readsCount_4 rfl (lv_at hl 0 rfl) ?_
  refine x_getI C w fM262 obM dX13_readsCount_5 ?_
  refine lv_isub C.1 C.2.1 dX13_readsCount_8 ?_
  obtain ⟨x2_1, ex2_1, h⟩ := lt_e h
  refine x_nm ex2_1 ?_
  refine lv_istore_n (lv' := [(2, .int x2_1), (0, .ref (ρ 0)), (1, .int x1)]) C.1 C.2.1 dX13_readsCount_9 rfl hl (by decide) rfl (fun ls hl => ?_)
  refine lv_aload_n C.1 C.2.1 dX13_readsCount_10 rfl (lv_at hl 1 rfl) ?_
  refine x_getI C w fM265 obM dX13_readsCount_11 ?_
  refine lv_if_ne (tgt := 22) C.1 C.2.1 dX13_readsCount_14 (by decide) (fun hc => ?_) (fun hc => ?_)
  · replace h := iff0 hc h
    refine lv_iconst (v := 0) C.1 C.2.1 dX13_readsCount_22 (by decide) ?_
    obtain ⟨rfl, rfl⟩ := prI h
    exact x_zret C w hr hk (by decide) dX13_readsCount_23
  · replace h := ift hc h
    refine lv_iload_n C.1 C.2.1 dX13_readsCount_17 rfl (lv_at hl 0 rfl) ?_
    refine lv_iconst (v := 2) C.1 C.2.1 dX13_readsCount_18 (by decide) ?_
    refine lv_icmp_le (tgt := 24) C.1 C.2.1 dX13_readsCount_19 (by decide) (fun hc => ?_) (fun hc => ?_)
    · replace h := ift hc h
      refine lv_iconst (v := 0) C.1 C.2.1 dX13_readsCount_24 (by decide) ?_
      refine lv_istore_n (lv' := [(3, .int (0 : Int32)), (2, .int x2_1), (0, .ref (ρ 0)), (1, .int x1)]) C.1 C.2.1 dX13_readsCount_25 rfl hl (by decide) rfl (fun ls hl => ?_)
      refine lv_aload_n C.1 C.2.1 dX13_readsCount_26 rfl (lv_at hl 2 rfl) ?_
      refine x_getI C w fM262 obM dX13_readsCount_27 ?_
      obtain ⟨x4_2, ex4_2, h⟩ := lt_e h
      refine x_nm ex4_2 ?_
      refine lv_istore (lv' := [(4, .int x4_2), (3, .int (0 : Int32)), (2, .int x2_1), (0, .ref (ρ 0)), (1, .int x1)]) C.1 C.2.1 dX13_readsCount_30 hl (by decide) rfl (fun ls hl => ?_)
      exact w_readsCount_32 C hr hk g _ _ _ _ _ _ _ w (lv_sub hl [3, 4, 1, 0] rfl) h
    · replace h := iff0 hc h
      refine lv_iconst (v := 0) C.1 C.2.1 dX13_readsCount_22 (by decide) ?_
      obtain ⟨rfl, rfl⟩ := prI h
      exact x_zret C w hr hk (by decide) dX13_readsCount_23
end S_readsCount
set_option maxRecDepth 100000 in
theorem k_readsCount (l : Launch) (D : va_G) (T : Cy) (ρ : Nat → Nat) (g sz : Nat) (S : St) {x1 : Int32} {S' : St} {r : Int32} (h : m_readsCount g S x1 = some (S', r)) : Mi l Ym D T ρ yX13_readsCount cX13_readsCount 5 (some .boolean) 1 25 S S' r [.ref (ρ 0), .int x1] sz :=
  x_in (by decide) (Nat.le_of_ble_eq_true rfl) (fun p e s m below meth c ls C hr hk w hl => w_readsCount_0 C hr hk w hl h)

theorem dX13_readsLiteral_0 : decode cX13_readsLiteral 0 = .ok (.sipush 3000, 3) := by decide +kernel
theorem dX13_readsLiteral_3 : decode cX13_readsLiteral 3 = .ok (.istore_n 2, 1) := by decide +kernel
theorem dX13_readsLiteral_4 : decode cX13_readsLiteral 4 = .ok (.bipush 24, 2) := by decide +kernel
theorem dX13_readsLiteral_6 : decode cX13_readsLiteral 6 = .ok (.istore_n 3, 1) := by decide +kernel
theorem dX13_readsLiteral_7 : decode cX13_readsLiteral 7 = .ok (.iload_n 3, 1) := by decide +kernel
theorem dX13_readsLiteral_8 : decode cX13_readsLiteral 8 = .ok (.bipush 24, 2) := by decide +kernel
theorem dX13_readsLiteral_10 : decode cX13_readsLiteral 10 = .ok (.aload_n 0, 1) := by decide +kernel
theorem dX13_readsLiteral_11 : decode cX13_readsLiteral 11 = .ok (.getfield 165, 3) := by decide +kernel
theorem dX13_readsLiteral_14 : decode cX13_readsLiteral 14 = .ok (.iconst 1, 1) := by decide +kernel
theorem dX13_readsLiteral_15 : decode cX13_readsLiteral 15 = .ok (.iaload, 1) := by decide +kernel
theorem dX13_readsLiteral_16 : decode cX13_readsLiteral 16 = .ok (.iadd, 1) := by decide +kernel
theorem dX13_readsLiteral_17 : decode cX13_readsLiteral 17 = .ok (.if_icmp .ge 114, 3) := by decide +kernel
theorem dX13_readsLiteral_20 : decode cX13_readsLiteral 20 = .ok (.aload_n 0, 1) := by decide +kernel
theorem dX13_readsLiteral_21 : decode cX13_readsLiteral 21 = .ok (.getfield 162, 3) := by decide +kernel
theorem dX13_readsLiteral_24 : decode cX13_readsLiteral 24 = .ok (.iload_n 3, 1) := by decide +kernel
theorem dX13_readsLiteral_25 : decode cX13_readsLiteral 25 = .ok (.iaload, 1) := by decide +kernel
theorem dX13_readsLiteral_26 : decode cX13_readsLiteral 26 = .ok (.aload_n 0, 1) := by decide +kernel
theorem dX13_readsLiteral_27 : decode cX13_readsLiteral 27 = .ok (.getfield 278, 3) := by decide +kernel
theorem dX13_readsLiteral_30 : decode cX13_readsLiteral 30 = .ok (.if_icmp .ne 7, 3) := by decide +kernel
theorem dX13_readsLiteral_33 : decode cX13_readsLiteral 33 = .ok (.iconst 1, 1) := by decide +kernel
theorem dX13_readsLiteral_34 : decode cX13_readsLiteral 34 = .ok (.goto 4, 3) := by decide +kernel
theorem dX13_readsLiteral_37 : decode cX13_readsLiteral 37 = .ok (.iconst 0, 1) := by decide +kernel
theorem dX13_readsLiteral_38 : decode cX13_readsLiteral 38 = .ok (.istore 4, 2) := by decide +kernel
theorem dX13_readsLiteral_40 : decode cX13_readsLiteral 40 = .ok (.iconst 0, 1) := by decide +kernel
theorem dX13_readsLiteral_41 : decode cX13_readsLiteral 41 = .ok (.istore 5, 2) := by decide +kernel
theorem dX13_readsLiteral_43 : decode cX13_readsLiteral 43 = .ok (.iload 5, 2) := by decide +kernel
theorem dX13_readsLiteral_45 : decode cX13_readsLiteral 45 = .ok (.aload_n 0, 1) := by decide +kernel
theorem dX13_readsLiteral_46 : decode cX13_readsLiteral 46 = .ok (.getfield 278, 3) := by decide +kernel
theorem dX13_readsLiteral_49 : decode cX13_readsLiteral 49 = .ok (.if_icmp .ge 45, 3) := by decide +kernel
theorem dX13_readsLiteral_52 : decode cX13_readsLiteral 52 = .ok (.iload 4, 2) := by decide +kernel
theorem dX13_readsLiteral_54 : decode cX13_readsLiteral 54 = .ok (.ifCond .eq 40, 3) := by decide +kernel
theorem dX13_readsLiteral_57 : decode cX13_readsLiteral 57 = .ok (.aload_n 0, 1) := by decide +kernel
theorem dX13_readsLiteral_58 : decode cX13_readsLiteral 58 = .ok (.getfield 156, 3) := by decide +kernel
theorem dX13_readsLiteral_61 : decode cX13_readsLiteral 61 = .ok (.aload_n 0, 1) := by decide +kernel
theorem dX13_readsLiteral_62 : decode cX13_readsLiteral 62 = .ok (.getfield 159, 3) := by decide +kernel
theorem dX13_readsLiteral_65 : decode cX13_readsLiteral 65 = .ok (.iload_n 3, 1) := by decide +kernel
theorem dX13_readsLiteral_66 : decode cX13_readsLiteral 66 = .ok (.iaload, 1) := by decide +kernel
theorem dX13_readsLiteral_67 : decode cX13_readsLiteral 67 = .ok (.iload 5, 2) := by decide +kernel
theorem dX13_readsLiteral_69 : decode cX13_readsLiteral 69 = .ok (.iadd, 1) := by decide +kernel
theorem dX13_readsLiteral_70 : decode cX13_readsLiteral 70 = .ok (.iaload, 1) := by decide +kernel
theorem dX13_readsLiteral_71 : decode cX13_readsLiteral 71 = .ok (.aload_n 0, 1) := by decide +kernel
theorem dX13_readsLiteral_72 : decode cX13_readsLiteral 72 = .ok (.getfield 171, 3) := by decide +kernel
theorem dX13_readsLiteral_75 : decode cX13_readsLiteral 75 = .ok (.iload 5, 2) := by decide +kernel
theorem dX13_readsLiteral_77 : decode cX13_readsLiteral 77 = .ok (.iaload, 1) := by decide +kernel
theorem dX13_readsLiteral_78 : decode cX13_readsLiteral 78 = .ok (.if_icmp .ne 7, 3) := by decide +kernel
theorem dX13_readsLiteral_81 : decode cX13_readsLiteral 81 = .ok (.iconst 1, 1) := by decide +kernel
theorem dX13_readsLiteral_82 : decode cX13_readsLiteral 82 = .ok (.goto 4, 3) := by decide +kernel
theorem dX13_readsLiteral_85 : decode cX13_readsLiteral 85 = .ok (.iconst 0, 1) := by decide +kernel
theorem dX13_readsLiteral_86 : decode cX13_readsLiteral 86 = .ok (.istore 4, 2) := by decide +kernel
theorem dX13_readsLiteral_88 : decode cX13_readsLiteral 88 = .ok (.iinc 5 1, 3) := by decide +kernel
theorem dX13_readsLiteral_91 : decode cX13_readsLiteral 91 = .ok (.goto (-48), 3) := by decide +kernel
theorem dX13_readsLiteral_94 : decode cX13_readsLiteral 94 = .ok (.iload 4, 2) := by decide +kernel
theorem dX13_readsLiteral_96 : decode cX13_readsLiteral 96 = .ok (.ifCond .eq 15, 3) := by decide +kernel
theorem dX13_readsLiteral_99 : decode cX13_readsLiteral 99 = .ok (.aload_n 0, 1) := by decide +kernel
theorem dX13_readsLiteral_100 : decode cX13_readsLiteral 100 = .ok (.iload_n 1, 1) := by decide +kernel
theorem dX13_readsLiteral_101 : decode cX13_readsLiteral 101 = .ok (.iconst 3, 1) := by decide +kernel
theorem dX13_readsLiteral_102 : decode cX13_readsLiteral 102 = .ok (.iload_n 3, 1) := by decide +kernel
theorem dX13_readsLiteral_103 : decode cX13_readsLiteral 103 = .ok (.bipush 24, 2) := by decide +kernel
theorem dX13_readsLiteral_105 : decode cX13_readsLiteral 105 = .ok (.isub, 1) := by decide +kernel
theorem dX13_readsLiteral_106 : decode cX13_readsLiteral 106 = .ok (.i2l, 1) := by decide +kernel
theorem dX13_readsLiteral_107 : decode cX13_readsLiteral 107 = .ok (.invokevirtual 336, 3) := by decide +kernel
theorem dX13_readsLiteral_110 : decode cX13_readsLiteral 110 = .ok (.ireturn, 1) := by decide +kernel
theorem dX13_readsLiteral_111 : decode cX13_readsLiteral 111 = .ok (.aload_n 0, 1) := by decide +kernel
theorem dX13_readsLiteral_112 : decode cX13_readsLiteral 112 = .ok (.getfield 159, 3) := by decide +kernel
theorem dX13_readsLiteral_115 : decode cX13_readsLiteral 115 = .ok (.iload_n 3, 1) := by decide +kernel
theorem dX13_readsLiteral_116 : decode cX13_readsLiteral 116 = .ok (.iaload, 1) := by decide +kernel
theorem dX13_readsLiteral_117 : decode cX13_readsLiteral 117 = .ok (.aload_n 0, 1) := by decide +kernel
theorem dX13_readsLiteral_118 : decode cX13_readsLiteral 118 = .ok (.getfield 162, 3) := by decide +kernel
theorem dX13_readsLiteral_121 : decode cX13_readsLiteral 121 = .ok (.iload_n 3, 1) := by decide +kernel
theorem dX13_readsLiteral_122 : decode cX13_readsLiteral 122 = .ok (.iaload, 1) := by decide +kernel
theorem dX13_readsLiteral_123 : decode cX13_readsLiteral 123 = .ok (.iadd, 1) := by decide +kernel
theorem dX13_readsLiteral_124 : decode cX13_readsLiteral 124 = .ok (.istore_n 2, 1) := by decide +kernel
theorem dX13_readsLiteral_125 : decode cX13_readsLiteral 125 = .ok (.iinc 3 1, 3) := by decide +kernel
theorem dX13_readsLiteral_128 : decode cX13_readsLiteral 128 = .ok (.goto (-121), 3) := by decide +kernel
theorem dX13_readsLiteral_131 : decode cX13_readsLiteral 131 = .ok (.aload_n 0, 1) := by decide +kernel
theorem dX13_readsLiteral_132 : decode cX13_readsLiteral 132 = .ok (.getfield 165, 3) := by decide +kernel
theorem dX13_readsLiteral_135 : decode cX13_readsLiteral 135 = .ok (.iconst 1, 1) := by decide +kernel
theorem dX13_readsLiteral_136 : decode cX13_readsLiteral 136 = .ok (.iaload, 1) := by decide +kernel
theorem dX13_readsLiteral_137 : decode cX13_readsLiteral 137 = .ok (.bipush 24, 2) := by decide +kernel
theorem dX13_readsLiteral_139 : decode cX13_readsLiteral 139 = .ok (.if_icmp .ne 5, 3) := by decide +kernel
theorem dX13_readsLiteral_142 : decode cX13_readsLiteral 142 = .ok (.iconst 0, 1) := by decide +kernel
theorem dX13_readsLiteral_143 : decode cX13_readsLiteral 143 = .ok (.ireturn, 1) := by decide +kernel
theorem dX13_readsLiteral_144 : decode cX13_readsLiteral 144 = .ok (.bipush 24, 2) := by decide +kernel
theorem dX13_readsLiteral_146 : decode cX13_readsLiteral 146 = .ok (.aload_n 0, 1) := by decide +kernel
theorem dX13_readsLiteral_147 : decode cX13_readsLiteral 147 = .ok (.getfield 165, 3) := by decide +kernel
theorem dX13_readsLiteral_150 : decode cX13_readsLiteral 150 = .ok (.iconst 1, 1) := by decide +kernel
theorem dX13_readsLiteral_151 : decode cX13_readsLiteral 151 = .ok (.iaload, 1) := by decide +kernel
theorem dX13_readsLiteral_152 : decode cX13_readsLiteral 152 = .ok (.iadd, 1) := by decide +kernel
theorem dX13_readsLiteral_153 : decode cX13_readsLiteral 153 = .ok (.istore_n 3, 1) := by decide +kernel
theorem dX13_readsLiteral_154 : decode cX13_readsLiteral 154 = .ok (.aload_n 0, 1) := by decide +kernel
theorem dX13_readsLiteral_155 : decode cX13_readsLiteral 155 = .ok (.getfield 165, 3) := by decide +kernel
theorem dX13_readsLiteral_158 : decode cX13_readsLiteral 158 = .ok (.iconst 1, 1) := by decide +kernel
theorem dX13_readsLiteral_159 : decode cX13_readsLiteral 159 = .ok (.dup2, 1) := by decide +kernel
theorem dX13_readsLiteral_160 : decode cX13_readsLiteral 160 = .ok (.iaload, 1) := by decide +kernel
theorem dX13_readsLiteral_161 : decode cX13_readsLiteral 161 = .ok (.iconst 1, 1) := by decide +kernel
theorem dX13_readsLiteral_162 : decode cX13_readsLiteral 162 = .ok (.iadd, 1) := by decide +kernel
theorem dX13_readsLiteral_163 : decode cX13_readsLiteral 163 = .ok (.iastore, 1) := by decide +kernel
theorem dX13_readsLiteral_164 : decode cX13_readsLiteral 164 = .ok (.aload_n 0, 1) := by decide +kernel
theorem dX13_readsLiteral_165 : decode cX13_readsLiteral 165 = .ok (.getfield 159, 3) := by decide +kernel
theorem dX13_readsLiteral_168 : decode cX13_readsLiteral 168 = .ok (.iload_n 3, 1) := by decide +kernel
theorem dX13_readsLiteral_169 : decode cX13_readsLiteral 169 = .ok (.iload_n 2, 1) := by decide +kernel
theorem dX13_readsLiteral_170 : decode cX13_readsLiteral 170 = .ok (.iastore, 1) := by decide +kernel
theorem dX13_readsLiteral_171 : decode cX13_readsLiteral 171 = .ok (.aload_n 0, 1) := by decide +kernel
theorem dX13_readsLiteral_172 : decode cX13_readsLiteral 172 = .ok (.getfield 162, 3) := by decide +kernel
theorem dX13_readsLiteral_175 : decode cX13_readsLiteral 175 = .ok (.iload_n 3, 1) := by decide +kernel
theorem dX13_readsLiteral_176 : decode cX13_readsLiteral 176 = .ok (.aload_n 0, 1) := by decide +kernel
theorem dX13_readsLiteral_177 : decode cX13_readsLiteral 177 = .ok (.getfield 278, 3) := by decide +kernel
theorem dX13_readsLiteral_180 : decode cX13_readsLiteral 180 = .ok (.iastore, 1) := by decide +kernel
theorem dX13_readsLiteral_181 : decode cX13_readsLiteral 181 = .ok (.iconst 0, 1) := by decide +kernel
theorem dX13_readsLiteral_182 : decode cX13_readsLiteral 182 = .ok (.istore 4, 2) := by decide +kernel
theorem dX13_readsLiteral_184 : decode cX13_readsLiteral 184 = .ok (.iload 4, 2) := by decide +kernel
theorem dX13_readsLiteral_186 : decode cX13_readsLiteral 186 = .ok (.aload_n 0, 1) := by decide +kernel
theorem dX13_readsLiteral_187 : decode cX13_readsLiteral 187 = .ok (.getfield 278, 3) := by decide +kernel
theorem dX13_readsLiteral_190 : decode cX13_readsLiteral 190 = .ok (.if_icmp .ge 25, 3) := by decide +kernel
theorem dX13_readsLiteral_193 : decode cX13_readsLiteral 193 = .ok (.aload_n 0, 1) := by decide +kernel
theorem dX13_readsLiteral_194 : decode cX13_readsLiteral 194 = .ok (.getfield 156, 3) := by decide +kernel
theorem dX13_readsLiteral_197 : decode cX13_readsLiteral 197 = .ok (.iload_n 2, 1) := by decide +kernel
theorem dX13_readsLiteral_198 : decode cX13_readsLiteral 198 = .ok (.iload 4, 2) := by decide +kernel
theorem dX13_readsLiteral_200 : decode cX13_readsLiteral 200 = .ok (.iadd, 1) := by decide +kernel
theorem dX13_readsLiteral_201 : decode cX13_readsLiteral 201 = .ok (.aload_n 0, 1) := by decide +kernel
theorem dX13_readsLiteral_202 : decode cX13_readsLiteral 202 = .ok (.getfield 171, 3) := by decide +kernel
theorem dX13_readsLiteral_205 : decode cX13_readsLiteral 205 = .ok (.iload 4, 2) := by decide +kernel
theorem dX13_readsLiteral_207 : decode cX13_readsLiteral 207 = .ok (.iaload, 1) := by decide +kernel
theorem dX13_readsLiteral_208 : decode cX13_readsLiteral 208 = .ok (.iastore, 1) := by decide +kernel
theorem dX13_readsLiteral_209 : decode cX13_readsLiteral 209 = .ok (.iinc 4 1, 3) := by decide +kernel
theorem dX13_readsLiteral_212 : decode cX13_readsLiteral 212 = .ok (.goto (-28), 3) := by decide +kernel
theorem dX13_readsLiteral_215 : decode cX13_readsLiteral 215 = .ok (.aload_n 0, 1) := by decide +kernel
theorem dX13_readsLiteral_216 : decode cX13_readsLiteral 216 = .ok (.iload_n 1, 1) := by decide +kernel
theorem dX13_readsLiteral_217 : decode cX13_readsLiteral 217 = .ok (.iconst 3, 1) := by decide +kernel
theorem dX13_readsLiteral_218 : decode cX13_readsLiteral 218 = .ok (.iload_n 3, 1) := by decide +kernel
theorem dX13_readsLiteral_219 : decode cX13_readsLiteral 219 = .ok (.bipush 24, 2) := by decide +kernel
theorem dX13_readsLiteral_221 : decode cX13_readsLiteral 221 = .ok (.isub, 1) := by decide +kernel
theorem dX13_readsLiteral_222 : decode cX13_readsLiteral 222 = .ok (.i2l, 1) := by decide +kernel
theorem dX13_readsLiteral_223 : decode cX13_readsLiteral 223 = .ok (.invokevirtual 336, 3) := by decide +kernel
theorem dX13_readsLiteral_226 : decode cX13_readsLiteral 226 = .ok (.ireturn, 1) := by decide +kernel
def b_readsLiteral_184 (g : Nat) (k184 : St → Int32 → Int32 → Int32 → Int32 → Option (St × Int32)) (S : St) (x1 : Int32) (x2 : Int32) (x3 : Int32) (x4 : Int32) : Option (St × Int32) :=
if (gI S 0 22) ≤ x4 then (
  (m_keeps g S x1 (3 : Int32) ((x3 - (24 : Int32)).toInt64)).bind fun (S_9, v_10) =>
  if v_10 = 0 ∨ v_10 = 1 then some (S_9, v_10) else none
) else (
  (aI S 17 x4).bind fun v_12 =>
  (tI S 12 (x2 + x4) v_12).bind fun S_13 =>
  lt (x4 + (1 : Int32)) fun x4_14 =>
  k184 S_13 x1 x2 x3 x4_14
)
def m_readsLiteral_184 (g : Nat) : Nat → St → Int32 → Int32 → Int32 → Int32 → Option (St × Int32)
  | 0, _, _, _, _, _ => none
  | n + 1, S, x1, x2, x3, x4 => b_readsLiteral_184 g (m_readsLiteral_184 g n) S x1 x2 x3 x4
def m_readsLiteral_94 (g : Nat) (k7 : St → Int32 → Int32 → Int32 → Option (St × Int32)) (S : St) (x1 : Int32) (x3 : Int32) (x4 : Int32) : Option (St × Int32) :=
if x4 = 0 then (
  (aI S 13 x3).bind fun v_10 =>
  (aI S 14 x3).bind fun v_11 =>
  lt (v_10 + v_11) fun x2_12 =>
  lt (x3 + (1 : Int32)) fun x3_13 =>
  k7 S x1 x2_12 x3_13
) else (
  (m_keeps g S x1 (3 : Int32) ((x3 - (24 : Int32)).toInt64)).bind fun (S_14, v_15) =>
  if v_15 = 0 ∨ v_15 = 1 then some (S_14, v_15) else none
)
def b_readsLiteral_43 (g : Nat) (k7 : St → Int32 → Int32 → Int32 → Option (St × Int32)) (k43 : St → Int32 → Int32 → Int32 → Int32 → Option (St × Int32)) (S : St) (x1 : Int32) (x3 : Int32) (x4 : Int32) (x5 : Int32) : Option (St × Int32) :=
if (gI S 0 22) ≤ x5 then (
  m_readsLiteral_94 g k7 S x1 x3 x4
) else (
  if x4 = 0 then (
    m_readsLiteral_94 g k7 S x1 x3 x4
  ) else (
    (aI S 13 x3).bind fun v_10 =>
    (aI S 12 (v_10 + x5)).bind fun v_11 =>
    (aI S 17 x5).bind fun v_12 =>
    if v_11 = v_12 then (
      lt (x5 + (1 : Int32)) fun x5_14 =>
      k43 S x1 x3 (1 : Int32) x5_14
    ) else (
      lt (x5 + (1 : Int32)) fun x5_13 =>
      k43 S x1 x3 (0 : Int32) x5_13
    )
  )
)
def m_readsLiteral_43 (g : Nat) (k7 : St → Int32 → Int32 → Int32 → Option (St × Int32)) : Nat → St → Int32 → Int32 → Int32 → Int32 → Option (St × Int32)
  | 0, _, _, _, _, _ => none
  | n + 1, S, x1, x3, x4, x5 => b_readsLiteral_43 g k7 (m_readsLiteral_43 g k7 n) S x1 x3 x4 x5
def b_readsLiteral_7 (g : Nat) (k7 : St → Int32 → Int32 → Int32 → Option (St × Int32)) (S : St) (x1 : Int32) (x2 : Int32) (x3 : Int32) : Option (St × Int32) :=
(aI S 15 (1 : Int32)).bind fun v_1 =>
if ((24 : Int32) + v_1) ≤ x3 then (
  (aI S 15 (1 : Int32)).bind fun v_2 =>
  if v_2 = (24 : Int32) then (
    some (S, (0 : Int32))
  ) else (
    (aI S 15 (1 : Int32)).bind fun v_3 =>
    lt ((24 : Int32) + v_3) fun x3_4 =>
    (aI S 15 (1 : Int32)).bind fun v_5 =>
    (tI S 15 (1 : Int32) (v_5 + (1 : Int32))).bind fun S_6 =>
    (tI S_6 13 x3_4 x2).bind fun S_7 =>
    (tI S_7 14 x3_4 (gI S_7 0 22)).bind fun S_8 =>
    m_readsLiteral_184 g g S_8 x1 x2 x3_4 (0 : Int32)
  )
) else (
  (aI S 14 x3).bind fun v_9 =>
  if v_9 = (gI S 0 22) then (
    m_readsLiteral_43 g k7 g S x1 x3 (1 : Int32) (0 : Int32)
  ) else (
    m_readsLiteral_43 g k7 g S x1 x3 (0 : Int32) (0 : Int32)
  )
)
def m_readsLiteral_7 (g : Nat) : Nat → St → Int32 → Int32 → Int32 → Option (St × Int32)
  | 0, _, _, _, _ => none
  | n + 1, S, x1, x2, x3 => b_readsLiteral_7 g (m_readsLiteral_7 g n) S x1 x2 x3
def m_readsLiteral (g : Nat) (S : St) (x1 : Int32) : Option (St × Int32) :=
m_readsLiteral_7 g g S x1 (3000 : Int32) (24 : Int32)
section S_readsLiteral
variable {p : Program} {l : Launch} {e : Env} {s : State} {m : MethodId} {args : Array Value} {below : List Frame} {meth : Method} {c : Code} {H : Heap} {locs : List Loc} {ls : Array Slot} {D : va_G} {T : Cy} {ρ : Nat → Nat} {A : Nat → Prop}
set_option maxRecDepth 100000 in
set_option maxHeartbeats 4000000 in
theorem wb_readsLiteral_184  {g : Nat} {S : St} {x1 : Int32} {x2 : Int32} {x3 : Int32} {x4 : Int32} (C : CallFix p m c cX13_readsLiteral 6 s args tb RX13) (hr : meth.sig.returnType = (some .boolean)) (hk : meth.locks = false) {S' : St} {r : Int32} {k184 : St → Int32 → Int32 → Int32 → Int32 → Option (St × Int32)} (kk184 : ∀ (S : St) (x1 : Int32) (x2 : Int32) (x3 : Int32) (x4 : Int32) (H : Heap) (locs : List Loc) (ls : Array Slot), Wn Ym D T ρ S A s H locs → lv_has ls 6 [(0, .ref (ρ 0)), (1, .int x1), (2, .int x2), (3, .int x3), (4, .int x4)] → k184 S x1 x2 x3 x4 = some (S', r) → W p l e (rmN 1 24) s m args below meth c H locs 0 0 (MQ below (Qi Ym D T ρ A S' r) args s 0 0 A) (F0 m 184 ls [])) (w : Wn Ym D T ρ S A s H locs) (hl : lv_has ls 6 [(0, .ref (ρ 0)), (1, .int x1), (2, .int x2), (3, .int x3), (4, .int x4)]) (h : b_readsLiteral_184 g k184 S x1 x2 x3 x4 = some (S', r)) : W p l e (rmN 1 24) s m args below meth c H locs 0 0 (MQ below (Qi Ym D T ρ A S' r) args s 0 0 A) (F0 m 184 ls []) := by
  unfold b_readsLiteral_184 at h
  refine lv_iload C.1 C.2.1 dX13_readsLiteral_184 (lv_at hl 4 rfl) ?_
  refine lv_aload_n C.1 C.2.1 dX13_readsLiteral_186 rfl (lv_at hl 0 rfl) ?_
  refine x_getI C w fM278 obM dX13_readsLiteral_187 ?_
  refine lv_icmp_ge (tgt := 215) C.1 C.2.1 dX13_readsLiteral_190 (by decide) (fun hc => ?_) (fun hc => ?_)
  · replace h := ift hc h
    refine lv_aload_n C.1 C.2.1 dX13_readsLiteral_215 rfl (lv_at hl 0 rfl) ?_
    refine lv_iload_n C.1 C.2.1 dX13_readsLiteral_216 rfl (lv_at hl 1 rfl) ?_
    refine lv_iconst (v := 3) C.1 C.2.1 dX13_readsLiteral_217 (by decide) ?_
    refine lv_iload_n C.1 C.2.1 dX13_readsLiteral_218 rfl (lv_at hl 3 rfl) ?_
    refine lv_bipush (v := 24) C.1 C.2.1 dX13_readsLiteral_219 (by decide) ?_
    refine lv_isub C.1 C.2.1 dX13_readsLiteral_221 ?_
    refine lv_i2l C.1 C.2.1 dX13_readsLiteral_222 rfl ?_
    obtain ⟨⟨S_9, v_10⟩, hv_10, h⟩ := bnd h
    refine x_callVi (q := (RX13, TX13, 68)) (As := [.int x1, .int (3 : Int32), .long ((x3 - (24 : Int32)).toInt64)]) (rest := []) C w (k_keeps l D T ρ g H.size S hv_10) vM336 ⟨by decide, by decide⟩ obM (by decide) rfl rfl rfl hl.1 (Nat.le_of_ble_eq_true rfl) ⟨Nat.zero_le _, Nat.zero_le _⟩ dX13_readsLiteral_223 (fun H locs w => ?_)
    by_cases hz_11 : v_10 = 0 ∨ v_10 = 1
    case neg => exact absurd (iff0 hz_11 h) (fun q => by cases q)
    replace h := ift hz_11 h
    obtain ⟨rfl, rfl⟩ := prI h
    exact x_zret C w hr hk hz_11 dX13_readsLiteral_226
  · replace h := iff0 hc h
    refine lv_aload_n C.1 C.2.1 dX13_readsLiteral_193 rfl (lv_at hl 0 rfl) ?_
    refine x_getC C w 12 fM156 obM rfl dX13_readsLiteral_194 ?_
    refine lv_iload_n C.1 C.2.1 dX13_readsLiteral_197 rfl (lv_at hl 2 rfl) ?_
    refine lv_iload C.1 C.2.1 dX13_readsLiteral_198 (lv_at hl 4 rfl) ?_
    refine lv_iadd C.1 C.2.1 dX13_readsLiteral_200 ?_
    refine lv_aload_n C.1 C.2.1 dX13_readsLiteral_201 rfl (lv_at hl 0 rfl) ?_
    refine x_getC C w 17 fM171 obM rfl dX13_readsLiteral_202 ?_
    refine lv_iload C.1 C.2.1 dX13_readsLiteral_205 (lv_at hl 4 rfl) ?_
    obtain ⟨v_12, hv_12, h⟩ := bnd h
    refine x_iald C w obM17 hv_12 dX13_readsLiteral_207 ?_
    obtain ⟨S_13, hS_13, h⟩ := bnd h
    refine x_iast C w obM12 hS_13 dX13_readsLiteral_208 (fun H locs w => ?_)
    obtain ⟨x4_14, ex4_14, h⟩ := lt_e h
    refine lv_iinc (v := x4_14) (lv' := [(4, .int x4_14), (0, .ref (ρ 0)), (1, .int x1), (2, .int x2), (3, .int x3)]) C.1 C.2.1 dX13_readsLiteral_209 hl (k := 4) rfl (by rw [ex4_14]; rfl) (by decide) rfl (fun ls hl => ?_)
    refine lv_goto (tgt := 184) C.1 C.2.1 dX13_readsLiteral_212 (by decide) ?_
    exact kk184 _ _ _ _ _ _ _ _ w (lv_sub hl [1, 2, 3, 4, 0] rfl) h
theorem w_readsLiteral_184 {g : Nat} (C : CallFix p m c cX13_readsLiteral 6 s args tb RX13) (hr : meth.sig.returnType = (some .boolean)) (hk : meth.locks = false) {S' : St} {r : Int32} (n : Nat) : ∀ (S : St) (x1 : Int32) (x2 : Int32) (x3 : Int32) (x4 : Int32) (H : Heap) (locs : List Loc) (ls : Array Slot), Wn Ym D T ρ S A s H locs → lv_has ls 6 [(0, .ref (ρ 0)), (1, .int x1), (2, .int x2), (3, .int x3), (4, .int x4)] → m_readsLiteral_184 g n S x1 x2 x3 x4 = some (S', r) → W p l e (rmN 1 24) s m args below meth c H locs 0 0 (MQ below (Qi Ym D T ρ A S' r) args s 0 0 A) (F0 m 184 ls []) := by
  induction n with
  | zero => intro S x1 x2 x3 x4 H locs ls w hl h; exact absurd h (fun q => by cases q)
  | succ n ih => intro S x1 x2 x3 x4 H locs ls w hl h; exact wb_readsLiteral_184 C hr hk ih w hl h
set_option maxRecDepth 100000 in
set_option maxHeartbeats 4000000 in
theorem w_readsLiteral_94  {g : Nat} {S : St} {x1 : Int32} {x3 : Int32} {x4 : Int32} (C : CallFix p m c cX13_readsLiteral 6 s args tb RX13) (hr : meth.sig.returnType = (some .boolean)) (hk : meth.locks = false) {S' : St} {r : Int32} {k7 : St → Int32 → Int32 → Int32 → Option (St × Int32)} (kk7 : ∀ (S : St) (x1 : Int32) (x2 : Int32) (x3 : Int32) (H : Heap) (locs : List Loc) (ls : Array Slot), Wn Ym D T ρ S A s H locs → lv_has ls 6 [(0, .ref (ρ 0)), (1, .int x1), (2, .int x2), (3, .int x3)] → k7 S x1 x2 x3 = some (S', r) → W p l e (rmN 1 24) s m args below meth c H locs 0 0 (MQ below (Qi Ym D T ρ A S' r) args s 0 0 A) (F0 m 7 ls [])) (w : Wn Ym D T ρ S A s H locs) (hl : lv_has ls 6 [(0, .ref (ρ 0)), (1, .int x1), (3, .int x3), (4, .int x4)]) (h : m_readsLiteral_94 g k7 S x1 x3 x4 = some (S', r)) : W p l e (rmN 1 24) s m args below meth c H locs 0 0 (MQ below (Qi Ym D T ρ A S' r) args s 0 0 A) (F0 m 94 ls []) := by
  unfold m_readsLiteral_94 at h
  refine lv_iload C.1 C.2.1 dX13_readsLiteral_94 (lv_at hl 3 rfl) ?_
  refine lv_if_eq (tgt := 111) C.1 C.2.1 dX13_readsLiteral_96 (by decide) (fun hc => ?_) (fun hc => ?_)
  · replace h := ift hc h
    refine lv_aload_n C.1 C.2.1 dX13_readsLiteral_111 rfl (lv_at hl 0 rfl) ?_
    refine x_getC C w 13 fM159 obM rfl dX13_readsLiteral_112 ?_
    refine lv_iload_n C.1 C.2.1 dX13_readsLiteral_115 rfl (lv_at hl 2 rfl) ?_
    obtain ⟨v_10, hv_10, h⟩ := bnd h
    refine x_iald C w obM13 hv_10 dX13_readsLiteral_116 ?_
    refine lv_aload_n C.1 C.2.1 dX13_readsLiteral_117 rfl (lv_at hl 0 rfl) ?_
    refine x_getC C w 14 fM162 obM rfl dX13_readsLiteral_118 ?_
    refine lv_iload_n C.1 C.2.1 dX13_readsLiteral_121 rfl (lv_at hl 2 rfl) ?_
    obtain ⟨v_11, hv_11, h⟩ := bnd h
    refine x_iald C w obM14 hv_11 dX13_readsLiteral_122 ?_
    refine lv_iadd C.1 C.2.1 dX13_readsLiteral_123 ?_
    obtain ⟨x2_12, ex2_12, h⟩ := lt_e h
    refine x_nm ex2_12 ?_
    refine lv_istore_n (lv' := [(2, .int x2_12), (0, .ref (ρ 0)), (1, .int x1), (3, .int x3), (4, .int x4)]) C.1 C.2.1 dX13_readsLiteral_124 rfl hl (by decide) rfl (fun ls hl => ?_)
    obtain ⟨x3_13, ex3_13, h⟩ := lt_e h
    refine lv_iinc (v := x3_13) (lv' := [(3, .int x3_13), (2, .int x2_12), (0, .ref (ρ 0)), (1, .int x1), (4, .int x4)]) C.1 C.2.1 dX13_readsLiteral_125 hl (k := 3) rfl (by rw [ex3_13]; rfl) (by decide) rfl (fun ls hl => ?_)
    refine lv_goto (tgt := 7) C.1 C.2.1 dX13_readsLiteral_128 (by decide) ?_
    exact kk7 _ _ _ _ _ _ _ w (lv_sub hl [2, 3, 1, 0] rfl) h
  · replace h := iff0 hc h
    refine lv_aload_n C.1 C.2.1 dX13_readsLiteral_99 rfl (lv_at hl 0 rfl) ?_
    refine lv_iload_n C.1 C.2.1 dX13_readsLiteral_100 rfl (lv_at hl 1 rfl) ?_
    refine lv_iconst (v := 3) C.1 C.2.1 dX13_readsLiteral_101 (by decide) ?_
    refine lv_iload_n C.1 C.2.1 dX13_readsLiteral_102 rfl (lv_at hl 2 rfl) ?_
    refine lv_bipush (v := 24) C.1 C.2.1 dX13_readsLiteral_103 (by decide) ?_
    refine lv_isub C.1 C.2.1 dX13_readsLiteral_105 ?_
    refine lv_i2l C.1 C.2.1 dX13_readsLiteral_106 rfl ?_
    obtain ⟨⟨S_14, v_15⟩, hv_15, h⟩ := bnd h
    refine x_callVi (q := (RX13, TX13, 68)) (As := [.int x1, .int (3 : Int32), .long ((x3 - (24 : Int32)).toInt64)]) (rest := []) C w (k_keeps l D T ρ g H.size S hv_15) vM336 ⟨by decide, by decide⟩ obM (by decide) rfl rfl rfl hl.1 (Nat.le_of_ble_eq_true rfl) ⟨Nat.zero_le _, Nat.zero_le _⟩ dX13_readsLiteral_107 (fun H locs w => ?_)
    by_cases hz_16 : v_15 = 0 ∨ v_15 = 1
    case neg => exact absurd (iff0 hz_16 h) (fun q => by cases q)
    replace h := ift hz_16 h
    obtain ⟨rfl, rfl⟩ := prI h
    exact x_zret C w hr hk hz_16 dX13_readsLiteral_110
set_option maxRecDepth 100000 in
set_option maxHeartbeats 4000000 in
theorem wb_readsLiteral_43  {g : Nat} {S : St} {x1 : Int32} {x3 : Int32} {x4 : Int32} {x5 : Int32} (C : CallFix p m c cX13_readsLiteral 6 s args tb RX13) (hr : meth.sig.returnType = (some .boolean)) (hk : meth.locks = false) {S' : St} {r : Int32} {k7 : St → Int32 → Int32 → Int32 → Option (St × Int32)} (kk7 : ∀ (S : St) (x1 : Int32) (x2 : Int32) (x3 : Int32) (H : Heap) (locs : List Loc) (ls : Array Slot), Wn Ym D T ρ S A s H locs → lv_has ls 6 [(0, .ref (ρ 0)), (1, .int x1), (2, .int x2), (3, .int x3)] → k7 S x1 x2 x3 = some (S', r) → W p l e (rmN 1 24) s m args below meth c H locs 0 0 (MQ below (Qi Ym D T ρ A S' r) args s 0 0 A) (F0 m 7 ls [])) {k43 : St → Int32 → Int32 → Int32 → Int32 → Option (St × Int32)} (kk43 : ∀ (S : St) (x1 : Int32) (x3 : Int32) (x4 : Int32) (x5 : Int32) (H : Heap) (locs : List Loc) (ls : Array Slot), Wn Ym D T ρ S A s H locs → lv_has ls 6 [(0, .ref (ρ 0)), (1, .int x1), (3, .int x3), (4, .int x4), (5, .int x5)] → k43 S x1 x3 x4 x5 = some (S', r) → W p l e (rmN 1 24) s m args below meth c H locs 0 0 (MQ below (Qi Ym D T ρ A S' r) args s 0 0 A) (F0 m 43 ls [])) (w : Wn Ym D T ρ S A s H locs) (hl : lv_has ls 6 [(0, .ref (ρ 0)), (1, .int x1), (3, .int x3), (4, .int x4), (5, .int x5)]) (h : b_readsLiteral_43 g k7 k43 S x1 x3 x4 x5 = some (S', r)) : W p l e (rmN 1 24) s m args below meth c H locs 0 0 (MQ below (Qi Ym D T ρ A S' r) args s 0 0 A) (F0 m 43 ls []) := by
  unfold b_readsLiteral_43 at h
  refine lv_iload C.1 C.2.1 dX13_readsLiteral_43 (lv_at hl 4 rfl) ?_
  refine lv_aload_n C.1 C.2.1 dX13_readsLiteral_45 rfl (lv_at hl 0 rfl) ?_
  refine x_getI C w fM278 obM dX13_readsLiteral_46 ?_
  refine lv_icmp_ge (tgt := 94) C.1 C.2.1 dX13_readsLiteral_49 (by decide) (fun hc => ?_) (fun hc => ?_)
  · replace h := ift hc h
    exact w_readsLiteral_94 C hr hk kk7 w (lv_sub hl [0, 1, 2, 3] rfl) h
  · replace h := iff0 hc h
    refine lv_iload C.1 C.2.1 dX13_readsLiteral_52 (lv_at hl 3 rfl) ?_
    refine lv_if_eq (tgt := 94) C.1 C.2.1 dX13_readsLiteral_54 (by decide) (fun hc => ?_) (fun hc => ?_)
    · replace h := ift hc h
      exact w_readsLiteral_94 C hr hk kk7 w (lv_sub hl [0, 1, 2, 3] rfl) h
    · replace h := iff0 hc h
      refine lv_aload_n C.1 C.2.1 dX13_readsLiteral_57 rfl (lv_at hl 0 rfl) ?_
      refine x_getC C w 12 fM156 obM rfl dX13_readsLiteral_58 ?_
      refine lv_aload_n C.1 C.2.1 dX13_readsLiteral_61 rfl (lv_at hl 0 rfl) ?_
      refine x_getC C w 13 fM159 obM rfl dX13_readsLiteral_62 ?_
      refine lv_iload_n C.1 C.2.1 dX13_readsLiteral_65 rfl (lv_at hl 2 rfl) ?_
      obtain ⟨v_10, hv_10, h⟩ := bnd h
      refine x_iald C w obM13 hv_10 dX13_readsLiteral_66 ?_
      refine lv_iload C.1 C.2.1 dX13_readsLiteral_67 (lv_at hl 4 rfl) ?_
      refine lv_iadd C.1 C.2.1 dX13_readsLiteral_69 ?_
      obtain ⟨v_11, hv_11, h⟩ := bnd h
      refine x_iald C w obM12 hv_11 dX13_readsLiteral_70 ?_
      refine lv_aload_n C.1 C.2.1 dX13_readsLiteral_71 rfl (lv_at hl 0 rfl) ?_
      refine x_getC C w 17 fM171 obM rfl dX13_readsLiteral_72 ?_
      refine lv_iload C.1 C.2.1 dX13_readsLiteral_75 (lv_at hl 4 rfl) ?_
      obtain ⟨v_12, hv_12, h⟩ := bnd h
      refine x_iald C w obM17 hv_12 dX13_readsLiteral_77 ?_
      refine lv_icmp_ne (tgt := 85) C.1 C.2.1 dX13_readsLiteral_78 (by decide) (fun hc => ?_) (fun hc => ?_)
      · replace h := iff0 hc h
        refine lv_iconst (v := 0) C.1 C.2.1 dX13_readsLiteral_85 (by decide) ?_
        refine lv_istore (lv' := [(4, .int (0 : Int32)), (0, .ref (ρ 0)), (1, .int x1), (3, .int x3), (5, .int x5)]) C.1 C.2.1 dX13_readsLiteral_86 hl (by decide) rfl (fun ls hl => ?_)
        obtain ⟨x5_13, ex5_13, h⟩ := lt_e h
        refine lv_iinc (v := x5_13) (lv' := [(5, .int x5_13), (4, .int (0 : Int32)), (0, .ref (ρ 0)), (1, .int x1), (3, .int x3)]) C.1 C.2.1 dX13_readsLiteral_88 hl (k := 4) rfl (by rw [ex5_13]; rfl) (by decide) rfl (fun ls hl => ?_)
        refine lv_goto (tgt := 43) C.1 C.2.1 dX13_readsLiteral_91 (by decide) ?_
        exact kk43 _ _ _ _ _ _ _ _ w (lv_sub hl [2, 3, 4, 1, 0] rfl) h
      · replace h := ift hc h
        refine lv_iconst (v := 1) C.1 C.2.1 dX13_readsLiteral_81 (by decide) ?_
        refine lv_goto (tgt := 86) C.1 C.2.1 dX13_readsLiteral_82 (by decide) ?_
        refine lv_istore (lv' := [(4, .int (1 : Int32)), (0, .ref (ρ 0)), (1, .int x1), (3, .int x3), (5, .int x5)]) C.1 C.2.1 dX13_readsLiteral_86 hl (by decide) rfl (fun ls hl => ?_)
        obtain ⟨x5_14, ex5_14, h⟩ := lt_e h
        refine lv_iinc (v := x5_14) (lv' := [(5, .int x5_14), (4, .int (1 : Int32)), (0, .ref (ρ 0)), (1, .int x1), (3, .int x3)]) C.1 C.2.1 dX13_readsLiteral_88 hl (k := 4) rfl (by rw [ex5_14]; rfl) (by decide) rfl (fun ls hl => ?_)
        refine lv_goto (tgt := 43) C.1 C.2.1 dX13_readsLiteral_91 (by decide) ?_
        exact kk43 _ _ _ _ _ _ _ _ w (lv_sub hl [2, 3, 4, 1, 0] rfl) h
theorem w_readsLiteral_43 {g : Nat} (C : CallFix p m c cX13_readsLiteral 6 s args tb RX13) (hr : meth.sig.returnType = (some .boolean)) (hk : meth.locks = false) {S' : St} {r : Int32} {k7 : St → Int32 → Int32 → Int32 → Option (St × Int32)} (kk7 : ∀ (S : St) (x1 : Int32) (x2 : Int32) (x3 : Int32) (H : Heap) (locs : List Loc) (ls : Array Slot), Wn Ym D T ρ S A s H locs → lv_has ls 6 [(0, .ref (ρ 0)), (1, .int x1), (2, .int x2), (3, .int x3)] → k7 S x1 x2 x3 = some (S', r) → W p l e (rmN 1 24) s m args below meth c H locs 0 0 (MQ below (Qi Ym D T ρ A S' r) args s 0 0 A) (F0 m 7 ls [])) (n : Nat) : ∀ (S : St) (x1 : Int32) (x3 : Int32) (x4 : Int32) (x5 : Int32) (H : Heap) (locs : List Loc) (ls : Array Slot), Wn Ym D T ρ S A s H locs → lv_has ls 6 [(0, .ref (ρ 0)), (1, .int x1), (3, .int x3), (4, .int x4), (5, .int x5)] → m_readsLiteral_43 g k7 n S x1 x3 x4 x5 = some (S', r) → W p l e (rmN 1 24) s m args below meth c H locs 0 0 (MQ below (Qi Ym D T ρ A S' r) args s 0 0 A) (F0 m 43 ls []) := by
  induction n with
  | zero => intro S x1 x3 x4 x5 H locs ls w hl h; exact absurd h (fun q => by cases q)
  | succ n ih => intro S x1 x3 x4 x5 H locs ls w hl h; exact wb_readsLiteral_43 C hr hk kk7 ih w hl h
set_option maxRecDepth 100000 in
set_option maxHeartbeats 4000000 in
theorem wb_readsLiteral_7  {g : Nat} {S : St} {x1 : Int32} {x2 : Int32} {x3 : Int32} (C : CallFix p m c cX13_readsLiteral 6 s args tb RX13) (hr : meth.sig.returnType = (some .boolean)) (hk : meth.locks = false) {S' : St} {r : Int32} {k7 : St → Int32 → Int32 → Int32 → Option (St × Int32)} (kk7 : ∀ (S : St) (x1 : Int32) (x2 : Int32) (x3 : Int32) (H : Heap) (locs : List Loc) (ls : Array Slot), Wn Ym D T ρ S A s H locs → lv_has ls 6 [(0, .ref (ρ 0)), (1, .int x1), (2, .int x2), (3, .int x3)] → k7 S x1 x2 x3 = some (S', r) → W p l e (rmN 1 24) s m args below meth c H locs 0 0 (MQ below (Qi Ym D T ρ A S' r) args s 0 0 A) (F0 m 7 ls [])) (w : Wn Ym D T ρ S A s H locs) (hl : lv_has ls 6 [(0, .ref (ρ 0)), (1, .int x1), (2, .int x2), (3, .int x3)]) (h : b_readsLiteral_7 g k7 S x1 x2 x3 = some (S', r)) : W p l e (rmN 1 24) s m args below meth c H locs 0 0 (MQ below (Qi Ym D T ρ A S' r) args s 0 0 A) (F0 m 7 ls []) := by
  unfold b_readsLiteral_7 at h
  refine lv_iload_n C.1 C.2.1 dX13_readsLiteral_7 rfl (lv_at hl 3 rfl) ?_
  refine lv_bipush (v := 24) C.1 C.2.1 dX13_readsLiteral_8 (by decide) ?_
  refine lv_aload_n C.1 C.2.1 dX13_readsLiteral_10 rfl (lv_at hl 0 rfl) ?_
  refine x_getC C w 15 fM165 obM rfl dX13_readsLiteral_11 ?_
  refine lv_iconst (v := 1) C.1 C.2.1 dX13_readsLiteral_14 (by decide) ?_
  obtain ⟨v_1, hv_1, h⟩ := bnd h
  refine x_iald C w obM15 hv_1 dX13_readsLiteral_15 ?_
  refine lv_iadd C.1 C.2.1 dX13_readsLiteral_16 ?_
  refine lv_icmp_ge (tgt := 131) C.1 C.2.1 dX13_readsLiteral_17 (by decide) (fun hc => ?_) (fun hc => ?_)
  · replace h := ift hc h
    refine lv_aload_n C.1 C.2.1 dX13_readsLiteral_131 rfl (lv_at hl 0 rfl) ?_
    refine x_getC C w 15 fM165 obM rfl dX13_readsLiteral_132 ?_
    refine lv_iconst (v := 1) C.1 C.2.1 dX13_readsLiteral_135 (by decide) ?_
    obtain ⟨v_2, hv_2, h⟩ := bnd h
    refine x_iald C w obM15 hv_2 dX13_readsLiteral_136 ?_
    refine lv_bipush (v := 24) C.1 C.2.1 dX13_readsLiteral_137 (by decide) ?_
    refine lv_icmp_ne (tgt := 144) C.1 C.2.1 dX13_readsLiteral_139 (by decide) (fun hc => ?_) (fun hc => ?_)
    · replace h := iff0 hc h
      refine lv_bipush (v := 24) C.1 C.2.1 dX13_readsLiteral_144 (by decide) ?_
      refine lv_aload_n C.1 C.2.1 dX13_readsLiteral_146 rfl (lv_at hl 0 rfl) ?_
      refine x_getC C w 15 fM165 obM rfl dX13_readsLiteral_147 ?_
      refine lv_iconst (v := 1) C.1 C.2.1 dX13_readsLiteral_150 (by decide) ?_
      obtain ⟨v_3, hv_3, h⟩ := bnd h
      refine x_iald C w obM15 hv_3 dX13_readsLiteral_151 ?_
      refine lv_iadd C.1 C.2.1 dX13_readsLiteral_152 ?_
      obtain ⟨x3_4, ex3_4, h⟩ := lt_e h
      refine x_nm ex3_4 ?_
      refine lv_istore_n (lv' := [(3, .int x3_4), (0, .ref (ρ 0)), (1, .int x1), (2, .int x2)]) C.1 C.2.1 dX13_readsLiteral_153 rfl hl (by decide) rfl (fun ls hl => ?_)
      refine lv_aload_n C.1 C.2.1 dX13_readsLiteral_154 rfl (lv_at hl 1 rfl) ?_
      refine x_getC C w 15 fM165 obM rfl dX13_readsLiteral_155 ?_
      refine lv_iconst (v := 1) C.1 C.2.1 dX13_readsLiteral_158 (by decide) ?_
      refine lv_dup2_11 C.1 C.2.1 dX13_readsLiteral_159 rfl rfl ?_
      obtain ⟨v_5, hv_5, h⟩ := bnd h
      refine x_iald C w obM15 hv_5 dX13_readsLiteral_160 ?_
      refine lv_iconst (v := 1) C.1 C.2.1 dX13_readsLiteral_161 (by decide) ?_
      refine lv_iadd C.1 C.2.1 dX13_readsLiteral_162 ?_
      obtain ⟨S_6, hS_6, h⟩ := bnd h
      refine x_iast C w obM15 hS_6 dX13_readsLiteral_163 (fun H locs w => ?_)
      refine lv_aload_n C.1 C.2.1 dX13_readsLiteral_164 rfl (lv_at hl 1 rfl) ?_
      refine x_getC C w 13 fM159 obM rfl dX13_readsLiteral_165 ?_
      refine lv_iload_n C.1 C.2.1 dX13_readsLiteral_168 rfl (lv_at hl 0 rfl) ?_
      refine lv_iload_n C.1 C.2.1 dX13_readsLiteral_169 rfl (lv_at hl 3 rfl) ?_
      obtain ⟨S_7, hS_7, h⟩ := bnd h
      refine x_iast C w obM13 hS_7 dX13_readsLiteral_170 (fun H locs w => ?_)
      refine lv_aload_n C.1 C.2.1 dX13_readsLiteral_171 rfl (lv_at hl 1 rfl) ?_
      refine x_getC C w 14 fM162 obM rfl dX13_readsLiteral_172 ?_
      refine lv_iload_n C.1 C.2.1 dX13_readsLiteral_175 rfl (lv_at hl 0 rfl) ?_
      refine lv_aload_n C.1 C.2.1 dX13_readsLiteral_176 rfl (lv_at hl 1 rfl) ?_
      refine x_getI C w fM278 obM dX13_readsLiteral_177 ?_
      obtain ⟨S_8, hS_8, h⟩ := bnd h
      refine x_iast C w obM14 hS_8 dX13_readsLiteral_180 (fun H locs w => ?_)
      refine lv_iconst (v := 0) C.1 C.2.1 dX13_readsLiteral_181 (by decide) ?_
      refine lv_istore (lv' := [(4, .int (0 : Int32)), (3, .int x3_4), (0, .ref (ρ 0)), (1, .int x1), (2, .int x2)]) C.1 C.2.1 dX13_readsLiteral_182 hl (by decide) rfl (fun ls hl => ?_)
      exact w_readsLiteral_184 C hr hk g _ _ _ _ _ _ _ _ w (lv_sub hl [2, 3, 4, 1, 0] rfl) h
    · replace h := ift hc h
      refine lv_iconst (v := 0) C.1 C.2.1 dX13_readsLiteral_142 (by decide) ?_
      obtain ⟨rfl, rfl⟩ := prI h
      exact x_zret C w hr hk (by decide) dX13_readsLiteral_143
  · replace h := iff0 hc h
    refine lv_aload_n C.1 C.2.1 dX13_readsLiteral_20 rfl (lv_at hl 0 rfl) ?_
    refine x_getC C w 14 fM162 obM rfl dX13_readsLiteral_21 ?_
    refine lv_iload_n C.1 C.2.1 dX13_readsLiteral_24 rfl (lv_at hl 3 rfl) ?_
    obtain ⟨v_9, hv_9, h⟩ := bnd h
    refine x_iald C w obM14 hv_9 dX13_readsLiteral_25 ?_
    refine lv_aload_n C.1 C.2.1 dX13_readsLiteral_26 rfl (lv_at hl 0 rfl) ?_
    refine x_getI C w fM278 obM dX13_readsLiteral_27 ?_
    refine lv_icmp_ne (tgt := 37) C.1 C.2.1 dX13_readsLiteral_30 (by decide) (fun hc => ?_) (fun hc => ?_)
    · replace h := iff0 hc h
      refine lv_iconst (v := 0) C.1 C.2.1 dX13_readsLiteral_37 (by decide) ?_
      refine lv_istore (lv' := [(4, .int (0 : Int32)), (0, .ref (ρ 0)), (1, .int x1), (2, .int x2), (3, .int x3)]) C.1 C.2.1 dX13_readsLiteral_38 hl (by decide) rfl (fun ls hl => ?_)
      refine lv_iconst (v := 0) C.1 C.2.1 dX13_readsLiteral_40 (by decide) ?_
      refine lv_istore (lv' := [(5, .int (0 : Int32)), (4, .int (0 : Int32)), (0, .ref (ρ 0)), (1, .int x1), (2, .int x2), (3, .int x3)]) C.1 C.2.1 dX13_readsLiteral_41 hl (by decide) rfl (fun ls hl => ?_)
      exact w_readsLiteral_43 C hr hk kk7 g _ _ _ _ _ _ _ _ w (lv_sub hl [2, 3, 5, 1, 0] rfl) h
    · replace h := ift hc h
      refine lv_iconst (v := 1) C.1 C.2.1 dX13_readsLiteral_33 (by decide) ?_
      refine lv_goto (tgt := 38) C.1 C.2.1 dX13_readsLiteral_34 (by decide) ?_
      refine lv_istore (lv' := [(4, .int (1 : Int32)), (0, .ref (ρ 0)), (1, .int x1), (2, .int x2), (3, .int x3)]) C.1 C.2.1 dX13_readsLiteral_38 hl (by decide) rfl (fun ls hl => ?_)
      refine lv_iconst (v := 0) C.1 C.2.1 dX13_readsLiteral_40 (by decide) ?_
      refine lv_istore (lv' := [(5, .int (0 : Int32)), (4, .int (1 : Int32)), (0, .ref (ρ 0)), (1, .int x1), (2, .int x2), (3, .int x3)]) C.1 C.2.1 dX13_readsLiteral_41 hl (by decide) rfl (fun ls hl => ?_)
      exact w_readsLiteral_43 C hr hk kk7 g _ _ _ _ _ _ _ _ w (lv_sub hl [2, 3, 5, 1, 0] rfl) h
theorem w_readsLiteral_7 {g : Nat} (C : CallFix p m c cX13_readsLiteral 6 s args tb RX13) (hr : meth.sig.returnType = (some .boolean)) (hk : meth.locks = false) {S' : St} {r : Int32} (n : Nat) : ∀ (S : St) (x1 : Int32) (x2 : Int32) (x3 : Int32) (H : Heap) (locs : List Loc) (ls : Array Slot), Wn Ym D T ρ S A s H locs → lv_has ls 6 [(0, .ref (ρ 0)), (1, .int x1), (2, .int x2), (3, .int x3)] → m_readsLiteral_7 g n S x1 x2 x3 = some (S', r) → W p l e (rmN 1 24) s m args below meth c H locs 0 0 (MQ below (Qi Ym D T ρ A S' r) args s 0 0 A) (F0 m 7 ls []) := by
  induction n with
  | zero => intro S x1 x2 x3 H locs ls w hl h; exact absurd h (fun q => by cases q)
  | succ n ih => intro S x1 x2 x3 H locs ls w hl h; exact wb_readsLiteral_7 C hr hk ih w hl h
set_option maxRecDepth 100000 in
set_option maxHeartbeats 4000000 in
theorem w_readsLiteral_0  {g : Nat} {S : St} {x1 : Int32} (C : CallFix p m c cX13_readsLiteral 6 s args tb RX13) (hr : meth.sig.returnType = (some .boolean)) (hk : meth.locks = false) {S' : St} {r : Int32} (w : Wn Ym D T ρ S A s H locs) (hl : lv_has ls 6 [(0, .ref (ρ 0)), (1, .int x1)]) (h : m_readsLiteral g S x1 = some (S', r)) : W p l e (rmN 1 24) s m args below meth c H locs 0 0 (MQ below (Qi Ym D T ρ A S' r) args s 0 0 A) (F0 m 0 ls []) := by
  unfold m_readsLiteral at h
  refine lv_sipush (v := 3000) C.1 C.2.1 dX13_readsLiteral_0 (by decide) ?_
  refine lv_istore_n (lv' := [(2, .int (3000 : Int32)), (0, .ref (ρ 0)), (1, .int x1)]) C.1 C.2.1 dX13_readsLiteral_3 rfl hl (by decide) rfl (fun ls hl => ?_)
  refine lv_bipush (v := 24) C.1 C.2.1 dX13_readsLiteral_4 (by decide) ?_
  refine lv_istore_n (lv' := [(3, .int (24 : Int32)), (2, .int (3000 : Int32)), (0, .ref (ρ 0)), (1, .int x1)]) C.1 C.2.1 dX13_readsLiteral_6 rfl hl (by decide) rfl (fun ls hl => ?_)
  exact w_readsLiteral_7 C hr hk g _ _ _ _ _ _ _ w (lv_sub hl [2, 3, 1, 0] rfl) h
end S_readsLiteral
set_option maxRecDepth 100000 in
theorem k_readsLiteral (l : Launch) (D : va_G) (T : Cy) (ρ : Nat → Nat) (g sz : Nat) (S : St) {x1 : Int32} {S' : St} {r : Int32} (h : m_readsLiteral g S x1 = some (S', r)) : Mi l Ym D T ρ yX13_readsLiteral cX13_readsLiteral 6 (some .boolean) 1 24 S S' r [.ref (ρ 0), .int x1] sz :=
  x_in (by decide) (Nat.le_of_ble_eq_true rfl) (fun p e s m below meth c ls C hr hk w hl => w_readsLiteral_0 C hr hk w hl h)

theorem dX13_readsMarked_0 : decode cX13_readsMarked 0 = .ok (.aload_n 0, 1) := by decide +kernel
theorem dX13_readsMarked_1 : decode cX13_readsMarked 1 = .ok (.getfield 135, 3) := by decide +kernel
theorem dX13_readsMarked_4 : decode cX13_readsMarked 4 = .ok (.aload_n 0, 1) := by decide +kernel
theorem dX13_readsMarked_5 : decode cX13_readsMarked 5 = .ok (.getfield 262, 3) := by decide +kernel
theorem dX13_readsMarked_8 : decode cX13_readsMarked 8 = .ok (.iaload, 1) := by decide +kernel
theorem dX13_readsMarked_9 : decode cX13_readsMarked 9 = .ok (.istore_n 2, 1) := by decide +kernel
theorem dX13_readsMarked_10 : decode cX13_readsMarked 10 = .ok (.iload_n 2, 1) := by decide +kernel
theorem dX13_readsMarked_11 : decode cX13_readsMarked 11 = .ok (.bipush 64, 2) := by decide +kernel
theorem dX13_readsMarked_13 : decode cX13_readsMarked 13 = .ok (.if_icmp .eq 11, 3) := by decide +kernel
theorem dX13_readsMarked_16 : decode cX13_readsMarked 16 = .ok (.iload_n 2, 1) := by decide +kernel
theorem dX13_readsMarked_17 : decode cX13_readsMarked 17 = .ok (.bipush 63, 2) := by decide +kernel
theorem dX13_readsMarked_19 : decode cX13_readsMarked 19 = .ok (.if_icmp .eq 5, 3) := by decide +kernel
theorem dX13_readsMarked_22 : decode cX13_readsMarked 22 = .ok (.iconst 0, 1) := by decide +kernel
theorem dX13_readsMarked_23 : decode cX13_readsMarked 23 = .ok (.ireturn, 1) := by decide +kernel
theorem dX13_readsMarked_24 : decode cX13_readsMarked 24 = .ok (.aload_n 0, 1) := by decide +kernel
theorem dX13_readsMarked_25 : decode cX13_readsMarked 25 = .ok (.aload_n 0, 1) := by decide +kernel
theorem dX13_readsMarked_26 : decode cX13_readsMarked 26 = .ok (.getfield 262, 3) := by decide +kernel
theorem dX13_readsMarked_29 : decode cX13_readsMarked 29 = .ok (.iconst 1, 1) := by decide +kernel
theorem dX13_readsMarked_30 : decode cX13_readsMarked 30 = .ok (.iadd, 1) := by decide +kernel
theorem dX13_readsMarked_31 : decode cX13_readsMarked 31 = .ok (.bipush 119, 2) := by decide +kernel
theorem dX13_readsMarked_33 : decode cX13_readsMarked 33 = .ok (.bipush 11, 2) := by decide +kernel
theorem dX13_readsMarked_35 : decode cX13_readsMarked 35 = .ok (.invokevirtual 332, 3) := by decide +kernel
theorem dX13_readsMarked_38 : decode cX13_readsMarked 38 = .ok (.istore_n 3, 1) := by decide +kernel
theorem dX13_readsMarked_39 : decode cX13_readsMarked 39 = .ok (.iload_n 3, 1) := by decide +kernel
theorem dX13_readsMarked_40 : decode cX13_readsMarked 40 = .ok (.ifCond .lt 23, 3) := by decide +kernel
theorem dX13_readsMarked_43 : decode cX13_readsMarked 43 = .ok (.aload_n 0, 1) := by decide +kernel
theorem dX13_readsMarked_44 : decode cX13_readsMarked 44 = .ok (.iload_n 1, 1) := by decide +kernel
theorem dX13_readsMarked_45 : decode cX13_readsMarked 45 = .ok (.iload_n 2, 1) := by decide +kernel
theorem dX13_readsMarked_46 : decode cX13_readsMarked 46 = .ok (.bipush 64, 2) := by decide +kernel
theorem dX13_readsMarked_48 : decode cX13_readsMarked 48 = .ok (.if_icmp .ne 7, 3) := by decide +kernel
theorem dX13_readsMarked_51 : decode cX13_readsMarked 51 = .ok (.iconst 5, 1) := by decide +kernel
theorem dX13_readsMarked_52 : decode cX13_readsMarked 52 = .ok (.goto 5, 3) := by decide +kernel
theorem dX13_readsMarked_55 : decode cX13_readsMarked 55 = .ok (.bipush 7, 2) := by decide +kernel
theorem dX13_readsMarked_57 : decode cX13_readsMarked 57 = .ok (.iload_n 3, 1) := by decide +kernel
theorem dX13_readsMarked_58 : decode cX13_readsMarked 58 = .ok (.i2l, 1) := by decide +kernel
theorem dX13_readsMarked_59 : decode cX13_readsMarked 59 = .ok (.invokevirtual 336, 3) := by decide +kernel
theorem dX13_readsMarked_62 : decode cX13_readsMarked 62 = .ok (.ireturn, 1) := by decide +kernel
theorem dX13_readsMarked_63 : decode cX13_readsMarked 63 = .ok (.aload_n 0, 1) := by decide +kernel
theorem dX13_readsMarked_64 : decode cX13_readsMarked 64 = .ok (.aload_n 0, 1) := by decide +kernel
theorem dX13_readsMarked_65 : decode cX13_readsMarked 65 = .ok (.getfield 262, 3) := by decide +kernel
theorem dX13_readsMarked_68 : decode cX13_readsMarked 68 = .ok (.iconst 1, 1) := by decide +kernel
theorem dX13_readsMarked_69 : decode cX13_readsMarked 69 = .ok (.iadd, 1) := by decide +kernel
theorem dX13_readsMarked_70 : decode cX13_readsMarked 70 = .ok (.invokevirtual 346, 3) := by decide +kernel
theorem dX13_readsMarked_73 : decode cX13_readsMarked 73 = .ok (.ifCond .eq 32, 3) := by decide +kernel
theorem dX13_readsMarked_76 : decode cX13_readsMarked 76 = .ok (.aload_n 0, 1) := by decide +kernel
theorem dX13_readsMarked_77 : decode cX13_readsMarked 77 = .ok (.iload_n 1, 1) := by decide +kernel
theorem dX13_readsMarked_78 : decode cX13_readsMarked 78 = .ok (.iload_n 2, 1) := by decide +kernel
theorem dX13_readsMarked_79 : decode cX13_readsMarked 79 = .ok (.bipush 64, 2) := by decide +kernel
theorem dX13_readsMarked_81 : decode cX13_readsMarked 81 = .ok (.if_icmp .ne 8, 3) := by decide +kernel
theorem dX13_readsMarked_84 : decode cX13_readsMarked 84 = .ok (.bipush 6, 2) := by decide +kernel
theorem dX13_readsMarked_86 : decode cX13_readsMarked 86 = .ok (.goto 5, 3) := by decide +kernel
theorem dX13_readsMarked_89 : decode cX13_readsMarked 89 = .ok (.bipush 8, 2) := by decide +kernel
theorem dX13_readsMarked_91 : decode cX13_readsMarked 91 = .ok (.aload_n 0, 1) := by decide +kernel
theorem dX13_readsMarked_92 : decode cX13_readsMarked 92 = .ok (.getfield 328, 3) := by decide +kernel
theorem dX13_readsMarked_95 : decode cX13_readsMarked 95 = .ok (.invokevirtual 336, 3) := by decide +kernel
theorem dX13_readsMarked_98 : decode cX13_readsMarked 98 = .ok (.ifCond .eq 7, 3) := by decide +kernel
theorem dX13_readsMarked_101 : decode cX13_readsMarked 101 = .ok (.iconst 1, 1) := by decide +kernel
theorem dX13_readsMarked_102 : decode cX13_readsMarked 102 = .ok (.goto 4, 3) := by decide +kernel
theorem dX13_readsMarked_105 : decode cX13_readsMarked 105 = .ok (.iconst 0, 1) := by decide +kernel
theorem dX13_readsMarked_106 : decode cX13_readsMarked 106 = .ok (.ireturn, 1) := by decide +kernel
def m_readsMarked_91 (g : Nat) (S : St) (y1 : Int32) (y2 : Int32) : Option (St × Int32) :=
(m_keeps g S y1 y2 (gL S 0 26)).bind fun (S_5, v_6) =>
if v_6 = 0 then (
  some (S_5, (0 : Int32))
) else (
  some (S_5, (1 : Int32))
)
def m_readsMarked_57 (g : Nat) (S : St) (x3 : Int32) (y1 : Int32) (y2 : Int32) : Option (St × Int32) :=
(m_keeps g S y1 y2 (x3.toInt64)).bind fun (S_5, v_6) =>
if v_6 = 0 ∨ v_6 = 1 then some (S_5, v_6) else none
def m_readsMarked_24 (g : Nat) (S : St) (x1 : Int32) (x2 : Int32) : Option (St × Int32) :=
(m_numbered g S ((gI S 0 20) + (1 : Int32)) (119 : Int32) (11 : Int32)).bind fun v_2 =>
if v_2 < 0 then (
  (m_isNumber g S ((gI S 0 20) + (1 : Int32))).bind fun (S_3, v_4) =>
  if v_4 = 0 then (
    some (S_3, (0 : Int32))
  ) else (
    if x2 = (64 : Int32) then (
      m_readsMarked_91 g S_3 x1 (6 : Int32)
    ) else (
      m_readsMarked_91 g S_3 x1 (8 : Int32)
    )
  )
) else (
  if x2 = (64 : Int32) then (
    m_readsMarked_57 g S v_2 x1 (5 : Int32)
  ) else (
    m_readsMarked_57 g S v_2 x1 (7 : Int32)
  )
)
def m_readsMarked (g : Nat) (S : St) (x1 : Int32) : Option (St × Int32) :=
(aI S 5 (gI S 0 20)).bind fun v_1 =>
if v_1 = (64 : Int32) then (
  m_readsMarked_24 g S x1 v_1
) else (
  if v_1 = (63 : Int32) then (
    m_readsMarked_24 g S x1 v_1
  ) else (
    some (S, (0 : Int32))
  )
)
section S_readsMarked
variable {p : Program} {l : Launch} {e : Env} {s : State} {m : MethodId} {args : Array Value} {below : List Frame} {meth : Method} {c : Code} {H : Heap} {locs : List Loc} {ls : Array Slot} {D : va_G} {T : Cy} {ρ : Nat → Nat} {A : Nat → Prop}
set_option maxRecDepth 100000 in
set_option maxHeartbeats 4000000 in
theorem w_readsMarked_91  {g : Nat} {S : St} {y1 : Int32} {y2 : Int32} (C : CallFix p m c cX13_readsMarked 4 s args tb RX13) (hr : meth.sig.returnType = (some .boolean)) (hk : meth.locks = false) {S' : St} {r : Int32} (w : Wn Ym D T ρ S A s H locs) (hl : lv_has ls 4 [(0, .ref (ρ 0))]) (h : m_readsMarked_91 g S y1 y2 = some (S', r)) : W p l e (rmN 2 51) s m args below meth c H locs 0 0 (MQ below (Qi Ym D T ρ A S' r) args s 0 0 A) (F0 m 91 ls [.int y2, .int y1, .ref (ρ 0)]) := by
  unfold m_readsMarked_91 at h
  refine lv_aload_n C.1 C.2.1 dX13_readsMarked_91 rfl (lv_at hl 0 rfl) ?_
  refine x_getL C w fM328 obM dX13_readsMarked_92 ?_
  obtain ⟨⟨S_5, v_6⟩, hv_6, h⟩ := bnd h
  refine x_callVi (q := (RX13, TX13, 68)) (As := [.int y1, .int y2, .long (gL S 0 26)]) (rest := []) C w (k_keeps l D T ρ g H.size S hv_6) vM336 ⟨by decide, by decide⟩ obM (by decide) rfl rfl rfl hl.1 (Nat.le_of_ble_eq_true rfl) ⟨Nat.zero_le _, Nat.zero_le _⟩ dX13_readsMarked_95 (fun H locs w => ?_)
  refine lv_if_eq (tgt := 105) C.1 C.2.1 dX13_readsMarked_98 (by decide) (fun hc => ?_) (fun hc => ?_)
  · replace h := ift hc h
    refine lv_iconst (v := 0) C.1 C.2.1 dX13_readsMarked_105 (by decide) ?_
    obtain ⟨rfl, rfl⟩ := prI h
    exact x_zret C w hr hk (by decide) dX13_readsMarked_106
  · replace h := iff0 hc h
    refine lv_iconst (v := 1) C.1 C.2.1 dX13_readsMarked_101 (by decide) ?_
    refine lv_goto (tgt := 106) C.1 C.2.1 dX13_readsMarked_102 (by decide) ?_
    obtain ⟨rfl, rfl⟩ := prI h
    exact x_zret C w hr hk (by decide) dX13_readsMarked_106
set_option maxRecDepth 100000 in
set_option maxHeartbeats 4000000 in
theorem w_readsMarked_57  {g : Nat} {S : St} {x3 : Int32} {y1 : Int32} {y2 : Int32} (C : CallFix p m c cX13_readsMarked 4 s args tb RX13) (hr : meth.sig.returnType = (some .boolean)) (hk : meth.locks = false) {S' : St} {r : Int32} (w : Wn Ym D T ρ S A s H locs) (hl : lv_has ls 4 [(3, .int x3)]) (h : m_readsMarked_57 g S x3 y1 y2 = some (S', r)) : W p l e (rmN 2 51) s m args below meth c H locs 0 0 (MQ below (Qi Ym D T ρ A S' r) args s 0 0 A) (F0 m 57 ls [.int y2, .int y1, .ref (ρ 0)]) := by
  unfold m_readsMarked_57 at h
  refine lv_iload_n C.1 C.2.1 dX13_readsMarked_57 rfl (lv_at hl 0 rfl) ?_
  refine lv_i2l C.1 C.2.1 dX13_readsMarked_58 rfl ?_
  obtain ⟨⟨S_5, v_6⟩, hv_6, h⟩ := bnd h
  refine x_callVi (q := (RX13, TX13, 68)) (As := [.int y1, .int y2, .long (x3.toInt64)]) (rest := []) C w (k_keeps l D T ρ g H.size S hv_6) vM336 ⟨by decide, by decide⟩ obM (by decide) rfl rfl rfl hl.1 (Nat.le_of_ble_eq_true rfl) ⟨Nat.zero_le _, Nat.zero_le _⟩ dX13_readsMarked_59 (fun H locs w => ?_)
  by_cases hz_7 : v_6 = 0 ∨ v_6 = 1
  case neg => exact absurd (iff0 hz_7 h) (fun q => by cases q)
  replace h := ift hz_7 h
  obtain ⟨rfl, rfl⟩ := prI h
  exact x_zret C w hr hk hz_7 dX13_readsMarked_62
set_option maxRecDepth 100000 in
set_option maxHeartbeats 4000000 in
theorem w_readsMarked_24  {g : Nat} {S : St} {x1 : Int32} {x2 : Int32} (C : CallFix p m c cX13_readsMarked 4 s args tb RX13) (hr : meth.sig.returnType = (some .boolean)) (hk : meth.locks = false) {S' : St} {r : Int32} (w : Wn Ym D T ρ S A s H locs) (hl : lv_has ls 4 [(0, .ref (ρ 0)), (1, .int x1), (2, .int x2)]) (h : m_readsMarked_24 g S x1 x2 = some (S', r)) : W p l e (rmN 2 51) s m args below meth c H locs 0 0 (MQ below (Qi Ym D T ρ A S' r) args s 0 0 A) (F0 m 24 ls []) := by
  unfold m_readsMarked_24 at h
  refine lv_aload_n C.1 C.2.1 dX13_readsMarked_24 rfl (lv_at hl 0 rfl) ?_
  refine lv_aload_n C.1 C.2.1 dX13_readsMarked_25 rfl (lv_at hl 0 rfl) ?_
  refine x_getI C w fM262 obM dX13_readsMarked_26 ?_
  refine lv_iconst (v := 1) C.1 C.2.1 dX13_readsMarked_29 (by decide) ?_
  refine lv_iadd C.1 C.2.1 dX13_readsMarked_30 ?_
  refine lv_bipush (v := 119) C.1 C.2.1 dX13_readsMarked_31 (by decide) ?_
  refine lv_bipush (v := 11) C.1 C.2.1 dX13_readsMarked_33 (by decide) ?_
  obtain ⟨v_2, hv_2, h⟩ := bnd h
  refine x_callVi (q := (RX13, TX13, 68)) (As := [.int ((gI S 0 20) + (1 : Int32)), .int (119 : Int32), .int (11 : Int32)]) (rest := []) C w (k_numbered l D T ρ g H.size S hv_2) vM332 ⟨by decide, by decide⟩ obM (by decide) rfl rfl rfl hl.1 (Nat.le_of_ble_eq_true rfl) ⟨Nat.zero_le _, Nat.zero_le _⟩ dX13_readsMarked_35 (fun H locs w => ?_)
  refine lv_istore_n (lv' := [(3, .int v_2), (0, .ref (ρ 0)), (1, .int x1), (2, .int x2)]) C.1 C.2.1 dX13_readsMarked_38 rfl hl (by decide) rfl (fun ls hl => ?_)
  refine lv_iload_n C.1 C.2.1 dX13_readsMarked_39 rfl (lv_at hl 0 rfl) ?_
  refine lv_if_lt (tgt := 63) C.1 C.2.1 dX13_readsMarked_40 (by decide) (fun hc => ?_) (fun hc => ?_)
  · replace h := ift hc h
    refine lv_aload_n C.1 C.2.1 dX13_readsMarked_63 rfl (lv_at hl 1 rfl) ?_
    refine lv_aload_n C.1 C.2.1 dX13_readsMarked_64 rfl (lv_at hl 1 rfl) ?_
    refine x_getI C w fM262 obM dX13_readsMarked_65 ?_
    refine lv_iconst (v := 1) C.1 C.2.1 dX13_readsMarked_68 (by decide) ?_
    refine lv_iadd C.1 C.2.1 dX13_readsMarked_69 ?_
    obtain ⟨⟨S_3, v_4⟩, hv_4, h⟩ := bnd h
    refine x_callVi (q := (RX13, TX13, 68)) (As := [.int ((gI S 0 20) + (1 : Int32))]) (rest := []) C w (k_isNumber l D T ρ g H.size S hv_4) vM346 ⟨by decide, by decide⟩ obM (by decide) rfl rfl rfl hl.1 (Nat.le_of_ble_eq_true rfl) ⟨Nat.zero_le _, Nat.zero_le _⟩ dX13_readsMarked_70 (fun H locs w => ?_)
    refine lv_if_eq (tgt := 105) C.1 C.2.1 dX13_readsMarked_73 (by decide) (fun hc => ?_) (fun hc => ?_)
    · replace h := ift hc h
      refine lv_iconst (v := 0) C.1 C.2.1 dX13_readsMarked_105 (by decide) ?_
      obtain ⟨rfl, rfl⟩ := prI h
      exact x_zret C w hr hk (by decide) dX13_readsMarked_106
    · replace h := iff0 hc h
      refine lv_aload_n C.1 C.2.1 dX13_readsMarked_76 rfl (lv_at hl 1 rfl) ?_
      refine lv_iload_n C.1 C.2.1 dX13_readsMarked_77 rfl (lv_at hl 2 rfl) ?_
      refine lv_iload_n C.1 C.2.1 dX13_readsMarked_78 rfl (lv_at hl 3 rfl) ?_
      refine lv_bipush (v := 64) C.1 C.2.1 dX13_readsMarked_79 (by decide) ?_
      refine lv_icmp_ne (tgt := 89) C.1 C.2.1 dX13_readsMarked_81 (by decide) (fun hc => ?_) (fun hc => ?_)
      · replace h := iff0 hc h
        refine lv_bipush (v := 8) C.1 C.2.1 dX13_readsMarked_89 (by decide) ?_
        exact w_readsMarked_91 C hr hk w (lv_sub hl [1] rfl) h
      · replace h := ift hc h
        refine lv_bipush (v := 6) C.1 C.2.1 dX13_readsMarked_84 (by decide) ?_
        refine lv_goto (tgt := 91) C.1 C.2.1 dX13_readsMarked_86 (by decide) ?_
        exact w_readsMarked_91 C hr hk w (lv_sub hl [1] rfl) h
  · replace h := iff0 hc h
    refine lv_aload_n C.1 C.2.1 dX13_readsMarked_43 rfl (lv_at hl 1 rfl) ?_
    refine lv_iload_n C.1 C.2.1 dX13_readsMarked_44 rfl (lv_at hl 2 rfl) ?_
    refine lv_iload_n C.1 C.2.1 dX13_readsMarked_45 rfl (lv_at hl 3 rfl) ?_
    refine lv_bipush (v := 64) C.1 C.2.1 dX13_readsMarked_46 (by decide) ?_
    refine lv_icmp_ne (tgt := 55) C.1 C.2.1 dX13_readsMarked_48 (by decide) (fun hc => ?_) (fun hc => ?_)
    · replace h := iff0 hc h
      refine lv_bipush (v := 7) C.1 C.2.1 dX13_readsMarked_55 (by decide) ?_
      exact w_readsMarked_57 C hr hk w (lv_sub hl [0] rfl) h
    · replace h := ift hc h
      refine lv_iconst (v := 5) C.1 C.2.1 dX13_readsMarked_51 (by decide) ?_
      refine lv_goto (tgt := 57) C.1 C.2.1 dX13_readsMarked_52 (by decide) ?_
      exact w_readsMarked_57 C hr hk w (lv_sub hl [0] rfl) h
set_option maxRecDepth 100000 in
set_option maxHeartbeats 4000000 in
theorem w_readsMarked_0  {g : Nat} {S : St} {x1 : Int32} (C : CallFix p m c cX13_readsMarked 4 s args tb RX13) (hr : meth.sig.returnType = (some .boolean)) (hk : meth.locks = false) {S' : St} {r : Int32} (w : Wn Ym D T ρ S A s H locs) (hl : lv_has ls 4 [(0, .ref (ρ 0)), (1, .int x1)]) (h : m_readsMarked g S x1 = some (S', r)) : W p l e (rmN 2 51) s m args below meth c H locs 0 0 (MQ below (Qi Ym D T ρ A S' r) args s 0 0 A) (F0 m 0 ls []) := by
  unfold m_readsMarked at h
  refine lv_aload_n C.1 C.2.1 dX13_readsMarked_0 rfl (lv_at hl 0 rfl) ?_
  refine x_getC C w 5 fM135 obM rfl dX13_readsMarked_1 ?_
  refine lv_aload_n C.1 C.2.1 dX13_readsMarked_4 rfl (lv_at hl 0 rfl) ?_
  refine x_getI C w fM262 obM dX13_readsMarked_5 ?_
  obtain ⟨v_1, hv_1, h⟩ := bnd h
  refine x_iald C w obM5 hv_1 dX13_readsMarked_8 ?_
  refine lv_istore_n (lv' := [(2, .int v_1), (0, .ref (ρ 0)), (1, .int x1)]) C.1 C.2.1 dX13_readsMarked_9 rfl hl (by decide) rfl (fun ls hl => ?_)
  refine lv_iload_n C.1 C.2.1 dX13_readsMarked_10 rfl (lv_at hl 0 rfl) ?_
  refine lv_bipush (v := 64) C.1 C.2.1 dX13_readsMarked_11 (by decide) ?_
  refine lv_icmp_eq (tgt := 24) C.1 C.2.1 dX13_readsMarked_13 (by decide) (fun hc => ?_) (fun hc => ?_)
  · replace h := ift hc h
    exact w_readsMarked_24 C hr hk w (lv_sub hl [1, 2, 0] rfl) h
  · replace h := iff0 hc h
    refine lv_iload_n C.1 C.2.1 dX13_readsMarked_16 rfl (lv_at hl 0 rfl) ?_
    refine lv_bipush (v := 63) C.1 C.2.1 dX13_readsMarked_17 (by decide) ?_
    refine lv_icmp_eq (tgt := 24) C.1 C.2.1 dX13_readsMarked_19 (by decide) (fun hc => ?_) (fun hc => ?_)
    · replace h := ift hc h
      exact w_readsMarked_24 C hr hk w (lv_sub hl [1, 2, 0] rfl) h
    · replace h := iff0 hc h
      refine lv_iconst (v := 0) C.1 C.2.1 dX13_readsMarked_22 (by decide) ?_
      obtain ⟨rfl, rfl⟩ := prI h
      exact x_zret C w hr hk (by decide) dX13_readsMarked_23
end S_readsMarked
set_option maxRecDepth 100000 in
theorem k_readsMarked (l : Launch) (D : va_G) (T : Cy) (ρ : Nat → Nat) (g sz : Nat) (S : St) {x1 : Int32} {S' : St} {r : Int32} (h : m_readsMarked g S x1 = some (S', r)) : Mi l Ym D T ρ yX13_readsMarked cX13_readsMarked 4 (some .boolean) 2 51 S S' r [.ref (ρ 0), .int x1] sz :=
  x_in (by decide) (Nat.le_of_ble_eq_true rfl) (fun p e s m below meth c ls C hr hk w hl => w_readsMarked_0 C hr hk w hl h)

theorem dX13_reads_0 : decode cX13_reads 0 = .ok (.aload_n 0, 1) := by decide +kernel
theorem dX13_reads_1 : decode cX13_reads 1 = .ok (.aload_n 0, 1) := by decide +kernel
theorem dX13_reads_2 : decode cX13_reads 2 = .ok (.getfield 262, 3) := by decide +kernel
theorem dX13_reads_5 : decode cX13_reads 5 = .ok (.bipush 118, 2) := by decide +kernel
theorem dX13_reads_7 : decode cX13_reads 7 = .ok (.bipush 19, 2) := by decide +kernel
theorem dX13_reads_9 : decode cX13_reads 9 = .ok (.invokevirtual 332, 3) := by decide +kernel
theorem dX13_reads_12 : decode cX13_reads 12 = .ok (.istore_n 3, 1) := by decide +kernel
theorem dX13_reads_13 : decode cX13_reads 13 = .ok (.aload_n 0, 1) := by decide +kernel
theorem dX13_reads_14 : decode cX13_reads 14 = .ok (.aload_n 0, 1) := by decide +kernel
theorem dX13_reads_15 : decode cX13_reads 15 = .ok (.getfield 262, 3) := by decide +kernel
theorem dX13_reads_18 : decode cX13_reads 18 = .ok (.bipush 119, 2) := by decide +kernel
theorem dX13_reads_20 : decode cX13_reads 20 = .ok (.bipush 11, 2) := by decide +kernel
theorem dX13_reads_22 : decode cX13_reads 22 = .ok (.invokevirtual 332, 3) := by decide +kernel
theorem dX13_reads_25 : decode cX13_reads 25 = .ok (.istore 4, 2) := by decide +kernel
theorem dX13_reads_27 : decode cX13_reads 27 = .ok (.aload_n 0, 1) := by decide +kernel
theorem dX13_reads_28 : decode cX13_reads 28 = .ok (.aload_n 0, 1) := by decide +kernel
theorem dX13_reads_29 : decode cX13_reads 29 = .ok (.getfield 262, 3) := by decide +kernel
theorem dX13_reads_32 : decode cX13_reads 32 = .ok (.bipush 98, 2) := by decide +kernel
theorem dX13_reads_34 : decode cX13_reads 34 = .ok (.iconst 5, 1) := by decide +kernel
theorem dX13_reads_35 : decode cX13_reads 35 = .ok (.invokevirtual 332, 3) := by decide +kernel
theorem dX13_reads_38 : decode cX13_reads 38 = .ok (.istore 5, 2) := by decide +kernel
theorem dX13_reads_40 : decode cX13_reads 40 = .ok (.iload_n 2, 1) := by decide +kernel
theorem dX13_reads_41 : decode cX13_reads 41 = .ok (.iconst 1, 1) := by decide +kernel
theorem dX13_reads_42 : decode cX13_reads 42 = .ok (.if_icmp .ne 24, 3) := by decide +kernel
theorem dX13_reads_45 : decode cX13_reads 45 = .ok (.iload_n 3, 1) := by decide +kernel
theorem dX13_reads_46 : decode cX13_reads 46 = .ok (.ifCond .lt 18, 3) := by decide +kernel
theorem dX13_reads_49 : decode cX13_reads 49 = .ok (.aload_n 0, 1) := by decide +kernel
theorem dX13_reads_50 : decode cX13_reads 50 = .ok (.iload_n 1, 1) := by decide +kernel
theorem dX13_reads_51 : decode cX13_reads 51 = .ok (.iconst 0, 1) := by decide +kernel
theorem dX13_reads_52 : decode cX13_reads 52 = .ok (.iload_n 3, 1) := by decide +kernel
theorem dX13_reads_53 : decode cX13_reads 53 = .ok (.i2l, 1) := by decide +kernel
theorem dX13_reads_54 : decode cX13_reads 54 = .ok (.invokevirtual 336, 3) := by decide +kernel
theorem dX13_reads_57 : decode cX13_reads 57 = .ok (.ifCond .eq 7, 3) := by decide +kernel
theorem dX13_reads_60 : decode cX13_reads 60 = .ok (.iconst 1, 1) := by decide +kernel
theorem dX13_reads_61 : decode cX13_reads 61 = .ok (.goto 4, 3) := by decide +kernel
theorem dX13_reads_64 : decode cX13_reads 64 = .ok (.iconst 0, 1) := by decide +kernel
theorem dX13_reads_65 : decode cX13_reads 65 = .ok (.ireturn, 1) := by decide +kernel
theorem dX13_reads_66 : decode cX13_reads 66 = .ok (.iload_n 2, 1) := by decide +kernel
theorem dX13_reads_67 : decode cX13_reads 67 = .ok (.iconst 2, 1) := by decide +kernel
theorem dX13_reads_68 : decode cX13_reads 68 = .ok (.if_icmp .ne 26, 3) := by decide +kernel
theorem dX13_reads_71 : decode cX13_reads 71 = .ok (.iload 4, 2) := by decide +kernel
theorem dX13_reads_73 : decode cX13_reads 73 = .ok (.ifCond .lt 19, 3) := by decide +kernel
theorem dX13_reads_76 : decode cX13_reads 76 = .ok (.aload_n 0, 1) := by decide +kernel
theorem dX13_reads_77 : decode cX13_reads 77 = .ok (.iload_n 1, 1) := by decide +kernel
theorem dX13_reads_78 : decode cX13_reads 78 = .ok (.iconst 1, 1) := by decide +kernel
theorem dX13_reads_79 : decode cX13_reads 79 = .ok (.iload 4, 2) := by decide +kernel
theorem dX13_reads_81 : decode cX13_reads 81 = .ok (.i2l, 1) := by decide +kernel
theorem dX13_reads_82 : decode cX13_reads 82 = .ok (.invokevirtual 336, 3) := by decide +kernel
theorem dX13_reads_85 : decode cX13_reads 85 = .ok (.ifCond .eq 7, 3) := by decide +kernel
theorem dX13_reads_88 : decode cX13_reads 88 = .ok (.iconst 1, 1) := by decide +kernel
theorem dX13_reads_89 : decode cX13_reads 89 = .ok (.goto 4, 3) := by decide +kernel
theorem dX13_reads_92 : decode cX13_reads 92 = .ok (.iconst 0, 1) := by decide +kernel
theorem dX13_reads_93 : decode cX13_reads 93 = .ok (.ireturn, 1) := by decide +kernel
theorem dX13_reads_94 : decode cX13_reads 94 = .ok (.iload_n 2, 1) := by decide +kernel
theorem dX13_reads_95 : decode cX13_reads 95 = .ok (.iconst 3, 1) := by decide +kernel
theorem dX13_reads_96 : decode cX13_reads 96 = .ok (.if_icmp .eq 9, 3) := by decide +kernel
theorem dX13_reads_99 : decode cX13_reads 99 = .ok (.iload_n 2, 1) := by decide +kernel
theorem dX13_reads_100 : decode cX13_reads 100 = .ok (.bipush 7, 2) := by decide +kernel
theorem dX13_reads_102 : decode cX13_reads 102 = .ok (.if_icmp .ne 26, 3) := by decide +kernel
theorem dX13_reads_105 : decode cX13_reads 105 = .ok (.iload 5, 2) := by decide +kernel
theorem dX13_reads_107 : decode cX13_reads 107 = .ok (.ifCond .lt 19, 3) := by decide +kernel
theorem dX13_reads_110 : decode cX13_reads 110 = .ok (.aload_n 0, 1) := by decide +kernel
theorem dX13_reads_111 : decode cX13_reads 111 = .ok (.iload_n 1, 1) := by decide +kernel
theorem dX13_reads_112 : decode cX13_reads 112 = .ok (.iconst 2, 1) := by decide +kernel
theorem dX13_reads_113 : decode cX13_reads 113 = .ok (.iload 5, 2) := by decide +kernel
theorem dX13_reads_115 : decode cX13_reads 115 = .ok (.i2l, 1) := by decide +kernel
theorem dX13_reads_116 : decode cX13_reads 116 = .ok (.invokevirtual 336, 3) := by decide +kernel
theorem dX13_reads_119 : decode cX13_reads 119 = .ok (.ifCond .eq 7, 3) := by decide +kernel
theorem dX13_reads_122 : decode cX13_reads 122 = .ok (.iconst 1, 1) := by decide +kernel
theorem dX13_reads_123 : decode cX13_reads 123 = .ok (.goto 4, 3) := by decide +kernel
theorem dX13_reads_126 : decode cX13_reads 126 = .ok (.iconst 0, 1) := by decide +kernel
theorem dX13_reads_127 : decode cX13_reads 127 = .ok (.ireturn, 1) := by decide +kernel
theorem dX13_reads_128 : decode cX13_reads 128 = .ok (.iload_n 2, 1) := by decide +kernel
theorem dX13_reads_129 : decode cX13_reads 129 = .ok (.bipush 8, 2) := by decide +kernel
theorem dX13_reads_131 : decode cX13_reads 131 = .ok (.if_icmp .ne 9, 3) := by decide +kernel
theorem dX13_reads_134 : decode cX13_reads 134 = .ok (.aload_n 0, 1) := by decide +kernel
theorem dX13_reads_135 : decode cX13_reads 135 = .ok (.iload_n 1, 1) := by decide +kernel
theorem dX13_reads_136 : decode cX13_reads 136 = .ok (.invokevirtual 340, 3) := by decide +kernel
theorem dX13_reads_139 : decode cX13_reads 139 = .ok (.ireturn, 1) := by decide +kernel
theorem dX13_reads_140 : decode cX13_reads 140 = .ok (.iload_n 2, 1) := by decide +kernel
theorem dX13_reads_141 : decode cX13_reads 141 = .ok (.iconst 5, 1) := by decide +kernel
theorem dX13_reads_142 : decode cX13_reads 142 = .ok (.if_icmp .eq 16, 3) := by decide +kernel
theorem dX13_reads_145 : decode cX13_reads 145 = .ok (.iload_n 3, 1) := by decide +kernel
theorem dX13_reads_146 : decode cX13_reads 146 = .ok (.ifCond .lt 12, 3) := by decide +kernel
theorem dX13_reads_149 : decode cX13_reads 149 = .ok (.aload_n 0, 1) := by decide +kernel
theorem dX13_reads_150 : decode cX13_reads 150 = .ok (.iload_n 1, 1) := by decide +kernel
theorem dX13_reads_151 : decode cX13_reads 151 = .ok (.iconst 0, 1) := by decide +kernel
theorem dX13_reads_152 : decode cX13_reads 152 = .ok (.iload_n 3, 1) := by decide +kernel
theorem dX13_reads_153 : decode cX13_reads 153 = .ok (.i2l, 1) := by decide +kernel
theorem dX13_reads_154 : decode cX13_reads 154 = .ok (.invokevirtual 336, 3) := by decide +kernel
theorem dX13_reads_157 : decode cX13_reads 157 = .ok (.ireturn, 1) := by decide +kernel
theorem dX13_reads_158 : decode cX13_reads 158 = .ok (.iload_n 2, 1) := by decide +kernel
theorem dX13_reads_159 : decode cX13_reads 159 = .ok (.iconst 5, 1) := by decide +kernel
theorem dX13_reads_160 : decode cX13_reads 160 = .ok (.if_icmp .eq 16, 3) := by decide +kernel
theorem dX13_reads_163 : decode cX13_reads 163 = .ok (.aload_n 0, 1) := by decide +kernel
theorem dX13_reads_164 : decode cX13_reads 164 = .ok (.getfield 265, 3) := by decide +kernel
theorem dX13_reads_167 : decode cX13_reads 167 = .ok (.ifCond .eq 9, 3) := by decide +kernel
theorem dX13_reads_170 : decode cX13_reads 170 = .ok (.aload_n 0, 1) := by decide +kernel
theorem dX13_reads_171 : decode cX13_reads 171 = .ok (.iload_n 1, 1) := by decide +kernel
theorem dX13_reads_172 : decode cX13_reads 172 = .ok (.invokevirtual 343, 3) := by decide +kernel
theorem dX13_reads_175 : decode cX13_reads 175 = .ok (.ireturn, 1) := by decide +kernel
theorem dX13_reads_176 : decode cX13_reads 176 = .ok (.iload_n 2, 1) := by decide +kernel
theorem dX13_reads_177 : decode cX13_reads 177 = .ok (.iconst 4, 1) := by decide +kernel
theorem dX13_reads_178 : decode cX13_reads 178 = .ok (.if_icmp .ne 5, 3) := by decide +kernel
theorem dX13_reads_181 : decode cX13_reads 181 = .ok (.iconst 0, 1) := by decide +kernel
theorem dX13_reads_182 : decode cX13_reads 182 = .ok (.ireturn, 1) := by decide +kernel
theorem dX13_reads_183 : decode cX13_reads 183 = .ok (.iload 4, 2) := by decide +kernel
theorem dX13_reads_185 : decode cX13_reads 185 = .ok (.ifCond .lt 13, 3) := by decide +kernel
theorem dX13_reads_188 : decode cX13_reads 188 = .ok (.aload_n 0, 1) := by decide +kernel
theorem dX13_reads_189 : decode cX13_reads 189 = .ok (.iload_n 1, 1) := by decide +kernel
theorem dX13_reads_190 : decode cX13_reads 190 = .ok (.iconst 1, 1) := by decide +kernel
theorem dX13_reads_191 : decode cX13_reads 191 = .ok (.iload 4, 2) := by decide +kernel
theorem dX13_reads_193 : decode cX13_reads 193 = .ok (.i2l, 1) := by decide +kernel
theorem dX13_reads_194 : decode cX13_reads 194 = .ok (.invokevirtual 336, 3) := by decide +kernel
theorem dX13_reads_197 : decode cX13_reads 197 = .ok (.ireturn, 1) := by decide +kernel
theorem dX13_reads_198 : decode cX13_reads 198 = .ok (.aload_n 0, 1) := by decide +kernel
theorem dX13_reads_199 : decode cX13_reads 199 = .ok (.aload_n 0, 1) := by decide +kernel
theorem dX13_reads_200 : decode cX13_reads 200 = .ok (.getfield 262, 3) := by decide +kernel
theorem dX13_reads_203 : decode cX13_reads 203 = .ok (.invokevirtual 346, 3) := by decide +kernel
theorem dX13_reads_206 : decode cX13_reads 206 = .ok (.ifCond .eq 14, 3) := by decide +kernel
theorem dX13_reads_209 : decode cX13_reads 209 = .ok (.aload_n 0, 1) := by decide +kernel
theorem dX13_reads_210 : decode cX13_reads 210 = .ok (.iload_n 1, 1) := by decide +kernel
theorem dX13_reads_211 : decode cX13_reads 211 = .ok (.iconst 4, 1) := by decide +kernel
theorem dX13_reads_212 : decode cX13_reads 212 = .ok (.aload_n 0, 1) := by decide +kernel
theorem dX13_reads_213 : decode cX13_reads 213 = .ok (.getfield 328, 3) := by decide +kernel
theorem dX13_reads_216 : decode cX13_reads 216 = .ok (.invokevirtual 336, 3) := by decide +kernel
theorem dX13_reads_219 : decode cX13_reads 219 = .ok (.ireturn, 1) := by decide +kernel
theorem dX13_reads_220 : decode cX13_reads 220 = .ok (.iload_n 2, 1) := by decide +kernel
theorem dX13_reads_221 : decode cX13_reads 221 = .ok (.iconst 5, 1) := by decide +kernel
theorem dX13_reads_222 : decode cX13_reads 222 = .ok (.if_icmp .eq 10, 3) := by decide +kernel
theorem dX13_reads_225 : decode cX13_reads 225 = .ok (.aload_n 0, 1) := by decide +kernel
theorem dX13_reads_226 : decode cX13_reads 226 = .ok (.getfield 265, 3) := by decide +kernel
theorem dX13_reads_229 : decode cX13_reads 229 = .ok (.ifCond .eq 5, 3) := by decide +kernel
theorem dX13_reads_232 : decode cX13_reads 232 = .ok (.iconst 0, 1) := by decide +kernel
theorem dX13_reads_233 : decode cX13_reads 233 = .ok (.ireturn, 1) := by decide +kernel
theorem dX13_reads_234 : decode cX13_reads 234 = .ok (.iload 5, 2) := by decide +kernel
theorem dX13_reads_236 : decode cX13_reads 236 = .ok (.ifCond .lt 13, 3) := by decide +kernel
theorem dX13_reads_239 : decode cX13_reads 239 = .ok (.aload_n 0, 1) := by decide +kernel
theorem dX13_reads_240 : decode cX13_reads 240 = .ok (.iload_n 1, 1) := by decide +kernel
theorem dX13_reads_241 : decode cX13_reads 241 = .ok (.iconst 2, 1) := by decide +kernel
theorem dX13_reads_242 : decode cX13_reads 242 = .ok (.iload 5, 2) := by decide +kernel
theorem dX13_reads_244 : decode cX13_reads 244 = .ok (.i2l, 1) := by decide +kernel
theorem dX13_reads_245 : decode cX13_reads 245 = .ok (.invokevirtual 336, 3) := by decide +kernel
theorem dX13_reads_248 : decode cX13_reads 248 = .ok (.ireturn, 1) := by decide +kernel
theorem dX13_reads_249 : decode cX13_reads 249 = .ok (.aload_n 0, 1) := by decide +kernel
theorem dX13_reads_250 : decode cX13_reads 250 = .ok (.iload_n 1, 1) := by decide +kernel
theorem dX13_reads_251 : decode cX13_reads 251 = .ok (.invokevirtual 349, 3) := by decide +kernel
theorem dX13_reads_254 : decode cX13_reads 254 = .ok (.ireturn, 1) := by decide +kernel
def m_reads_105 (g : Nat) (S : St) (x1 : Int32) (x5 : Int32) : Option (St × Int32) :=
if x5 < 0 then (
  some (S, (0 : Int32))
) else (
  (m_keeps g S x1 (2 : Int32) (x5.toInt64)).bind fun (S_4, v_5) =>
  if v_5 = 0 then (
    some (S_4, (0 : Int32))
  ) else (
    some (S_4, (1 : Int32))
  )
)
def m_reads_176 (g : Nat) (S : St) (x1 : Int32) (x2 : Int32) (x4 : Int32) (x5 : Int32) : Option (St × Int32) :=
if x2 = (4 : Int32) then (
  some (S, (0 : Int32))
) else (
  if x4 < 0 then (
    (m_isNumber g S (gI S 0 20)).bind fun (S_4, v_5) =>
    if v_5 = 0 then (
      if x2 = (5 : Int32) then (
        some (S_4, (0 : Int32))
      ) else (
        if (gI S_4 0 23) = 0 then (
          if x5 < 0 then (
            (m_readsMarked g S_4 x1).bind fun (S_6, v_7) =>
            if v_7 = 0 ∨ v_7 = 1 then some (S_6, v_7) else none
          ) else (
            (m_keeps g S_4 x1 (2 : Int32) (x5.toInt64)).bind fun (S_9, v_10) =>
            if v_10 = 0 ∨ v_10 = 1 then some (S_9, v_10) else none
          )
        ) else (
          some (S_4, (0 : Int32))
        )
      )
    ) else (
      (m_keeps g S_4 x1 (4 : Int32) (gL S_4 0 26)).bind fun (S_12, v_13) =>
      if v_13 = 0 ∨ v_13 = 1 then some (S_12, v_13) else none
    )
  ) else (
    (m_keeps g S x1 (1 : Int32) (x4.toInt64)).bind fun (S_15, v_16) =>
    if v_16 = 0 ∨ v_16 = 1 then some (S_15, v_16) else none
  )
)
def m_reads_158 (g : Nat) (S : St) (x1 : Int32) (x2 : Int32) (x4 : Int32) (x5 : Int32) : Option (St × Int32) :=
if x2 = (5 : Int32) then (
  m_reads_176 g S x1 x2 x4 x5
) else (
  if (gI S 0 23) = 0 then (
    m_reads_176 g S x1 x2 x4 x5
  ) else (
    (m_readsLiteral g S x1).bind fun (S_4, v_5) =>
    if v_5 = 0 ∨ v_5 = 1 then some (S_4, v_5) else none
  )
)
def m_reads (g : Nat) (S : St) (x1 : Int32) (x2 : Int32) : Option (St × Int32) :=
(m_numbered g S (gI S 0 20) (118 : Int32) (19 : Int32)).bind fun v_1 =>
(m_numbered g S (gI S 0 20) (119 : Int32) (11 : Int32)).bind fun v_2 =>
(m_numbered g S (gI S 0 20) (98 : Int32) (5 : Int32)).bind fun v_3 =>
if x2 = (1 : Int32) then (
  if v_1 < 0 then (
    some (S, (0 : Int32))
  ) else (
    (m_keeps g S x1 (0 : Int32) (v_1.toInt64)).bind fun (S_12, v_13) =>
    if v_13 = 0 then (
      some (S_12, (0 : Int32))
    ) else (
      some (S_12, (1 : Int32))
    )
  )
) else (
  if x2 = (2 : Int32) then (
    if v_2 < 0 then (
      some (S, (0 : Int32))
    ) else (
      (m_keeps g S x1 (1 : Int32) (v_2.toInt64)).bind fun (S_10, v_11) =>
      if v_11 = 0 then (
        some (S_10, (0 : Int32))
      ) else (
        some (S_10, (1 : Int32))
      )
    )
  ) else (
    if x2 = (3 : Int32) then (
      m_reads_105 g S x1 v_3
    ) else (
      if x2 = (7 : Int32) then (
        m_reads_105 g S x1 v_3
      ) else (
        if x2 = (8 : Int32) then (
          (m_readsCount g S x1).bind fun (S_7, v_8) =>
          if v_8 = 0 ∨ v_8 = 1 then some (S_7, v_8) else none
        ) else (
          if x2 = (5 : Int32) then (
            m_reads_158 g S x1 x2 v_2 v_3
          ) else (
            if v_1 < 0 then (
              m_reads_158 g S x1 x2 v_2 v_3
            ) else (
              (m_keeps g S x1 (0 : Int32) (v_1.toInt64)).bind fun (S_4, v_5) =>
              if v_5 = 0 ∨ v_5 = 1 then some (S_4, v_5) else none
            )
          )
        )
      )
    )
  )
)
section S_reads
variable {p : Program} {l : Launch} {e : Env} {s : State} {m : MethodId} {args : Array Value} {below : List Frame} {meth : Method} {c : Code} {H : Heap} {locs : List Loc} {ls : Array Slot} {D : va_G} {T : Cy} {ρ : Nat → Nat} {A : Nat → Prop}
set_option maxRecDepth 100000 in
set_option maxHeartbeats 4000000 in
theorem w_reads_105  {g : Nat} {S : St} {x1 : Int32} {x5 : Int32} (C : CallFix p m c cX13_reads 6 s args tb RX13) (hr : meth.sig.returnType = (some .boolean)) (hk : meth.locks = false) {S' : St} {r : Int32} (w : Wn Ym D T ρ S A s H locs) (hl : lv_has ls 6 [(0, .ref (ρ 0)), (1, .int x1), (5, .int x5)]) (h : m_reads_105 g S x1 x5 = some (S', r)) : W p l e (rmN 3 74) s m args below meth c H locs 0 0 (MQ below (Qi Ym D T ρ A S' r) args s 0 0 A) (F0 m 105 ls []) := by
  unfold m_reads_105 at h
  refine lv_iload C.1 C.2.1 dX13_reads_105 (lv_at hl 2 rfl) ?_
  refine lv_if_lt (tgt := 126) C.1 C.2.1 dX13_reads_107 (by decide) (fun hc => ?_) (fun hc => ?_)
  · replace h := ift hc h
    refine lv_iconst (v := 0) C.1 C.2.1 dX13_reads_126 (by decide) ?_
    obtain ⟨rfl, rfl⟩ := prI h
    exact x_zret C w hr hk (by decide) dX13_reads_127
  · replace h := iff0 hc h
    refine lv_aload_n C.1 C.2.1 dX13_reads_110 rfl (lv_at hl 0 rfl) ?_
    refine lv_iload_n C.1 C.2.1 dX13_reads_111 rfl (lv_at hl 1 rfl) ?_
    refine lv_iconst (v := 2) C.1 C.2.1 dX13_reads_112 (by decide) ?_
    refine lv_iload C.1 C.2.1 dX13_reads_113 (lv_at hl 2 rfl) ?_
    refine lv_i2l C.1 C.2.1 dX13_reads_115 rfl ?_
    obtain ⟨⟨S_4, v_5⟩, hv_5, h⟩ := bnd h
    refine x_callVi (q := (RX13, TX13, 68)) (As := [.int x1, .int (2 : Int32), .long (x5.toInt64)]) (rest := []) C w (k_keeps l D T ρ g H.size S hv_5) vM336 ⟨by decide, by decide⟩ obM (by decide) rfl rfl rfl hl.1 (Nat.le_of_ble_eq_true rfl) ⟨Nat.zero_le _, Nat.zero_le _⟩ dX13_reads_116 (fun H locs w => ?_)
    refine lv_if_eq (tgt := 126) C.1 C.2.1 dX13_reads_119 (by decide) (fun hc => ?_) (fun hc => ?_)
    · replace h := ift hc h
      refine lv_iconst (v := 0) C.1 C.2.1 dX13_reads_126 (by decide) ?_
      obtain ⟨rfl, rfl⟩ := prI h
      exact x_zret C w hr hk (by decide) dX13_reads_127
    · replace h := iff0 hc h
      refine lv_iconst (v := 1) C.1 C.2.1 dX13_reads_122 (by decide) ?_
      refine lv_goto (tgt := 127) C.1 C.2.1 dX13_reads_123 (by decide) ?_
      obtain ⟨rfl, rfl⟩ := prI h
      exact x_zret C w hr hk (by decide) dX13_reads_127
set_option maxRecDepth 100000 in
set_option maxHeartbeats 4000000 in
theorem w_reads_176  {g : Nat} {S : St} {x1 : Int32} {x2 : Int32} {x4 : Int32} {x5 : Int32} (C : CallFix p m c cX13_reads 6 s args tb RX13) (hr : meth.sig.returnType = (some .boolean)) (hk : meth.locks = false) {S' : St} {r : Int32} (w : Wn Ym D T ρ S A s H locs) (hl : lv_has ls 6 [(0, .ref (ρ 0)), (1, .int x1), (2, .int x2), (4, .int x4), (5, .int x5)]) (h : m_reads_176 g S x1 x2 x4 x5 = some (S', r)) : W p l e (rmN 3 74) s m args below meth c H locs 0 0 (MQ below (Qi Ym D T ρ A S' r) args s 0 0 A) (F0 m 176 ls []) := by
  unfold m_reads_176 at h
  refine lv_iload_n C.1 C.2.1 dX13_reads_176 rfl (lv_at hl 2 rfl) ?_
  refine lv_iconst (v := 4) C.1 C.2.1 dX13_reads_177 (by decide) ?_
  refine lv_icmp_ne (tgt := 183) C.1 C.2.1 dX13_reads_178 (by decide) (fun hc => ?_) (fun hc => ?_)
  · replace h := iff0 hc h
    refine lv_iload C.1 C.2.1 dX13_reads_183 (lv_at hl 3 rfl) ?_
    refine lv_if_lt (tgt := 198) C.1 C.2.1 dX13_reads_185 (by decide) (fun hc => ?_) (fun hc => ?_)
    · replace h := ift hc h
      refine lv_aload_n C.1 C.2.1 dX13_reads_198 rfl (lv_at hl 0 rfl) ?_
      refine lv_aload_n C.1 C.2.1 dX13_reads_199 rfl (lv_at hl 0 rfl) ?_
      refine x_getI C w fM262 obM dX13_reads_200 ?_
      obtain ⟨⟨S_4, v_5⟩, hv_5, h⟩ := bnd h
      refine x_callVi (q := (RX13, TX13, 68)) (As := [.int (gI S 0 20)]) (rest := []) C w (k_isNumber l D T ρ g H.size S hv_5) vM346 ⟨by decide, by decide⟩ obM (by decide) rfl rfl rfl hl.1 (Nat.le_of_ble_eq_true rfl) ⟨Nat.zero_le _, Nat.zero_le _⟩ dX13_reads_203 (fun H locs w => ?_)
      refine lv_if_eq (tgt := 220) C.1 C.2.1 dX13_reads_206 (by decide) (fun hc => ?_) (fun hc => ?_)
      · replace h := ift hc h
        refine lv_iload_n C.1 C.2.1 dX13_reads_220 rfl (lv_at hl 2 rfl) ?_
        refine lv_iconst (v := 5) C.1 C.2.1 dX13_reads_221 (by decide) ?_
        refine lv_icmp_eq (tgt := 232) C.1 C.2.1 dX13_reads_222 (by decide) (fun hc => ?_) (fun hc => ?_)
        · replace h := ift hc h
          refine lv_iconst (v := 0) C.1 C.2.1 dX13_reads_232 (by decide) ?_
          obtain ⟨rfl, rfl⟩ := prI h
          exact x_zret C w hr hk (by decide) dX13_reads_233
        · replace h := iff0 hc h
          refine lv_aload_n C.1 C.2.1 dX13_reads_225 rfl (lv_at hl 0 rfl) ?_
          refine x_getI C w fM265 obM dX13_reads_226 ?_
          refine lv_if_eq (tgt := 234) C.1 C.2.1 dX13_reads_229 (by decide) (fun hc => ?_) (fun hc => ?_)
          · replace h := ift hc h
            refine lv_iload C.1 C.2.1 dX13_reads_234 (lv_at hl 4 rfl) ?_
            refine lv_if_lt (tgt := 249) C.1 C.2.1 dX13_reads_236 (by decide) (fun hc => ?_) (fun hc => ?_)
            · replace h := ift hc h
              refine lv_aload_n C.1 C.2.1 dX13_reads_249 rfl (lv_at hl 0 rfl) ?_
              refine lv_iload_n C.1 C.2.1 dX13_reads_250 rfl (lv_at hl 1 rfl) ?_
              obtain ⟨⟨S_6, v_7⟩, hv_7, h⟩ := bnd h
              refine x_callVi (q := (RX13, TX13, 68)) (As := [.int x1]) (rest := []) C w (k_readsMarked l D T ρ g H.size S_4 hv_7) vM349 ⟨by decide, by decide⟩ obM (by decide) rfl rfl rfl hl.1 (Nat.le_of_ble_eq_true rfl) ⟨Nat.zero_le _, Nat.zero_le _⟩ dX13_reads_251 (fun H locs w => ?_)
              by_cases hz_8 : v_7 = 0 ∨ v_7 = 1
              case neg => exact absurd (iff0 hz_8 h) (fun q => by cases q)
              replace h := ift hz_8 h
              obtain ⟨rfl, rfl⟩ := prI h
              exact x_zret C w hr hk hz_8 dX13_reads_254
            · replace h := iff0 hc h
              refine lv_aload_n C.1 C.2.1 dX13_reads_239 rfl (lv_at hl 0 rfl) ?_
              refine lv_iload_n C.1 C.2.1 dX13_reads_240 rfl (lv_at hl 1 rfl) ?_
              refine lv_iconst (v := 2) C.1 C.2.1 dX13_reads_241 (by decide) ?_
              refine lv_iload C.1 C.2.1 dX13_reads_242 (lv_at hl 4 rfl) ?_
              refine lv_i2l C.1 C.2.1 dX13_reads_244 rfl ?_
              obtain ⟨⟨S_9, v_10⟩, hv_10, h⟩ := bnd h
              refine x_callVi (q := (RX13, TX13, 68)) (As := [.int x1, .int (2 : Int32), .long (x5.toInt64)]) (rest := []) C w (k_keeps l D T ρ g H.size S_4 hv_10) vM336 ⟨by decide, by decide⟩ obM (by decide) rfl rfl rfl hl.1 (Nat.le_of_ble_eq_true rfl) ⟨Nat.zero_le _, Nat.zero_le _⟩ dX13_reads_245 (fun H locs w => ?_)
              by_cases hz_11 : v_10 = 0 ∨ v_10 = 1
              case neg => exact absurd (iff0 hz_11 h) (fun q => by cases q)
              replace h := ift hz_11 h
              obtain ⟨rfl, rfl⟩ := prI h
              exact x_zret C w hr hk hz_11 dX13_reads_248
          · replace h := iff0 hc h
            refine lv_iconst (v := 0) C.1 C.2.1 dX13_reads_232 (by decide) ?_
            obtain ⟨rfl, rfl⟩ := prI h
            exact x_zret C w hr hk (by decide) dX13_reads_233
      · replace h := iff0 hc h
        refine lv_aload_n C.1 C.2.1 dX13_reads_209 rfl (lv_at hl 0 rfl) ?_
        refine lv_iload_n C.1 C.2.1 dX13_reads_210 rfl (lv_at hl 1 rfl) ?_
        refine lv_iconst (v := 4) C.1 C.2.1 dX13_reads_211 (by decide) ?_
        refine lv_aload_n C.1 C.2.1 dX13_reads_212 rfl (lv_at hl 0 rfl) ?_
        refine x_getL C w fM328 obM dX13_reads_213 ?_
        obtain ⟨⟨S_12, v_13⟩, hv_13, h⟩ := bnd h
        refine x_callVi (q := (RX13, TX13, 68)) (As := [.int x1, .int (4 : Int32), .long (gL S_4 0 26)]) (rest := []) C w (k_keeps l D T ρ g H.size S_4 hv_13) vM336 ⟨by decide, by decide⟩ obM (by decide) rfl rfl rfl hl.1 (Nat.le_of_ble_eq_true rfl) ⟨Nat.zero_le _, Nat.zero_le _⟩ dX13_reads_216 (fun H locs w => ?_)
        by_cases hz_14 : v_13 = 0 ∨ v_13 = 1
        case neg => exact absurd (iff0 hz_14 h) (fun q => by cases q)
        replace h := ift hz_14 h
        obtain ⟨rfl, rfl⟩ := prI h
        exact x_zret C w hr hk hz_14 dX13_reads_219
    · replace h := iff0 hc h
      refine lv_aload_n C.1 C.2.1 dX13_reads_188 rfl (lv_at hl 0 rfl) ?_
      refine lv_iload_n C.1 C.2.1 dX13_reads_189 rfl (lv_at hl 1 rfl) ?_
      refine lv_iconst (v := 1) C.1 C.2.1 dX13_reads_190 (by decide) ?_
      refine lv_iload C.1 C.2.1 dX13_reads_191 (lv_at hl 3 rfl) ?_
      refine lv_i2l C.1 C.2.1 dX13_reads_193 rfl ?_
      obtain ⟨⟨S_15, v_16⟩, hv_16, h⟩ := bnd h
      refine x_callVi (q := (RX13, TX13, 68)) (As := [.int x1, .int (1 : Int32), .long (x4.toInt64)]) (rest := []) C w (k_keeps l D T ρ g H.size S hv_16) vM336 ⟨by decide, by decide⟩ obM (by decide) rfl rfl rfl hl.1 (Nat.le_of_ble_eq_true rfl) ⟨Nat.zero_le _, Nat.zero_le _⟩ dX13_reads_194 (fun H locs w => ?_)
      by_cases hz_17 : v_16 = 0 ∨ v_16 = 1
      case neg => exact absurd (iff0 hz_17 h) (fun q => by cases q)
      replace h := ift hz_17 h
      obtain ⟨rfl, rfl⟩ := prI h
      exact x_zret C w hr hk hz_17 dX13_reads_197
  · replace h := ift hc h
    refine lv_iconst (v := 0) C.1 C.2.1 dX13_reads_181 (by decide) ?_
    obtain ⟨rfl, rfl⟩ := prI h
    exact x_zret C w hr hk (by decide) dX13_reads_182
set_option maxRecDepth 100000 in
set_option maxHeartbeats 4000000 in
theorem w_reads_158  {g : Nat} {S : St} {x1 : Int32} {x2 : Int32} {x4 : Int32} {x5 : Int32} (C : CallFix p m c cX13_reads 6 s args tb RX13) (hr : meth.sig.returnType = (some .boolean)) (hk : meth.locks = false) {S' : St} {r : Int32} (w : Wn Ym D T ρ S A s H locs) (hl : lv_has ls 6 [(0, .ref (ρ 0)), (1, .int x1), (2, .int x2), (4, .int x4), (5, .int x5)]) (h : m_reads_158 g S x1 x2 x4 x5 = some (S', r)) : W p l e (rmN 3 74) s m args below meth c H locs 0 0 (MQ below (Qi Ym D T ρ A S' r) args s 0 0 A) (F0 m 158 ls []) := by
  unfold m_reads_158 at h
  refine lv_iload_n C.1 C.2.1 dX13_reads_158 rfl (lv_at hl 2 rfl) ?_
  refine lv_iconst (v := 5) C.1 C.2.1 dX13_reads_159 (by decide) ?_
  refine lv_icmp_eq (tgt := 176) C.1 C.2.1 dX13_reads_160 (by decide) (fun hc => ?_) (fun hc => ?_)
  · replace h := ift hc h
    exact w_reads_176 C hr hk w (lv_sub hl [0, 1, 2, 3, 4] rfl) h
  · replace h := iff0 hc h
    refine lv_aload_n C.1 C.2.1 dX13_reads_163 rfl (lv_at hl 0 rfl) ?_
    refine x_getI C w fM265 obM dX13_reads_164 ?_
    refine lv_if_eq (tgt := 176) C.1 C.2.1 dX13_reads_167 (by decide) (fun hc => ?_) (fun hc => ?_)
    · replace h := ift hc h
      exact w_reads_176 C hr hk w (lv_sub hl [0, 1, 2, 3, 4] rfl) h
    · replace h := iff0 hc h
      refine lv_aload_n C.1 C.2.1 dX13_reads_170 rfl (lv_at hl 0 rfl) ?_
      refine lv_iload_n C.1 C.2.1 dX13_reads_171 rfl (lv_at hl 1 rfl) ?_
      obtain ⟨⟨S_4, v_5⟩, hv_5, h⟩ := bnd h
      refine x_callVi (q := (RX13, TX13, 68)) (As := [.int x1]) (rest := []) C w (k_readsLiteral l D T ρ g H.size S hv_5) vM343 ⟨by decide, by decide⟩ obM (by decide) rfl rfl rfl hl.1 (Nat.le_of_ble_eq_true rfl) ⟨Nat.zero_le _, Nat.zero_le _⟩ dX13_reads_172 (fun H locs w => ?_)
      by_cases hz_6 : v_5 = 0 ∨ v_5 = 1
      case neg => exact absurd (iff0 hz_6 h) (fun q => by cases q)
      replace h := ift hz_6 h
      obtain ⟨rfl, rfl⟩ := prI h
      exact x_zret C w hr hk hz_6 dX13_reads_175
set_option maxRecDepth 100000 in
set_option maxHeartbeats 4000000 in
theorem w_reads_0  {g : Nat} {S : St} {x1 : Int32} {x2 : Int32} (C : CallFix p m c cX13_reads 6 s args tb RX13) (hr : meth.sig.returnType = (some .boolean)) (hk : meth.locks = false) {S' : St} {r : Int32} (w : Wn Ym D T ρ S A s H locs) (hl : lv_has ls 6 [(0, .ref (ρ 0)), (1, .int x1), (2, .int x2)]) (h : m_reads g S x1 x2 = some (S', r)) : W p l e (rmN 3 74) s m args below meth c H locs 0 0 (MQ below (Qi Ym D T ρ A S' r) args s 0 0 A) (F0 m 0 ls []) := by
  unfold m_reads at h
  refine lv_aload_n C.1 C.2.1 dX13_reads_0 rfl (lv_at hl 0 rfl) ?_
  refine lv_aload_n C.1 C.2.1 dX13_reads_1 rfl (lv_at hl 0 rfl) ?_
  refine x_getI C w fM262 obM dX13_reads_2 ?_
  refine lv_bipush (v := 118) C.1 C.2.1 dX13_reads_5 (by decide) ?_
  refine lv_bipush (v := 19) C.1 C.2.1 dX13_reads_7 (by decide) ?_
  obtain ⟨v_1, hv_1, h⟩ := bnd h
  refine x_callVi (q := (RX13, TX13, 68)) (As := [.int (gI S 0 20), .int (118 : Int32), .int (19 : Int32)]) (rest := []) C w (k_numbered l D T ρ g H.size S hv_1) vM332 ⟨by decide, by decide⟩ obM (by decide) rfl rfl rfl hl.1 (Nat.le_of_ble_eq_true rfl) ⟨Nat.zero_le _, Nat.zero_le _⟩ dX13_reads_9 (fun H locs w => ?_)
  refine lv_istore_n (lv' := [(3, .int v_1), (0, .ref (ρ 0)), (1, .int x1), (2, .int x2)]) C.1 C.2.1 dX13_reads_12 rfl hl (by decide) rfl (fun ls hl => ?_)
  refine lv_aload_n C.1 C.2.1 dX13_reads_13 rfl (lv_at hl 1 rfl) ?_
  refine lv_aload_n C.1 C.2.1 dX13_reads_14 rfl (lv_at hl 1 rfl) ?_
  refine x_getI C w fM262 obM dX13_reads_15 ?_
  refine lv_bipush (v := 119) C.1 C.2.1 dX13_reads_18 (by decide) ?_
  refine lv_bipush (v := 11) C.1 C.2.1 dX13_reads_20 (by decide) ?_
  obtain ⟨v_2, hv_2, h⟩ := bnd h
  refine x_callVi (q := (RX13, TX13, 68)) (As := [.int (gI S 0 20), .int (119 : Int32), .int (11 : Int32)]) (rest := []) C w (k_numbered l D T ρ g H.size S hv_2) vM332 ⟨by decide, by decide⟩ obM (by decide) rfl rfl rfl hl.1 (Nat.le_of_ble_eq_true rfl) ⟨Nat.zero_le _, Nat.zero_le _⟩ dX13_reads_22 (fun H locs w => ?_)
  refine lv_istore (lv' := [(4, .int v_2), (3, .int v_1), (0, .ref (ρ 0)), (1, .int x1), (2, .int x2)]) C.1 C.2.1 dX13_reads_25 hl (by decide) rfl (fun ls hl => ?_)
  refine lv_aload_n C.1 C.2.1 dX13_reads_27 rfl (lv_at hl 2 rfl) ?_
  refine lv_aload_n C.1 C.2.1 dX13_reads_28 rfl (lv_at hl 2 rfl) ?_
  refine x_getI C w fM262 obM dX13_reads_29 ?_
  refine lv_bipush (v := 98) C.1 C.2.1 dX13_reads_32 (by decide) ?_
  refine lv_iconst (v := 5) C.1 C.2.1 dX13_reads_34 (by decide) ?_
  obtain ⟨v_3, hv_3, h⟩ := bnd h
  refine x_callVi (q := (RX13, TX13, 68)) (As := [.int (gI S 0 20), .int (98 : Int32), .int (5 : Int32)]) (rest := []) C w (k_numbered l D T ρ g H.size S hv_3) vM332 ⟨by decide, by decide⟩ obM (by decide) rfl rfl rfl hl.1 (Nat.le_of_ble_eq_true rfl) ⟨Nat.zero_le _, Nat.zero_le _⟩ dX13_reads_35 (fun H locs w => ?_)
  refine lv_istore (lv' := [(5, .int v_3), (4, .int v_2), (3, .int v_1), (0, .ref (ρ 0)), (1, .int x1), (2, .int x2)]) C.1 C.2.1 dX13_reads_38 hl (by decide) rfl (fun ls hl => ?_)
  refine lv_iload_n C.1 C.2.1 dX13_reads_40 rfl (lv_at hl 5 rfl) ?_
  refine lv_iconst (v := 1) C.1 C.2.1 dX13_reads_41 (by decide) ?_
  refine lv_icmp_ne (tgt := 66) C.1 C.2.1 dX13_reads_42 (by decide) (fun hc => ?_) (fun hc => ?_)
  · replace h := iff0 hc h
    refine lv_iload_n C.1 C.2.1 dX13_reads_66 rfl (lv_at hl 5 rfl) ?_
    refine lv_iconst (v := 2) C.1 C.2.1 dX13_reads_67 (by decide) ?_
    refine lv_icmp_ne (tgt := 94) C.1 C.2.1 dX13_reads_68 (by decide) (fun hc => ?_) (fun hc => ?_)
    · replace h := iff0 hc h
      refine lv_iload_n C.1 C.2.1 dX13_reads_94 rfl (lv_at hl 5 rfl) ?_
      refine lv_iconst (v := 3) C.1 C.2.1 dX13_reads_95 (by decide) ?_
      refine lv_icmp_eq (tgt := 105) C.1 C.2.1 dX13_reads_96 (by decide) (fun hc => ?_) (fun hc => ?_)
      · replace h := ift hc h
        exact w_reads_105 C hr hk w (lv_sub hl [3, 4, 0] rfl) h
      · replace h := iff0 hc h
        refine lv_iload_n C.1 C.2.1 dX13_reads_99 rfl (lv_at hl 5 rfl) ?_
        refine lv_bipush (v := 7) C.1 C.2.1 dX13_reads_100 (by decide) ?_
        refine lv_icmp_ne (tgt := 128) C.1 C.2.1 dX13_reads_102 (by decide) (fun hc => ?_) (fun hc => ?_)
        · replace h := iff0 hc h
          refine lv_iload_n C.1 C.2.1 dX13_reads_128 rfl (lv_at hl 5 rfl) ?_
          refine lv_bipush (v := 8) C.1 C.2.1 dX13_reads_129 (by decide) ?_
          refine lv_icmp_ne (tgt := 140) C.1 C.2.1 dX13_reads_131 (by decide) (fun hc => ?_) (fun hc => ?_)
          · replace h := iff0 hc h
            refine lv_iload_n C.1 C.2.1 dX13_reads_140 rfl (lv_at hl 5 rfl) ?_
            refine lv_iconst (v := 5) C.1 C.2.1 dX13_reads_141 (by decide) ?_
            refine lv_icmp_eq (tgt := 158) C.1 C.2.1 dX13_reads_142 (by decide) (fun hc => ?_) (fun hc => ?_)
            · replace h := ift hc h
              exact w_reads_158 C hr hk w (lv_sub hl [3, 4, 5, 1, 0] rfl) h
            · replace h := iff0 hc h
              refine lv_iload_n C.1 C.2.1 dX13_reads_145 rfl (lv_at hl 2 rfl) ?_
              refine lv_if_lt (tgt := 158) C.1 C.2.1 dX13_reads_146 (by decide) (fun hc => ?_) (fun hc => ?_)
              · replace h := ift hc h
                exact w_reads_158 C hr hk w (lv_sub hl [3, 4, 5, 1, 0] rfl) h
              · replace h := iff0 hc h
                refine lv_aload_n C.1 C.2.1 dX13_reads_149 rfl (lv_at hl 3 rfl) ?_
                refine lv_iload_n C.1 C.2.1 dX13_reads_150 rfl (lv_at hl 4 rfl) ?_
                refine lv_iconst (v := 0) C.1 C.2.1 dX13_reads_151 (by decide) ?_
                refine lv_iload_n C.1 C.2.1 dX13_reads_152 rfl (lv_at hl 2 rfl) ?_
                refine lv_i2l C.1 C.2.1 dX13_reads_153 rfl ?_
                obtain ⟨⟨S_4, v_5⟩, hv_5, h⟩ := bnd h
                refine x_callVi (q := (RX13, TX13, 68)) (As := [.int x1, .int (0 : Int32), .long (v_1.toInt64)]) (rest := []) C w (k_keeps l D T ρ g H.size S hv_5) vM336 ⟨by decide, by decide⟩ obM (by decide) rfl rfl rfl hl.1 (Nat.le_of_ble_eq_true rfl) ⟨Nat.zero_le _, Nat.zero_le _⟩ dX13_reads_154 (fun H locs w => ?_)
                by_cases hz_6 : v_5 = 0 ∨ v_5 = 1
                case neg => exact absurd (iff0 hz_6 h) (fun q => by cases q)
                replace h := ift hz_6 h
                obtain ⟨rfl, rfl⟩ := prI h
                exact x_zret C w hr hk hz_6 dX13_reads_157
          · replace h := ift hc h
            refine lv_aload_n C.1 C.2.1 dX13_reads_134 rfl (lv_at hl 3 rfl) ?_
            refine lv_iload_n C.1 C.2.1 dX13_reads_135 rfl (lv_at hl 4 rfl) ?_
            obtain ⟨⟨S_7, v_8⟩, hv_8, h⟩ := bnd h
            refine x_callVi (q := (RX13, TX13, 68)) (As := [.int x1]) (rest := []) C w (k_readsCount l D T ρ g H.size S hv_8) vM340 ⟨by decide, by decide⟩ obM (by decide) rfl rfl rfl hl.1 (Nat.le_of_ble_eq_true rfl) ⟨Nat.zero_le _, Nat.zero_le _⟩ dX13_reads_136 (fun H locs w => ?_)
            by_cases hz_9 : v_8 = 0 ∨ v_8 = 1
            case neg => exact absurd (iff0 hz_9 h) (fun q => by cases q)
            replace h := ift hz_9 h
            obtain ⟨rfl, rfl⟩ := prI h
            exact x_zret C w hr hk hz_9 dX13_reads_139
        · replace h := ift hc h
          exact w_reads_105 C hr hk w (lv_sub hl [3, 4, 0] rfl) h
    · replace h := ift hc h
      refine lv_iload C.1 C.2.1 dX13_reads_71 (lv_at hl 1 rfl) ?_
      refine lv_if_lt (tgt := 92) C.1 C.2.1 dX13_reads_73 (by decide) (fun hc => ?_) (fun hc => ?_)
      · replace h := ift hc h
        refine lv_iconst (v := 0) C.1 C.2.1 dX13_reads_92 (by decide) ?_
        obtain ⟨rfl, rfl⟩ := prI h
        exact x_zret C w hr hk (by decide) dX13_reads_93
      · replace h := iff0 hc h
        refine lv_aload_n C.1 C.2.1 dX13_reads_76 rfl (lv_at hl 3 rfl) ?_
        refine lv_iload_n C.1 C.2.1 dX13_reads_77 rfl (lv_at hl 4 rfl) ?_
        refine lv_iconst (v := 1) C.1 C.2.1 dX13_reads_78 (by decide) ?_
        refine lv_iload C.1 C.2.1 dX13_reads_79 (lv_at hl 1 rfl) ?_
        refine lv_i2l C.1 C.2.1 dX13_reads_81 rfl ?_
        obtain ⟨⟨S_10, v_11⟩, hv_11, h⟩ := bnd h
        refine x_callVi (q := (RX13, TX13, 68)) (As := [.int x1, .int (1 : Int32), .long (v_2.toInt64)]) (rest := []) C w (k_keeps l D T ρ g H.size S hv_11) vM336 ⟨by decide, by decide⟩ obM (by decide) rfl rfl rfl hl.1 (Nat.le_of_ble_eq_true rfl) ⟨Nat.zero_le _, Nat.zero_le _⟩ dX13_reads_82 (fun H locs w => ?_)
        refine lv_if_eq (tgt := 92) C.1 C.2.1 dX13_reads_85 (by decide) (fun hc => ?_) (fun hc => ?_)
        · replace h := ift hc h
          refine lv_iconst (v := 0) C.1 C.2.1 dX13_reads_92 (by decide) ?_
          obtain ⟨rfl, rfl⟩ := prI h
          exact x_zret C w hr hk (by decide) dX13_reads_93
        · replace h := iff0 hc h
          refine lv_iconst (v := 1) C.1 C.2.1 dX13_reads_88 (by decide) ?_
          refine lv_goto (tgt := 93) C.1 C.2.1 dX13_reads_89 (by decide) ?_
          obtain ⟨rfl, rfl⟩ := prI h
          exact x_zret C w hr hk (by decide) dX13_reads_93
  · replace h := ift hc h
    refine lv_iload_n C.1 C.2.1 dX13_reads_45 rfl (lv_at hl 2 rfl) ?_
    refine lv_if_lt (tgt := 64) C.1 C.2.1 dX13_reads_46 (by decide) (fun hc => ?_) (fun hc => ?_)
    · replace h := ift hc h
      refine lv_iconst (v := 0) C.1 C.2.1 dX13_reads_64 (by decide) ?_
      obtain ⟨rfl, rfl⟩ := prI h
      exact x_zret C w hr hk (by decide) dX13_reads_65
    · replace h := iff0 hc h
      refine lv_aload_n C.1 C.2.1 dX13_reads_49 rfl (lv_at hl 3 rfl) ?_
      refine lv_iload_n C.1 C.2.1 dX13_reads_50 rfl (lv_at hl 4 rfl) ?_
      refine lv_iconst (v := 0) C.1 C.2.1 dX13_reads_51 (by decide) ?_
      refine lv_iload_n C.1 C.2.1 dX13_reads_52 rfl (lv_at hl 2 rfl) ?_
      refine lv_i2l C.1 C.2.1 dX13_reads_53 rfl ?_
      obtain ⟨⟨S_12, v_13⟩, hv_13, h⟩ := bnd h
      refine x_callVi (q := (RX13, TX13, 68)) (As := [.int x1, .int (0 : Int32), .long (v_1.toInt64)]) (rest := []) C w (k_keeps l D T ρ g H.size S hv_13) vM336 ⟨by decide, by decide⟩ obM (by decide) rfl rfl rfl hl.1 (Nat.le_of_ble_eq_true rfl) ⟨Nat.zero_le _, Nat.zero_le _⟩ dX13_reads_54 (fun H locs w => ?_)
      refine lv_if_eq (tgt := 64) C.1 C.2.1 dX13_reads_57 (by decide) (fun hc => ?_) (fun hc => ?_)
      · replace h := ift hc h
        refine lv_iconst (v := 0) C.1 C.2.1 dX13_reads_64 (by decide) ?_
        obtain ⟨rfl, rfl⟩ := prI h
        exact x_zret C w hr hk (by decide) dX13_reads_65
      · replace h := iff0 hc h
        refine lv_iconst (v := 1) C.1 C.2.1 dX13_reads_60 (by decide) ?_
        refine lv_goto (tgt := 65) C.1 C.2.1 dX13_reads_61 (by decide) ?_
        obtain ⟨rfl, rfl⟩ := prI h
        exact x_zret C w hr hk (by decide) dX13_reads_65
end S_reads
set_option maxRecDepth 100000 in
theorem k_reads (l : Launch) (D : va_G) (T : Cy) (ρ : Nat → Nat) (g sz : Nat) (S : St) {x1 : Int32} {x2 : Int32} {S' : St} {r : Int32} (h : m_reads g S x1 x2 = some (S', r)) : Mi l Ym D T ρ yX13_reads cX13_reads 6 (some .boolean) 3 74 S S' r [.ref (ρ 0), .int x1, .int x2] sz :=
  x_in (by decide) (Nat.le_of_ble_eq_true rfl) (fun p e s m below meth c ls C hr hk w hl => w_reads_0 C hr hk w hl h)

theorem dX13_readLine_0 : decode cX13_readLine 0 = .ok (.aload_n 0, 1) := by decide +kernel
theorem dX13_readLine_1 : decode cX13_readLine 1 = .ok (.invokevirtual 296, 3) := by decide +kernel
theorem dX13_readLine_4 : decode cX13_readLine 4 = .ok (.ifCond .ne 4, 3) := by decide +kernel
theorem dX13_readLine_7 : decode cX13_readLine 7 = .ok (.return_, 1) := by decide +kernel
theorem dX13_readLine_8 : decode cX13_readLine 8 = .ok (.aload_n 0, 1) := by decide +kernel
theorem dX13_readLine_9 : decode cX13_readLine 9 = .ok (.invokevirtual 300, 3) := by decide +kernel
theorem dX13_readLine_12 : decode cX13_readLine 12 = .ok (.istore_n 1, 1) := by decide +kernel
theorem dX13_readLine_13 : decode cX13_readLine 13 = .ok (.iload_n 1, 1) := by decide +kernel
theorem dX13_readLine_14 : decode cX13_readLine 14 = .ok (.ifCond .lt 14, 3) := by decide +kernel
theorem dX13_readLine_17 : decode cX13_readLine 17 = .ok (.aload_n 0, 1) := by decide +kernel
theorem dX13_readLine_18 : decode cX13_readLine 18 = .ok (.getfield 153, 3) := by decide +kernel
theorem dX13_readLine_21 : decode cX13_readLine 21 = .ok (.iconst 1, 1) := by decide +kernel
theorem dX13_readLine_22 : decode cX13_readLine 22 = .ok (.iaload, 1) := by decide +kernel
theorem dX13_readLine_23 : decode cX13_readLine 23 = .ok (.bipush 60, 2) := by decide +kernel
theorem dX13_readLine_25 : decode cX13_readLine 25 = .ok (.if_icmp .ne 12, 3) := by decide +kernel
theorem dX13_readLine_28 : decode cX13_readLine 28 = .ok (.aload_n 0, 1) := by decide +kernel
theorem dX13_readLine_29 : decode cX13_readLine 29 = .ok (.aload_n 0, 1) := by decide +kernel
theorem dX13_readLine_30 : decode cX13_readLine 30 = .ok (.getfield 262, 3) := by decide +kernel
theorem dX13_readLine_33 : decode cX13_readLine 33 = .ok (.putfield 303, 3) := by decide +kernel
theorem dX13_readLine_36 : decode cX13_readLine 36 = .ok (.return_, 1) := by decide +kernel
theorem dX13_readLine_37 : decode cX13_readLine 37 = .ok (.bipush 60, 2) := by decide +kernel
theorem dX13_readLine_39 : decode cX13_readLine 39 = .ok (.aload_n 0, 1) := by decide +kernel
theorem dX13_readLine_40 : decode cX13_readLine 40 = .ok (.getfield 153, 3) := by decide +kernel
theorem dX13_readLine_43 : decode cX13_readLine 43 = .ok (.iconst 1, 1) := by decide +kernel
theorem dX13_readLine_44 : decode cX13_readLine 44 = .ok (.iaload, 1) := by decide +kernel
theorem dX13_readLine_45 : decode cX13_readLine 45 = .ok (.iadd, 1) := by decide +kernel
theorem dX13_readLine_46 : decode cX13_readLine 46 = .ok (.istore_n 2, 1) := by decide +kernel
theorem dX13_readLine_47 : decode cX13_readLine 47 = .ok (.aload_n 0, 1) := by decide +kernel
theorem dX13_readLine_48 : decode cX13_readLine 48 = .ok (.getfield 138, 3) := by decide +kernel
theorem dX13_readLine_51 : decode cX13_readLine 51 = .ok (.iload_n 2, 1) := by decide +kernel
theorem dX13_readLine_52 : decode cX13_readLine 52 = .ok (.iload_n 1, 1) := by decide +kernel
theorem dX13_readLine_53 : decode cX13_readLine 53 = .ok (.iastore, 1) := by decide +kernel
theorem dX13_readLine_54 : decode cX13_readLine 54 = .ok (.aload_n 0, 1) := by decide +kernel
theorem dX13_readLine_55 : decode cX13_readLine 55 = .ok (.getfield 141, 3) := by decide +kernel
theorem dX13_readLine_58 : decode cX13_readLine 58 = .ok (.iload_n 2, 1) := by decide +kernel
theorem dX13_readLine_59 : decode cX13_readLine 59 = .ok (.iconst 0, 1) := by decide +kernel
theorem dX13_readLine_60 : decode cX13_readLine 60 = .ok (.iastore, 1) := by decide +kernel
theorem dX13_readLine_61 : decode cX13_readLine 61 = .ok (.iconst 0, 1) := by decide +kernel
theorem dX13_readLine_62 : decode cX13_readLine 62 = .ok (.istore_n 3, 1) := by decide +kernel
theorem dX13_readLine_63 : decode cX13_readLine 63 = .ok (.iconst 1, 1) := by decide +kernel
theorem dX13_readLine_64 : decode cX13_readLine 64 = .ok (.istore 4, 2) := by decide +kernel
theorem dX13_readLine_66 : decode cX13_readLine 66 = .ok (.iload 4, 2) := by decide +kernel
theorem dX13_readLine_68 : decode cX13_readLine 68 = .ok (.ifCond .eq 117, 3) := by decide +kernel
theorem dX13_readLine_71 : decode cX13_readLine 71 = .ok (.aload_n 0, 1) := by decide +kernel
theorem dX13_readLine_72 : decode cX13_readLine 72 = .ok (.getfield 303, 3) := by decide +kernel
theorem dX13_readLine_75 : decode cX13_readLine 75 = .ok (.ifCond .ge 110, 3) := by decide +kernel
theorem dX13_readLine_78 : decode cX13_readLine 78 = .ok (.aload_n 0, 1) := by decide +kernel
theorem dX13_readLine_79 : decode cX13_readLine 79 = .ok (.invokevirtual 296, 3) := by decide +kernel
theorem dX13_readLine_82 : decode cX13_readLine 82 = .ok (.istore 5, 2) := by decide +kernel
theorem dX13_readLine_84 : decode cX13_readLine 84 = .ok (.aload_n 0, 1) := by decide +kernel
theorem dX13_readLine_85 : decode cX13_readLine 85 = .ok (.iload_n 1, 1) := by decide +kernel
theorem dX13_readLine_86 : decode cX13_readLine 86 = .ok (.iload_n 3, 1) := by decide +kernel
theorem dX13_readLine_87 : decode cX13_readLine 87 = .ok (.invokevirtual 306, 3) := by decide +kernel
theorem dX13_readLine_90 : decode cX13_readLine 90 = .ok (.istore 6, 2) := by decide +kernel
theorem dX13_readLine_92 : decode cX13_readLine 92 = .ok (.iload_n 3, 1) := by decide +kernel
theorem dX13_readLine_93 : decode cX13_readLine 93 = .ok (.iconst 1, 1) := by decide +kernel
theorem dX13_readLine_94 : decode cX13_readLine 94 = .ok (.if_icmp .le 18, 3) := by decide +kernel
theorem dX13_readLine_97 : decode cX13_readLine 97 = .ok (.iload_n 1, 1) := by decide +kernel
theorem dX13_readLine_98 : decode cX13_readLine 98 = .ok (.iconst 4, 1) := by decide +kernel
theorem dX13_readLine_99 : decode cX13_readLine 99 = .ok (.if_icmp .eq 9, 3) := by decide +kernel
theorem dX13_readLine_102 : decode cX13_readLine 102 = .ok (.iload_n 1, 1) := by decide +kernel
theorem dX13_readLine_103 : decode cX13_readLine 103 = .ok (.bipush 45, 2) := by decide +kernel
theorem dX13_readLine_105 : decode cX13_readLine 105 = .ok (.if_icmp .ne 7, 3) := by decide +kernel
theorem dX13_readLine_108 : decode cX13_readLine 108 = .ok (.iconst 1, 1) := by decide +kernel
theorem dX13_readLine_109 : decode cX13_readLine 109 = .ok (.goto 4, 3) := by decide +kernel
theorem dX13_readLine_112 : decode cX13_readLine 112 = .ok (.iconst 0, 1) := by decide +kernel
theorem dX13_readLine_113 : decode cX13_readLine 113 = .ok (.istore 7, 2) := by decide +kernel
theorem dX13_readLine_115 : decode cX13_readLine 115 = .ok (.iload 5, 2) := by decide +kernel
theorem dX13_readLine_117 : decode cX13_readLine 117 = .ok (.istore 4, 2) := by decide +kernel
theorem dX13_readLine_119 : decode cX13_readLine 119 = .ok (.iload 5, 2) := by decide +kernel
theorem dX13_readLine_121 : decode cX13_readLine 121 = .ok (.ifCond .ne 13, 3) := by decide +kernel
theorem dX13_readLine_124 : decode cX13_readLine 124 = .ok (.iload 6, 2) := by decide +kernel
theorem dX13_readLine_126 : decode cX13_readLine 126 = .ok (.ifCond .le 8, 3) := by decide +kernel
theorem dX13_readLine_129 : decode cX13_readLine 129 = .ok (.iload 7, 2) := by decide +kernel
theorem dX13_readLine_131 : decode cX13_readLine 131 = .ok (.ifCond .eq 35, 3) := by decide +kernel
theorem dX13_readLine_134 : decode cX13_readLine 134 = .ok (.iload 5, 2) := by decide +kernel
theorem dX13_readLine_136 : decode cX13_readLine 136 = .ok (.ifCond .eq 38, 3) := by decide +kernel
theorem dX13_readLine_139 : decode cX13_readLine 139 = .ok (.iload 6, 2) := by decide +kernel
theorem dX13_readLine_141 : decode cX13_readLine 141 = .ok (.ifCond .eq 25, 3) := by decide +kernel
theorem dX13_readLine_144 : decode cX13_readLine 144 = .ok (.aload_n 0, 1) := by decide +kernel
theorem dX13_readLine_145 : decode cX13_readLine 145 = .ok (.getfield 269, 3) := by decide +kernel
theorem dX13_readLine_148 : decode cX13_readLine 148 = .ok (.ifCond .eq 18, 3) := by decide +kernel
theorem dX13_readLine_151 : decode cX13_readLine 151 = .ok (.aload_n 0, 1) := by decide +kernel
theorem dX13_readLine_152 : decode cX13_readLine 152 = .ok (.iload_n 2, 1) := by decide +kernel
theorem dX13_readLine_153 : decode cX13_readLine 153 = .ok (.bipush 10, 2) := by decide +kernel
theorem dX13_readLine_155 : decode cX13_readLine 155 = .ok (.imul, 1) := by decide +kernel
theorem dX13_readLine_156 : decode cX13_readLine 156 = .ok (.iload_n 3, 1) := by decide +kernel
theorem dX13_readLine_157 : decode cX13_readLine 157 = .ok (.iadd, 1) := by decide +kernel
theorem dX13_readLine_158 : decode cX13_readLine 158 = .ok (.iload 6, 2) := by decide +kernel
theorem dX13_readLine_160 : decode cX13_readLine 160 = .ok (.invokevirtual 310, 3) := by decide +kernel
theorem dX13_readLine_163 : decode cX13_readLine 163 = .ok (.ifCond .ne 11, 3) := by decide +kernel
theorem dX13_readLine_166 : decode cX13_readLine 166 = .ok (.aload_n 0, 1) := by decide +kernel
theorem dX13_readLine_167 : decode cX13_readLine 167 = .ok (.aload_n 0, 1) := by decide +kernel
theorem dX13_readLine_168 : decode cX13_readLine 168 = .ok (.getfield 262, 3) := by decide +kernel
theorem dX13_readLine_171 : decode cX13_readLine 171 = .ok (.putfield 303, 3) := by decide +kernel
theorem dX13_readLine_174 : decode cX13_readLine 174 = .ok (.iload 5, 2) := by decide +kernel
theorem dX13_readLine_176 : decode cX13_readLine 176 = .ok (.ifCond .eq 6, 3) := by decide +kernel
theorem dX13_readLine_179 : decode cX13_readLine 179 = .ok (.iinc 3 1, 3) := by decide +kernel
theorem dX13_readLine_182 : decode cX13_readLine 182 = .ok (.goto (-116), 3) := by decide +kernel
theorem dX13_readLine_185 : decode cX13_readLine 185 = .ok (.aload_n 0, 1) := by decide +kernel
theorem dX13_readLine_186 : decode cX13_readLine 186 = .ok (.getfield 141, 3) := by decide +kernel
theorem dX13_readLine_189 : decode cX13_readLine 189 = .ok (.iload_n 2, 1) := by decide +kernel
theorem dX13_readLine_190 : decode cX13_readLine 190 = .ok (.iload_n 3, 1) := by decide +kernel
theorem dX13_readLine_191 : decode cX13_readLine 191 = .ok (.iastore, 1) := by decide +kernel
theorem dX13_readLine_192 : decode cX13_readLine 192 = .ok (.aload_n 0, 1) := by decide +kernel
theorem dX13_readLine_193 : decode cX13_readLine 193 = .ok (.getfield 153, 3) := by decide +kernel
theorem dX13_readLine_196 : decode cX13_readLine 196 = .ok (.iconst 1, 1) := by decide +kernel
theorem dX13_readLine_197 : decode cX13_readLine 197 = .ok (.dup2, 1) := by decide +kernel
theorem dX13_readLine_198 : decode cX13_readLine 198 = .ok (.iaload, 1) := by decide +kernel
theorem dX13_readLine_199 : decode cX13_readLine 199 = .ok (.iconst 1, 1) := by decide +kernel
theorem dX13_readLine_200 : decode cX13_readLine 200 = .ok (.iadd, 1) := by decide +kernel
theorem dX13_readLine_201 : decode cX13_readLine 201 = .ok (.iastore, 1) := by decide +kernel
theorem dX13_readLine_202 : decode cX13_readLine 202 = .ok (.return_, 1) := by decide +kernel
def m_readLine_185 (g : Nat) (S : St) (x2 : Int32) (x3 : Int32) : Option St :=
(tI S 7 x2 x3).bind fun S_10 =>
(aI S_10 11 (1 : Int32)).bind fun v_11 =>
(tI S_10 11 (1 : Int32) (v_11 + (1 : Int32))).bind fun S_12 =>
some S_12
def m_readLine_174 (g : Nat) (k66 : St → Int32 → Int32 → Int32 → Int32 → Option St) (S : St) (x1 : Int32) (x2 : Int32) (x3 : Int32) (x4 : Int32) (x5 : Int32) : Option St :=
if x5 = 0 then (
  k66 S x1 x2 x3 x4
) else (
  lt (x3 + (1 : Int32)) fun x3_13 =>
  k66 S x1 x2 x3_13 x4
)
def m_readLine_166 (g : Nat) (k66 : St → Int32 → Int32 → Int32 → Int32 → Option St) (S : St) (x1 : Int32) (x2 : Int32) (x3 : Int32) (x4 : Int32) (x5 : Int32) : Option St :=
lt (sI S 0 19 (gI S 0 20)) fun S_13 =>
m_readLine_174 g k66 S_13 x1 x2 x3 x4 x5
def m_readLine_134 (g : Nat) (k66 : St → Int32 → Int32 → Int32 → Int32 → Option St) (S : St) (x1 : Int32) (x2 : Int32) (x3 : Int32) (x4 : Int32) (x5 : Int32) (x6 : Int32) : Option St :=
if x5 = 0 then (
  m_readLine_174 g k66 S x1 x2 x3 x4 x5
) else (
  if x6 = 0 then (
    m_readLine_166 g k66 S x1 x2 x3 x4 x5
  ) else (
    if (gI S 0 24) = 0 then (
      m_readLine_166 g k66 S x1 x2 x3 x4 x5
    ) else (
      (m_reads g S ((x2 * (10 : Int32)) + x3) x6).bind fun (S_13, v_14) =>
      if v_14 = 0 then (
        m_readLine_166 g k66 S_13 x1 x2 x3 x4 x5
      ) else (
        m_readLine_174 g k66 S_13 x1 x2 x3 x4 x5
      )
    )
  )
)
def m_readLine_113 (g : Nat) (k66 : St → Int32 → Int32 → Int32 → Int32 → Option St) (S : St) (x1 : Int32) (x2 : Int32) (x3 : Int32) (x5 : Int32) (x6 : Int32) (y0 : Int32) : Option St :=
if x5 = 0 then (
  if x6 ≤ 0 then (
    m_readLine_134 g k66 S x1 x2 x3 x5 x5 x6
  ) else (
    if y0 = 0 then (
      m_readLine_166 g k66 S x1 x2 x3 x5 x5
    ) else (
      m_readLine_134 g k66 S x1 x2 x3 x5 x5 x6
    )
  )
) else (
  m_readLine_134 g k66 S x1 x2 x3 x5 x5 x6
)
def m_readLine_112 (g : Nat) (k66 : St → Int32 → Int32 → Int32 → Int32 → Option St) (S : St) (x1 : Int32) (x2 : Int32) (x3 : Int32) (x5 : Int32) (x6 : Int32) : Option St :=
m_readLine_113 g k66 S x1 x2 x3 x5 x6 (0 : Int32)
def m_readLine_108 (g : Nat) (k66 : St → Int32 → Int32 → Int32 → Int32 → Option St) (S : St) (x1 : Int32) (x2 : Int32) (x3 : Int32) (x5 : Int32) (x6 : Int32) : Option St :=
m_readLine_113 g k66 S x1 x2 x3 x5 x6 (1 : Int32)
def b_readLine_66 (g : Nat) (k66 : St → Int32 → Int32 → Int32 → Int32 → Option St) (S : St) (x1 : Int32) (x2 : Int32) (x3 : Int32) (x4 : Int32) : Option St :=
if x4 = 0 then (
  m_readLine_185 g S x2 x3
) else (
  if 0 ≤ (gI S 0 19) then (
    m_readLine_185 g S x2 x3
  ) else (
    (m_nextWord g S).bind fun (S_10, v_11) =>
    (m_roleOf g S_10 x1 x3).bind fun v_12 =>
    if x3 ≤ (1 : Int32) then (
      m_readLine_112 g k66 S_10 x1 x2 x3 v_11 v_12
    ) else (
      if x1 = (4 : Int32) then (
        m_readLine_108 g k66 S_10 x1 x2 x3 v_11 v_12
      ) else (
        if x1 = (45 : Int32) then (
          m_readLine_108 g k66 S_10 x1 x2 x3 v_11 v_12
        ) else (
          m_readLine_112 g k66 S_10 x1 x2 x3 v_11 v_12
        )
      )
    )
  )
)
def m_readLine_66 (g : Nat) : Nat → St → Int32 → Int32 → Int32 → Int32 → Option St
  | 0, _, _, _, _, _ => none
  | n + 1, S, x1, x2, x3, x4 => b_readLine_66 g (m_readLine_66 g n) S x1 x2 x3 x4
def m_readLine (g : Nat) (S : St) : Option St :=
(m_nextWord g S).bind fun (S_1, v_2) =>
if v_2 = 0 then (
  some S_1
) else (
  (m_sortOfWord g S_1).bind fun v_3 =>
  if v_3 < 0 then (
    lt (sI S_1 0 19 (gI S_1 0 20)) fun S_4 =>
    some S_4
  ) else (
    (aI S_1 11 (1 : Int32)).bind fun v_5 =>
    if v_5 = (60 : Int32) then (
      lt (sI S_1 0 19 (gI S_1 0 20)) fun S_10 =>
      some S_10
    ) else (
      (aI S_1 11 (1 : Int32)).bind fun v_6 =>
      lt ((60 : Int32) + v_6) fun x2_7 =>
      (tI S_1 6 x2_7 v_3).bind fun S_8 =>
      (tI S_8 7 x2_7 (0 : Int32)).bind fun S_9 =>
      m_readLine_66 g g S_9 v_3 x2_7 (0 : Int32) (1 : Int32)
    )
  )
)
section S_readLine
variable {p : Program} {l : Launch} {e : Env} {s : State} {m : MethodId} {args : Array Value} {below : List Frame} {meth : Method} {c : Code} {H : Heap} {locs : List Loc} {ls : Array Slot} {D : va_G} {T : Cy} {ρ : Nat → Nat} {A : Nat → Prop}
set_option maxRecDepth 100000 in
set_option maxHeartbeats 4000000 in
theorem w_readLine_185  {g : Nat} {S : St} {x2 : Int32} {x3 : Int32} (C : CallFix p m c cX13_readLine 8 s args tb RX13) (hr : meth.sig.returnType = none) (hk : meth.locks = false) {S' : St} (w : Wn Ym D T ρ S A s H locs) (hl : lv_has ls 8 [(0, .ref (ρ 0)), (2, .int x2), (3, .int x3)]) (h : m_readLine_185 g S x2 x3 = some S') : W p l e (rmN 5 109) s m args below meth c H locs 0 0 (MQ below (Qv Ym D T ρ A S') args s 0 0 A) (F0 m 185 ls []) := by
  unfold m_readLine_185 at h
  refine lv_aload_n C.1 C.2.1 dX13_readLine_185 rfl (lv_at hl 0 rfl) ?_
  refine x_getC C w 7 fM141 obM rfl dX13_readLine_186 ?_
  refine lv_iload_n C.1 C.2.1 dX13_readLine_189 rfl (lv_at hl 1 rfl) ?_
  refine lv_iload_n C.1 C.2.1 dX13_readLine_190 rfl (lv_at hl 2 rfl) ?_
  obtain ⟨S_10, hS_10, h⟩ := bnd h
  refine x_iast C w obM7 hS_10 dX13_readLine_191 (fun H locs w => ?_)
  refine lv_aload_n C.1 C.2.1 dX13_readLine_192 rfl (lv_at hl 0 rfl) ?_
  refine x_getC C w 11 fM153 obM rfl dX13_readLine_193 ?_
  refine lv_iconst (v := 1) C.1 C.2.1 dX13_readLine_196 (by decide) ?_
  refine lv_dup2_11 C.1 C.2.1 dX13_readLine_197 rfl rfl ?_
  obtain ⟨v_11, hv_11, h⟩ := bnd h
  refine x_iald C w obM11 hv_11 dX13_readLine_198 ?_
  refine lv_iconst (v := 1) C.1 C.2.1 dX13_readLine_199 (by decide) ?_
  refine lv_iadd C.1 C.2.1 dX13_readLine_200 ?_
  obtain ⟨S_12, hS_12, h⟩ := bnd h
  refine x_iast C w obM11 hS_12 dX13_readLine_201 (fun H locs w => ?_)
  obtain rfl := som h
  exact x_vret C w hr hk dX13_readLine_202
set_option maxRecDepth 100000 in
set_option maxHeartbeats 4000000 in
theorem w_readLine_174  {g : Nat} {S : St} {x1 : Int32} {x2 : Int32} {x3 : Int32} {x4 : Int32} {x5 : Int32} (C : CallFix p m c cX13_readLine 8 s args tb RX13) (hr : meth.sig.returnType = none) (hk : meth.locks = false) {S' : St} {k66 : St → Int32 → Int32 → Int32 → Int32 → Option St} (kk66 : ∀ (S : St) (x1 : Int32) (x2 : Int32) (x3 : Int32) (x4 : Int32) (H : Heap) (locs : List Loc) (ls : Array Slot), Wn Ym D T ρ S A s H locs → lv_has ls 8 [(0, .ref (ρ 0)), (1, .int x1), (2, .int x2), (3, .int x3), (4, .int x4)] → k66 S x1 x2 x3 x4 = some S' → W p l e (rmN 5 109) s m args below meth c H locs 0 0 (MQ below (Qv Ym D T ρ A S') args s 0 0 A) (F0 m 66 ls [])) (w : Wn Ym D T ρ S A s H locs) (hl : lv_has ls 8 [(0, .ref (ρ 0)), (1, .int x1), (2, .int x2), (3, .int x3), (4, .int x4), (5, .int x5)]) (h : m_readLine_174 g k66 S x1 x2 x3 x4 x5 = some S') : W p l e (rmN 5 109) s m args below meth c H locs 0 0 (MQ below (Qv Ym D T ρ A S') args s 0 0 A) (F0 m 174 ls []) := by
  unfold m_readLine_174 at h
  refine lv_iload C.1 C.2.1 dX13_readLine_174 (lv_at hl 5 rfl) ?_
  refine lv_if_eq (tgt := 182) C.1 C.2.1 dX13_readLine_176 (by decide) (fun hc => ?_) (fun hc => ?_)
  · replace h := ift hc h
    refine lv_goto (tgt := 66) C.1 C.2.1 dX13_readLine_182 (by decide) ?_
    exact kk66 _ _ _ _ _ _ _ _ w (lv_sub hl [0, 1, 2, 3, 4] rfl) h
  · replace h := iff0 hc h
    obtain ⟨x3_13, ex3_13, h⟩ := lt_e h
    refine lv_iinc (v := x3_13) (lv' := [(3, .int x3_13), (0, .ref (ρ 0)), (1, .int x1), (2, .int x2), (4, .int x4), (5, .int x5)]) C.1 C.2.1 dX13_readLine_179 hl (k := 3) rfl (by rw [ex3_13]; rfl) (by decide) rfl (fun ls hl => ?_)
    refine lv_goto (tgt := 66) C.1 C.2.1 dX13_readLine_182 (by decide) ?_
    exact kk66 _ _ _ _ _ _ _ _ w (lv_sub hl [1, 2, 3, 0, 4] rfl) h
set_option maxRecDepth 100000 in
set_option maxHeartbeats 4000000 in
theorem w_readLine_166  {g : Nat} {S : St} {x1 : Int32} {x2 : Int32} {x3 : Int32} {x4 : Int32} {x5 : Int32} (C : CallFix p m c cX13_readLine 8 s args tb RX13) (hr : meth.sig.returnType = none) (hk : meth.locks = false) {S' : St} {k66 : St → Int32 → Int32 → Int32 → Int32 → Option St} (kk66 : ∀ (S : St) (x1 : Int32) (x2 : Int32) (x3 : Int32) (x4 : Int32) (H : Heap) (locs : List Loc) (ls : Array Slot), Wn Ym D T ρ S A s H locs → lv_has ls 8 [(0, .ref (ρ 0)), (1, .int x1), (2, .int x2), (3, .int x3), (4, .int x4)] → k66 S x1 x2 x3 x4 = some S' → W p l e (rmN 5 109) s m args below meth c H locs 0 0 (MQ below (Qv Ym D T ρ A S') args s 0 0 A) (F0 m 66 ls [])) (w : Wn Ym D T ρ S A s H locs) (hl : lv_has ls 8 [(0, .ref (ρ 0)), (1, .int x1), (2, .int x2), (3, .int x3), (4, .int x4), (5, .int x5)]) (h : m_readLine_166 g k66 S x1 x2 x3 x4 x5 = some S') : W p l e (rmN 5 109) s m args below meth c H locs 0 0 (MQ below (Qv Ym D T ρ A S') args s 0 0 A) (F0 m 166 ls []) := by
  unfold m_readLine_166 at h
  refine lv_aload_n C.1 C.2.1 dX13_readLine_166 rfl (lv_at hl 0 rfl) ?_
  refine lv_aload_n C.1 C.2.1 dX13_readLine_167 rfl (lv_at hl 0 rfl) ?_
  refine x_getI C w fM262 obM dX13_readLine_168 ?_
  obtain ⟨S_13, eS_13, h⟩ := lt_e h
  refine y_putI C w eS_13 fM303 pM19 obM dX13_readLine_171 (fun H locs w => ?_)
  exact w_readLine_174 C hr hk kk66 w (lv_sub hl [0, 1, 2, 3, 4, 5] rfl) h
set_option maxRecDepth 100000 in
set_option maxHeartbeats 4000000 in
theorem w_readLine_134  {g : Nat} {S : St} {x1 : Int32} {x2 : Int32} {x3 : Int32} {x4 : Int32} {x5 : Int32} {x6 : Int32} (C : CallFix p m c cX13_readLine 8 s args tb RX13) (hr : meth.sig.returnType = none) (hk : meth.locks = false) {S' : St} {k66 : St → Int32 → Int32 → Int32 → Int32 → Option St} (kk66 : ∀ (S : St) (x1 : Int32) (x2 : Int32) (x3 : Int32) (x4 : Int32) (H : Heap) (locs : List Loc) (ls : Array Slot), Wn Ym D T ρ S A s H locs → lv_has ls 8 [(0, .ref (ρ 0)), (1, .int x1), (2, .int x2), (3, .int x3), (4, .int x4)] → k66 S x1 x2 x3 x4 = some S' → W p l e (rmN 5 109) s m args below meth c H locs 0 0 (MQ below (Qv Ym D T ρ A S') args s 0 0 A) (F0 m 66 ls [])) (w : Wn Ym D T ρ S A s H locs) (hl : lv_has ls 8 [(0, .ref (ρ 0)), (1, .int x1), (2, .int x2), (3, .int x3), (4, .int x4), (5, .int x5), (6, .int x6)]) (h : m_readLine_134 g k66 S x1 x2 x3 x4 x5 x6 = some S') : W p l e (rmN 5 109) s m args below meth c H locs 0 0 (MQ below (Qv Ym D T ρ A S') args s 0 0 A) (F0 m 134 ls []) := by
  unfold m_readLine_134 at h
  refine lv_iload C.1 C.2.1 dX13_readLine_134 (lv_at hl 5 rfl) ?_
  refine lv_if_eq (tgt := 174) C.1 C.2.1 dX13_readLine_136 (by decide) (fun hc => ?_) (fun hc => ?_)
  · replace h := ift hc h
    exact w_readLine_174 C hr hk kk66 w (lv_sub hl [0, 1, 2, 3, 4, 5] rfl) h
  · replace h := iff0 hc h
    refine lv_iload C.1 C.2.1 dX13_readLine_139 (lv_at hl 6 rfl) ?_
    refine lv_if_eq (tgt := 166) C.1 C.2.1 dX13_readLine_141 (by decide) (fun hc => ?_) (fun hc => ?_)
    · replace h := ift hc h
      exact w_readLine_166 C hr hk kk66 w (lv_sub hl [0, 1, 2, 3, 4, 5] rfl) h
    · replace h := iff0 hc h
      refine lv_aload_n C.1 C.2.1 dX13_readLine_144 rfl (lv_at hl 0 rfl) ?_
      refine x_getI C w fM269 obM dX13_readLine_145 ?_
      refine lv_if_eq (tgt := 166) C.1 C.2.1 dX13_readLine_148 (by decide) (fun hc => ?_) (fun hc => ?_)
      · replace h := ift hc h
        exact w_readLine_166 C hr hk kk66 w (lv_sub hl [0, 1, 2, 3, 4, 5] rfl) h
      · replace h := iff0 hc h
        refine lv_aload_n C.1 C.2.1 dX13_readLine_151 rfl (lv_at hl 0 rfl) ?_
        refine lv_iload_n C.1 C.2.1 dX13_readLine_152 rfl (lv_at hl 2 rfl) ?_
        refine lv_bipush (v := 10) C.1 C.2.1 dX13_readLine_153 (by decide) ?_
        refine lv_imul C.1 C.2.1 dX13_readLine_155 ?_
        refine lv_iload_n C.1 C.2.1 dX13_readLine_156 rfl (lv_at hl 3 rfl) ?_
        refine lv_iadd C.1 C.2.1 dX13_readLine_157 ?_
        refine lv_iload C.1 C.2.1 dX13_readLine_158 (lv_at hl 6 rfl) ?_
        obtain ⟨⟨S_13, v_14⟩, hv_14, h⟩ := bnd h
        refine x_callVi (q := (RX13, TX13, 68)) (As := [.int ((x2 * (10 : Int32)) + x3), .int x6]) (rest := []) C w (k_reads l D T ρ g H.size S hv_14) vM310 ⟨by decide, by decide⟩ obM (by decide) rfl rfl rfl hl.1 (Nat.le_of_ble_eq_true rfl) ⟨Nat.zero_le _, Nat.zero_le _⟩ dX13_readLine_160 (fun H locs w => ?_)
        refine lv_if_ne (tgt := 174) C.1 C.2.1 dX13_readLine_163 (by decide) (fun hc => ?_) (fun hc => ?_)
        · replace h := iff0 hc h
          exact w_readLine_174 C hr hk kk66 w (lv_sub hl [0, 1, 2, 3, 4, 5] rfl) h
        · replace h := ift hc h
          exact w_readLine_166 C hr hk kk66 w (lv_sub hl [0, 1, 2, 3, 4, 5] rfl) h
set_option maxRecDepth 100000 in
set_option maxHeartbeats 4000000 in
theorem w_readLine_113  {g : Nat} {S : St} {x1 : Int32} {x2 : Int32} {x3 : Int32} {x5 : Int32} {x6 : Int32} {y0 : Int32} (C : CallFix p m c cX13_readLine 8 s args tb RX13) (hr : meth.sig.returnType = none) (hk : meth.locks = false) {S' : St} {k66 : St → Int32 → Int32 → Int32 → Int32 → Option St} (kk66 : ∀ (S : St) (x1 : Int32) (x2 : Int32) (x3 : Int32) (x4 : Int32) (H : Heap) (locs : List Loc) (ls : Array Slot), Wn Ym D T ρ S A s H locs → lv_has ls 8 [(0, .ref (ρ 0)), (1, .int x1), (2, .int x2), (3, .int x3), (4, .int x4)] → k66 S x1 x2 x3 x4 = some S' → W p l e (rmN 5 109) s m args below meth c H locs 0 0 (MQ below (Qv Ym D T ρ A S') args s 0 0 A) (F0 m 66 ls [])) (w : Wn Ym D T ρ S A s H locs) (hl : lv_has ls 8 [(0, .ref (ρ 0)), (1, .int x1), (2, .int x2), (3, .int x3), (5, .int x5), (6, .int x6)]) (h : m_readLine_113 g k66 S x1 x2 x3 x5 x6 y0 = some S') : W p l e (rmN 5 109) s m args below meth c H locs 0 0 (MQ below (Qv Ym D T ρ A S') args s 0 0 A) (F0 m 113 ls [.int y0]) := by
  unfold m_readLine_113 at h
  refine lv_istore (lv' := [(7, .int y0), (0, .ref (ρ 0)), (1, .int x1), (2, .int x2), (3, .int x3), (5, .int x5), (6, .int x6)]) C.1 C.2.1 dX13_readLine_113 hl (by decide) rfl (fun ls hl => ?_)
  refine lv_iload C.1 C.2.1 dX13_readLine_115 (lv_at hl 5 rfl) ?_
  refine lv_istore (lv' := [(4, .int x5), (7, .int y0), (0, .ref (ρ 0)), (1, .int x1), (2, .int x2), (3, .int x3), (5, .int x5), (6, .int x6)]) C.1 C.2.1 dX13_readLine_117 hl (by decide) rfl (fun ls hl => ?_)
  refine lv_iload C.1 C.2.1 dX13_readLine_119 (lv_at hl 6 rfl) ?_
  refine lv_if_ne (tgt := 134) C.1 C.2.1 dX13_readLine_121 (by decide) (fun hc => ?_) (fun hc => ?_)
  · replace h := iff0 hc h
    exact w_readLine_134 C hr hk kk66 w (lv_sub hl [2, 3, 4, 5, 0, 6, 7] rfl) h
  · replace h := ift hc h
    refine lv_iload C.1 C.2.1 dX13_readLine_124 (lv_at hl 7 rfl) ?_
    refine lv_if_le (tgt := 134) C.1 C.2.1 dX13_readLine_126 (by decide) (fun hc => ?_) (fun hc => ?_)
    · replace h := ift hc h
      exact w_readLine_134 C hr hk kk66 w (lv_sub hl [2, 3, 4, 5, 0, 6, 7] rfl) h
    · replace h := iff0 hc h
      refine lv_iload C.1 C.2.1 dX13_readLine_129 (lv_at hl 1 rfl) ?_
      refine lv_if_eq (tgt := 166) C.1 C.2.1 dX13_readLine_131 (by decide) (fun hc => ?_) (fun hc => ?_)
      · replace h := ift hc h
        exact w_readLine_166 C hr hk kk66 w (lv_sub hl [2, 3, 4, 5, 0, 6] rfl) h
      · replace h := iff0 hc h
        exact w_readLine_134 C hr hk kk66 w (lv_sub hl [2, 3, 4, 5, 0, 6, 7] rfl) h
set_option maxRecDepth 100000 in
set_option maxHeartbeats 4000000 in
theorem w_readLine_112  {g : Nat} {S : St} {x1 : Int32} {x2 : Int32} {x3 : Int32} {x5 : Int32} {x6 : Int32} (C : CallFix p m c cX13_readLine 8 s args tb RX13) (hr : meth.sig.returnType = none) (hk : meth.locks = false) {S' : St} {k66 : St → Int32 → Int32 → Int32 → Int32 → Option St} (kk66 : ∀ (S : St) (x1 : Int32) (x2 : Int32) (x3 : Int32) (x4 : Int32) (H : Heap) (locs : List Loc) (ls : Array Slot), Wn Ym D T ρ S A s H locs → lv_has ls 8 [(0, .ref (ρ 0)), (1, .int x1), (2, .int x2), (3, .int x3), (4, .int x4)] → k66 S x1 x2 x3 x4 = some S' → W p l e (rmN 5 109) s m args below meth c H locs 0 0 (MQ below (Qv Ym D T ρ A S') args s 0 0 A) (F0 m 66 ls [])) (w : Wn Ym D T ρ S A s H locs) (hl : lv_has ls 8 [(0, .ref (ρ 0)), (1, .int x1), (2, .int x2), (3, .int x3), (5, .int x5), (6, .int x6)]) (h : m_readLine_112 g k66 S x1 x2 x3 x5 x6 = some S') : W p l e (rmN 5 109) s m args below meth c H locs 0 0 (MQ below (Qv Ym D T ρ A S') args s 0 0 A) (F0 m 112 ls []) := by
  unfold m_readLine_112 at h
  refine lv_iconst (v := 0) C.1 C.2.1 dX13_readLine_112 (by decide) ?_
  exact w_readLine_113 C hr hk kk66 w (lv_sub hl [0, 1, 2, 3, 4, 5] rfl) h
set_option maxRecDepth 100000 in
set_option maxHeartbeats 4000000 in
theorem w_readLine_108  {g : Nat} {S : St} {x1 : Int32} {x2 : Int32} {x3 : Int32} {x5 : Int32} {x6 : Int32} (C : CallFix p m c cX13_readLine 8 s args tb RX13) (hr : meth.sig.returnType = none) (hk : meth.locks = false) {S' : St} {k66 : St → Int32 → Int32 → Int32 → Int32 → Option St} (kk66 : ∀ (S : St) (x1 : Int32) (x2 : Int32) (x3 : Int32) (x4 : Int32) (H : Heap) (locs : List Loc) (ls : Array Slot), Wn Ym D T ρ S A s H locs → lv_has ls 8 [(0, .ref (ρ 0)), (1, .int x1), (2, .int x2), (3, .int x3), (4, .int x4)] → k66 S x1 x2 x3 x4 = some S' → W p l e (rmN 5 109) s m args below meth c H locs 0 0 (MQ below (Qv Ym D T ρ A S') args s 0 0 A) (F0 m 66 ls [])) (w : Wn Ym D T ρ S A s H locs) (hl : lv_has ls 8 [(0, .ref (ρ 0)), (1, .int x1), (2, .int x2), (3, .int x3), (5, .int x5), (6, .int x6)]) (h : m_readLine_108 g k66 S x1 x2 x3 x5 x6 = some S') : W p l e (rmN 5 109) s m args below meth c H locs 0 0 (MQ below (Qv Ym D T ρ A S') args s 0 0 A) (F0 m 108 ls []) := by
  unfold m_readLine_108 at h
  refine lv_iconst (v := 1) C.1 C.2.1 dX13_readLine_108 (by decide) ?_
  refine lv_goto (tgt := 113) C.1 C.2.1 dX13_readLine_109 (by decide) ?_
  exact w_readLine_113 C hr hk kk66 w (lv_sub hl [0, 1, 2, 3, 4, 5] rfl) h
set_option maxRecDepth 100000 in
set_option maxHeartbeats 4000000 in
theorem wb_readLine_66  {g : Nat} {S : St} {x1 : Int32} {x2 : Int32} {x3 : Int32} {x4 : Int32} (C : CallFix p m c cX13_readLine 8 s args tb RX13) (hr : meth.sig.returnType = none) (hk : meth.locks = false) {S' : St} {k66 : St → Int32 → Int32 → Int32 → Int32 → Option St} (kk66 : ∀ (S : St) (x1 : Int32) (x2 : Int32) (x3 : Int32) (x4 : Int32) (H : Heap) (locs : List Loc) (ls : Array Slot), Wn Ym D T ρ S A s H locs → lv_has ls 8 [(0, .ref (ρ 0)), (1, .int x1), (2, .int x2), (3, .int x3), (4, .int x4)] → k66 S x1 x2 x3 x4 = some S' → W p l e (rmN 5 109) s m args below meth c H locs 0 0 (MQ below (Qv Ym D T ρ A S') args s 0 0 A) (F0 m 66 ls [])) (w : Wn Ym D T ρ S A s H locs) (hl : lv_has ls 8 [(0, .ref (ρ 0)), (1, .int x1), (2, .int x2), (3, .int x3), (4, .int x4)]) (h : b_readLine_66 g k66 S x1 x2 x3 x4 = some S') : W p l e (rmN 5 109) s m args below meth c H locs 0 0 (MQ below (Qv Ym D T ρ A S') args s 0 0 A) (F0 m 66 ls []) := by
  unfold b_readLine_66 at h
  refine lv_iload C.1 C.2.1 dX13_readLine_66 (lv_at hl 4 rfl) ?_
  refine lv_if_eq (tgt := 185) C.1 C.2.1 dX13_readLine_68 (by decide) (fun hc => ?_) (fun hc => ?_)
  · replace h := ift hc h
    exact w_readLine_185 C hr hk w (lv_sub hl [0, 2, 3] rfl) h
  · replace h := iff0 hc h
    refine lv_aload_n C.1 C.2.1 dX13_readLine_71 rfl (lv_at hl 0 rfl) ?_
    refine x_getI C w fM303 obM dX13_readLine_72 ?_
    refine lv_if_ge (tgt := 185) C.1 C.2.1 dX13_readLine_75 (by decide) (fun hc => ?_) (fun hc => ?_)
    · replace h := ift hc h
      exact w_readLine_185 C hr hk w (lv_sub hl [0, 2, 3] rfl) h
    · replace h := iff0 hc h
      refine lv_aload_n C.1 C.2.1 dX13_readLine_78 rfl (lv_at hl 0 rfl) ?_
      obtain ⟨⟨S_10, v_11⟩, hv_11, h⟩ := bnd h
      refine x_callVi (q := (RX13, TX13, 68)) (As := []) (rest := []) C w (k_nextWord l D T ρ g H.size S hv_11) vM296 ⟨by decide, by decide⟩ obM (by decide) rfl rfl rfl hl.1 (Nat.le_of_ble_eq_true rfl) ⟨Nat.zero_le _, Nat.zero_le _⟩ dX13_readLine_79 (fun H locs w => ?_)
      refine lv_istore (lv' := [(5, .int v_11), (0, .ref (ρ 0)), (1, .int x1), (2, .int x2), (3, .int x3), (4, .int x4)]) C.1 C.2.1 dX13_readLine_82 hl (by decide) rfl (fun ls hl => ?_)
      refine lv_aload_n C.1 C.2.1 dX13_readLine_84 rfl (lv_at hl 1 rfl) ?_
      refine lv_iload_n C.1 C.2.1 dX13_readLine_85 rfl (lv_at hl 2 rfl) ?_
      refine lv_iload_n C.1 C.2.1 dX13_readLine_86 rfl (lv_at hl 4 rfl) ?_
      obtain ⟨v_12, hv_12, h⟩ := bnd h
      refine x_callVi (q := (RX13, TX13, 68)) (As := [.int x1, .int x3]) (rest := []) C w (k_roleOf l D T ρ g H.size S_10 hv_12) vM306 ⟨by decide, by decide⟩ obM (by decide) rfl rfl rfl hl.1 (Nat.le_of_ble_eq_true rfl) ⟨Nat.zero_le _, Nat.zero_le _⟩ dX13_readLine_87 (fun H locs w => ?_)
      refine lv_istore (lv' := [(6, .int v_12), (5, .int v_11), (0, .ref (ρ 0)), (1, .int x1), (2, .int x2), (3, .int x3), (4, .int x4)]) C.1 C.2.1 dX13_readLine_90 hl (by decide) rfl (fun ls hl => ?_)
      refine lv_iload_n C.1 C.2.1 dX13_readLine_92 rfl (lv_at hl 5 rfl) ?_
      refine lv_iconst (v := 1) C.1 C.2.1 dX13_readLine_93 (by decide) ?_
      refine lv_icmp_le (tgt := 112) C.1 C.2.1 dX13_readLine_94 (by decide) (fun hc => ?_) (fun hc => ?_)
      · replace h := ift hc h
        exact w_readLine_112 C hr hk kk66 w (lv_sub hl [2, 3, 4, 5, 1, 0] rfl) h
      · replace h := iff0 hc h
        refine lv_iload_n C.1 C.2.1 dX13_readLine_97 rfl (lv_at hl 3 rfl) ?_
        refine lv_iconst (v := 4) C.1 C.2.1 dX13_readLine_98 (by decide) ?_
        refine lv_icmp_eq (tgt := 108) C.1 C.2.1 dX13_readLine_99 (by decide) (fun hc => ?_) (fun hc => ?_)
        · replace h := ift hc h
          exact w_readLine_108 C hr hk kk66 w (lv_sub hl [2, 3, 4, 5, 1, 0] rfl) h
        · replace h := iff0 hc h
          refine lv_iload_n C.1 C.2.1 dX13_readLine_102 rfl (lv_at hl 3 rfl) ?_
          refine lv_bipush (v := 45) C.1 C.2.1 dX13_readLine_103 (by decide) ?_
          refine lv_icmp_ne (tgt := 112) C.1 C.2.1 dX13_readLine_105 (by decide) (fun hc => ?_) (fun hc => ?_)
          · replace h := iff0 hc h
            exact w_readLine_112 C hr hk kk66 w (lv_sub hl [2, 3, 4, 5, 1, 0] rfl) h
          · replace h := ift hc h
            exact w_readLine_108 C hr hk kk66 w (lv_sub hl [2, 3, 4, 5, 1, 0] rfl) h
theorem w_readLine_66 {g : Nat} (C : CallFix p m c cX13_readLine 8 s args tb RX13) (hr : meth.sig.returnType = none) (hk : meth.locks = false) {S' : St} (n : Nat) : ∀ (S : St) (x1 : Int32) (x2 : Int32) (x3 : Int32) (x4 : Int32) (H : Heap) (locs : List Loc) (ls : Array Slot), Wn Ym D T ρ S A s H locs → lv_has ls 8 [(0, .ref (ρ 0)), (1, .int x1), (2, .int x2), (3, .int x3), (4, .int x4)] → m_readLine_66 g n S x1 x2 x3 x4 = some S' → W p l e (rmN 5 109) s m args below meth c H locs 0 0 (MQ below (Qv Ym D T ρ A S') args s 0 0 A) (F0 m 66 ls []) := by
  induction n with
  | zero => intro S x1 x2 x3 x4 H locs ls w hl h; exact absurd h (fun q => by cases q)
  | succ n ih => intro S x1 x2 x3 x4 H locs ls w hl h; exact wb_readLine_66 C hr hk ih w hl h
set_option maxRecDepth 100000 in
set_option maxHeartbeats 4000000 in
theorem w_readLine_0  {g : Nat} {S : St} (C : CallFix p m c cX13_readLine 8 s args tb RX13) (hr : meth.sig.returnType = none) (hk : meth.locks = false) {S' : St} (w : Wn Ym D T ρ S A s H locs) (hl : lv_has ls 8 [(0, .ref (ρ 0))]) (h : m_readLine g S = some S') : W p l e (rmN 5 109) s m args below meth c H locs 0 0 (MQ below (Qv Ym D T ρ A S') args s 0 0 A) (F0 m 0 ls []) := by
  unfold m_readLine at h
  refine lv_aload_n C.1 C.2.1 dX13_readLine_0 rfl (lv_at hl 0 rfl) ?_
  obtain ⟨⟨S_1, v_2⟩, hv_2, h⟩ := bnd h
  refine x_callVi (q := (RX13, TX13, 68)) (As := []) (rest := []) C w (k_nextWord l D T ρ g H.size S hv_2) vM296 ⟨by decide, by decide⟩ obM (by decide) rfl rfl rfl hl.1 (Nat.le_of_ble_eq_true rfl) ⟨Nat.zero_le _, Nat.zero_le _⟩ dX13_readLine_1 (fun H locs w => ?_)
  refine lv_if_ne (tgt := 8) C.1 C.2.1 dX13_readLine_4 (by decide) (fun hc => ?_) (fun hc => ?_)
  · replace h := iff0 hc h
    refine lv_aload_n C.1 C.2.1 dX13_readLine_8 rfl (lv_at hl 0 rfl) ?_
    obtain ⟨v_3, hv_3, h⟩ := bnd h
    refine x_callVi (q := (RX13, TX13, 68)) (As := []) (rest := []) C w (k_sortOfWord l D T ρ g H.size S_1 hv_3) vM300 ⟨by decide, by decide⟩ obM (by decide) rfl rfl rfl hl.1 (Nat.le_of_ble_eq_true rfl) ⟨Nat.zero_le _, Nat.zero_le _⟩ dX13_readLine_9 (fun H locs w => ?_)
    refine lv_istore_n (lv' := [(1, .int v_3), (0, .ref (ρ 0))]) C.1 C.2.1 dX13_readLine_12 rfl hl (by decide) rfl (fun ls hl => ?_)
    refine lv_iload_n C.1 C.2.1 dX13_readLine_13 rfl (lv_at hl 0 rfl) ?_
    refine lv_if_lt (tgt := 28) C.1 C.2.1 dX13_readLine_14 (by decide) (fun hc => ?_) (fun hc => ?_)
    · replace h := ift hc h
      refine lv_aload_n C.1 C.2.1 dX13_readLine_28 rfl (lv_at hl 1 rfl) ?_
      refine lv_aload_n C.1 C.2.1 dX13_readLine_29 rfl (lv_at hl 1 rfl) ?_
      refine x_getI C w fM262 obM dX13_readLine_30 ?_
      obtain ⟨S_4, eS_4, h⟩ := lt_e h
      refine y_putI C w eS_4 fM303 pM19 obM dX13_readLine_33 (fun H locs w => ?_)
      obtain rfl := som h
      exact x_vret C w hr hk dX13_readLine_36
    · replace h := iff0 hc h
      refine lv_aload_n C.1 C.2.1 dX13_readLine_17 rfl (lv_at hl 1 rfl) ?_
      refine x_getC C w 11 fM153 obM rfl dX13_readLine_18 ?_
      refine lv_iconst (v := 1) C.1 C.2.1 dX13_readLine_21 (by decide) ?_
      obtain ⟨v_5, hv_5, h⟩ := bnd h
      refine x_iald C w obM11 hv_5 dX13_readLine_22 ?_
      refine lv_bipush (v := 60) C.1 C.2.1 dX13_readLine_23 (by decide) ?_
      refine lv_icmp_ne (tgt := 37) C.1 C.2.1 dX13_readLine_25 (by decide) (fun hc => ?_) (fun hc => ?_)
      · replace h := iff0 hc h
        refine lv_bipush (v := 60) C.1 C.2.1 dX13_readLine_37 (by decide) ?_
        refine lv_aload_n C.1 C.2.1 dX13_readLine_39 rfl (lv_at hl 1 rfl) ?_
        refine x_getC C w 11 fM153 obM rfl dX13_readLine_40 ?_
        refine lv_iconst (v := 1) C.1 C.2.1 dX13_readLine_43 (by decide) ?_
        obtain ⟨v_6, hv_6, h⟩ := bnd h
        refine x_iald C w obM11 hv_6 dX13_readLine_44 ?_
        refine lv_iadd C.1 C.2.1 dX13_readLine_45 ?_
        obtain ⟨x2_7, ex2_7, h⟩ := lt_e h
        refine x_nm ex2_7 ?_
        refine lv_istore_n (lv' := [(2, .int x2_7), (1, .int v_3), (0, .ref (ρ 0))]) C.1 C.2.1 dX13_readLine_46 rfl hl (by decide) rfl (fun ls hl => ?_)
        refine lv_aload_n C.1 C.2.1 dX13_readLine_47 rfl (lv_at hl 2 rfl) ?_
        refine x_getC C w 6 fM138 obM rfl dX13_readLine_48 ?_
        refine lv_iload_n C.1 C.2.1 dX13_readLine_51 rfl (lv_at hl 0 rfl) ?_
        refine lv_iload_n C.1 C.2.1 dX13_readLine_52 rfl (lv_at hl 1 rfl) ?_
        obtain ⟨S_8, hS_8, h⟩ := bnd h
        refine x_iast C w obM6 hS_8 dX13_readLine_53 (fun H locs w => ?_)
        refine lv_aload_n C.1 C.2.1 dX13_readLine_54 rfl (lv_at hl 2 rfl) ?_
        refine x_getC C w 7 fM141 obM rfl dX13_readLine_55 ?_
        refine lv_iload_n C.1 C.2.1 dX13_readLine_58 rfl (lv_at hl 0 rfl) ?_
        refine lv_iconst (v := 0) C.1 C.2.1 dX13_readLine_59 (by decide) ?_
        obtain ⟨S_9, hS_9, h⟩ := bnd h
        refine x_iast C w obM7 hS_9 dX13_readLine_60 (fun H locs w => ?_)
        refine lv_iconst (v := 0) C.1 C.2.1 dX13_readLine_61 (by decide) ?_
        refine lv_istore_n (lv' := [(3, .int (0 : Int32)), (2, .int x2_7), (1, .int v_3), (0, .ref (ρ 0))]) C.1 C.2.1 dX13_readLine_62 rfl hl (by decide) rfl (fun ls hl => ?_)
        refine lv_iconst (v := 1) C.1 C.2.1 dX13_readLine_63 (by decide) ?_
        refine lv_istore (lv' := [(4, .int (1 : Int32)), (3, .int (0 : Int32)), (2, .int x2_7), (1, .int v_3), (0, .ref (ρ 0))]) C.1 C.2.1 dX13_readLine_64 hl (by decide) rfl (fun ls hl => ?_)
        exact w_readLine_66 C hr hk g _ _ _ _ _ _ _ _ w (lv_sub hl [4, 3, 2, 1, 0] rfl) h
      · replace h := ift hc h
        refine lv_aload_n C.1 C.2.1 dX13_readLine_28 rfl (lv_at hl 1 rfl) ?_
        refine lv_aload_n C.1 C.2.1 dX13_readLine_29 rfl (lv_at hl 1 rfl) ?_
        refine x_getI C w fM262 obM dX13_readLine_30 ?_
        obtain ⟨S_10, eS_10, h⟩ := lt_e h
        refine y_putI C w eS_10 fM303 pM19 obM dX13_readLine_33 (fun H locs w => ?_)
        obtain rfl := som h
        exact x_vret C w hr hk dX13_readLine_36
  · replace h := ift hc h
    obtain rfl := som h
    exact x_vret C w hr hk dX13_readLine_7
end S_readLine
set_option maxRecDepth 100000 in
theorem k_readLine (l : Launch) (D : va_G) (T : Cy) (ρ : Nat → Nat) (g sz : Nat) (S : St) {S' : St} (h : m_readLine g S = some S') : Mv l Ym D T ρ yX13_readLine cX13_readLine 8 none 5 109 S S' [.ref (ρ 0)] sz :=
  x_in (by decide) (Nat.le_of_ble_eq_true rfl) (fun p e s m below meth c ls C hr hk w hl => w_readLine_0 C hr hk w hl h)

theorem dX13_made_0 : decode cX13_made 0 = .ok (.aload_n 0, 1) := by decide +kernel
theorem dX13_made_1 : decode cX13_made 1 = .ok (.getfield 401, 3) := by decide +kernel
theorem dX13_made_4 : decode cX13_made 4 = .ok (.istore_n 1, 1) := by decide +kernel
theorem dX13_made_5 : decode cX13_made 5 = .ok (.aload_n 0, 1) := by decide +kernel
theorem dX13_made_6 : decode cX13_made 6 = .ok (.dup, 1) := by decide +kernel
theorem dX13_made_7 : decode cX13_made 7 = .ok (.getfield 401, 3) := by decide +kernel
theorem dX13_made_10 : decode cX13_made 10 = .ok (.iconst 1, 1) := by decide +kernel
theorem dX13_made_11 : decode cX13_made 11 = .ok (.iadd, 1) := by decide +kernel
theorem dX13_made_12 : decode cX13_made 12 = .ok (.putfield 401, 3) := by decide +kernel
theorem dX13_made_15 : decode cX13_made 15 = .ok (.aload_n 0, 1) := by decide +kernel
theorem dX13_made_16 : decode cX13_made 16 = .ok (.getfield 190, 3) := by decide +kernel
theorem dX13_made_19 : decode cX13_made 19 = .ok (.iload_n 1, 1) := by decide +kernel
theorem dX13_made_20 : decode cX13_made 20 = .ok (.aload_n 0, 1) := by decide +kernel
theorem dX13_made_21 : decode cX13_made 21 = .ok (.getfield 404, 3) := by decide +kernel
theorem dX13_made_24 : decode cX13_made 24 = .ok (.iastore, 1) := by decide +kernel
theorem dX13_made_25 : decode cX13_made 25 = .ok (.aload_n 0, 1) := by decide +kernel
theorem dX13_made_26 : decode cX13_made 26 = .ok (.getfield 193, 3) := by decide +kernel
theorem dX13_made_29 : decode cX13_made 29 = .ok (.iload_n 1, 1) := by decide +kernel
theorem dX13_made_30 : decode cX13_made 30 = .ok (.aload_n 0, 1) := by decide +kernel
theorem dX13_made_31 : decode cX13_made 31 = .ok (.getfield 395, 3) := by decide +kernel
theorem dX13_made_34 : decode cX13_made 34 = .ok (.iastore, 1) := by decide +kernel
theorem dX13_made_35 : decode cX13_made 35 = .ok (.iconst 0, 1) := by decide +kernel
theorem dX13_made_36 : decode cX13_made 36 = .ok (.istore_n 2, 1) := by decide +kernel
theorem dX13_made_37 : decode cX13_made 37 = .ok (.iload_n 2, 1) := by decide +kernel
theorem dX13_made_38 : decode cX13_made 38 = .ok (.aload_n 0, 1) := by decide +kernel
theorem dX13_made_39 : decode cX13_made 39 = .ok (.getfield 395, 3) := by decide +kernel
theorem dX13_made_42 : decode cX13_made 42 = .ok (.if_icmp .ge 26, 3) := by decide +kernel
theorem dX13_made_45 : decode cX13_made 45 = .ok (.aload_n 0, 1) := by decide +kernel
theorem dX13_made_46 : decode cX13_made 46 = .ok (.getfield 187, 3) := by decide +kernel
theorem dX13_made_49 : decode cX13_made 49 = .ok (.aload_n 0, 1) := by decide +kernel
theorem dX13_made_50 : decode cX13_made 50 = .ok (.getfield 404, 3) := by decide +kernel
theorem dX13_made_53 : decode cX13_made 53 = .ok (.iload_n 2, 1) := by decide +kernel
theorem dX13_made_54 : decode cX13_made 54 = .ok (.iadd, 1) := by decide +kernel
theorem dX13_made_55 : decode cX13_made 55 = .ok (.aload_n 0, 1) := by decide +kernel
theorem dX13_made_56 : decode cX13_made 56 = .ok (.getfield 223, 3) := by decide +kernel
theorem dX13_made_59 : decode cX13_made 59 = .ok (.iload_n 2, 1) := by decide +kernel
theorem dX13_made_60 : decode cX13_made 60 = .ok (.iaload, 1) := by decide +kernel
theorem dX13_made_61 : decode cX13_made 61 = .ok (.iastore, 1) := by decide +kernel
theorem dX13_made_62 : decode cX13_made 62 = .ok (.iinc 2 1, 3) := by decide +kernel
theorem dX13_made_65 : decode cX13_made 65 = .ok (.goto (-28), 3) := by decide +kernel
theorem dX13_made_68 : decode cX13_made 68 = .ok (.aload_n 0, 1) := by decide +kernel
theorem dX13_made_69 : decode cX13_made 69 = .ok (.dup, 1) := by decide +kernel
theorem dX13_made_70 : decode cX13_made 70 = .ok (.getfield 404, 3) := by decide +kernel
theorem dX13_made_73 : decode cX13_made 73 = .ok (.aload_n 0, 1) := by decide +kernel
theorem dX13_made_74 : decode cX13_made 74 = .ok (.getfield 395, 3) := by decide +kernel
theorem dX13_made_77 : decode cX13_made 77 = .ok (.iadd, 1) := by decide +kernel
theorem dX13_made_78 : decode cX13_made 78 = .ok (.putfield 404, 3) := by decide +kernel
theorem dX13_made_81 : decode cX13_made 81 = .ok (.iload_n 1, 1) := by decide +kernel
theorem dX13_made_82 : decode cX13_made 82 = .ok (.ireturn, 1) := by decide +kernel
def b_made_37 (g : Nat) (k37 : St → Int32 → Int32 → Option (St × Int32)) (S : St) (x1 : Int32) (x2 : Int32) : Option (St × Int32) :=
if (gI S 0 57) ≤ x2 then (
  lt (sI S 0 39 ((gI S 0 39) + (gI S 0 57))) fun S_5 =>
  some (S_5, x1)
) else (
  (aI S 34 x2).bind fun v_6 =>
  (tI S 22 ((gI S 0 39) + x2) v_6).bind fun S_7 =>
  lt (x2 + (1 : Int32)) fun x2_8 =>
  k37 S_7 x1 x2_8
)
def m_made_37 (g : Nat) : Nat → St → Int32 → Int32 → Option (St × Int32)
  | 0, _, _, _ => none
  | n + 1, S, x1, x2 => b_made_37 g (m_made_37 g n) S x1 x2
def m_made (g : Nat) (S : St) : Option (St × Int32) :=
lt (gI S 0 38) fun x1_1 =>
lt (sI S 0 38 ((gI S 0 38) + (1 : Int32))) fun S_2 =>
(tI S_2 23 x1_1 (gI S_2 0 39)).bind fun S_3 =>
(tI S_3 24 x1_1 (gI S_3 0 57)).bind fun S_4 =>
m_made_37 g g S_4 x1_1 (0 : Int32)
section S_made
variable {p : Program} {l : Launch} {e : Env} {s : State} {m : MethodId} {args : Array Value} {below : List Frame} {meth : Method} {c : Code} {H : Heap} {locs : List Loc} {ls : Array Slot} {D : va_G} {T : Cy} {ρ : Nat → Nat} {A : Nat → Prop}
set_option maxRecDepth 100000 in
set_option maxHeartbeats 4000000 in
theorem wb_made_37  {g : Nat} {S : St} {x1 : Int32} {x2 : Int32} (C : CallFix p m c cX13_made 3 s args tb RX13) (hr : meth.sig.returnType = (some .int)) (hk : meth.locks = false) {S' : St} {r : Int32} {k37 : St → Int32 → Int32 → Option (St × Int32)} (kk37 : ∀ (S : St) (x1 : Int32) (x2 : Int32) (H : Heap) (locs : List Loc) (ls : Array Slot), Wn Ym D T ρ S A s H locs → lv_has ls 3 [(0, .ref (ρ 0)), (1, .int x1), (2, .int x2)] → k37 S x1 x2 = some (S', r) → W p l e (rmN 0 0) s m args below meth c H locs 0 0 (MQ below (Qi Ym D T ρ A S' r) args s 0 0 A) (F0 m 37 ls [])) (w : Wn Ym D T ρ S A s H locs) (hl : lv_has ls 3 [(0, .ref (ρ 0)), (1, .int x1), (2, .int x2)]) (h : b_made_37 g k37 S x1 x2 = some (S', r)) : W p l e (rmN 0 0) s m args below meth c H locs 0 0 (MQ below (Qi Ym D T ρ A S' r) args s 0 0 A) (F0 m 37 ls []) := by
  unfold b_made_37 at h
  refine lv_iload_n C.1 C.2.1 dX13_made_37 rfl (lv_at hl 2 rfl) ?_
  refine lv_aload_n C.1 C.2.1 dX13_made_38 rfl (lv_at hl 0 rfl) ?_
  refine x_getI C w fM395 obM dX13_made_39 ?_
  refine lv_icmp_ge (tgt := 68) C.1 C.2.1 dX13_made_42 (by decide) (fun hc => ?_) (fun hc => ?_)
  · replace h := ift hc h
    refine lv_aload_n C.1 C.2.1 dX13_made_68 rfl (lv_at hl 0 rfl) ?_
    refine lv_dup C.1 C.2.1 dX13_made_69 rfl ?_
    refine x_getI C w fM404 obM dX13_made_70 ?_
    refine lv_aload_n C.1 C.2.1 dX13_made_73 rfl (lv_at hl 0 rfl) ?_
    refine x_getI C w fM395 obM dX13_made_74 ?_
    refine lv_iadd C.1 C.2.1 dX13_made_77 ?_
    obtain ⟨S_5, eS_5, h⟩ := lt_e h
    refine y_putI C w eS_5 fM404 pM39 obM dX13_made_78 (fun H locs w => ?_)
    refine lv_iload_n C.1 C.2.1 dX13_made_81 rfl (lv_at hl 1 rfl) ?_
    obtain ⟨rfl, rfl⟩ := prI h
    exact x_iret C w hr hk dX13_made_82
  · replace h := iff0 hc h
    refine lv_aload_n C.1 C.2.1 dX13_made_45 rfl (lv_at hl 0 rfl) ?_
    refine x_getC C w 22 fM187 obM rfl dX13_made_46 ?_
    refine lv_aload_n C.1 C.2.1 dX13_made_49 rfl (lv_at hl 0 rfl) ?_
    refine x_getI C w fM404 obM dX13_made_50 ?_
    refine lv_iload_n C.1 C.2.1 dX13_made_53 rfl (lv_at hl 2 rfl) ?_
    refine lv_iadd C.1 C.2.1 dX13_made_54 ?_
    refine lv_aload_n C.1 C.2.1 dX13_made_55 rfl (lv_at hl 0 rfl) ?_
    refine x_getC C w 34 fM223 obM rfl dX13_made_56 ?_
    refine lv_iload_n C.1 C.2.1 dX13_made_59 rfl (lv_at hl 2 rfl) ?_
    obtain ⟨v_6, hv_6, h⟩ := bnd h
    refine x_iald C w obM34 hv_6 dX13_made_60 ?_
    obtain ⟨S_7, hS_7, h⟩ := bnd h
    refine x_iast C w obM22 hS_7 dX13_made_61 (fun H locs w => ?_)
    obtain ⟨x2_8, ex2_8, h⟩ := lt_e h
    refine lv_iinc (v := x2_8) (lv' := [(2, .int x2_8), (0, .ref (ρ 0)), (1, .int x1)]) C.1 C.2.1 dX13_made_62 hl (k := 2) rfl (by rw [ex2_8]; rfl) (by decide) rfl (fun ls hl => ?_)
    refine lv_goto (tgt := 37) C.1 C.2.1 dX13_made_65 (by decide) ?_
    exact kk37 _ _ _ _ _ _ w (lv_sub hl [1, 2, 0] rfl) h
theorem w_made_37 {g : Nat} (C : CallFix p m c cX13_made 3 s args tb RX13) (hr : meth.sig.returnType = (some .int)) (hk : meth.locks = false) {S' : St} {r : Int32} (n : Nat) : ∀ (S : St) (x1 : Int32) (x2 : Int32) (H : Heap) (locs : List Loc) (ls : Array Slot), Wn Ym D T ρ S A s H locs → lv_has ls 3 [(0, .ref (ρ 0)), (1, .int x1), (2, .int x2)] → m_made_37 g n S x1 x2 = some (S', r) → W p l e (rmN 0 0) s m args below meth c H locs 0 0 (MQ below (Qi Ym D T ρ A S' r) args s 0 0 A) (F0 m 37 ls []) := by
  induction n with
  | zero => intro S x1 x2 H locs ls w hl h; exact absurd h (fun q => by cases q)
  | succ n ih => intro S x1 x2 H locs ls w hl h; exact wb_made_37 C hr hk ih w hl h
set_option maxRecDepth 100000 in
set_option maxHeartbeats 4000000 in
theorem w_made_0  {g : Nat} {S : St} (C : CallFix p m c cX13_made 3 s args tb RX13) (hr : meth.sig.returnType = (some .int)) (hk : meth.locks = false) {S' : St} {r : Int32} (w : Wn Ym D T ρ S A s H locs) (hl : lv_has ls 3 [(0, .ref (ρ 0))]) (h : m_made g S = some (S', r)) : W p l e (rmN 0 0) s m args below meth c H locs 0 0 (MQ below (Qi Ym D T ρ A S' r) args s 0 0 A) (F0 m 0 ls []) := by
  unfold m_made at h
  refine lv_aload_n C.1 C.2.1 dX13_made_0 rfl (lv_at hl 0 rfl) ?_
  refine x_getI C w fM401 obM dX13_made_1 ?_
  obtain ⟨x1_1, ex1_1, h⟩ := lt_e h
  refine x_nm ex1_1 ?_
  refine lv_istore_n (lv' := [(1, .int x1_1), (0, .ref (ρ 0))]) C.1 C.2.1 dX13_made_4 rfl hl (by decide) rfl (fun ls hl => ?_)
  refine lv_aload_n C.1 C.2.1 dX13_made_5 rfl (lv_at hl 1 rfl) ?_
  refine lv_dup C.1 C.2.1 dX13_made_6 rfl ?_
  refine x_getI C w fM401 obM dX13_made_7 ?_
  refine lv_iconst (v := 1) C.1 C.2.1 dX13_made_10 (by decide) ?_
  refine lv_iadd C.1 C.2.1 dX13_made_11 ?_
  obtain ⟨S_2, eS_2, h⟩ := lt_e h
  refine y_putI C w eS_2 fM401 pM38 obM dX13_made_12 (fun H locs w => ?_)
  refine lv_aload_n C.1 C.2.1 dX13_made_15 rfl (lv_at hl 1 rfl) ?_
  refine x_getC C w 23 fM190 obM rfl dX13_made_16 ?_
  refine lv_iload_n C.1 C.2.1 dX13_made_19 rfl (lv_at hl 0 rfl) ?_
  refine lv_aload_n C.1 C.2.1 dX13_made_20 rfl (lv_at hl 1 rfl) ?_
  refine x_getI C w fM404 obM dX13_made_21 ?_
  obtain ⟨S_3, hS_3, h⟩ := bnd h
  refine x_iast C w obM23 hS_3 dX13_made_24 (fun H locs w => ?_)
  refine lv_aload_n C.1 C.2.1 dX13_made_25 rfl (lv_at hl 1 rfl) ?_
  refine x_getC C w 24 fM193 obM rfl dX13_made_26 ?_
  refine lv_iload_n C.1 C.2.1 dX13_made_29 rfl (lv_at hl 0 rfl) ?_
  refine lv_aload_n C.1 C.2.1 dX13_made_30 rfl (lv_at hl 1 rfl) ?_
  refine x_getI C w fM395 obM dX13_made_31 ?_
  obtain ⟨S_4, hS_4, h⟩ := bnd h
  refine x_iast C w obM24 hS_4 dX13_made_34 (fun H locs w => ?_)
  refine lv_iconst (v := 0) C.1 C.2.1 dX13_made_35 (by decide) ?_
  refine lv_istore_n (lv' := [(2, .int (0 : Int32)), (1, .int x1_1), (0, .ref (ρ 0))]) C.1 C.2.1 dX13_made_36 rfl hl (by decide) rfl (fun ls hl => ?_)
  exact w_made_37 C hr hk g _ _ _ _ _ _ w (lv_sub hl [2, 1, 0] rfl) h
end S_made
set_option maxRecDepth 100000 in
theorem k_made (l : Launch) (D : va_G) (T : Cy) (ρ : Nat → Nat) (g sz : Nat) (S : St) {S' : St} {r : Int32} (h : m_made g S = some (S', r)) : Mi l Ym D T ρ yX13_made cX13_made 3 (some .int) 0 0 S S' r [.ref (ρ 0)] sz :=
  x_in (by decide) (Nat.le_of_ble_eq_true rfl) (fun p e s m below meth c ls C hr hk w hl => w_made_0 C hr hk w hl h)
