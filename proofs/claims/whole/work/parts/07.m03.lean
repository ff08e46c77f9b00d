theorem dX13_became_0 : decode cX13_became 0 = .ok (.aload_n 0, 1) := by decide +kernel
theorem dX13_became_1 : decode cX13_became 1 = .ok (.getfield 395, 3) := by decide +kernel
theorem dX13_became_4 : decode cX13_became 4 = .ok (.ifCond .ne 7, 3) := by decide +kernel
theorem dX13_became_7 : decode cX13_became 7 = .ok (.iconst 0, 1) := by decide +kernel
theorem dX13_became_8 : decode cX13_became 8 = .ok (.goto 7, 3) := by decide +kernel
theorem dX13_became_11 : decode cX13_became 11 = .ok (.aload_n 0, 1) := by decide +kernel
theorem dX13_became_12 : decode cX13_became 12 = .ok (.invokevirtual 407, 3) := by decide +kernel
theorem dX13_became_15 : decode cX13_became 15 = .ok (.ireturn, 1) := by decide +kernel
def m_became (g : Nat) (S : St) : Option (St × Int32) :=
if (gI S 0 57) = 0 then (
  some (S, (0 : Int32))
) else (
  (m_made g S).bind fun (S_1, v_2) =>
  some (S_1, v_2)
)
section S_became
variable {p : Program} {l : Launch} {e : Env} {s : State} {m : MethodId} {args : Array Value} {below : List Frame} {meth : Method} {c : Code} {H : Heap} {locs : List Loc} {ls : Array Slot} {D : va_G} {T : Cy} {ρ : Nat → Nat} {A : Nat → Prop}
set_option maxRecDepth 100000 in
set_option maxHeartbeats 4000000 in
theorem w_became_0  {g : Nat} {S : St} (C : CallFix p m c cX13_became 1 s args tb RX13) (hr : meth.sig.returnType = (some .int)) (hk : meth.locks = false) {S' : St} {r : Int32} (w : Wn Ym D T ρ S A s H locs) (hl : lv_has ls 1 [(0, .ref (ρ 0))]) (h : m_became g S = some (S', r)) : W p l e (rmN 1 22) s m args below meth c H locs 0 0 (MQ below (Qi Ym D T ρ A S' r) args s 0 0 A) (F0 m 0 ls []) := by
  unfold m_became at h
  refine lv_aload_n C.1 C.2.1 dX13_became_0 rfl (lv_at hl 0 rfl) ?_
  refine x_getI C w fM395 obM dX13_became_1 ?_
  refine lv_if_ne (tgt := 11) C.1 C.2.1 dX13_became_4 (by decide) (fun hc => ?_) (fun hc => ?_)
  · replace h := iff0 hc h
    refine lv_aload_n C.1 C.2.1 dX13_became_11 rfl (lv_at hl 0 rfl) ?_
    obtain ⟨⟨S_1, v_2⟩, hv_2, h⟩ := bnd h
    refine x_callVi (q := (RX13, TX13, 68)) (As := []) (rest := []) C w (k_made l D T ρ g H.size S hv_2) vM407 ⟨by decide, by decide⟩ obM (by decide) rfl rfl rfl hl.1 (Nat.le_of_ble_eq_true rfl) ⟨Nat.zero_le _, Nat.zero_le _⟩ dX13_became_12 (fun H locs w => ?_)
    obtain ⟨rfl, rfl⟩ := prI h
    exact x_iret C w hr hk dX13_became_15
  · replace h := ift hc h
    refine lv_iconst (v := 0) C.1 C.2.1 dX13_became_7 (by decide) ?_
    refine lv_goto (tgt := 15) C.1 C.2.1 dX13_became_8 (by decide) ?_
    obtain ⟨rfl, rfl⟩ := prI h
    exact x_iret C w hr hk dX13_became_15
end S_became
set_option maxRecDepth 100000 in
theorem k_became (l : Launch) (D : va_G) (T : Cy) (ρ : Nat → Nat) (g sz : Nat) (S : St) {S' : St} {r : Int32} (h : m_became g S = some (S', r)) : Mi l Ym D T ρ yX13_became cX13_became 1 (some .int) 1 22 S S' r [.ref (ρ 0)] sz :=
  x_in (by decide) (Nat.le_of_ble_eq_true rfl) (fun p e s m below meth c ls C hr hk w hl => w_became_0 C hr hk w hl h)

theorem dX13_emit_0 : decode cX13_emit 0 = .ok (.aload_n 0, 1) := by decide +kernel
theorem dX13_emit_1 : decode cX13_emit 1 = .ok (.getfield 395, 3) := by decide +kernel
theorem dX13_emit_4 : decode cX13_emit 4 = .ok (.sipush 600, 3) := by decide +kernel
theorem dX13_emit_7 : decode cX13_emit 7 = .ok (.if_icmp .ge 13, 3) := by decide +kernel
theorem dX13_emit_10 : decode cX13_emit 10 = .ok (.aload_n 0, 1) := by decide +kernel
theorem dX13_emit_11 : decode cX13_emit 11 = .ok (.getfield 223, 3) := by decide +kernel
theorem dX13_emit_14 : decode cX13_emit 14 = .ok (.aload_n 0, 1) := by decide +kernel
theorem dX13_emit_15 : decode cX13_emit 15 = .ok (.getfield 395, 3) := by decide +kernel
theorem dX13_emit_18 : decode cX13_emit 18 = .ok (.iload_n 1, 1) := by decide +kernel
theorem dX13_emit_19 : decode cX13_emit 19 = .ok (.iastore, 1) := by decide +kernel
theorem dX13_emit_20 : decode cX13_emit 20 = .ok (.aload_n 0, 1) := by decide +kernel
theorem dX13_emit_21 : decode cX13_emit 21 = .ok (.dup, 1) := by decide +kernel
theorem dX13_emit_22 : decode cX13_emit 22 = .ok (.getfield 395, 3) := by decide +kernel
theorem dX13_emit_25 : decode cX13_emit 25 = .ok (.iconst 1, 1) := by decide +kernel
theorem dX13_emit_26 : decode cX13_emit 26 = .ok (.iadd, 1) := by decide +kernel
theorem dX13_emit_27 : decode cX13_emit 27 = .ok (.putfield 395, 3) := by decide +kernel
theorem dX13_emit_30 : decode cX13_emit 30 = .ok (.return_, 1) := by decide +kernel
def m_emit (g : Nat) (S : St) (x1 : Int32) : Option St :=
if (600 : Int32) ≤ (gI S 0 57) then (
  lt (sI S 0 57 ((gI S 0 57) + (1 : Int32))) fun S_1 =>
  some S_1
) else (
  (tI S 34 (gI S 0 57) x1).bind fun S_2 =>
  lt (sI S_2 0 57 ((gI S_2 0 57) + (1 : Int32))) fun S_3 =>
  some S_3
)
section S_emit
variable {p : Program} {l : Launch} {e : Env} {s : State} {m : MethodId} {args : Array Value} {below : List Frame} {meth : Method} {c : Code} {H : Heap} {locs : List Loc} {ls : Array Slot} {D : va_G} {T : Cy} {ρ : Nat → Nat} {A : Nat → Prop}
set_option maxRecDepth 100000 in
set_option maxHeartbeats 4000000 in
theorem w_emit_0  {g : Nat} {S : St} {x1 : Int32} (C : CallFix p m c cX13_emit 2 s args tb RX13) (hr : meth.sig.returnType = none) (hk : meth.locks = false) {S' : St} (w : Wn Ym D T ρ S A s H locs) (hl : lv_has ls 2 [(0, .ref (ρ 0)), (1, .int x1)]) (h : m_emit g S x1 = some S') : W p l e (rmN 0 0) s m args below meth c H locs 0 0 (MQ below (Qv Ym D T ρ A S') args s 0 0 A) (F0 m 0 ls []) := by
  unfold m_emit at h
  refine lv_aload_n C.1 C.2.1 dX13_emit_0 rfl (lv_at hl 0 rfl) ?_
  refine x_getI C w fM395 obM dX13_emit_1 ?_
  refine lv_sipush (v := 600) C.1 C.2.1 dX13_emit_4 (by decide) ?_
  refine lv_icmp_ge (tgt := 20) C.1 C.2.1 dX13_emit_7 (by decide) (fun hc => ?_) (fun hc => ?_)
  · replace h := ift hc h
    refine lv_aload_n C.1 C.2.1 dX13_emit_20 rfl (lv_at hl 0 rfl) ?_
    refine lv_dup C.1 C.2.1 dX13_emit_21 rfl ?_
    refine x_getI C w fM395 obM dX13_emit_22 ?_
    refine lv_iconst (v := 1) C.1 C.2.1 dX13_emit_25 (by decide) ?_
    refine lv_iadd C.1 C.2.1 dX13_emit_26 ?_
    obtain ⟨S_1, eS_1, h⟩ := lt_e h
    refine y_putI C w eS_1 fM395 pM57 obM dX13_emit_27 (fun H locs w => ?_)
    obtain rfl := som h
    exact x_vret C w hr hk dX13_emit_30
  · replace h := iff0 hc h
    refine lv_aload_n C.1 C.2.1 dX13_emit_10 rfl (lv_at hl 0 rfl) ?_
    refine x_getC C w 34 fM223 obM rfl dX13_emit_11 ?_
    refine lv_aload_n C.1 C.2.1 dX13_emit_14 rfl (lv_at hl 0 rfl) ?_
    refine x_getI C w fM395 obM dX13_emit_15 ?_
    refine lv_iload_n C.1 C.2.1 dX13_emit_18 rfl (lv_at hl 1 rfl) ?_
    obtain ⟨S_2, hS_2, h⟩ := bnd h
    refine x_iast C w obM34 hS_2 dX13_emit_19 (fun H locs w => ?_)
    refine lv_aload_n C.1 C.2.1 dX13_emit_20 rfl (lv_at hl 0 rfl) ?_
    refine lv_dup C.1 C.2.1 dX13_emit_21 rfl ?_
    refine x_getI C w fM395 obM dX13_emit_22 ?_
    refine lv_iconst (v := 1) C.1 C.2.1 dX13_emit_25 (by decide) ?_
    refine lv_iadd C.1 C.2.1 dX13_emit_26 ?_
    obtain ⟨S_3, eS_3, h⟩ := lt_e h
    refine y_putI C w eS_3 fM395 pM57 obM dX13_emit_27 (fun H locs w => ?_)
    obtain rfl := som h
    exact x_vret C w hr hk dX13_emit_30
end S_emit
set_option maxRecDepth 100000 in
theorem k_emit (l : Launch) (D : va_G) (T : Cy) (ρ : Nat → Nat) (g sz : Nat) (S : St) {x1 : Int32} {S' : St} (h : m_emit g S x1 = some S') : Mv l Ym D T ρ yX13_emit cX13_emit 2 none 0 0 S S' [.ref (ρ 0), .int x1] sz :=
  x_in (by decide) (Nat.le_of_ble_eq_true rfl) (fun p e s m below meth c ls C hr hk w hl => w_emit_0 C hr hk w hl h)

theorem dX13_pools_0 : decode cX13_pools 0 = .ok (.aload_n 0, 1) := by decide +kernel
theorem dX13_pools_1 : decode cX13_pools 1 = .ok (.getfield 196, 3) := by decide +kernel
theorem dX13_pools_4 : decode cX13_pools 4 = .ok (.aload_n 0, 1) := by decide +kernel
theorem dX13_pools_5 : decode cX13_pools 5 = .ok (.getfield 410, 3) := by decide +kernel
theorem dX13_pools_8 : decode cX13_pools 8 = .ok (.iload_n 1, 1) := by decide +kernel
theorem dX13_pools_9 : decode cX13_pools 9 = .ok (.iastore, 1) := by decide +kernel
theorem dX13_pools_10 : decode cX13_pools 10 = .ok (.aload_n 0, 1) := by decide +kernel
theorem dX13_pools_11 : decode cX13_pools 11 = .ok (.dup, 1) := by decide +kernel
theorem dX13_pools_12 : decode cX13_pools 12 = .ok (.getfield 410, 3) := by decide +kernel
theorem dX13_pools_15 : decode cX13_pools 15 = .ok (.iconst 1, 1) := by decide +kernel
theorem dX13_pools_16 : decode cX13_pools 16 = .ok (.iadd, 1) := by decide +kernel
theorem dX13_pools_17 : decode cX13_pools 17 = .ok (.putfield 410, 3) := by decide +kernel
theorem dX13_pools_20 : decode cX13_pools 20 = .ok (.return_, 1) := by decide +kernel
def m_pools (g : Nat) (S : St) (x1 : Int32) : Option St :=
(tI S 25 (gI S 0 41) x1).bind fun S_1 =>
lt (sI S_1 0 41 ((gI S_1 0 41) + (1 : Int32))) fun S_2 =>
some S_2
section S_pools
variable {p : Program} {l : Launch} {e : Env} {s : State} {m : MethodId} {args : Array Value} {below : List Frame} {meth : Method} {c : Code} {H : Heap} {locs : List Loc} {ls : Array Slot} {D : va_G} {T : Cy} {ρ : Nat → Nat} {A : Nat → Prop}
set_option maxRecDepth 100000 in
set_option maxHeartbeats 4000000 in
theorem w_pools_0  {g : Nat} {S : St} {x1 : Int32} (C : CallFix p m c cX13_pools 2 s args tb RX13) (hr : meth.sig.returnType = none) (hk : meth.locks = false) {S' : St} (w : Wn Ym D T ρ S A s H locs) (hl : lv_has ls 2 [(0, .ref (ρ 0)), (1, .int x1)]) (h : m_pools g S x1 = some S') : W p l e (rmN 0 0) s m args below meth c H locs 0 0 (MQ below (Qv Ym D T ρ A S') args s 0 0 A) (F0 m 0 ls []) := by
  unfold m_pools at h
  refine lv_aload_n C.1 C.2.1 dX13_pools_0 rfl (lv_at hl 0 rfl) ?_
  refine x_getC C w 25 fM196 obM rfl dX13_pools_1 ?_
  refine lv_aload_n C.1 C.2.1 dX13_pools_4 rfl (lv_at hl 0 rfl) ?_
  refine x_getI C w fM410 obM dX13_pools_5 ?_
  refine lv_iload_n C.1 C.2.1 dX13_pools_8 rfl (lv_at hl 1 rfl) ?_
  obtain ⟨S_1, hS_1, h⟩ := bnd h
  refine x_iast C w obM25 hS_1 dX13_pools_9 (fun H locs w => ?_)
  refine lv_aload_n C.1 C.2.1 dX13_pools_10 rfl (lv_at hl 0 rfl) ?_
  refine lv_dup C.1 C.2.1 dX13_pools_11 rfl ?_
  refine x_getI C w fM410 obM dX13_pools_12 ?_
  refine lv_iconst (v := 1) C.1 C.2.1 dX13_pools_15 (by decide) ?_
  refine lv_iadd C.1 C.2.1 dX13_pools_16 ?_
  obtain ⟨S_2, eS_2, h⟩ := lt_e h
  refine y_putI C w eS_2 fM410 pM41 obM dX13_pools_17 (fun H locs w => ?_)
  obtain rfl := som h
  exact x_vret C w hr hk dX13_pools_20
end S_pools
set_option maxRecDepth 100000 in
theorem k_pools (l : Launch) (D : va_G) (T : Cy) (ρ : Nat → Nat) (g sz : Nat) (S : St) {x1 : Int32} {S' : St} (h : m_pools g S x1 = some S') : Mv l Ym D T ρ yX13_pools cX13_pools 2 none 0 0 S S' [.ref (ρ 0), .int x1] sz :=
  x_in (by decide) (Nat.le_of_ble_eq_true rfl) (fun p e s m below meth c ls C hr hk w hl => w_pools_0 C hr hk w hl h)

theorem dX13_literals_0 : decode cX13_literals 0 = .ok (.iconst 0, 1) := by decide +kernel
theorem dX13_literals_1 : decode cX13_literals 1 = .ok (.istore_n 2, 1) := by decide +kernel
theorem dX13_literals_2 : decode cX13_literals 2 = .ok (.iload_n 2, 1) := by decide +kernel
theorem dX13_literals_3 : decode cX13_literals 3 = .ok (.aload_n 0, 1) := by decide +kernel
theorem dX13_literals_4 : decode cX13_literals 4 = .ok (.getfield 141, 3) := by decide +kernel
theorem dX13_literals_7 : decode cX13_literals 7 = .ok (.iload_n 1, 1) := by decide +kernel
theorem dX13_literals_8 : decode cX13_literals 8 = .ok (.iaload, 1) := by decide +kernel
theorem dX13_literals_9 : decode cX13_literals 9 = .ok (.if_icmp .ge 121, 3) := by decide +kernel
theorem dX13_literals_12 : decode cX13_literals 12 = .ok (.aload_n 0, 1) := by decide +kernel
theorem dX13_literals_13 : decode cX13_literals 13 = .ok (.getfield 150, 3) := by decide +kernel
theorem dX13_literals_16 : decode cX13_literals 16 = .ok (.bipush 10, 2) := by decide +kernel
theorem dX13_literals_18 : decode cX13_literals 18 = .ok (.iload_n 1, 1) := by decide +kernel
theorem dX13_literals_19 : decode cX13_literals 19 = .ok (.imul, 1) := by decide +kernel
theorem dX13_literals_20 : decode cX13_literals 20 = .ok (.iload_n 2, 1) := by decide +kernel
theorem dX13_literals_21 : decode cX13_literals 21 = .ok (.iadd, 1) := by decide +kernel
theorem dX13_literals_22 : decode cX13_literals 22 = .ok (.laload, 1) := by decide +kernel
theorem dX13_literals_23 : decode cX13_literals 23 = .ok (.l2i, 1) := by decide +kernel
theorem dX13_literals_24 : decode cX13_literals 24 = .ok (.istore_n 3, 1) := by decide +kernel
theorem dX13_literals_25 : decode cX13_literals 25 = .ok (.aload_n 0, 1) := by decide +kernel
theorem dX13_literals_26 : decode cX13_literals 26 = .ok (.getfield 144, 3) := by decide +kernel
theorem dX13_literals_29 : decode cX13_literals 29 = .ok (.bipush 10, 2) := by decide +kernel
theorem dX13_literals_31 : decode cX13_literals 31 = .ok (.iload_n 1, 1) := by decide +kernel
theorem dX13_literals_32 : decode cX13_literals 32 = .ok (.imul, 1) := by decide +kernel
theorem dX13_literals_33 : decode cX13_literals 33 = .ok (.iload_n 2, 1) := by decide +kernel
theorem dX13_literals_34 : decode cX13_literals 34 = .ok (.iadd, 1) := by decide +kernel
theorem dX13_literals_35 : decode cX13_literals 35 = .ok (.iaload, 1) := by decide +kernel
theorem dX13_literals_36 : decode cX13_literals 36 = .ok (.iconst 3, 1) := by decide +kernel
theorem dX13_literals_37 : decode cX13_literals 37 = .ok (.if_icmp .ne 87, 3) := by decide +kernel
theorem dX13_literals_40 : decode cX13_literals 40 = .ok (.aload_n 0, 1) := by decide +kernel
theorem dX13_literals_41 : decode cX13_literals 41 = .ok (.getfield 168, 3) := by decide +kernel
theorem dX13_literals_44 : decode cX13_literals 44 = .ok (.iload_n 3, 1) := by decide +kernel
theorem dX13_literals_45 : decode cX13_literals 45 = .ok (.iaload, 1) := by decide +kernel
theorem dX13_literals_46 : decode cX13_literals 46 = .ok (.ifCond .lt 6, 3) := by decide +kernel
theorem dX13_literals_49 : decode cX13_literals 49 = .ok (.goto 75, 3) := by decide +kernel
theorem dX13_literals_52 : decode cX13_literals 52 = .ok (.aload_n 0, 1) := by decide +kernel
theorem dX13_literals_53 : decode cX13_literals 53 = .ok (.iconst 0, 1) := by decide +kernel
theorem dX13_literals_54 : decode cX13_literals 54 = .ok (.putfield 395, 3) := by decide +kernel
theorem dX13_literals_57 : decode cX13_literals 57 = .ok (.iconst 0, 1) := by decide +kernel
theorem dX13_literals_58 : decode cX13_literals 58 = .ok (.istore 4, 2) := by decide +kernel
theorem dX13_literals_60 : decode cX13_literals 60 = .ok (.iload 4, 2) := by decide +kernel
theorem dX13_literals_62 : decode cX13_literals 62 = .ok (.aload_n 0, 1) := by decide +kernel
theorem dX13_literals_63 : decode cX13_literals 63 = .ok (.getfield 162, 3) := by decide +kernel
theorem dX13_literals_66 : decode cX13_literals 66 = .ok (.iload_n 3, 1) := by decide +kernel
theorem dX13_literals_67 : decode cX13_literals 67 = .ok (.iaload, 1) := by decide +kernel
theorem dX13_literals_68 : decode cX13_literals 68 = .ok (.if_icmp .ge 27, 3) := by decide +kernel
theorem dX13_literals_71 : decode cX13_literals 71 = .ok (.aload_n 0, 1) := by decide +kernel
theorem dX13_literals_72 : decode cX13_literals 72 = .ok (.aload_n 0, 1) := by decide +kernel
theorem dX13_literals_73 : decode cX13_literals 73 = .ok (.getfield 156, 3) := by decide +kernel
theorem dX13_literals_76 : decode cX13_literals 76 = .ok (.aload_n 0, 1) := by decide +kernel
theorem dX13_literals_77 : decode cX13_literals 77 = .ok (.getfield 159, 3) := by decide +kernel
theorem dX13_literals_80 : decode cX13_literals 80 = .ok (.iload_n 3, 1) := by decide +kernel
theorem dX13_literals_81 : decode cX13_literals 81 = .ok (.iaload, 1) := by decide +kernel
theorem dX13_literals_82 : decode cX13_literals 82 = .ok (.iload 4, 2) := by decide +kernel
theorem dX13_literals_84 : decode cX13_literals 84 = .ok (.iadd, 1) := by decide +kernel
theorem dX13_literals_85 : decode cX13_literals 85 = .ok (.iaload, 1) := by decide +kernel
theorem dX13_literals_86 : decode cX13_literals 86 = .ok (.invokevirtual 437, 3) := by decide +kernel
theorem dX13_literals_89 : decode cX13_literals 89 = .ok (.iinc 4 1, 3) := by decide +kernel
theorem dX13_literals_92 : decode cX13_literals 92 = .ok (.goto (-32), 3) := by decide +kernel
theorem dX13_literals_95 : decode cX13_literals 95 = .ok (.aload_n 0, 1) := by decide +kernel
theorem dX13_literals_96 : decode cX13_literals 96 = .ok (.getfield 168, 3) := by decide +kernel
theorem dX13_literals_99 : decode cX13_literals 99 = .ok (.iload_n 3, 1) := by decide +kernel
theorem dX13_literals_100 : decode cX13_literals 100 = .ok (.aload_n 0, 1) := by decide +kernel
theorem dX13_literals_101 : decode cX13_literals 101 = .ok (.invokevirtual 440, 3) := by decide +kernel
theorem dX13_literals_104 : decode cX13_literals 104 = .ok (.iastore, 1) := by decide +kernel
theorem dX13_literals_105 : decode cX13_literals 105 = .ok (.aload_n 0, 1) := by decide +kernel
theorem dX13_literals_106 : decode cX13_literals 106 = .ok (.getfield 168, 3) := by decide +kernel
theorem dX13_literals_109 : decode cX13_literals 109 = .ok (.iload_n 3, 1) := by decide +kernel
theorem dX13_literals_110 : decode cX13_literals 110 = .ok (.iaload, 1) := by decide +kernel
theorem dX13_literals_111 : decode cX13_literals 111 = .ok (.ifCond .le 13, 3) := by decide +kernel
theorem dX13_literals_114 : decode cX13_literals 114 = .ok (.aload_n 0, 1) := by decide +kernel
theorem dX13_literals_115 : decode cX13_literals 115 = .ok (.aload_n 0, 1) := by decide +kernel
theorem dX13_literals_116 : decode cX13_literals 116 = .ok (.getfield 168, 3) := by decide +kernel
theorem dX13_literals_119 : decode cX13_literals 119 = .ok (.iload_n 3, 1) := by decide +kernel
theorem dX13_literals_120 : decode cX13_literals 120 = .ok (.iaload, 1) := by decide +kernel
theorem dX13_literals_121 : decode cX13_literals 121 = .ok (.invokevirtual 413, 3) := by decide +kernel
theorem dX13_literals_124 : decode cX13_literals 124 = .ok (.iinc 2 1, 3) := by decide +kernel
theorem dX13_literals_127 : decode cX13_literals 127 = .ok (.goto (-125), 3) := by decide +kernel
theorem dX13_literals_130 : decode cX13_literals 130 = .ok (.return_, 1) := by decide +kernel
def b_literals_60 (g : Nat) (k2 : St → Int32 → Int32 → Option St) (k60 : St → Int32 → Int32 → Int32 → Int32 → Option St) (S : St) (x1 : Int32) (x2 : Int32) (x3 : Int32) (x4 : Int32) : Option St :=
(aI S 14 x3).bind fun v_8 =>
if v_8 ≤ x4 then (
  (m_became g S).bind fun (S_9, v_10) =>
  (tI S_9 16 x3 v_10).bind fun S_11 =>
  (aI S_11 16 x3).bind fun v_12 =>
  if v_12 ≤ 0 then (
    lt (x2 + (1 : Int32)) fun x2_13 =>
    k2 S_11 x1 x2_13
  ) else (
    (aI S_11 16 x3).bind fun v_14 =>
    (m_pools g S_11 v_14).bind fun S_15 =>
    lt (x2 + (1 : Int32)) fun x2_16 =>
    k2 S_15 x1 x2_16
  )
) else (
  (aI S 13 x3).bind fun v_17 =>
  (aI S 12 (v_17 + x4)).bind fun v_18 =>
  (m_emit g S v_18).bind fun S_19 =>
  lt (x4 + (1 : Int32)) fun x4_20 =>
  k60 S_19 x1 x2 x3 x4_20
)
def m_literals_60 (g : Nat) (k2 : St → Int32 → Int32 → Option St) : Nat → St → Int32 → Int32 → Int32 → Int32 → Option St
  | 0, _, _, _, _, _ => none
  | n + 1, S, x1, x2, x3, x4 => b_literals_60 g k2 (m_literals_60 g k2 n) S x1 x2 x3 x4
def b_literals_2 (g : Nat) (k2 : St → Int32 → Int32 → Option St) (S : St) (x1 : Int32) (x2 : Int32) : Option St :=
(aI S 7 x1).bind fun v_1 =>
if v_1 ≤ x2 then (
  some S
) else (
  (aJ S 10 (((10 : Int32) * x1) + x2)).bind fun v_2 =>
  lt (v_2.toInt32) fun x3_3 =>
  (aI S 8 (((10 : Int32) * x1) + x2)).bind fun v_4 =>
  if v_4 = (3 : Int32) then (
    (aI S 16 x3_3).bind fun v_6 =>
    if v_6 < 0 then (
      lt (sI S 0 57 (0 : Int32)) fun S_7 =>
      m_literals_60 g k2 g S_7 x1 x2 x3_3 (0 : Int32)
    ) else (
      lt (x2 + (1 : Int32)) fun x2_8 =>
      k2 S x1 x2_8
    )
  ) else (
    lt (x2 + (1 : Int32)) fun x2_5 =>
    k2 S x1 x2_5
  )
)
def m_literals_2 (g : Nat) : Nat → St → Int32 → Int32 → Option St
  | 0, _, _, _ => none
  | n + 1, S, x1, x2 => b_literals_2 g (m_literals_2 g n) S x1 x2
def m_literals (g : Nat) (S : St) (x1 : Int32) : Option St :=
m_literals_2 g g S x1 (0 : Int32)
section S_literals
variable {p : Program} {l : Launch} {e : Env} {s : State} {m : MethodId} {args : Array Value} {below : List Frame} {meth : Method} {c : Code} {H : Heap} {locs : List Loc} {ls : Array Slot} {D : va_G} {T : Cy} {ρ : Nat → Nat} {A : Nat → Prop}
set_option maxRecDepth 100000 in
set_option maxHeartbeats 4000000 in
theorem wb_literals_60  {g : Nat} {S : St} {x1 : Int32} {x2 : Int32} {x3 : Int32} {x4 : Int32} (C : CallFix p m c cX13_literals 5 s args tb RX13) (hr : meth.sig.returnType = none) (hk : meth.locks = false) {S' : St} {k2 : St → Int32 → Int32 → Option St} (kk2 : ∀ (S : St) (x1 : Int32) (x2 : Int32) (H : Heap) (locs : List Loc) (ls : Array Slot), Wn Ym D T ρ S A s H locs → lv_has ls 5 [(0, .ref (ρ 0)), (1, .int x1), (2, .int x2)] → k2 S x1 x2 = some S' → W p l e (rmN 2 42) s m args below meth c H locs 0 0 (MQ below (Qv Ym D T ρ A S') args s 0 0 A) (F0 m 2 ls [])) {k60 : St → Int32 → Int32 → Int32 → Int32 → Option St} (kk60 : ∀ (S : St) (x1 : Int32) (x2 : Int32) (x3 : Int32) (x4 : Int32) (H : Heap) (locs : List Loc) (ls : Array Slot), Wn Ym D T ρ S A s H locs → lv_has ls 5 [(0, .ref (ρ 0)), (1, .int x1), (2, .int x2), (3, .int x3), (4, .int x4)] → k60 S x1 x2 x3 x4 = some S' → W p l e (rmN 2 42) s m args below meth c H locs 0 0 (MQ below (Qv Ym D T ρ A S') args s 0 0 A) (F0 m 60 ls [])) (w : Wn Ym D T ρ S A s H locs) (hl : lv_has ls 5 [(0, .ref (ρ 0)), (1, .int x1), (2, .int x2), (3, .int x3), (4, .int x4)]) (h : b_literals_60 g k2 k60 S x1 x2 x3 x4 = some S') : W p l e (rmN 2 42) s m args below meth c H locs 0 0 (MQ below (Qv Ym D T ρ A S') args s 0 0 A) (F0 m 60 ls []) := by
  unfold b_literals_60 at h
  refine lv_iload C.1 C.2.1 dX13_literals_60 (lv_at hl 4 rfl) ?_
  refine lv_aload_n C.1 C.2.1 dX13_literals_62 rfl (lv_at hl 0 rfl) ?_
  refine x_getC C w 14 fM162 obM rfl dX13_literals_63 ?_
  refine lv_iload_n C.1 C.2.1 dX13_literals_66 rfl (lv_at hl 3 rfl) ?_
  obtain ⟨v_8, hv_8, h⟩ := bnd h
  refine x_iald C w obM14 hv_8 dX13_literals_67 ?_
  refine lv_icmp_ge (tgt := 95) C.1 C.2.1 dX13_literals_68 (by decide) (fun hc => ?_) (fun hc => ?_)
  · replace h := ift hc h
    refine lv_aload_n C.1 C.2.1 dX13_literals_95 rfl (lv_at hl 0 rfl) ?_
    refine x_getC C w 16 fM168 obM rfl dX13_literals_96 ?_
    refine lv_iload_n C.1 C.2.1 dX13_literals_99 rfl (lv_at hl 3 rfl) ?_
    refine lv_aload_n C.1 C.2.1 dX13_literals_100 rfl (lv_at hl 0 rfl) ?_
    obtain ⟨⟨S_9, v_10⟩, hv_10, h⟩ := bnd h
    refine x_callVi (q := (RX13, TX13, 68)) (As := []) (rest := [.int x3, .ref (ρ 16)]) C w (k_became l D T ρ g H.size S hv_10) vM440 ⟨by decide, by decide⟩ obM (by decide) rfl rfl rfl hl.1 (Nat.le_of_ble_eq_true rfl) ⟨Nat.zero_le _, Nat.zero_le _⟩ dX13_literals_101 (fun H locs w => ?_)
    obtain ⟨S_11, hS_11, h⟩ := bnd h
    refine x_iast C w obM16 hS_11 dX13_literals_104 (fun H locs w => ?_)
    refine lv_aload_n C.1 C.2.1 dX13_literals_105 rfl (lv_at hl 0 rfl) ?_
    refine x_getC C w 16 fM168 obM rfl dX13_literals_106 ?_
    refine lv_iload_n C.1 C.2.1 dX13_literals_109 rfl (lv_at hl 3 rfl) ?_
    obtain ⟨v_12, hv_12, h⟩ := bnd h
    refine x_iald C w obM16 hv_12 dX13_literals_110 ?_
    refine lv_if_le (tgt := 124) C.1 C.2.1 dX13_literals_111 (by decide) (fun hc => ?_) (fun hc => ?_)
    · replace h := ift hc h
      obtain ⟨x2_13, ex2_13, h⟩ := lt_e h
      refine lv_iinc (v := x2_13) (lv' := [(2, .int x2_13), (0, .ref (ρ 0)), (1, .int x1), (3, .int x3), (4, .int x4)]) C.1 C.2.1 dX13_literals_124 hl (k := 2) rfl (by rw [ex2_13]; rfl) (by decide) rfl (fun ls hl => ?_)
      refine lv_goto (tgt := 2) C.1 C.2.1 dX13_literals_127 (by decide) ?_
      exact kk2 _ _ _ _ _ _ w (lv_sub hl [1, 2, 0] rfl) h
    · replace h := iff0 hc h
      refine lv_aload_n C.1 C.2.1 dX13_literals_114 rfl (lv_at hl 0 rfl) ?_
      refine lv_aload_n C.1 C.2.1 dX13_literals_115 rfl (lv_at hl 0 rfl) ?_
      refine x_getC C w 16 fM168 obM rfl dX13_literals_116 ?_
      refine lv_iload_n C.1 C.2.1 dX13_literals_119 rfl (lv_at hl 3 rfl) ?_
      obtain ⟨v_14, hv_14, h⟩ := bnd h
      refine x_iald C w obM16 hv_14 dX13_literals_120 ?_
      obtain ⟨S_15, hS_15, h⟩ := bnd h
      refine x_callVv (q := (RX13, TX13, 68)) (As := [.int v_14]) (rest := []) C w (k_pools l D T ρ g H.size S_11 hS_15) vM413 ⟨by decide, by decide⟩ obM (by decide) rfl rfl rfl hl.1 (Nat.le_of_ble_eq_true rfl) ⟨Nat.zero_le _, Nat.zero_le _⟩ dX13_literals_121 (fun H locs w => ?_)
      obtain ⟨x2_16, ex2_16, h⟩ := lt_e h
      refine lv_iinc (v := x2_16) (lv' := [(2, .int x2_16), (0, .ref (ρ 0)), (1, .int x1), (3, .int x3), (4, .int x4)]) C.1 C.2.1 dX13_literals_124 hl (k := 2) rfl (by rw [ex2_16]; rfl) (by decide) rfl (fun ls hl => ?_)
      refine lv_goto (tgt := 2) C.1 C.2.1 dX13_literals_127 (by decide) ?_
      exact kk2 _ _ _ _ _ _ w (lv_sub hl [1, 2, 0] rfl) h
  · replace h := iff0 hc h
    refine lv_aload_n C.1 C.2.1 dX13_literals_71 rfl (lv_at hl 0 rfl) ?_
    refine lv_aload_n C.1 C.2.1 dX13_literals_72 rfl (lv_at hl 0 rfl) ?_
    refine x_getC C w 12 fM156 obM rfl dX13_literals_73 ?_
    refine lv_aload_n C.1 C.2.1 dX13_literals_76 rfl (lv_at hl 0 rfl) ?_
    refine x_getC C w 13 fM159 obM rfl dX13_literals_77 ?_
    refine lv_iload_n C.1 C.2.1 dX13_literals_80 rfl (lv_at hl 3 rfl) ?_
    obtain ⟨v_17, hv_17, h⟩ := bnd h
    refine x_iald C w obM13 hv_17 dX13_literals_81 ?_
    refine lv_iload C.1 C.2.1 dX13_literals_82 (lv_at hl 4 rfl) ?_
    refine lv_iadd C.1 C.2.1 dX13_literals_84 ?_
    obtain ⟨v_18, hv_18, h⟩ := bnd h
    refine x_iald C w obM12 hv_18 dX13_literals_85 ?_
    obtain ⟨S_19, hS_19, h⟩ := bnd h
    refine x_callVv (q := (RX13, TX13, 68)) (As := [.int v_18]) (rest := []) C w (k_emit l D T ρ g H.size S hS_19) vM437 ⟨by decide, by decide⟩ obM (by decide) rfl rfl rfl hl.1 (Nat.le_of_ble_eq_true rfl) ⟨Nat.zero_le _, Nat.zero_le _⟩ dX13_literals_86 (fun H locs w => ?_)
    obtain ⟨x4_20, ex4_20, h⟩ := lt_e h
    refine lv_iinc (v := x4_20) (lv' := [(4, .int x4_20), (0, .ref (ρ 0)), (1, .int x1), (2, .int x2), (3, .int x3)]) C.1 C.2.1 dX13_literals_89 hl (k := 4) rfl (by rw [ex4_20]; rfl) (by decide) rfl (fun ls hl => ?_)
    refine lv_goto (tgt := 60) C.1 C.2.1 dX13_literals_92 (by decide) ?_
    exact kk60 _ _ _ _ _ _ _ _ w (lv_sub hl [1, 2, 3, 4, 0] rfl) h
theorem w_literals_60 {g : Nat} (C : CallFix p m c cX13_literals 5 s args tb RX13) (hr : meth.sig.returnType = none) (hk : meth.locks = false) {S' : St} {k2 : St → Int32 → Int32 → Option St} (kk2 : ∀ (S : St) (x1 : Int32) (x2 : Int32) (H : Heap) (locs : List Loc) (ls : Array Slot), Wn Ym D T ρ S A s H locs → lv_has ls 5 [(0, .ref (ρ 0)), (1, .int x1), (2, .int x2)] → k2 S x1 x2 = some S' → W p l e (rmN 2 42) s m args below meth c H locs 0 0 (MQ below (Qv Ym D T ρ A S') args s 0 0 A) (F0 m 2 ls [])) (n : Nat) : ∀ (S : St) (x1 : Int32) (x2 : Int32) (x3 : Int32) (x4 : Int32) (H : Heap) (locs : List Loc) (ls : Array Slot), Wn Ym D T ρ S A s H locs → lv_has ls 5 [(0, .ref (ρ 0)), (1, .int x1), (2, .int x2), (3, .int x3), (4, .int x4)] → m_literals_60 g k2 n S x1 x2 x3 x4 = some S' → W p l e (rmN 2 42) s m args below meth c H locs 0 0 (MQ below (Qv Ym D T ρ A S') args s 0 0 A) (F0 m 60 ls []) := by
  induction n with
  | zero => intro S x1 x2 x3 x4 H locs ls w hl h; exact absurd h (fun q => by cases q)
  | succ n ih => intro S x1 x2 x3 x4 H locs ls w hl h; exact wb_literals_60 C hr hk kk2 ih w hl h
set_option maxRecDepth 100000 in
set_option maxHeartbeats 4000000 in
theorem wb_literals_2  {g : Nat} {S : St} {x1 : Int32} {x2 : Int32} (C : CallFix p m c cX13_literals 5 s args tb RX13) (hr : meth.sig.returnType = none) (hk : meth.locks = false) {S' : St} {k2 : St → Int32 → Int32 → Option St} (kk2 : ∀ (S : St) (x1 : Int32) (x2 : Int32) (H : Heap) (locs : List Loc) (ls : Array Slot), Wn Ym D T ρ S A s H locs → lv_has ls 5 [(0, .ref (ρ 0)), (1, .int x1), (2, .int x2)] → k2 S x1 x2 = some S' → W p l e (rmN 2 42) s m args below meth c H locs 0 0 (MQ below (Qv Ym D T ρ A S') args s 0 0 A) (F0 m 2 ls [])) (w : Wn Ym D T ρ S A s H locs) (hl : lv_has ls 5 [(0, .ref (ρ 0)), (1, .int x1), (2, .int x2)]) (h : b_literals_2 g k2 S x1 x2 = some S') : W p l e (rmN 2 42) s m args below meth c H locs 0 0 (MQ below (Qv Ym D T ρ A S') args s 0 0 A) (F0 m 2 ls []) := by
  unfold b_literals_2 at h
  refine lv_iload_n C.1 C.2.1 dX13_literals_2 rfl (lv_at hl 2 rfl) ?_
  refine lv_aload_n C.1 C.2.1 dX13_literals_3 rfl (lv_at hl 0 rfl) ?_
  refine x_getC C w 7 fM141 obM rfl dX13_literals_4 ?_
  refine lv_iload_n C.1 C.2.1 dX13_literals_7 rfl (lv_at hl 1 rfl) ?_
  obtain ⟨v_1, hv_1, h⟩ := bnd h
  refine x_iald C w obM7 hv_1 dX13_literals_8 ?_
  refine lv_icmp_ge (tgt := 130) C.1 C.2.1 dX13_literals_9 (by decide) (fun hc => ?_) (fun hc => ?_)
  · replace h := ift hc h
    obtain rfl := som h
    exact x_vret C w hr hk dX13_literals_130
  · replace h := iff0 hc h
    refine lv_aload_n C.1 C.2.1 dX13_literals_12 rfl (lv_at hl 0 rfl) ?_
    refine x_getC C w 10 fM150 obM rfl dX13_literals_13 ?_
    refine lv_bipush (v := 10) C.1 C.2.1 dX13_literals_16 (by decide) ?_
    refine lv_iload_n C.1 C.2.1 dX13_literals_18 rfl (lv_at hl 1 rfl) ?_
    refine lv_imul C.1 C.2.1 dX13_literals_19 ?_
    refine lv_iload_n C.1 C.2.1 dX13_literals_20 rfl (lv_at hl 2 rfl) ?_
    refine lv_iadd C.1 C.2.1 dX13_literals_21 ?_
    obtain ⟨v_2, hv_2, h⟩ := bnd h
    refine x_lald C w obM10 hv_2 dX13_literals_22 ?_
    refine lv_l2i C.1 C.2.1 dX13_literals_23 rfl ?_
    obtain ⟨x3_3, ex3_3, h⟩ := lt_e h
    refine x_nm ex3_3 ?_
    refine lv_istore_n (lv' := [(3, .int x3_3), (0, .ref (ρ 0)), (1, .int x1), (2, .int x2)]) C.1 C.2.1 dX13_literals_24 rfl hl (by decide) rfl (fun ls hl => ?_)
    refine lv_aload_n C.1 C.2.1 dX13_literals_25 rfl (lv_at hl 1 rfl) ?_
    refine x_getC C w 8 fM144 obM rfl dX13_literals_26 ?_
    refine lv_bipush (v := 10) C.1 C.2.1 dX13_literals_29 (by decide) ?_
    refine lv_iload_n C.1 C.2.1 dX13_literals_31 rfl (lv_at hl 2 rfl) ?_
    refine lv_imul C.1 C.2.1 dX13_literals_32 ?_
    refine lv_iload_n C.1 C.2.1 dX13_literals_33 rfl (lv_at hl 3 rfl) ?_
    refine lv_iadd C.1 C.2.1 dX13_literals_34 ?_
    obtain ⟨v_4, hv_4, h⟩ := bnd h
    refine x_iald C w obM8 hv_4 dX13_literals_35 ?_
    refine lv_iconst (v := 3) C.1 C.2.1 dX13_literals_36 (by decide) ?_
    refine lv_icmp_ne (tgt := 124) C.1 C.2.1 dX13_literals_37 (by decide) (fun hc => ?_) (fun hc => ?_)
    · replace h := iff0 hc h
      obtain ⟨x2_5, ex2_5, h⟩ := lt_e h
      refine lv_iinc (v := x2_5) (lv' := [(2, .int x2_5), (3, .int x3_3), (0, .ref (ρ 0)), (1, .int x1)]) C.1 C.2.1 dX13_literals_124 hl (k := 3) rfl (by rw [ex2_5]; rfl) (by decide) rfl (fun ls hl => ?_)
      refine lv_goto (tgt := 2) C.1 C.2.1 dX13_literals_127 (by decide) ?_
      exact kk2 _ _ _ _ _ _ w (lv_sub hl [2, 3, 0] rfl) h
    · replace h := ift hc h
      refine lv_aload_n C.1 C.2.1 dX13_literals_40 rfl (lv_at hl 1 rfl) ?_
      refine x_getC C w 16 fM168 obM rfl dX13_literals_41 ?_
      refine lv_iload_n C.1 C.2.1 dX13_literals_44 rfl (lv_at hl 0 rfl) ?_
      obtain ⟨v_6, hv_6, h⟩ := bnd h
      refine x_iald C w obM16 hv_6 dX13_literals_45 ?_
      refine lv_if_lt (tgt := 52) C.1 C.2.1 dX13_literals_46 (by decide) (fun hc => ?_) (fun hc => ?_)
      · replace h := ift hc h
        refine lv_aload_n C.1 C.2.1 dX13_literals_52 rfl (lv_at hl 1 rfl) ?_
        refine lv_iconst (v := 0) C.1 C.2.1 dX13_literals_53 (by decide) ?_
        obtain ⟨S_7, eS_7, h⟩ := lt_e h
        refine y_putI C w eS_7 fM395 pM57 obM dX13_literals_54 (fun H locs w => ?_)
        refine lv_iconst (v := 0) C.1 C.2.1 dX13_literals_57 (by decide) ?_
        refine lv_istore (lv' := [(4, .int (0 : Int32)), (3, .int x3_3), (0, .ref (ρ 0)), (1, .int x1), (2, .int x2)]) C.1 C.2.1 dX13_literals_58 hl (by decide) rfl (fun ls hl => ?_)
        exact w_literals_60 C hr hk kk2 g _ _ _ _ _ _ _ _ w (lv_sub hl [2, 3, 4, 1, 0] rfl) h
      · replace h := iff0 hc h
        refine lv_goto (tgt := 124) C.1 C.2.1 dX13_literals_49 (by decide) ?_
        obtain ⟨x2_8, ex2_8, h⟩ := lt_e h
        refine lv_iinc (v := x2_8) (lv' := [(2, .int x2_8), (3, .int x3_3), (0, .ref (ρ 0)), (1, .int x1)]) C.1 C.2.1 dX13_literals_124 hl (k := 3) rfl (by rw [ex2_8]; rfl) (by decide) rfl (fun ls hl => ?_)
        refine lv_goto (tgt := 2) C.1 C.2.1 dX13_literals_127 (by decide) ?_
        exact kk2 _ _ _ _ _ _ w (lv_sub hl [2, 3, 0] rfl) h
theorem w_literals_2 {g : Nat} (C : CallFix p m c cX13_literals 5 s args tb RX13) (hr : meth.sig.returnType = none) (hk : meth.locks = false) {S' : St} (n : Nat) : ∀ (S : St) (x1 : Int32) (x2 : Int32) (H : Heap) (locs : List Loc) (ls : Array Slot), Wn Ym D T ρ S A s H locs → lv_has ls 5 [(0, .ref (ρ 0)), (1, .int x1), (2, .int x2)] → m_literals_2 g n S x1 x2 = some S' → W p l e (rmN 2 42) s m args below meth c H locs 0 0 (MQ below (Qv Ym D T ρ A S') args s 0 0 A) (F0 m 2 ls []) := by
  induction n with
  | zero => intro S x1 x2 H locs ls w hl h; exact absurd h (fun q => by cases q)
  | succ n ih => intro S x1 x2 H locs ls w hl h; exact wb_literals_2 C hr hk ih w hl h
set_option maxRecDepth 100000 in
set_option maxHeartbeats 4000000 in
theorem w_literals_0  {g : Nat} {S : St} {x1 : Int32} (C : CallFix p m c cX13_literals 5 s args tb RX13) (hr : meth.sig.returnType = none) (hk : meth.locks = false) {S' : St} (w : Wn Ym D T ρ S A s H locs) (hl : lv_has ls 5 [(0, .ref (ρ 0)), (1, .int x1)]) (h : m_literals g S x1 = some S') : W p l e (rmN 2 42) s m args below meth c H locs 0 0 (MQ below (Qv Ym D T ρ A S') args s 0 0 A) (F0 m 0 ls []) := by
  unfold m_literals at h
  refine lv_iconst (v := 0) C.1 C.2.1 dX13_literals_0 (by decide) ?_
  refine lv_istore_n (lv' := [(2, .int (0 : Int32)), (0, .ref (ρ 0)), (1, .int x1)]) C.1 C.2.1 dX13_literals_1 rfl hl (by decide) rfl (fun ls hl => ?_)
  exact w_literals_2 C hr hk g _ _ _ _ _ _ w (lv_sub hl [1, 2, 0] rfl) h
end S_literals
set_option maxRecDepth 100000 in
theorem k_literals (l : Launch) (D : va_G) (T : Cy) (ρ : Nat → Nat) (g sz : Nat) (S : St) {x1 : Int32} {S' : St} (h : m_literals g S x1 = some S') : Mv l Ym D T ρ yX13_literals cX13_literals 5 none 2 42 S S' [.ref (ρ 0), .int x1] sz :=
  x_in (by decide) (Nat.le_of_ble_eq_true rfl) (fun p e s m below meth c ls C hr hk w hl => w_literals_0 C hr hk w hl h)

theorem dX13_begin_0 : decode cX13_begin 0 = .ok (.aload_n 0, 1) := by decide +kernel
theorem dX13_begin_1 : decode cX13_begin 1 = .ok (.iconst 0, 1) := by decide +kernel
theorem dX13_begin_2 : decode cX13_begin 2 = .ok (.putfield 401, 3) := by decide +kernel
theorem dX13_begin_5 : decode cX13_begin 5 = .ok (.aload_n 0, 1) := by decide +kernel
theorem dX13_begin_6 : decode cX13_begin 6 = .ok (.iconst 0, 1) := by decide +kernel
theorem dX13_begin_7 : decode cX13_begin 7 = .ok (.putfield 404, 3) := by decide +kernel
theorem dX13_begin_10 : decode cX13_begin 10 = .ok (.aload_n 0, 1) := by decide +kernel
theorem dX13_begin_11 : decode cX13_begin 11 = .ok (.iconst 0, 1) := by decide +kernel
theorem dX13_begin_12 : decode cX13_begin 12 = .ok (.putfield 395, 3) := by decide +kernel
theorem dX13_begin_15 : decode cX13_begin 15 = .ok (.aload_n 0, 1) := by decide +kernel
theorem dX13_begin_16 : decode cX13_begin 16 = .ok (.iconst 0, 1) := by decide +kernel
theorem dX13_begin_17 : decode cX13_begin 17 = .ok (.putfield 410, 3) := by decide +kernel
theorem dX13_begin_20 : decode cX13_begin 20 = .ok (.aload_n 0, 1) := by decide +kernel
theorem dX13_begin_21 : decode cX13_begin 21 = .ok (.aload_n 0, 1) := by decide +kernel
theorem dX13_begin_22 : decode cX13_begin 22 = .ok (.invokevirtual 407, 3) := by decide +kernel
theorem dX13_begin_25 : decode cX13_begin 25 = .ok (.invokevirtual 413, 3) := by decide +kernel
theorem dX13_begin_28 : decode cX13_begin 28 = .ok (.iconst 0, 1) := by decide +kernel
theorem dX13_begin_29 : decode cX13_begin 29 = .ok (.istore_n 2, 1) := by decide +kernel
theorem dX13_begin_30 : decode cX13_begin 30 = .ok (.iload_n 2, 1) := by decide +kernel
theorem dX13_begin_31 : decode cX13_begin 31 = .ok (.bipush 20, 2) := by decide +kernel
theorem dX13_begin_33 : decode cX13_begin 33 = .ok (.if_icmp .ge 16, 3) := by decide +kernel
theorem dX13_begin_36 : decode cX13_begin 36 = .ok (.aload_n 0, 1) := by decide +kernel
theorem dX13_begin_37 : decode cX13_begin 37 = .ok (.getfield 199, 3) := by decide +kernel
theorem dX13_begin_40 : decode cX13_begin 40 = .ok (.iload_n 2, 1) := by decide +kernel
theorem dX13_begin_41 : decode cX13_begin 41 = .ok (.iconst (-1), 1) := by decide +kernel
theorem dX13_begin_42 : decode cX13_begin 42 = .ok (.iastore, 1) := by decide +kernel
theorem dX13_begin_43 : decode cX13_begin 43 = .ok (.iinc 2 1, 3) := by decide +kernel
theorem dX13_begin_46 : decode cX13_begin 46 = .ok (.goto (-16), 3) := by decide +kernel
theorem dX13_begin_49 : decode cX13_begin 49 = .ok (.iconst 0, 1) := by decide +kernel
theorem dX13_begin_50 : decode cX13_begin 50 = .ok (.istore_n 2, 1) := by decide +kernel
theorem dX13_begin_51 : decode cX13_begin 51 = .ok (.iload_n 2, 1) := by decide +kernel
theorem dX13_begin_52 : decode cX13_begin 52 = .ok (.bipush 6, 2) := by decide +kernel
theorem dX13_begin_54 : decode cX13_begin 54 = .ok (.if_icmp .ge 16, 3) := by decide +kernel
theorem dX13_begin_57 : decode cX13_begin 57 = .ok (.aload_n 0, 1) := by decide +kernel
theorem dX13_begin_58 : decode cX13_begin 58 = .ok (.getfield 205, 3) := by decide +kernel
theorem dX13_begin_61 : decode cX13_begin 61 = .ok (.iload_n 2, 1) := by decide +kernel
theorem dX13_begin_62 : decode cX13_begin 62 = .ok (.iconst (-1), 1) := by decide +kernel
theorem dX13_begin_63 : decode cX13_begin 63 = .ok (.iastore, 1) := by decide +kernel
theorem dX13_begin_64 : decode cX13_begin 64 = .ok (.iinc 2 1, 3) := by decide +kernel
theorem dX13_begin_67 : decode cX13_begin 67 = .ok (.goto (-16), 3) := by decide +kernel
theorem dX13_begin_70 : decode cX13_begin 70 = .ok (.iconst 0, 1) := by decide +kernel
theorem dX13_begin_71 : decode cX13_begin 71 = .ok (.istore_n 2, 1) := by decide +kernel
theorem dX13_begin_72 : decode cX13_begin 72 = .ok (.iload_n 2, 1) := by decide +kernel
theorem dX13_begin_73 : decode cX13_begin 73 = .ok (.bipush 12, 2) := by decide +kernel
theorem dX13_begin_75 : decode cX13_begin 75 = .ok (.if_icmp .ge 16, 3) := by decide +kernel
theorem dX13_begin_78 : decode cX13_begin 78 = .ok (.aload_n 0, 1) := by decide +kernel
theorem dX13_begin_79 : decode cX13_begin 79 = .ok (.getfield 217, 3) := by decide +kernel
theorem dX13_begin_82 : decode cX13_begin 82 = .ok (.iload_n 2, 1) := by decide +kernel
theorem dX13_begin_83 : decode cX13_begin 83 = .ok (.lconst 0, 1) := by decide +kernel
theorem dX13_begin_84 : decode cX13_begin 84 = .ok (.lastore, 1) := by decide +kernel
theorem dX13_begin_85 : decode cX13_begin 85 = .ok (.iinc 2 1, 3) := by decide +kernel
theorem dX13_begin_88 : decode cX13_begin 88 = .ok (.goto (-16), 3) := by decide +kernel
theorem dX13_begin_91 : decode cX13_begin 91 = .ok (.iconst 0, 1) := by decide +kernel
theorem dX13_begin_92 : decode cX13_begin 92 = .ok (.istore_n 2, 1) := by decide +kernel
theorem dX13_begin_93 : decode cX13_begin 93 = .ok (.iload_n 2, 1) := by decide +kernel
theorem dX13_begin_94 : decode cX13_begin 94 = .ok (.bipush 56, 2) := by decide +kernel
theorem dX13_begin_96 : decode cX13_begin 96 = .ok (.if_icmp .ge 16, 3) := by decide +kernel
theorem dX13_begin_99 : decode cX13_begin 99 = .ok (.aload_n 0, 1) := by decide +kernel
theorem dX13_begin_100 : decode cX13_begin 100 = .ok (.getfield 214, 3) := by decide +kernel
theorem dX13_begin_103 : decode cX13_begin 103 = .ok (.iload_n 2, 1) := by decide +kernel
theorem dX13_begin_104 : decode cX13_begin 104 = .ok (.iconst 0, 1) := by decide +kernel
theorem dX13_begin_105 : decode cX13_begin 105 = .ok (.iastore, 1) := by decide +kernel
theorem dX13_begin_106 : decode cX13_begin 106 = .ok (.iinc 2 1, 3) := by decide +kernel
theorem dX13_begin_109 : decode cX13_begin 109 = .ok (.goto (-16), 3) := by decide +kernel
theorem dX13_begin_112 : decode cX13_begin 112 = .ok (.iconst 0, 1) := by decide +kernel
theorem dX13_begin_113 : decode cX13_begin 113 = .ok (.istore_n 2, 1) := by decide +kernel
theorem dX13_begin_114 : decode cX13_begin 114 = .ok (.iload_n 2, 1) := by decide +kernel
theorem dX13_begin_115 : decode cX13_begin 115 = .ok (.aload_n 0, 1) := by decide +kernel
theorem dX13_begin_116 : decode cX13_begin 116 = .ok (.getfield 165, 3) := by decide +kernel
theorem dX13_begin_119 : decode cX13_begin 119 = .ok (.iconst 0, 1) := by decide +kernel
theorem dX13_begin_120 : decode cX13_begin 120 = .ok (.iaload, 1) := by decide +kernel
theorem dX13_begin_121 : decode cX13_begin 121 = .ok (.if_icmp .ge 16, 3) := by decide +kernel
theorem dX13_begin_124 : decode cX13_begin 124 = .ok (.aload_n 0, 1) := by decide +kernel
theorem dX13_begin_125 : decode cX13_begin 125 = .ok (.getfield 168, 3) := by decide +kernel
theorem dX13_begin_128 : decode cX13_begin 128 = .ok (.iload_n 2, 1) := by decide +kernel
theorem dX13_begin_129 : decode cX13_begin 129 = .ok (.iconst (-1), 1) := by decide +kernel
theorem dX13_begin_130 : decode cX13_begin 130 = .ok (.iastore, 1) := by decide +kernel
theorem dX13_begin_131 : decode cX13_begin 131 = .ok (.iinc 2 1, 3) := by decide +kernel
theorem dX13_begin_134 : decode cX13_begin 134 = .ok (.goto (-20), 3) := by decide +kernel
theorem dX13_begin_137 : decode cX13_begin 137 = .ok (.iconst 0, 1) := by decide +kernel
theorem dX13_begin_138 : decode cX13_begin 138 = .ok (.istore_n 2, 1) := by decide +kernel
theorem dX13_begin_139 : decode cX13_begin 139 = .ok (.iload_n 2, 1) := by decide +kernel
theorem dX13_begin_140 : decode cX13_begin 140 = .ok (.aload_n 0, 1) := by decide +kernel
theorem dX13_begin_141 : decode cX13_begin 141 = .ok (.getfield 153, 3) := by decide +kernel
theorem dX13_begin_144 : decode cX13_begin 144 = .ok (.iload_n 1, 1) := by decide +kernel
theorem dX13_begin_145 : decode cX13_begin 145 = .ok (.iaload, 1) := by decide +kernel
theorem dX13_begin_146 : decode cX13_begin 146 = .ok (.if_icmp .ge 19, 3) := by decide +kernel
theorem dX13_begin_149 : decode cX13_begin 149 = .ok (.aload_n 0, 1) := by decide +kernel
theorem dX13_begin_150 : decode cX13_begin 150 = .ok (.iload_n 1, 1) := by decide +kernel
theorem dX13_begin_151 : decode cX13_begin 151 = .ok (.bipush 60, 2) := by decide +kernel
theorem dX13_begin_153 : decode cX13_begin 153 = .ok (.imul, 1) := by decide +kernel
theorem dX13_begin_154 : decode cX13_begin 154 = .ok (.iload_n 2, 1) := by decide +kernel
theorem dX13_begin_155 : decode cX13_begin 155 = .ok (.iadd, 1) := by decide +kernel
theorem dX13_begin_156 : decode cX13_begin 156 = .ok (.invokevirtual 416, 3) := by decide +kernel
theorem dX13_begin_159 : decode cX13_begin 159 = .ok (.iinc 2 1, 3) := by decide +kernel
theorem dX13_begin_162 : decode cX13_begin 162 = .ok (.goto (-23), 3) := by decide +kernel
theorem dX13_begin_165 : decode cX13_begin 165 = .ok (.aload_n 0, 1) := by decide +kernel
theorem dX13_begin_166 : decode cX13_begin 166 = .ok (.iconst 0, 1) := by decide +kernel
theorem dX13_begin_167 : decode cX13_begin 167 = .ok (.putfield 419, 3) := by decide +kernel
theorem dX13_begin_170 : decode cX13_begin 170 = .ok (.aload_n 0, 1) := by decide +kernel
theorem dX13_begin_171 : decode cX13_begin 171 = .ok (.iconst 0, 1) := by decide +kernel
theorem dX13_begin_172 : decode cX13_begin 172 = .ok (.putfield 422, 3) := by decide +kernel
theorem dX13_begin_175 : decode cX13_begin 175 = .ok (.aload_n 0, 1) := by decide +kernel
theorem dX13_begin_176 : decode cX13_begin 176 = .ok (.iconst (-1), 1) := by decide +kernel
theorem dX13_begin_177 : decode cX13_begin 177 = .ok (.putfield 425, 3) := by decide +kernel
theorem dX13_begin_180 : decode cX13_begin 180 = .ok (.aload_n 0, 1) := by decide +kernel
theorem dX13_begin_181 : decode cX13_begin 181 = .ok (.iconst 0, 1) := by decide +kernel
theorem dX13_begin_182 : decode cX13_begin 182 = .ok (.putfield 428, 3) := by decide +kernel
theorem dX13_begin_185 : decode cX13_begin 185 = .ok (.aload_n 0, 1) := by decide +kernel
theorem dX13_begin_186 : decode cX13_begin 186 = .ok (.iconst 0, 1) := by decide +kernel
theorem dX13_begin_187 : decode cX13_begin 187 = .ok (.putfield 431, 3) := by decide +kernel
theorem dX13_begin_190 : decode cX13_begin 190 = .ok (.aload_n 0, 1) := by decide +kernel
theorem dX13_begin_191 : decode cX13_begin 191 = .ok (.iconst 0, 1) := by decide +kernel
theorem dX13_begin_192 : decode cX13_begin 192 = .ok (.putfield 434, 3) := by decide +kernel
theorem dX13_begin_195 : decode cX13_begin 195 = .ok (.return_, 1) := by decide +kernel
def b_begin_139 (g : Nat) (k139 : St → Int32 → Int32 → Option St) (S : St) (x1 : Int32) (x2 : Int32) : Option St :=
(aI S 11 x1).bind fun v_9 =>
if v_9 ≤ x2 then (
  lt (sI S 0 50 (0 : Int32)) fun S_10 =>
  lt (sI S_10 0 51 (0 : Int32)) fun S_11 =>
  lt (sI S_11 0 52 (-1 : Int32)) fun S_12 =>
  lt (sI S_12 0 53 (0 : Int32)) fun S_13 =>
  lt (sI S_13 0 54 (0 : Int32)) fun S_14 =>
  lt (sI S_14 0 55 (0 : Int32)) fun S_15 =>
  some S_15
) else (
  (m_literals g S ((x1 * (60 : Int32)) + x2)).bind fun S_16 =>
  lt (x2 + (1 : Int32)) fun x2_17 =>
  k139 S_16 x1 x2_17
)
def m_begin_139 (g : Nat) : Nat → St → Int32 → Int32 → Option St
  | 0, _, _, _ => none
  | n + 1, S, x1, x2 => b_begin_139 g (m_begin_139 g n) S x1 x2
def b_begin_114 (g : Nat) (k114 : St → Int32 → Int32 → Option St) (S : St) (x1 : Int32) (x2 : Int32) : Option St :=
(aI S 15 (0 : Int32)).bind fun v_8 =>
if v_8 ≤ x2 then (
  m_begin_139 g g S x1 (0 : Int32)
) else (
  (tI S 16 x2 (-1 : Int32)).bind fun S_9 =>
  lt (x2 + (1 : Int32)) fun x2_10 =>
  k114 S_9 x1 x2_10
)
def m_begin_114 (g : Nat) : Nat → St → Int32 → Int32 → Option St
  | 0, _, _, _ => none
  | n + 1, S, x1, x2 => b_begin_114 g (m_begin_114 g n) S x1 x2
def b_begin_93 (g : Nat) (k93 : St → Int32 → Int32 → Option St) (S : St) (x1 : Int32) (x2 : Int32) : Option St :=
if (56 : Int32) ≤ x2 then (
  m_begin_114 g g S x1 (0 : Int32)
) else (
  (tI S 31 x2 (0 : Int32)).bind fun S_8 =>
  lt (x2 + (1 : Int32)) fun x2_9 =>
  k93 S_8 x1 x2_9
)
def m_begin_93 (g : Nat) : Nat → St → Int32 → Int32 → Option St
  | 0, _, _, _ => none
  | n + 1, S, x1, x2 => b_begin_93 g (m_begin_93 g n) S x1 x2
def b_begin_72 (g : Nat) (k72 : St → Int32 → Int32 → Option St) (S : St) (x1 : Int32) (x2 : Int32) : Option St :=
if (12 : Int32) ≤ x2 then (
  m_begin_93 g g S x1 (0 : Int32)
) else (
  (tJ S 32 x2 (0 : Int64)).bind fun S_8 =>
  lt (x2 + (1 : Int32)) fun x2_9 =>
  k72 S_8 x1 x2_9
)
def m_begin_72 (g : Nat) : Nat → St → Int32 → Int32 → Option St
  | 0, _, _, _ => none
  | n + 1, S, x1, x2 => b_begin_72 g (m_begin_72 g n) S x1 x2
def b_begin_51 (g : Nat) (k51 : St → Int32 → Int32 → Option St) (S : St) (x1 : Int32) (x2 : Int32) : Option St :=
if (6 : Int32) ≤ x2 then (
  m_begin_72 g g S x1 (0 : Int32)
) else (
  (tI S 28 x2 (-1 : Int32)).bind fun S_8 =>
  lt (x2 + (1 : Int32)) fun x2_9 =>
  k51 S_8 x1 x2_9
)
def m_begin_51 (g : Nat) : Nat → St → Int32 → Int32 → Option St
  | 0, _, _, _ => none
  | n + 1, S, x1, x2 => b_begin_51 g (m_begin_51 g n) S x1 x2
def b_begin_30 (g : Nat) (k30 : St → Int32 → Int32 → Option St) (S : St) (x1 : Int32) (x2 : Int32) : Option St :=
if (20 : Int32) ≤ x2 then (
  m_begin_51 g g S x1 (0 : Int32)
) else (
  (tI S 26 x2 (-1 : Int32)).bind fun S_8 =>
  lt (x2 + (1 : Int32)) fun x2_9 =>
  k30 S_8 x1 x2_9
)
def m_begin_30 (g : Nat) : Nat → St → Int32 → Int32 → Option St
  | 0, _, _, _ => none
  | n + 1, S, x1, x2 => b_begin_30 g (m_begin_30 g n) S x1 x2
def m_begin (g : Nat) (S : St) (x1 : Int32) : Option St :=
lt (sI S 0 38 (0 : Int32)) fun S_1 =>
lt (sI S_1 0 39 (0 : Int32)) fun S_2 =>
lt (sI S_2 0 57 (0 : Int32)) fun S_3 =>
lt (sI S_3 0 41 (0 : Int32)) fun S_4 =>
(m_made g S_4).bind fun (S_5, v_6) =>
(m_pools g S_5 v_6).bind fun S_7 =>
m_begin_30 g g S_7 x1 (0 : Int32)
section S_begin
variable {p : Program} {l : Launch} {e : Env} {s : State} {m : MethodId} {args : Array Value} {below : List Frame} {meth : Method} {c : Code} {H : Heap} {locs : List Loc} {ls : Array Slot} {D : va_G} {T : Cy} {ρ : Nat → Nat} {A : Nat → Prop}
set_option maxRecDepth 100000 in
set_option maxHeartbeats 4000000 in
theorem wb_begin_139  {g : Nat} {S : St} {x1 : Int32} {x2 : Int32} (C : CallFix p m c cX13_begin 3 s args tb RX13) (hr : meth.sig.returnType = none) (hk : meth.locks = false) {S' : St} {k139 : St → Int32 → Int32 → Option St} (kk139 : ∀ (S : St) (x1 : Int32) (x2 : Int32) (H : Heap) (locs : List Loc) (ls : Array Slot), Wn Ym D T ρ S A s H locs → lv_has ls 3 [(0, .ref (ρ 0)), (1, .int x1), (2, .int x2)] → k139 S x1 x2 = some S' → W p l e (rmN 3 66) s m args below meth c H locs 0 0 (MQ below (Qv Ym D T ρ A S') args s 0 0 A) (F0 m 139 ls [])) (w : Wn Ym D T ρ S A s H locs) (hl : lv_has ls 3 [(0, .ref (ρ 0)), (1, .int x1), (2, .int x2)]) (h : b_begin_139 g k139 S x1 x2 = some S') : W p l e (rmN 3 66) s m args below meth c H locs 0 0 (MQ below (Qv Ym D T ρ A S') args s 0 0 A) (F0 m 139 ls []) := by
  unfold b_begin_139 at h
  refine lv_iload_n C.1 C.2.1 dX13_begin_139 rfl (lv_at hl 2 rfl) ?_
  refine lv_aload_n C.1 C.2.1 dX13_begin_140 rfl (lv_at hl 0 rfl) ?_
  refine x_getC C w 11 fM153 obM rfl dX13_begin_141 ?_
  refine lv_iload_n C.1 C.2.1 dX13_begin_144 rfl (lv_at hl 1 rfl) ?_
  obtain ⟨v_9, hv_9, h⟩ := bnd h
  refine x_iald C w obM11 hv_9 dX13_begin_145 ?_
  refine lv_icmp_ge (tgt := 165) C.1 C.2.1 dX13_begin_146 (by decide) (fun hc => ?_) (fun hc => ?_)
  · replace h := ift hc h
    refine lv_aload_n C.1 C.2.1 dX13_begin_165 rfl (lv_at hl 0 rfl) ?_
    refine lv_iconst (v := 0) C.1 C.2.1 dX13_begin_166 (by decide) ?_
    obtain ⟨S_10, eS_10, h⟩ := lt_e h
    refine y_putI C w eS_10 fM419 pM50 obM dX13_begin_167 (fun H locs w => ?_)
    refine lv_aload_n C.1 C.2.1 dX13_begin_170 rfl (lv_at hl 0 rfl) ?_
    refine lv_iconst (v := 0) C.1 C.2.1 dX13_begin_171 (by decide) ?_
    obtain ⟨S_11, eS_11, h⟩ := lt_e h
    refine y_putI C w eS_11 fM422 pM51 obM dX13_begin_172 (fun H locs w => ?_)
    refine lv_aload_n C.1 C.2.1 dX13_begin_175 rfl (lv_at hl 0 rfl) ?_
    refine lv_iconst (v := (-1)) C.1 C.2.1 dX13_begin_176 (by decide) ?_
    obtain ⟨S_12, eS_12, h⟩ := lt_e h
    refine y_putI C w eS_12 fM425 pM52 obM dX13_begin_177 (fun H locs w => ?_)
    refine lv_aload_n C.1 C.2.1 dX13_begin_180 rfl (lv_at hl 0 rfl) ?_
    refine lv_iconst (v := 0) C.1 C.2.1 dX13_begin_181 (by decide) ?_
    obtain ⟨S_13, eS_13, h⟩ := lt_e h
    refine y_putI C w eS_13 fM428 pM53 obM dX13_begin_182 (fun H locs w => ?_)
    refine lv_aload_n C.1 C.2.1 dX13_begin_185 rfl (lv_at hl 0 rfl) ?_
    refine lv_iconst (v := 0) C.1 C.2.1 dX13_begin_186 (by decide) ?_
    obtain ⟨S_14, eS_14, h⟩ := lt_e h
    refine y_putI C w eS_14 fM431 pM54 obM dX13_begin_187 (fun H locs w => ?_)
    refine lv_aload_n C.1 C.2.1 dX13_begin_190 rfl (lv_at hl 0 rfl) ?_
    refine lv_iconst (v := 0) C.1 C.2.1 dX13_begin_191 (by decide) ?_
    obtain ⟨S_15, eS_15, h⟩ := lt_e h
    refine y_putI C w eS_15 fM434 pM55 obM dX13_begin_192 (fun H locs w => ?_)
    obtain rfl := som h
    exact x_vret C w hr hk dX13_begin_195
  · replace h := iff0 hc h
    refine lv_aload_n C.1 C.2.1 dX13_begin_149 rfl (lv_at hl 0 rfl) ?_
    refine lv_iload_n C.1 C.2.1 dX13_begin_150 rfl (lv_at hl 1 rfl) ?_
    refine lv_bipush (v := 60) C.1 C.2.1 dX13_begin_151 (by decide) ?_
    refine lv_imul C.1 C.2.1 dX13_begin_153 ?_
    refine lv_iload_n C.1 C.2.1 dX13_begin_154 rfl (lv_at hl 2 rfl) ?_
    refine lv_iadd C.1 C.2.1 dX13_begin_155 ?_
    obtain ⟨S_16, hS_16, h⟩ := bnd h
    refine x_callVv (q := (RX13, TX13, 68)) (As := [.int ((x1 * (60 : Int32)) + x2)]) (rest := []) C w (k_literals l D T ρ g H.size S hS_16) vM416 ⟨by decide, by decide⟩ obM (by decide) rfl rfl rfl hl.1 (Nat.le_of_ble_eq_true rfl) ⟨Nat.zero_le _, Nat.zero_le _⟩ dX13_begin_156 (fun H locs w => ?_)
    obtain ⟨x2_17, ex2_17, h⟩ := lt_e h
    refine lv_iinc (v := x2_17) (lv' := [(2, .int x2_17), (0, .ref (ρ 0)), (1, .int x1)]) C.1 C.2.1 dX13_begin_159 hl (k := 2) rfl (by rw [ex2_17]; rfl) (by decide) rfl (fun ls hl => ?_)
    refine lv_goto (tgt := 139) C.1 C.2.1 dX13_begin_162 (by decide) ?_
    exact kk139 _ _ _ _ _ _ w (lv_sub hl [1, 2, 0] rfl) h
theorem w_begin_139 {g : Nat} (C : CallFix p m c cX13_begin 3 s args tb RX13) (hr : meth.sig.returnType = none) (hk : meth.locks = false) {S' : St} (n : Nat) : ∀ (S : St) (x1 : Int32) (x2 : Int32) (H : Heap) (locs : List Loc) (ls : Array Slot), Wn Ym D T ρ S A s H locs → lv_has ls 3 [(0, .ref (ρ 0)), (1, .int x1), (2, .int x2)] → m_begin_139 g n S x1 x2 = some S' → W p l e (rmN 3 66) s m args below meth c H locs 0 0 (MQ below (Qv Ym D T ρ A S') args s 0 0 A) (F0 m 139 ls []) := by
  induction n with
  | zero => intro S x1 x2 H locs ls w hl h; exact absurd h (fun q => by cases q)
  | succ n ih => intro S x1 x2 H locs ls w hl h; exact wb_begin_139 C hr hk ih w hl h
set_option maxRecDepth 100000 in
set_option maxHeartbeats 4000000 in
theorem wb_begin_114  {g : Nat} {S : St} {x1 : Int32} {x2 : Int32} (C : CallFix p m c cX13_begin 3 s args tb RX13) (hr : meth.sig.returnType = none) (hk : meth.locks = false) {S' : St} {k114 : St → Int32 → Int32 → Option St} (kk114 : ∀ (S : St) (x1 : Int32) (x2 : Int32) (H : Heap) (locs : List Loc) (ls : Array Slot), Wn Ym D T ρ S A s H locs → lv_has ls 3 [(0, .ref (ρ 0)), (1, .int x1), (2, .int x2)] → k114 S x1 x2 = some S' → W p l e (rmN 3 66) s m args below meth c H locs 0 0 (MQ below (Qv Ym D T ρ A S') args s 0 0 A) (F0 m 114 ls [])) (w : Wn Ym D T ρ S A s H locs) (hl : lv_has ls 3 [(0, .ref (ρ 0)), (1, .int x1), (2, .int x2)]) (h : b_begin_114 g k114 S x1 x2 = some S') : W p l e (rmN 3 66) s m args below meth c H locs 0 0 (MQ below (Qv Ym D T ρ A S') args s 0 0 A) (F0 m 114 ls []) := by
  unfold b_begin_114 at h
  refine lv_iload_n C.1 C.2.1 dX13_begin_114 rfl (lv_at hl 2 rfl) ?_
  refine lv_aload_n C.1 C.2.1 dX13_begin_115 rfl (lv_at hl 0 rfl) ?_
  refine x_getC C w 15 fM165 obM rfl dX13_begin_116 ?_
  refine lv_iconst (v := 0) C.1 C.2.1 dX13_begin_119 (by decide) ?_
  obtain ⟨v_8, hv_8, h⟩ := bnd h
  refine x_iald C w obM15 hv_8 dX13_begin_120 ?_
  refine lv_icmp_ge (tgt := 137) C.1 C.2.1 dX13_begin_121 (by decide) (fun hc => ?_) (fun hc => ?_)
  · replace h := ift hc h
    refine lv_iconst (v := 0) C.1 C.2.1 dX13_begin_137 (by decide) ?_
    refine lv_istore_n (lv' := [(2, .int (0 : Int32)), (0, .ref (ρ 0)), (1, .int x1)]) C.1 C.2.1 dX13_begin_138 rfl hl (by decide) rfl (fun ls hl => ?_)
    exact w_begin_139 C hr hk g _ _ _ _ _ _ w (lv_sub hl [1, 2, 0] rfl) h
  · replace h := iff0 hc h
    refine lv_aload_n C.1 C.2.1 dX13_begin_124 rfl (lv_at hl 0 rfl) ?_
    refine x_getC C w 16 fM168 obM rfl dX13_begin_125 ?_
    refine lv_iload_n C.1 C.2.1 dX13_begin_128 rfl (lv_at hl 2 rfl) ?_
    refine lv_iconst (v := (-1)) C.1 C.2.1 dX13_begin_129 (by decide) ?_
    obtain ⟨S_9, hS_9, h⟩ := bnd h
    refine x_iast C w obM16 hS_9 dX13_begin_130 (fun H locs w => ?_)
    obtain ⟨x2_10, ex2_10, h⟩ := lt_e h
    refine lv_iinc (v := x2_10) (lv' := [(2, .int x2_10), (0, .ref (ρ 0)), (1, .int x1)]) C.1 C.2.1 dX13_begin_131 hl (k := 2) rfl (by rw [ex2_10]; rfl) (by decide) rfl (fun ls hl => ?_)
    refine lv_goto (tgt := 114) C.1 C.2.1 dX13_begin_134 (by decide) ?_
    exact kk114 _ _ _ _ _ _ w (lv_sub hl [1, 2, 0] rfl) h
theorem w_begin_114 {g : Nat} (C : CallFix p m c cX13_begin 3 s args tb RX13) (hr : meth.sig.returnType = none) (hk : meth.locks = false) {S' : St} (n : Nat) : ∀ (S : St) (x1 : Int32) (x2 : Int32) (H : Heap) (locs : List Loc) (ls : Array Slot), Wn Ym D T ρ S A s H locs → lv_has ls 3 [(0, .ref (ρ 0)), (1, .int x1), (2, .int x2)] → m_begin_114 g n S x1 x2 = some S' → W p l e (rmN 3 66) s m args below meth c H locs 0 0 (MQ below (Qv Ym D T ρ A S') args s 0 0 A) (F0 m 114 ls []) := by
  induction n with
  | zero => intro S x1 x2 H locs ls w hl h; exact absurd h (fun q => by cases q)
  | succ n ih => intro S x1 x2 H locs ls w hl h; exact wb_begin_114 C hr hk ih w hl h
set_option maxRecDepth 100000 in
set_option maxHeartbeats 4000000 in
theorem wb_begin_93  {g : Nat} {S : St} {x1 : Int32} {x2 : Int32} (C : CallFix p m c cX13_begin 3 s args tb RX13) (hr : meth.sig.returnType = none) (hk : meth.locks = false) {S' : St} {k93 : St → Int32 → Int32 → Option St} (kk93 : ∀ (S : St) (x1 : Int32) (x2 : Int32) (H : Heap) (locs : List Loc) (ls : Array Slot), Wn Ym D T ρ S A s H locs → lv_has ls 3 [(0, .ref (ρ 0)), (1, .int x1), (2, .int x2)] → k93 S x1 x2 = some S' → W p l e (rmN 3 66) s m args below meth c H locs 0 0 (MQ below (Qv Ym D T ρ A S') args s 0 0 A) (F0 m 93 ls [])) (w : Wn Ym D T ρ S A s H locs) (hl : lv_has ls 3 [(0, .ref (ρ 0)), (1, .int x1), (2, .int x2)]) (h : b_begin_93 g k93 S x1 x2 = some S') : W p l e (rmN 3 66) s m args below meth c H locs 0 0 (MQ below (Qv Ym D T ρ A S') args s 0 0 A) (F0 m 93 ls []) := by
  unfold b_begin_93 at h
  refine lv_iload_n C.1 C.2.1 dX13_begin_93 rfl (lv_at hl 2 rfl) ?_
  refine lv_bipush (v := 56) C.1 C.2.1 dX13_begin_94 (by decide) ?_
  refine lv_icmp_ge (tgt := 112) C.1 C.2.1 dX13_begin_96 (by decide) (fun hc => ?_) (fun hc => ?_)
  · replace h := ift hc h
    refine lv_iconst (v := 0) C.1 C.2.1 dX13_begin_112 (by decide) ?_
    refine lv_istore_n (lv' := [(2, .int (0 : Int32)), (0, .ref (ρ 0)), (1, .int x1)]) C.1 C.2.1 dX13_begin_113 rfl hl (by decide) rfl (fun ls hl => ?_)
    exact w_begin_114 C hr hk g _ _ _ _ _ _ w (lv_sub hl [1, 2, 0] rfl) h
  · replace h := iff0 hc h
    refine lv_aload_n C.1 C.2.1 dX13_begin_99 rfl (lv_at hl 0 rfl) ?_
    refine x_getC C w 31 fM214 obM rfl dX13_begin_100 ?_
    refine lv_iload_n C.1 C.2.1 dX13_begin_103 rfl (lv_at hl 2 rfl) ?_
    refine lv_iconst (v := 0) C.1 C.2.1 dX13_begin_104 (by decide) ?_
    obtain ⟨S_8, hS_8, h⟩ := bnd h
    refine x_iast C w obM31 hS_8 dX13_begin_105 (fun H locs w => ?_)
    obtain ⟨x2_9, ex2_9, h⟩ := lt_e h
    refine lv_iinc (v := x2_9) (lv' := [(2, .int x2_9), (0, .ref (ρ 0)), (1, .int x1)]) C.1 C.2.1 dX13_begin_106 hl (k := 2) rfl (by rw [ex2_9]; rfl) (by decide) rfl (fun ls hl => ?_)
    refine lv_goto (tgt := 93) C.1 C.2.1 dX13_begin_109 (by decide) ?_
    exact kk93 _ _ _ _ _ _ w (lv_sub hl [1, 2, 0] rfl) h
theorem w_begin_93 {g : Nat} (C : CallFix p m c cX13_begin 3 s args tb RX13) (hr : meth.sig.returnType = none) (hk : meth.locks = false) {S' : St} (n : Nat) : ∀ (S : St) (x1 : Int32) (x2 : Int32) (H : Heap) (locs : List Loc) (ls : Array Slot), Wn Ym D T ρ S A s H locs → lv_has ls 3 [(0, .ref (ρ 0)), (1, .int x1), (2, .int x2)] → m_begin_93 g n S x1 x2 = some S' → W p l e (rmN 3 66) s m args below meth c H locs 0 0 (MQ below (Qv Ym D T ρ A S') args s 0 0 A) (F0 m 93 ls []) := by
  induction n with
  | zero => intro S x1 x2 H locs ls w hl h; exact absurd h (fun q => by cases q)
  | succ n ih => intro S x1 x2 H locs ls w hl h; exact wb_begin_93 C hr hk ih w hl h
set_option maxRecDepth 100000 in
set_option maxHeartbeats 4000000 in
theorem wb_begin_72  {g : Nat} {S : St} {x1 : Int32} {x2 : Int32} (C : CallFix p m c cX13_begin 3 s args tb RX13) (hr : meth.sig.returnType = none) (hk : meth.locks = false) {S' : St} {k72 : St → Int32 → Int32 → Option St} (kk72 : ∀ (S : St) (x1 : Int32) (x2 : Int32) (H : Heap) (locs : List Loc) (ls : Array Slot), Wn Ym D T ρ S A s H locs → lv_has ls 3 [(0, .ref (ρ 0)), (1, .int x1), (2, .int x2)] → k72 S x1 x2 = some S' → W p l e (rmN 3 66) s m args below meth c H locs 0 0 (MQ below (Qv Ym D T ρ A S') args s 0 0 A) (F0 m 72 ls [])) (w : Wn Ym D T ρ S A s H locs) (hl : lv_has ls 3 [(0, .ref (ρ 0)), (1, .int x1), (2, .int x2)]) (h : b_begin_72 g k72 S x1 x2 = some S') : W p l e (rmN 3 66) s m args below meth c H locs 0 0 (MQ below (Qv Ym D T ρ A S') args s 0 0 A) (F0 m 72 ls []) := by
  unfold b_begin_72 at h
  refine lv_iload_n C.1 C.2.1 dX13_begin_72 rfl (lv_at hl 2 rfl) ?_
  refine lv_bipush (v := 12) C.1 C.2.1 dX13_begin_73 (by decide) ?_
  refine lv_icmp_ge (tgt := 91) C.1 C.2.1 dX13_begin_75 (by decide) (fun hc => ?_) (fun hc => ?_)
  · replace h := ift hc h
    refine lv_iconst (v := 0) C.1 C.2.1 dX13_begin_91 (by decide) ?_
    refine lv_istore_n (lv' := [(2, .int (0 : Int32)), (0, .ref (ρ 0)), (1, .int x1)]) C.1 C.2.1 dX13_begin_92 rfl hl (by decide) rfl (fun ls hl => ?_)
    exact w_begin_93 C hr hk g _ _ _ _ _ _ w (lv_sub hl [1, 2, 0] rfl) h
  · replace h := iff0 hc h
    refine lv_aload_n C.1 C.2.1 dX13_begin_78 rfl (lv_at hl 0 rfl) ?_
    refine x_getC C w 32 fM217 obM rfl dX13_begin_79 ?_
    refine lv_iload_n C.1 C.2.1 dX13_begin_82 rfl (lv_at hl 2 rfl) ?_
    refine lv_lconst (v := 0) C.1 C.2.1 dX13_begin_83 (by decide) ?_
    obtain ⟨S_8, hS_8, h⟩ := bnd h
    refine x_last C w obM32 hS_8 dX13_begin_84 (fun H locs w => ?_)
    obtain ⟨x2_9, ex2_9, h⟩ := lt_e h
    refine lv_iinc (v := x2_9) (lv' := [(2, .int x2_9), (0, .ref (ρ 0)), (1, .int x1)]) C.1 C.2.1 dX13_begin_85 hl (k := 2) rfl (by rw [ex2_9]; rfl) (by decide) rfl (fun ls hl => ?_)
    refine lv_goto (tgt := 72) C.1 C.2.1 dX13_begin_88 (by decide) ?_
    exact kk72 _ _ _ _ _ _ w (lv_sub hl [1, 2, 0] rfl) h
theorem w_begin_72 {g : Nat} (C : CallFix p m c cX13_begin 3 s args tb RX13) (hr : meth.sig.returnType = none) (hk : meth.locks = false) {S' : St} (n : Nat) : ∀ (S : St) (x1 : Int32) (x2 : Int32) (H : Heap) (locs : List Loc) (ls : Array Slot), Wn Ym D T ρ S A s H locs → lv_has ls 3 [(0, .ref (ρ 0)), (1, .int x1), (2, .int x2)] → m_begin_72 g n S x1 x2 = some S' → W p l e (rmN 3 66) s m args below meth c H locs 0 0 (MQ below (Qv Ym D T ρ A S') args s 0 0 A) (F0 m 72 ls []) := by
  induction n with
  | zero => intro S x1 x2 H locs ls w hl h; exact absurd h (fun q => by cases q)
  | succ n ih => intro S x1 x2 H locs ls w hl h; exact wb_begin_72 C hr hk ih w hl h
set_option maxRecDepth 100000 in
set_option maxHeartbeats 4000000 in
theorem wb_begin_51  {g : Nat} {S : St} {x1 : Int32} {x2 : Int32} (C : CallFix p m c cX13_begin 3 s args tb RX13) (hr : meth.sig.returnType = none) (hk : meth.locks = false) {S' : St} {k51 : St → Int32 → Int32 → Option St} (kk51 : ∀ (S : St) (x1 : Int32) (x2 : Int32) (H : Heap) (locs : List Loc) (ls : Array Slot), Wn Ym D T ρ S A s H locs → lv_has ls 3 [(0, .ref (ρ 0)), (1, .int x1), (2, .int x2)] → k51 S x1 x2 = some S' → W p l e (rmN 3 66) s m args below meth c H locs 0 0 (MQ below (Qv Ym D T ρ A S') args s 0 0 A) (F0 m 51 ls [])) (w : Wn Ym D T ρ S A s H locs) (hl : lv_has ls 3 [(0, .ref (ρ 0)), (1, .int x1), (2, .int x2)]) (h : b_begin_51 g k51 S x1 x2 = some S') : W p l e (rmN 3 66) s m args below meth c H locs 0 0 (MQ below (Qv Ym D T ρ A S') args s 0 0 A) (F0 m 51 ls []) := by
  unfold b_begin_51 at h
  refine lv_iload_n C.1 C.2.1 dX13_begin_51 rfl (lv_at hl 2 rfl) ?_
  refine lv_bipush (v := 6) C.1 C.2.1 dX13_begin_52 (by decide) ?_
  refine lv_icmp_ge (tgt := 70) C.1 C.2.1 dX13_begin_54 (by decide) (fun hc => ?_) (fun hc => ?_)
  · replace h := ift hc h
    refine lv_iconst (v := 0) C.1 C.2.1 dX13_begin_70 (by decide) ?_
    refine lv_istore_n (lv' := [(2, .int (0 : Int32)), (0, .ref (ρ 0)), (1, .int x1)]) C.1 C.2.1 dX13_begin_71 rfl hl (by decide) rfl (fun ls hl => ?_)
    exact w_begin_72 C hr hk g _ _ _ _ _ _ w (lv_sub hl [1, 2, 0] rfl) h
  · replace h := iff0 hc h
    refine lv_aload_n C.1 C.2.1 dX13_begin_57 rfl (lv_at hl 0 rfl) ?_
    refine x_getC C w 28 fM205 obM rfl dX13_begin_58 ?_
    refine lv_iload_n C.1 C.2.1 dX13_begin_61 rfl (lv_at hl 2 rfl) ?_
    refine lv_iconst (v := (-1)) C.1 C.2.1 dX13_begin_62 (by decide) ?_
    obtain ⟨S_8, hS_8, h⟩ := bnd h
    refine x_iast C w obM28 hS_8 dX13_begin_63 (fun H locs w => ?_)
    obtain ⟨x2_9, ex2_9, h⟩ := lt_e h
    refine lv_iinc (v := x2_9) (lv' := [(2, .int x2_9), (0, .ref (ρ 0)), (1, .int x1)]) C.1 C.2.1 dX13_begin_64 hl (k := 2) rfl (by rw [ex2_9]; rfl) (by decide) rfl (fun ls hl => ?_)
    refine lv_goto (tgt := 51) C.1 C.2.1 dX13_begin_67 (by decide) ?_
    exact kk51 _ _ _ _ _ _ w (lv_sub hl [1, 2, 0] rfl) h
theorem w_begin_51 {g : Nat} (C : CallFix p m c cX13_begin 3 s args tb RX13) (hr : meth.sig.returnType = none) (hk : meth.locks = false) {S' : St} (n : Nat) : ∀ (S : St) (x1 : Int32) (x2 : Int32) (H : Heap) (locs : List Loc) (ls : Array Slot), Wn Ym D T ρ S A s H locs → lv_has ls 3 [(0, .ref (ρ 0)), (1, .int x1), (2, .int x2)] → m_begin_51 g n S x1 x2 = some S' → W p l e (rmN 3 66) s m args below meth c H locs 0 0 (MQ below (Qv Ym D T ρ A S') args s 0 0 A) (F0 m 51 ls []) := by
  induction n with
  | zero => intro S x1 x2 H locs ls w hl h; exact absurd h (fun q => by cases q)
  | succ n ih => intro S x1 x2 H locs ls w hl h; exact wb_begin_51 C hr hk ih w hl h
set_option maxRecDepth 100000 in
set_option maxHeartbeats 4000000 in
theorem wb_begin_30  {g : Nat} {S : St} {x1 : Int32} {x2 : Int32} (C : CallFix p m c cX13_begin 3 s args tb RX13) (hr : meth.sig.returnType = none) (hk : meth.locks = false) {S' : St} {k30 : St → Int32 → Int32 → Option St} (kk30 : ∀ (S : St) (x1 : Int32) (x2 : Int32) (H : Heap) (locs : List Loc) (ls : Array Slot), Wn Ym D T ρ S A s H locs → lv_has ls 3 [(0, .ref (ρ 0)), (1, .int x1), (2, .int x2)] → k30 S x1 x2 = some S' → W p l e (rmN 3 66) s m args below meth c H locs 0 0 (MQ below (Qv Ym D T ρ A S') args s 0 0 A) (F0 m 30 ls [])) (w : Wn Ym D T ρ S A s H locs) (hl : lv_has ls 3 [(0, .ref (ρ 0)), (1, .int x1), (2, .int x2)]) (h : b_begin_30 g k30 S x1 x2 = some S') : W p l e (rmN 3 66) s m args below meth c H locs 0 0 (MQ below (Qv Ym D T ρ A S') args s 0 0 A) (F0 m 30 ls []) := by
  unfold b_begin_30 at h
  refine lv_iload_n C.1 C.2.1 dX13_begin_30 rfl (lv_at hl 2 rfl) ?_
  refine lv_bipush (v := 20) C.1 C.2.1 dX13_begin_31 (by decide) ?_
  refine lv_icmp_ge (tgt := 49) C.1 C.2.1 dX13_begin_33 (by decide) (fun hc => ?_) (fun hc => ?_)
  · replace h := ift hc h
    refine lv_iconst (v := 0) C.1 C.2.1 dX13_begin_49 (by decide) ?_
    refine lv_istore_n (lv' := [(2, .int (0 : Int32)), (0, .ref (ρ 0)), (1, .int x1)]) C.1 C.2.1 dX13_begin_50 rfl hl (by decide) rfl (fun ls hl => ?_)
    exact w_begin_51 C hr hk g _ _ _ _ _ _ w (lv_sub hl [1, 2, 0] rfl) h
  · replace h := iff0 hc h
    refine lv_aload_n C.1 C.2.1 dX13_begin_36 rfl (lv_at hl 0 rfl) ?_
    refine x_getC C w 26 fM199 obM rfl dX13_begin_37 ?_
    refine lv_iload_n C.1 C.2.1 dX13_begin_40 rfl (lv_at hl 2 rfl) ?_
    refine lv_iconst (v := (-1)) C.1 C.2.1 dX13_begin_41 (by decide) ?_
    obtain ⟨S_8, hS_8, h⟩ := bnd h
    refine x_iast C w obM26 hS_8 dX13_begin_42 (fun H locs w => ?_)
    obtain ⟨x2_9, ex2_9, h⟩ := lt_e h
    refine lv_iinc (v := x2_9) (lv' := [(2, .int x2_9), (0, .ref (ρ 0)), (1, .int x1)]) C.1 C.2.1 dX13_begin_43 hl (k := 2) rfl (by rw [ex2_9]; rfl) (by decide) rfl (fun ls hl => ?_)
    refine lv_goto (tgt := 30) C.1 C.2.1 dX13_begin_46 (by decide) ?_
    exact kk30 _ _ _ _ _ _ w (lv_sub hl [1, 2, 0] rfl) h
theorem w_begin_30 {g : Nat} (C : CallFix p m c cX13_begin 3 s args tb RX13) (hr : meth.sig.returnType = none) (hk : meth.locks = false) {S' : St} (n : Nat) : ∀ (S : St) (x1 : Int32) (x2 : Int32) (H : Heap) (locs : List Loc) (ls : Array Slot), Wn Ym D T ρ S A s H locs → lv_has ls 3 [(0, .ref (ρ 0)), (1, .int x1), (2, .int x2)] → m_begin_30 g n S x1 x2 = some S' → W p l e (rmN 3 66) s m args below meth c H locs 0 0 (MQ below (Qv Ym D T ρ A S') args s 0 0 A) (F0 m 30 ls []) := by
  induction n with
  | zero => intro S x1 x2 H locs ls w hl h; exact absurd h (fun q => by cases q)
  | succ n ih => intro S x1 x2 H locs ls w hl h; exact wb_begin_30 C hr hk ih w hl h
set_option maxRecDepth 100000 in
set_option maxHeartbeats 4000000 in
theorem w_begin_0  {g : Nat} {S : St} {x1 : Int32} (C : CallFix p m c cX13_begin 3 s args tb RX13) (hr : meth.sig.returnType = none) (hk : meth.locks = false) {S' : St} (w : Wn Ym D T ρ S A s H locs) (hl : lv_has ls 3 [(0, .ref (ρ 0)), (1, .int x1)]) (h : m_begin g S x1 = some S') : W p l e (rmN 3 66) s m args below meth c H locs 0 0 (MQ below (Qv Ym D T ρ A S') args s 0 0 A) (F0 m 0 ls []) := by
  unfold m_begin at h
  refine lv_aload_n C.1 C.2.1 dX13_begin_0 rfl (lv_at hl 0 rfl) ?_
  refine lv_iconst (v := 0) C.1 C.2.1 dX13_begin_1 (by decide) ?_
  obtain ⟨S_1, eS_1, h⟩ := lt_e h
  refine y_putI C w eS_1 fM401 pM38 obM dX13_begin_2 (fun H locs w => ?_)
  refine lv_aload_n C.1 C.2.1 dX13_begin_5 rfl (lv_at hl 0 rfl) ?_
  refine lv_iconst (v := 0) C.1 C.2.1 dX13_begin_6 (by decide) ?_
  obtain ⟨S_2, eS_2, h⟩ := lt_e h
  refine y_putI C w eS_2 fM404 pM39 obM dX13_begin_7 (fun H locs w => ?_)
  refine lv_aload_n C.1 C.2.1 dX13_begin_10 rfl (lv_at hl 0 rfl) ?_
  refine lv_iconst (v := 0) C.1 C.2.1 dX13_begin_11 (by decide) ?_
  obtain ⟨S_3, eS_3, h⟩ := lt_e h
  refine y_putI C w eS_3 fM395 pM57 obM dX13_begin_12 (fun H locs w => ?_)
  refine lv_aload_n C.1 C.2.1 dX13_begin_15 rfl (lv_at hl 0 rfl) ?_
  refine lv_iconst (v := 0) C.1 C.2.1 dX13_begin_16 (by decide) ?_
  obtain ⟨S_4, eS_4, h⟩ := lt_e h
  refine y_putI C w eS_4 fM410 pM41 obM dX13_begin_17 (fun H locs w => ?_)
  refine lv_aload_n C.1 C.2.1 dX13_begin_20 rfl (lv_at hl 0 rfl) ?_
  refine lv_aload_n C.1 C.2.1 dX13_begin_21 rfl (lv_at hl 0 rfl) ?_
  obtain ⟨⟨S_5, v_6⟩, hv_6, h⟩ := bnd h
  refine x_callVi (q := (RX13, TX13, 68)) (As := []) (rest := [.ref (ρ 0)]) C w (k_made l D T ρ g H.size S_4 hv_6) vM407 ⟨by decide, by decide⟩ obM (by decide) rfl rfl rfl hl.1 (Nat.le_of_ble_eq_true rfl) ⟨Nat.zero_le _, Nat.zero_le _⟩ dX13_begin_22 (fun H locs w => ?_)
  obtain ⟨S_7, hS_7, h⟩ := bnd h
  refine x_callVv (q := (RX13, TX13, 68)) (As := [.int v_6]) (rest := []) C w (k_pools l D T ρ g H.size S_5 hS_7) vM413 ⟨by decide, by decide⟩ obM (by decide) rfl rfl rfl hl.1 (Nat.le_of_ble_eq_true rfl) ⟨Nat.zero_le _, Nat.zero_le _⟩ dX13_begin_25 (fun H locs w => ?_)
  refine lv_iconst (v := 0) C.1 C.2.1 dX13_begin_28 (by decide) ?_
  refine lv_istore_n (lv' := [(2, .int (0 : Int32)), (0, .ref (ρ 0)), (1, .int x1)]) C.1 C.2.1 dX13_begin_29 rfl hl (by decide) rfl (fun ls hl => ?_)
  exact w_begin_30 C hr hk g _ _ _ _ _ _ w (lv_sub hl [1, 2, 0] rfl) h
end S_begin
set_option maxRecDepth 100000 in
theorem k_begin (l : Launch) (D : va_G) (T : Cy) (ρ : Nat → Nat) (g sz : Nat) (S : St) {x1 : Int32} {S' : St} (h : m_begin g S x1 = some S') : Mv l Ym D T ρ yX13_begin cX13_begin 3 none 3 66 S S' [.ref (ρ 0), .int x1] sz :=
  x_in (by decide) (Nat.le_of_ble_eq_true rfl) (fun p e s m below meth c ls C hr hk w hl => w_begin_0 C hr hk w hl h)

theorem dX13_copyStep_0 : decode cX13_copyStep 0 = .ok (.aload_n 0, 1) := by decide +kernel
theorem dX13_copyStep_1 : decode cX13_copyStep 1 = .ok (.getfield 138, 3) := by decide +kernel
theorem dX13_copyStep_4 : decode cX13_copyStep 4 = .ok (.iload_n 2, 1) := by decide +kernel
theorem dX13_copyStep_5 : decode cX13_copyStep 5 = .ok (.aload_n 0, 1) := by decide +kernel
theorem dX13_copyStep_6 : decode cX13_copyStep 6 = .ok (.getfield 138, 3) := by decide +kernel
theorem dX13_copyStep_9 : decode cX13_copyStep 9 = .ok (.iload_n 1, 1) := by decide +kernel
theorem dX13_copyStep_10 : decode cX13_copyStep 10 = .ok (.iaload, 1) := by decide +kernel
theorem dX13_copyStep_11 : decode cX13_copyStep 11 = .ok (.iastore, 1) := by decide +kernel
theorem dX13_copyStep_12 : decode cX13_copyStep 12 = .ok (.aload_n 0, 1) := by decide +kernel
theorem dX13_copyStep_13 : decode cX13_copyStep 13 = .ok (.getfield 141, 3) := by decide +kernel
theorem dX13_copyStep_16 : decode cX13_copyStep 16 = .ok (.iload_n 2, 1) := by decide +kernel
theorem dX13_copyStep_17 : decode cX13_copyStep 17 = .ok (.aload_n 0, 1) := by decide +kernel
theorem dX13_copyStep_18 : decode cX13_copyStep 18 = .ok (.getfield 141, 3) := by decide +kernel
theorem dX13_copyStep_21 : decode cX13_copyStep 21 = .ok (.iload_n 1, 1) := by decide +kernel
theorem dX13_copyStep_22 : decode cX13_copyStep 22 = .ok (.iaload, 1) := by decide +kernel
theorem dX13_copyStep_23 : decode cX13_copyStep 23 = .ok (.iastore, 1) := by decide +kernel
theorem dX13_copyStep_24 : decode cX13_copyStep 24 = .ok (.iconst 0, 1) := by decide +kernel
theorem dX13_copyStep_25 : decode cX13_copyStep 25 = .ok (.istore_n 3, 1) := by decide +kernel
theorem dX13_copyStep_26 : decode cX13_copyStep 26 = .ok (.iload_n 3, 1) := by decide +kernel
theorem dX13_copyStep_27 : decode cX13_copyStep 27 = .ok (.aload_n 0, 1) := by decide +kernel
theorem dX13_copyStep_28 : decode cX13_copyStep 28 = .ok (.getfield 141, 3) := by decide +kernel
theorem dX13_copyStep_31 : decode cX13_copyStep 31 = .ok (.iload_n 1, 1) := by decide +kernel
theorem dX13_copyStep_32 : decode cX13_copyStep 32 = .ok (.iaload, 1) := by decide +kernel
theorem dX13_copyStep_33 : decode cX13_copyStep 33 = .ok (.if_icmp .ge 75, 3) := by decide +kernel
theorem dX13_copyStep_36 : decode cX13_copyStep 36 = .ok (.aload_n 0, 1) := by decide +kernel
theorem dX13_copyStep_37 : decode cX13_copyStep 37 = .ok (.getfield 144, 3) := by decide +kernel
theorem dX13_copyStep_40 : decode cX13_copyStep 40 = .ok (.bipush 10, 2) := by decide +kernel
theorem dX13_copyStep_42 : decode cX13_copyStep 42 = .ok (.iload_n 2, 1) := by decide +kernel
theorem dX13_copyStep_43 : decode cX13_copyStep 43 = .ok (.imul, 1) := by decide +kernel
theorem dX13_copyStep_44 : decode cX13_copyStep 44 = .ok (.iload_n 3, 1) := by decide +kernel
theorem dX13_copyStep_45 : decode cX13_copyStep 45 = .ok (.iadd, 1) := by decide +kernel
theorem dX13_copyStep_46 : decode cX13_copyStep 46 = .ok (.aload_n 0, 1) := by decide +kernel
theorem dX13_copyStep_47 : decode cX13_copyStep 47 = .ok (.getfield 144, 3) := by decide +kernel
theorem dX13_copyStep_50 : decode cX13_copyStep 50 = .ok (.bipush 10, 2) := by decide +kernel
theorem dX13_copyStep_52 : decode cX13_copyStep 52 = .ok (.iload_n 1, 1) := by decide +kernel
theorem dX13_copyStep_53 : decode cX13_copyStep 53 = .ok (.imul, 1) := by decide +kernel
theorem dX13_copyStep_54 : decode cX13_copyStep 54 = .ok (.iload_n 3, 1) := by decide +kernel
theorem dX13_copyStep_55 : decode cX13_copyStep 55 = .ok (.iadd, 1) := by decide +kernel
theorem dX13_copyStep_56 : decode cX13_copyStep 56 = .ok (.iaload, 1) := by decide +kernel
theorem dX13_copyStep_57 : decode cX13_copyStep 57 = .ok (.iastore, 1) := by decide +kernel
theorem dX13_copyStep_58 : decode cX13_copyStep 58 = .ok (.aload_n 0, 1) := by decide +kernel
theorem dX13_copyStep_59 : decode cX13_copyStep 59 = .ok (.getfield 150, 3) := by decide +kernel
theorem dX13_copyStep_62 : decode cX13_copyStep 62 = .ok (.bipush 10, 2) := by decide +kernel
theorem dX13_copyStep_64 : decode cX13_copyStep 64 = .ok (.iload_n 2, 1) := by decide +kernel
theorem dX13_copyStep_65 : decode cX13_copyStep 65 = .ok (.imul, 1) := by decide +kernel
theorem dX13_copyStep_66 : decode cX13_copyStep 66 = .ok (.iload_n 3, 1) := by decide +kernel
theorem dX13_copyStep_67 : decode cX13_copyStep 67 = .ok (.iadd, 1) := by decide +kernel
theorem dX13_copyStep_68 : decode cX13_copyStep 68 = .ok (.aload_n 0, 1) := by decide +kernel
theorem dX13_copyStep_69 : decode cX13_copyStep 69 = .ok (.getfield 150, 3) := by decide +kernel
theorem dX13_copyStep_72 : decode cX13_copyStep 72 = .ok (.bipush 10, 2) := by decide +kernel
theorem dX13_copyStep_74 : decode cX13_copyStep 74 = .ok (.iload_n 1, 1) := by decide +kernel
theorem dX13_copyStep_75 : decode cX13_copyStep 75 = .ok (.imul, 1) := by decide +kernel
theorem dX13_copyStep_76 : decode cX13_copyStep 76 = .ok (.iload_n 3, 1) := by decide +kernel
theorem dX13_copyStep_77 : decode cX13_copyStep 77 = .ok (.iadd, 1) := by decide +kernel
theorem dX13_copyStep_78 : decode cX13_copyStep 78 = .ok (.laload, 1) := by decide +kernel
theorem dX13_copyStep_79 : decode cX13_copyStep 79 = .ok (.lastore, 1) := by decide +kernel
theorem dX13_copyStep_80 : decode cX13_copyStep 80 = .ok (.aload_n 0, 1) := by decide +kernel
theorem dX13_copyStep_81 : decode cX13_copyStep 81 = .ok (.getfield 147, 3) := by decide +kernel
theorem dX13_copyStep_84 : decode cX13_copyStep 84 = .ok (.bipush 10, 2) := by decide +kernel
theorem dX13_copyStep_86 : decode cX13_copyStep 86 = .ok (.iload_n 2, 1) := by decide +kernel
theorem dX13_copyStep_87 : decode cX13_copyStep 87 = .ok (.imul, 1) := by decide +kernel
theorem dX13_copyStep_88 : decode cX13_copyStep 88 = .ok (.iload_n 3, 1) := by decide +kernel
theorem dX13_copyStep_89 : decode cX13_copyStep 89 = .ok (.iadd, 1) := by decide +kernel
theorem dX13_copyStep_90 : decode cX13_copyStep 90 = .ok (.aload_n 0, 1) := by decide +kernel
theorem dX13_copyStep_91 : decode cX13_copyStep 91 = .ok (.getfield 147, 3) := by decide +kernel
theorem dX13_copyStep_94 : decode cX13_copyStep 94 = .ok (.bipush 10, 2) := by decide +kernel
theorem dX13_copyStep_96 : decode cX13_copyStep 96 = .ok (.iload_n 1, 1) := by decide +kernel
theorem dX13_copyStep_97 : decode cX13_copyStep 97 = .ok (.imul, 1) := by decide +kernel
theorem dX13_copyStep_98 : decode cX13_copyStep 98 = .ok (.iload_n 3, 1) := by decide +kernel
theorem dX13_copyStep_99 : decode cX13_copyStep 99 = .ok (.iadd, 1) := by decide +kernel
theorem dX13_copyStep_100 : decode cX13_copyStep 100 = .ok (.iaload, 1) := by decide +kernel
theorem dX13_copyStep_101 : decode cX13_copyStep 101 = .ok (.iastore, 1) := by decide +kernel
theorem dX13_copyStep_102 : decode cX13_copyStep 102 = .ok (.iinc 3 1, 3) := by decide +kernel
theorem dX13_copyStep_105 : decode cX13_copyStep 105 = .ok (.goto (-79), 3) := by decide +kernel
theorem dX13_copyStep_108 : decode cX13_copyStep 108 = .ok (.return_, 1) := by decide +kernel
def b_copyStep_26 (g : Nat) (k26 : St → Int32 → Int32 → Int32 → Option St) (S : St) (x1 : Int32) (x2 : Int32) (x3 : Int32) : Option St :=
(aI S 7 x1).bind fun v_5 =>
if v_5 ≤ x3 then (
  some S
) else (
  (aI S 8 (((10 : Int32) * x1) + x3)).bind fun v_6 =>
  (tI S 8 (((10 : Int32) * x2) + x3) v_6).bind fun S_7 =>
  (aJ S_7 10 (((10 : Int32) * x1) + x3)).bind fun v_8 =>
  (tJ S_7 10 (((10 : Int32) * x2) + x3) v_8).bind fun S_9 =>
  (aI S_9 9 (((10 : Int32) * x1) + x3)).bind fun v_10 =>
  (tI S_9 9 (((10 : Int32) * x2) + x3) v_10).bind fun S_11 =>
  lt (x3 + (1 : Int32)) fun x3_12 =>
  k26 S_11 x1 x2 x3_12
)
def m_copyStep_26 (g : Nat) : Nat → St → Int32 → Int32 → Int32 → Option St
  | 0, _, _, _, _ => none
  | n + 1, S, x1, x2, x3 => b_copyStep_26 g (m_copyStep_26 g n) S x1 x2 x3
def m_copyStep (g : Nat) (S : St) (x1 : Int32) (x2 : Int32) : Option St :=
(aI S 6 x1).bind fun v_1 =>
(tI S 6 x2 v_1).bind fun S_2 =>
(aI S_2 7 x1).bind fun v_3 =>
(tI S_2 7 x2 v_3).bind fun S_4 =>
m_copyStep_26 g g S_4 x1 x2 (0 : Int32)
section S_copyStep
variable {p : Program} {l : Launch} {e : Env} {s : State} {m : MethodId} {args : Array Value} {below : List Frame} {meth : Method} {c : Code} {H : Heap} {locs : List Loc} {ls : Array Slot} {D : va_G} {T : Cy} {ρ : Nat → Nat} {A : Nat → Prop}
set_option maxRecDepth 100000 in
set_option maxHeartbeats 4000000 in
theorem wb_copyStep_26  {g : Nat} {S : St} {x1 : Int32} {x2 : Int32} {x3 : Int32} (C : CallFix p m c cX13_copyStep 4 s args tb RX13) (hr : meth.sig.returnType = none) (hk : meth.locks = false) {S' : St} {k26 : St → Int32 → Int32 → Int32 → Option St} (kk26 : ∀ (S : St) (x1 : Int32) (x2 : Int32) (x3 : Int32) (H : Heap) (locs : List Loc) (ls : Array Slot), Wn Ym D T ρ S A s H locs → lv_has ls 4 [(0, .ref (ρ 0)), (1, .int x1), (2, .int x2), (3, .int x3)] → k26 S x1 x2 x3 = some S' → W p l e (rmN 0 0) s m args below meth c H locs 0 0 (MQ below (Qv Ym D T ρ A S') args s 0 0 A) (F0 m 26 ls [])) (w : Wn Ym D T ρ S A s H locs) (hl : lv_has ls 4 [(0, .ref (ρ 0)), (1, .int x1), (2, .int x2), (3, .int x3)]) (h : b_copyStep_26 g k26 S x1 x2 x3 = some S') : W p l e (rmN 0 0) s m args below meth c H locs 0 0 (MQ below (Qv Ym D T ρ A S') args s 0 0 A) (F0 m 26 ls []) := by
  unfold b_copyStep_26 at h
  refine lv_iload_n C.1 C.2.1 dX13_copyStep_26 rfl (lv_at hl 3 rfl) ?_
  refine lv_aload_n C.1 C.2.1 dX13_copyStep_27 rfl (lv_at hl 0 rfl) ?_
  refine x_getC C w 7 fM141 obM rfl dX13_copyStep_28 ?_
  refine lv_iload_n C.1 C.2.1 dX13_copyStep_31 rfl (lv_at hl 1 rfl) ?_
  obtain ⟨v_5, hv_5, h⟩ := bnd h
  refine x_iald C w obM7 hv_5 dX13_copyStep_32 ?_
  refine lv_icmp_ge (tgt := 108) C.1 C.2.1 dX13_copyStep_33 (by decide) (fun hc => ?_) (fun hc => ?_)
  · replace h := ift hc h
    obtain rfl := som h
    exact x_vret C w hr hk dX13_copyStep_108
  · replace h := iff0 hc h
    refine lv_aload_n C.1 C.2.1 dX13_copyStep_36 rfl (lv_at hl 0 rfl) ?_
    refine x_getC C w 8 fM144 obM rfl dX13_copyStep_37 ?_
    refine lv_bipush (v := 10) C.1 C.2.1 dX13_copyStep_40 (by decide) ?_
    refine lv_iload_n C.1 C.2.1 dX13_copyStep_42 rfl (lv_at hl 2 rfl) ?_
    refine lv_imul C.1 C.2.1 dX13_copyStep_43 ?_
    refine lv_iload_n C.1 C.2.1 dX13_copyStep_44 rfl (lv_at hl 3 rfl) ?_
    refine lv_iadd C.1 C.2.1 dX13_copyStep_45 ?_
    refine lv_aload_n C.1 C.2.1 dX13_copyStep_46 rfl (lv_at hl 0 rfl) ?_
    refine x_getC C w 8 fM144 obM rfl dX13_copyStep_47 ?_
    refine lv_bipush (v := 10) C.1 C.2.1 dX13_copyStep_50 (by decide) ?_
    refine lv_iload_n C.1 C.2.1 dX13_copyStep_52 rfl (lv_at hl 1 rfl) ?_
    refine lv_imul C.1 C.2.1 dX13_copyStep_53 ?_
    refine lv_iload_n C.1 C.2.1 dX13_copyStep_54 rfl (lv_at hl 3 rfl) ?_
    refine lv_iadd C.1 C.2.1 dX13_copyStep_55 ?_
    obtain ⟨v_6, hv_6, h⟩ := bnd h
    refine x_iald C w obM8 hv_6 dX13_copyStep_56 ?_
    obtain ⟨S_7, hS_7, h⟩ := bnd h
    refine x_iast C w obM8 hS_7 dX13_copyStep_57 (fun H locs w => ?_)
    refine lv_aload_n C.1 C.2.1 dX13_copyStep_58 rfl (lv_at hl 0 rfl) ?_
    refine x_getC C w 10 fM150 obM rfl dX13_copyStep_59 ?_
    refine lv_bipush (v := 10) C.1 C.2.1 dX13_copyStep_62 (by decide) ?_
    refine lv_iload_n C.1 C.2.1 dX13_copyStep_64 rfl (lv_at hl 2 rfl) ?_
    refine lv_imul C.1 C.2.1 dX13_copyStep_65 ?_
    refine lv_iload_n C.1 C.2.1 dX13_copyStep_66 rfl (lv_at hl 3 rfl) ?_
    refine lv_iadd C.1 C.2.1 dX13_copyStep_67 ?_
    refine lv_aload_n C.1 C.2.1 dX13_copyStep_68 rfl (lv_at hl 0 rfl) ?_
    refine x_getC C w 10 fM150 obM rfl dX13_copyStep_69 ?_
    refine lv_bipush (v := 10) C.1 C.2.1 dX13_copyStep_72 (by decide) ?_
    refine lv_iload_n C.1 C.2.1 dX13_copyStep_74 rfl (lv_at hl 1 rfl) ?_
    refine lv_imul C.1 C.2.1 dX13_copyStep_75 ?_
    refine lv_iload_n C.1 C.2.1 dX13_copyStep_76 rfl (lv_at hl 3 rfl) ?_
    refine lv_iadd C.1 C.2.1 dX13_copyStep_77 ?_
    obtain ⟨v_8, hv_8, h⟩ := bnd h
    refine x_lald C w obM10 hv_8 dX13_copyStep_78 ?_
    obtain ⟨S_9, hS_9, h⟩ := bnd h
    refine x_last C w obM10 hS_9 dX13_copyStep_79 (fun H locs w => ?_)
    refine lv_aload_n C.1 C.2.1 dX13_copyStep_80 rfl (lv_at hl 0 rfl) ?_
    refine x_getC C w 9 fM147 obM rfl dX13_copyStep_81 ?_
    refine lv_bipush (v := 10) C.1 C.2.1 dX13_copyStep_84 (by decide) ?_
    refine lv_iload_n C.1 C.2.1 dX13_copyStep_86 rfl (lv_at hl 2 rfl) ?_
    refine lv_imul C.1 C.2.1 dX13_copyStep_87 ?_
    refine lv_iload_n C.1 C.2.1 dX13_copyStep_88 rfl (lv_at hl 3 rfl) ?_
    refine lv_iadd C.1 C.2.1 dX13_copyStep_89 ?_
    refine lv_aload_n C.1 C.2.1 dX13_copyStep_90 rfl (lv_at hl 0 rfl) ?_
    refine x_getC C w 9 fM147 obM rfl dX13_copyStep_91 ?_
    refine lv_bipush (v := 10) C.1 C.2.1 dX13_copyStep_94 (by decide) ?_
    refine lv_iload_n C.1 C.2.1 dX13_copyStep_96 rfl (lv_at hl 1 rfl) ?_
    refine lv_imul C.1 C.2.1 dX13_copyStep_97 ?_
    refine lv_iload_n C.1 C.2.1 dX13_copyStep_98 rfl (lv_at hl 3 rfl) ?_
    refine lv_iadd C.1 C.2.1 dX13_copyStep_99 ?_
    obtain ⟨v_10, hv_10, h⟩ := bnd h
    refine x_iald C w obM9 hv_10 dX13_copyStep_100 ?_
    obtain ⟨S_11, hS_11, h⟩ := bnd h
    refine x_iast C w obM9 hS_11 dX13_copyStep_101 (fun H locs w => ?_)
    obtain ⟨x3_12, ex3_12, h⟩ := lt_e h
    refine lv_iinc (v := x3_12) (lv' := [(3, .int x3_12), (0, .ref (ρ 0)), (1, .int x1), (2, .int x2)]) C.1 C.2.1 dX13_copyStep_102 hl (k := 3) rfl (by rw [ex3_12]; rfl) (by decide) rfl (fun ls hl => ?_)
    refine lv_goto (tgt := 26) C.1 C.2.1 dX13_copyStep_105 (by decide) ?_
    exact kk26 _ _ _ _ _ _ _ w (lv_sub hl [1, 2, 3, 0] rfl) h
theorem w_copyStep_26 {g : Nat} (C : CallFix p m c cX13_copyStep 4 s args tb RX13) (hr : meth.sig.returnType = none) (hk : meth.locks = false) {S' : St} (n : Nat) : ∀ (S : St) (x1 : Int32) (x2 : Int32) (x3 : Int32) (H : Heap) (locs : List Loc) (ls : Array Slot), Wn Ym D T ρ S A s H locs → lv_has ls 4 [(0, .ref (ρ 0)), (1, .int x1), (2, .int x2), (3, .int x3)] → m_copyStep_26 g n S x1 x2 x3 = some S' → W p l e (rmN 0 0) s m args below meth c H locs 0 0 (MQ below (Qv Ym D T ρ A S') args s 0 0 A) (F0 m 26 ls []) := by
  induction n with
  | zero => intro S x1 x2 x3 H locs ls w hl h; exact absurd h (fun q => by cases q)
  | succ n ih => intro S x1 x2 x3 H locs ls w hl h; exact wb_copyStep_26 C hr hk ih w hl h
set_option maxRecDepth 100000 in
set_option maxHeartbeats 4000000 in
theorem w_copyStep_0  {g : Nat} {S : St} {x1 : Int32} {x2 : Int32} (C : CallFix p m c cX13_copyStep 4 s args tb RX13) (hr : meth.sig.returnType = none) (hk : meth.locks = false) {S' : St} (w : Wn Ym D T ρ S A s H locs) (hl : lv_has ls 4 [(0, .ref (ρ 0)), (1, .int x1), (2, .int x2)]) (h : m_copyStep g S x1 x2 = some S') : W p l e (rmN 0 0) s m args below meth c H locs 0 0 (MQ below (Qv Ym D T ρ A S') args s 0 0 A) (F0 m 0 ls []) := by
  unfold m_copyStep at h
  refine lv_aload_n C.1 C.2.1 dX13_copyStep_0 rfl (lv_at hl 0 rfl) ?_
  refine x_getC C w 6 fM138 obM rfl dX13_copyStep_1 ?_
  refine lv_iload_n C.1 C.2.1 dX13_copyStep_4 rfl (lv_at hl 2 rfl) ?_
  refine lv_aload_n C.1 C.2.1 dX13_copyStep_5 rfl (lv_at hl 0 rfl) ?_
  refine x_getC C w 6 fM138 obM rfl dX13_copyStep_6 ?_
  refine lv_iload_n C.1 C.2.1 dX13_copyStep_9 rfl (lv_at hl 1 rfl) ?_
  obtain ⟨v_1, hv_1, h⟩ := bnd h
  refine x_iald C w obM6 hv_1 dX13_copyStep_10 ?_
  obtain ⟨S_2, hS_2, h⟩ := bnd h
  refine x_iast C w obM6 hS_2 dX13_copyStep_11 (fun H locs w => ?_)
  refine lv_aload_n C.1 C.2.1 dX13_copyStep_12 rfl (lv_at hl 0 rfl) ?_
  refine x_getC C w 7 fM141 obM rfl dX13_copyStep_13 ?_
  refine lv_iload_n C.1 C.2.1 dX13_copyStep_16 rfl (lv_at hl 2 rfl) ?_
  refine lv_aload_n C.1 C.2.1 dX13_copyStep_17 rfl (lv_at hl 0 rfl) ?_
  refine x_getC C w 7 fM141 obM rfl dX13_copyStep_18 ?_
  refine lv_iload_n C.1 C.2.1 dX13_copyStep_21 rfl (lv_at hl 1 rfl) ?_
  obtain ⟨v_3, hv_3, h⟩ := bnd h
  refine x_iald C w obM7 hv_3 dX13_copyStep_22 ?_
  obtain ⟨S_4, hS_4, h⟩ := bnd h
  refine x_iast C w obM7 hS_4 dX13_copyStep_23 (fun H locs w => ?_)
  refine lv_iconst (v := 0) C.1 C.2.1 dX13_copyStep_24 (by decide) ?_
  refine lv_istore_n (lv' := [(3, .int (0 : Int32)), (0, .ref (ρ 0)), (1, .int x1), (2, .int x2)]) C.1 C.2.1 dX13_copyStep_25 rfl hl (by decide) rfl (fun ls hl => ?_)
  exact w_copyStep_26 C hr hk g _ _ _ _ _ _ _ w (lv_sub hl [1, 2, 3, 0] rfl) h
end S_copyStep
set_option maxRecDepth 100000 in
theorem k_copyStep (l : Launch) (D : va_G) (T : Cy) (ρ : Nat → Nat) (g sz : Nat) (S : St) {x1 : Int32} {x2 : Int32} {S' : St} (h : m_copyStep g S x1 x2 = some S') : Mv l Ym D T ρ yX13_copyStep cX13_copyStep 4 none 0 0 S S' [.ref (ρ 0), .int x1, .int x2] sz :=
  x_in (by decide) (Nat.le_of_ble_eq_true rfl) (fun p e s m below meth c ls C hr hk w hl => w_copyStep_0 C hr hk w hl h)

theorem dX13_copyProgram_0 : decode cX13_copyProgram 0 = .ok (.aload_n 0, 1) := by decide +kernel
theorem dX13_copyProgram_1 : decode cX13_copyProgram 1 = .ok (.getfield 153, 3) := by decide +kernel
theorem dX13_copyProgram_4 : decode cX13_copyProgram 4 = .ok (.iload_n 2, 1) := by decide +kernel
theorem dX13_copyProgram_5 : decode cX13_copyProgram 5 = .ok (.aload_n 0, 1) := by decide +kernel
theorem dX13_copyProgram_6 : decode cX13_copyProgram 6 = .ok (.getfield 153, 3) := by decide +kernel
theorem dX13_copyProgram_9 : decode cX13_copyProgram 9 = .ok (.iload_n 1, 1) := by decide +kernel
theorem dX13_copyProgram_10 : decode cX13_copyProgram 10 = .ok (.iaload, 1) := by decide +kernel
theorem dX13_copyProgram_11 : decode cX13_copyProgram 11 = .ok (.iastore, 1) := by decide +kernel
theorem dX13_copyProgram_12 : decode cX13_copyProgram 12 = .ok (.iconst 0, 1) := by decide +kernel
theorem dX13_copyProgram_13 : decode cX13_copyProgram 13 = .ok (.istore_n 3, 1) := by decide +kernel
theorem dX13_copyProgram_14 : decode cX13_copyProgram 14 = .ok (.iload_n 3, 1) := by decide +kernel
theorem dX13_copyProgram_15 : decode cX13_copyProgram 15 = .ok (.aload_n 0, 1) := by decide +kernel
theorem dX13_copyProgram_16 : decode cX13_copyProgram 16 = .ok (.getfield 153, 3) := by decide +kernel
theorem dX13_copyProgram_19 : decode cX13_copyProgram 19 = .ok (.iload_n 1, 1) := by decide +kernel
theorem dX13_copyProgram_20 : decode cX13_copyProgram 20 = .ok (.iaload, 1) := by decide +kernel
theorem dX13_copyProgram_21 : decode cX13_copyProgram 21 = .ok (.if_icmp .ge 25, 3) := by decide +kernel
theorem dX13_copyProgram_24 : decode cX13_copyProgram 24 = .ok (.aload_n 0, 1) := by decide +kernel
theorem dX13_copyProgram_25 : decode cX13_copyProgram 25 = .ok (.iload_n 1, 1) := by decide +kernel
theorem dX13_copyProgram_26 : decode cX13_copyProgram 26 = .ok (.bipush 60, 2) := by decide +kernel
theorem dX13_copyProgram_28 : decode cX13_copyProgram 28 = .ok (.imul, 1) := by decide +kernel
theorem dX13_copyProgram_29 : decode cX13_copyProgram 29 = .ok (.iload_n 3, 1) := by decide +kernel
theorem dX13_copyProgram_30 : decode cX13_copyProgram 30 = .ok (.iadd, 1) := by decide +kernel
theorem dX13_copyProgram_31 : decode cX13_copyProgram 31 = .ok (.iload_n 2, 1) := by decide +kernel
theorem dX13_copyProgram_32 : decode cX13_copyProgram 32 = .ok (.bipush 60, 2) := by decide +kernel
theorem dX13_copyProgram_34 : decode cX13_copyProgram 34 = .ok (.imul, 1) := by decide +kernel
theorem dX13_copyProgram_35 : decode cX13_copyProgram 35 = .ok (.iload_n 3, 1) := by decide +kernel
theorem dX13_copyProgram_36 : decode cX13_copyProgram 36 = .ok (.iadd, 1) := by decide +kernel
theorem dX13_copyProgram_37 : decode cX13_copyProgram 37 = .ok (.invokevirtual 365, 3) := by decide +kernel
theorem dX13_copyProgram_40 : decode cX13_copyProgram 40 = .ok (.iinc 3 1, 3) := by decide +kernel
theorem dX13_copyProgram_43 : decode cX13_copyProgram 43 = .ok (.goto (-29), 3) := by decide +kernel
theorem dX13_copyProgram_46 : decode cX13_copyProgram 46 = .ok (.return_, 1) := by decide +kernel
def b_copyProgram_14 (g : Nat) (k14 : St → Int32 → Int32 → Int32 → Option St) (S : St) (x1 : Int32) (x2 : Int32) (x3 : Int32) : Option St :=
(aI S 11 x1).bind fun v_3 =>
if v_3 ≤ x3 then (
  some S
) else (
  (m_copyStep g S ((x1 * (60 : Int32)) + x3) ((x2 * (60 : Int32)) + x3)).bind fun S_4 =>
  lt (x3 + (1 : Int32)) fun x3_5 =>
  k14 S_4 x1 x2 x3_5
)
def m_copyProgram_14 (g : Nat) : Nat → St → Int32 → Int32 → Int32 → Option St
  | 0, _, _, _, _ => none
  | n + 1, S, x1, x2, x3 => b_copyProgram_14 g (m_copyProgram_14 g n) S x1 x2 x3
def m_copyProgram (g : Nat) (S : St) (x1 : Int32) (x2 : Int32) : Option St :=
(aI S 11 x1).bind fun v_1 =>
(tI S 11 x2 v_1).bind fun S_2 =>
m_copyProgram_14 g g S_2 x1 x2 (0 : Int32)
section S_copyProgram
variable {p : Program} {l : Launch} {e : Env} {s : State} {m : MethodId} {args : Array Value} {below : List Frame} {meth : Method} {c : Code} {H : Heap} {locs : List Loc} {ls : Array Slot} {D : va_G} {T : Cy} {ρ : Nat → Nat} {A : Nat → Prop}
set_option maxRecDepth 100000 in
set_option maxHeartbeats 4000000 in
theorem wb_copyProgram_14  {g : Nat} {S : St} {x1 : Int32} {x2 : Int32} {x3 : Int32} (C : CallFix p m c cX13_copyProgram 4 s args tb RX13) (hr : meth.sig.returnType = none) (hk : meth.locks = false) {S' : St} {k14 : St → Int32 → Int32 → Int32 → Option St} (kk14 : ∀ (S : St) (x1 : Int32) (x2 : Int32) (x3 : Int32) (H : Heap) (locs : List Loc) (ls : Array Slot), Wn Ym D T ρ S A s H locs → lv_has ls 4 [(0, .ref (ρ 0)), (1, .int x1), (2, .int x2), (3, .int x3)] → k14 S x1 x2 x3 = some S' → W p l e (rmN 1 23) s m args below meth c H locs 0 0 (MQ below (Qv Ym D T ρ A S') args s 0 0 A) (F0 m 14 ls [])) (w : Wn Ym D T ρ S A s H locs) (hl : lv_has ls 4 [(0, .ref (ρ 0)), (1, .int x1), (2, .int x2), (3, .int x3)]) (h : b_copyProgram_14 g k14 S x1 x2 x3 = some S') : W p l e (rmN 1 23) s m args below meth c H locs 0 0 (MQ below (Qv Ym D T ρ A S') args s 0 0 A) (F0 m 14 ls []) := by
  unfold b_copyProgram_14 at h
  refine lv_iload_n C.1 C.2.1 dX13_copyProgram_14 rfl (lv_at hl 3 rfl) ?_
  refine lv_aload_n C.1 C.2.1 dX13_copyProgram_15 rfl (lv_at hl 0 rfl) ?_
  refine x_getC C w 11 fM153 obM rfl dX13_copyProgram_16 ?_
  refine lv_iload_n C.1 C.2.1 dX13_copyProgram_19 rfl (lv_at hl 1 rfl) ?_
  obtain ⟨v_3, hv_3, h⟩ := bnd h
  refine x_iald C w obM11 hv_3 dX13_copyProgram_20 ?_
  refine lv_icmp_ge (tgt := 46) C.1 C.2.1 dX13_copyProgram_21 (by decide) (fun hc => ?_) (fun hc => ?_)
  · replace h := ift hc h
    obtain rfl := som h
    exact x_vret C w hr hk dX13_copyProgram_46
  · replace h := iff0 hc h
    refine lv_aload_n C.1 C.2.1 dX13_copyProgram_24 rfl (lv_at hl 0 rfl) ?_
    refine lv_iload_n C.1 C.2.1 dX13_copyProgram_25 rfl (lv_at hl 1 rfl) ?_
    refine lv_bipush (v := 60) C.1 C.2.1 dX13_copyProgram_26 (by decide) ?_
    refine lv_imul C.1 C.2.1 dX13_copyProgram_28 ?_
    refine lv_iload_n C.1 C.2.1 dX13_copyProgram_29 rfl (lv_at hl 3 rfl) ?_
    refine lv_iadd C.1 C.2.1 dX13_copyProgram_30 ?_
    refine lv_iload_n C.1 C.2.1 dX13_copyProgram_31 rfl (lv_at hl 2 rfl) ?_
    refine lv_bipush (v := 60) C.1 C.2.1 dX13_copyProgram_32 (by decide) ?_
    refine lv_imul C.1 C.2.1 dX13_copyProgram_34 ?_
    refine lv_iload_n C.1 C.2.1 dX13_copyProgram_35 rfl (lv_at hl 3 rfl) ?_
    refine lv_iadd C.1 C.2.1 dX13_copyProgram_36 ?_
    obtain ⟨S_4, hS_4, h⟩ := bnd h
    refine x_callVv (q := (RX13, TX13, 68)) (As := [.int ((x1 * (60 : Int32)) + x3), .int ((x2 * (60 : Int32)) + x3)]) (rest := []) C w (k_copyStep l D T ρ g H.size S hS_4) vM365 ⟨by decide, by decide⟩ obM (by decide) rfl rfl rfl hl.1 (Nat.le_of_ble_eq_true rfl) ⟨Nat.zero_le _, Nat.zero_le _⟩ dX13_copyProgram_37 (fun H locs w => ?_)
    obtain ⟨x3_5, ex3_5, h⟩ := lt_e h
    refine lv_iinc (v := x3_5) (lv' := [(3, .int x3_5), (0, .ref (ρ 0)), (1, .int x1), (2, .int x2)]) C.1 C.2.1 dX13_copyProgram_40 hl (k := 3) rfl (by rw [ex3_5]; rfl) (by decide) rfl (fun ls hl => ?_)
    refine lv_goto (tgt := 14) C.1 C.2.1 dX13_copyProgram_43 (by decide) ?_
    exact kk14 _ _ _ _ _ _ _ w (lv_sub hl [1, 2, 3, 0] rfl) h
theorem w_copyProgram_14 {g : Nat} (C : CallFix p m c cX13_copyProgram 4 s args tb RX13) (hr : meth.sig.returnType = none) (hk : meth.locks = false) {S' : St} (n : Nat) : ∀ (S : St) (x1 : Int32) (x2 : Int32) (x3 : Int32) (H : Heap) (locs : List Loc) (ls : Array Slot), Wn Ym D T ρ S A s H locs → lv_has ls 4 [(0, .ref (ρ 0)), (1, .int x1), (2, .int x2), (3, .int x3)] → m_copyProgram_14 g n S x1 x2 x3 = some S' → W p l e (rmN 1 23) s m args below meth c H locs 0 0 (MQ below (Qv Ym D T ρ A S') args s 0 0 A) (F0 m 14 ls []) := by
  induction n with
  | zero => intro S x1 x2 x3 H locs ls w hl h; exact absurd h (fun q => by cases q)
  | succ n ih => intro S x1 x2 x3 H locs ls w hl h; exact wb_copyProgram_14 C hr hk ih w hl h
set_option maxRecDepth 100000 in
set_option maxHeartbeats 4000000 in
theorem w_copyProgram_0  {g : Nat} {S : St} {x1 : Int32} {x2 : Int32} (C : CallFix p m c cX13_copyProgram 4 s args tb RX13) (hr : meth.sig.returnType = none) (hk : meth.locks = false) {S' : St} (w : Wn Ym D T ρ S A s H locs) (hl : lv_has ls 4 [(0, .ref (ρ 0)), (1, .int x1), (2, .int x2)]) (h : m_copyProgram g S x1 x2 = some S') : W p l e (rmN 1 23) s m args below meth c H locs 0 0 (MQ below (Qv Ym D T ρ A S') args s 0 0 A) (F0 m 0 ls []) := by
  unfold m_copyProgram at h
  refine lv_aload_n C.1 C.2.1 dX13_copyProgram_0 rfl (lv_at hl 0 rfl) ?_
  refine x_getC C w 11 fM153 obM rfl dX13_copyProgram_1 ?_
  refine lv_iload_n C.1 C.2.1 dX13_copyProgram_4 rfl (lv_at hl 2 rfl) ?_
  refine lv_aload_n C.1 C.2.1 dX13_copyProgram_5 rfl (lv_at hl 0 rfl) ?_
  refine x_getC C w 11 fM153 obM rfl dX13_copyProgram_6 ?_
  refine lv_iload_n C.1 C.2.1 dX13_copyProgram_9 rfl (lv_at hl 1 rfl) ?_
  obtain ⟨v_1, hv_1, h⟩ := bnd h
  refine x_iald C w obM11 hv_1 dX13_copyProgram_10 ?_
  obtain ⟨S_2, hS_2, h⟩ := bnd h
  refine x_iast C w obM11 hS_2 dX13_copyProgram_11 (fun H locs w => ?_)
  refine lv_iconst (v := 0) C.1 C.2.1 dX13_copyProgram_12 (by decide) ?_
  refine lv_istore_n (lv' := [(3, .int (0 : Int32)), (0, .ref (ρ 0)), (1, .int x1), (2, .int x2)]) C.1 C.2.1 dX13_copyProgram_13 rfl hl (by decide) rfl (fun ls hl => ?_)
  exact w_copyProgram_14 C hr hk g _ _ _ _ _ _ _ w (lv_sub hl [1, 2, 3, 0] rfl) h
end S_copyProgram
set_option maxRecDepth 100000 in
theorem k_copyProgram (l : Launch) (D : va_G) (T : Cy) (ρ : Nat → Nat) (g sz : Nat) (S : St) {x1 : Int32} {x2 : Int32} {S' : St} (h : m_copyProgram g S x1 x2 = some S') : Mv l Ym D T ρ yX13_copyProgram cX13_copyProgram 4 none 1 23 S S' [.ref (ρ 0), .int x1, .int x2] sz :=
  x_in (by decide) (Nat.le_of_ble_eq_true rfl) (fun p e s m below meth c ls C hr hk w hl => w_copyProgram_0 C hr hk w hl h)

theorem dX13_gives_0 : decode cX13_gives 0 = .ok (.aload_n 0, 1) := by decide +kernel
theorem dX13_gives_1 : decode cX13_gives 1 = .ok (.getfield 141, 3) := by decide +kernel
theorem dX13_gives_4 : decode cX13_gives 4 = .ok (.iload_n 1, 1) := by decide +kernel
theorem dX13_gives_5 : decode cX13_gives 5 = .ok (.iaload, 1) := by decide +kernel
theorem dX13_gives_6 : decode cX13_gives 6 = .ok (.ifCond .eq 14, 3) := by decide +kernel
theorem dX13_gives_9 : decode cX13_gives 9 = .ok (.aload_n 0, 1) := by decide +kernel
theorem dX13_gives_10 : decode cX13_gives 10 = .ok (.getfield 138, 3) := by decide +kernel
theorem dX13_gives_13 : decode cX13_gives 13 = .ok (.iload_n 1, 1) := by decide +kernel
theorem dX13_gives_14 : decode cX13_gives 14 = .ok (.iaload, 1) := by decide +kernel
theorem dX13_gives_15 : decode cX13_gives 15 = .ok (.bipush 54, 2) := by decide +kernel
theorem dX13_gives_17 : decode cX13_gives 17 = .ok (.if_icmp .ne 7, 3) := by decide +kernel
theorem dX13_gives_20 : decode cX13_gives 20 = .ok (.iconst 0, 1) := by decide +kernel
theorem dX13_gives_21 : decode cX13_gives 21 = .ok (.goto 14, 3) := by decide +kernel
theorem dX13_gives_24 : decode cX13_gives 24 = .ok (.aload_n 0, 1) := by decide +kernel
theorem dX13_gives_25 : decode cX13_gives 25 = .ok (.aload_n 0, 1) := by decide +kernel
theorem dX13_gives_26 : decode cX13_gives 26 = .ok (.getfield 138, 3) := by decide +kernel
theorem dX13_gives_29 : decode cX13_gives 29 = .ok (.iload_n 1, 1) := by decide +kernel
theorem dX13_gives_30 : decode cX13_gives 30 = .ok (.iaload, 1) := by decide +kernel
theorem dX13_gives_31 : decode cX13_gives 31 = .ok (.iconst 0, 1) := by decide +kernel
theorem dX13_gives_32 : decode cX13_gives 32 = .ok (.invokevirtual 306, 3) := by decide +kernel
theorem dX13_gives_35 : decode cX13_gives 35 = .ok (.istore_n 2, 1) := by decide +kernel
theorem dX13_gives_36 : decode cX13_gives 36 = .ok (.iload_n 2, 1) := by decide +kernel
theorem dX13_gives_37 : decode cX13_gives 37 = .ok (.ifCond .ne 7, 3) := by decide +kernel
theorem dX13_gives_40 : decode cX13_gives 40 = .ok (.iconst 0, 1) := by decide +kernel
theorem dX13_gives_41 : decode cX13_gives 41 = .ok (.goto 19, 3) := by decide +kernel
theorem dX13_gives_44 : decode cX13_gives 44 = .ok (.iconst 1, 1) := by decide +kernel
theorem dX13_gives_45 : decode cX13_gives 45 = .ok (.aload_n 0, 1) := by decide +kernel
theorem dX13_gives_46 : decode cX13_gives 46 = .ok (.getfield 150, 3) := by decide +kernel
theorem dX13_gives_49 : decode cX13_gives 49 = .ok (.bipush 10, 2) := by decide +kernel
theorem dX13_gives_51 : decode cX13_gives 51 = .ok (.iload_n 1, 1) := by decide +kernel
theorem dX13_gives_52 : decode cX13_gives 52 = .ok (.imul, 1) := by decide +kernel
theorem dX13_gives_53 : decode cX13_gives 53 = .ok (.laload, 1) := by decide +kernel
theorem dX13_gives_54 : decode cX13_gives 54 = .ok (.ldc2_w 368, 3) := by decide +kernel
theorem dX13_gives_57 : decode cX13_gives 57 = .ok (.land, 1) := by decide +kernel
theorem dX13_gives_58 : decode cX13_gives 58 = .ok (.l2i, 1) := by decide +kernel
theorem dX13_gives_59 : decode cX13_gives 59 = .ok (.ishl, 1) := by decide +kernel
theorem dX13_gives_60 : decode cX13_gives 60 = .ok (.istore_n 3, 1) := by decide +kernel
theorem dX13_gives_61 : decode cX13_gives 61 = .ok (.iload_n 2, 1) := by decide +kernel
theorem dX13_gives_62 : decode cX13_gives 62 = .ok (.iconst 1, 1) := by decide +kernel
theorem dX13_gives_63 : decode cX13_gives 63 = .ok (.if_icmp .ne 13, 3) := by decide +kernel
theorem dX13_gives_66 : decode cX13_gives 66 = .ok (.aload_n 0, 1) := by decide +kernel
theorem dX13_gives_67 : decode cX13_gives 67 = .ok (.dup, 1) := by decide +kernel
theorem dX13_gives_68 : decode cX13_gives 68 = .ok (.getfield 370, 3) := by decide +kernel
theorem dX13_gives_71 : decode cX13_gives 71 = .ok (.iload_n 3, 1) := by decide +kernel
theorem dX13_gives_72 : decode cX13_gives 72 = .ok (.ior, 1) := by decide +kernel
theorem dX13_gives_73 : decode cX13_gives 73 = .ok (.putfield 370, 3) := by decide +kernel
theorem dX13_gives_76 : decode cX13_gives 76 = .ok (.iload_n 2, 1) := by decide +kernel
theorem dX13_gives_77 : decode cX13_gives 77 = .ok (.iconst 2, 1) := by decide +kernel
theorem dX13_gives_78 : decode cX13_gives 78 = .ok (.if_icmp .ne 13, 3) := by decide +kernel
theorem dX13_gives_81 : decode cX13_gives 81 = .ok (.aload_n 0, 1) := by decide +kernel
theorem dX13_gives_82 : decode cX13_gives 82 = .ok (.dup, 1) := by decide +kernel
theorem dX13_gives_83 : decode cX13_gives 83 = .ok (.getfield 373, 3) := by decide +kernel
theorem dX13_gives_86 : decode cX13_gives 86 = .ok (.iload_n 3, 1) := by decide +kernel
theorem dX13_gives_87 : decode cX13_gives 87 = .ok (.ior, 1) := by decide +kernel
theorem dX13_gives_88 : decode cX13_gives 88 = .ok (.putfield 373, 3) := by decide +kernel
theorem dX13_gives_91 : decode cX13_gives 91 = .ok (.iload_n 2, 1) := by decide +kernel
theorem dX13_gives_92 : decode cX13_gives 92 = .ok (.iconst 3, 1) := by decide +kernel
theorem dX13_gives_93 : decode cX13_gives 93 = .ok (.if_icmp .ne 13, 3) := by decide +kernel
theorem dX13_gives_96 : decode cX13_gives 96 = .ok (.aload_n 0, 1) := by decide +kernel
theorem dX13_gives_97 : decode cX13_gives 97 = .ok (.dup, 1) := by decide +kernel
theorem dX13_gives_98 : decode cX13_gives 98 = .ok (.getfield 376, 3) := by decide +kernel
theorem dX13_gives_101 : decode cX13_gives 101 = .ok (.iload_n 3, 1) := by decide +kernel
theorem dX13_gives_102 : decode cX13_gives 102 = .ok (.ior, 1) := by decide +kernel
theorem dX13_gives_103 : decode cX13_gives 103 = .ok (.putfield 376, 3) := by decide +kernel
theorem dX13_gives_106 : decode cX13_gives 106 = .ok (.return_, 1) := by decide +kernel
def m_gives_91 (g : Nat) (S : St) (x2 : Int32) (x3 : Int32) : Option St :=
if x2 = (3 : Int32) then (
  lt (sI S 0 29 ((gI S 0 29) ||| x3)) fun S_3 =>
  some S_3
) else (
  some S
)
def m_gives_76 (g : Nat) (S : St) (x2 : Int32) (x3 : Int32) : Option St :=
if x2 = (2 : Int32) then (
  lt (sI S 0 28 ((gI S 0 28) ||| x3)) fun S_3 =>
  m_gives_91 g S_3 x2 x3
) else (
  m_gives_91 g S x2 x3
)
def m_gives_60 (g : Nat) (S : St) (x2 : Int32) (y0 : Int32) : Option St :=
if x2 = (1 : Int32) then (
  lt (sI S 0 27 ((gI S 0 27) ||| y0)) fun S_3 =>
  m_gives_76 g S_3 x2 y0
) else (
  m_gives_76 g S x2 y0
)
def m_gives_35 (g : Nat) (S : St) (x1 : Int32) (y0 : Int32) : Option St :=
if y0 = 0 then (
  m_gives_60 g S y0 (0 : Int32)
) else (
  (aJ S 10 ((10 : Int32) * x1)).bind fun v_2 =>
  m_gives_60 g S y0 ((1 : Int32) <<< (((v_2 &&& (31 : Int64)).toInt32) &&& 31))
)
def m_gives_20 (g : Nat) (S : St) (x1 : Int32) : Option St :=
m_gives_35 g S x1 (0 : Int32)
def m_gives (g : Nat) (S : St) (x1 : Int32) : Option St :=
(aI S 7 x1).bind fun v_1 =>
if v_1 = 0 then (
  m_gives_20 g S x1
) else (
  (aI S 6 x1).bind fun v_2 =>
  if v_2 = (54 : Int32) then (
    m_gives_20 g S x1
  ) else (
    (aI S 6 x1).bind fun v_3 =>
    (m_roleOf g S v_3 (0 : Int32)).bind fun v_4 =>
    m_gives_35 g S x1 v_4
  )
)
section S_gives
variable {p : Program} {l : Launch} {e : Env} {s : State} {m : MethodId} {args : Array Value} {below : List Frame} {meth : Method} {c : Code} {H : Heap} {locs : List Loc} {ls : Array Slot} {D : va_G} {T : Cy} {ρ : Nat → Nat} {A : Nat → Prop}
set_option maxRecDepth 100000 in
set_option maxHeartbeats 4000000 in
theorem w_gives_91  {g : Nat} {S : St} {x2 : Int32} {x3 : Int32} (C : CallFix p m c cX13_gives 4 s args tb RX13) (hr : meth.sig.returnType = none) (hk : meth.locks = false) {S' : St} (w : Wn Ym D T ρ S A s H locs) (hl : lv_has ls 4 [(0, .ref (ρ 0)), (2, .int x2), (3, .int x3)]) (h : m_gives_91 g S x2 x3 = some S') : W p l e (rmN 2 45) s m args below meth c H locs 0 0 (MQ below (Qv Ym D T ρ A S') args s 0 0 A) (F0 m 91 ls []) := by
  unfold m_gives_91 at h
  refine lv_iload_n C.1 C.2.1 dX13_gives_91 rfl (lv_at hl 1 rfl) ?_
  refine lv_iconst (v := 3) C.1 C.2.1 dX13_gives_92 (by decide) ?_
  refine lv_icmp_ne (tgt := 106) C.1 C.2.1 dX13_gives_93 (by decide) (fun hc => ?_) (fun hc => ?_)
  · replace h := iff0 hc h
    obtain rfl := som h
    exact x_vret C w hr hk dX13_gives_106
  · replace h := ift hc h
    refine lv_aload_n C.1 C.2.1 dX13_gives_96 rfl (lv_at hl 0 rfl) ?_
    refine lv_dup C.1 C.2.1 dX13_gives_97 rfl ?_
    refine x_getI C w fM376 obM dX13_gives_98 ?_
    refine lv_iload_n C.1 C.2.1 dX13_gives_101 rfl (lv_at hl 2 rfl) ?_
    refine lv_ior C.1 C.2.1 dX13_gives_102 ?_
    obtain ⟨S_3, eS_3, h⟩ := lt_e h
    refine y_putI C w eS_3 fM376 pM29 obM dX13_gives_103 (fun H locs w => ?_)
    obtain rfl := som h
    exact x_vret C w hr hk dX13_gives_106
set_option maxRecDepth 100000 in
set_option maxHeartbeats 4000000 in
theorem w_gives_76  {g : Nat} {S : St} {x2 : Int32} {x3 : Int32} (C : CallFix p m c cX13_gives 4 s args tb RX13) (hr : meth.sig.returnType = none) (hk : meth.locks = false) {S' : St} (w : Wn Ym D T ρ S A s H locs) (hl : lv_has ls 4 [(0, .ref (ρ 0)), (2, .int x2), (3, .int x3)]) (h : m_gives_76 g S x2 x3 = some S') : W p l e (rmN 2 45) s m args below meth c H locs 0 0 (MQ below (Qv Ym D T ρ A S') args s 0 0 A) (F0 m 76 ls []) := by
  unfold m_gives_76 at h
  refine lv_iload_n C.1 C.2.1 dX13_gives_76 rfl (lv_at hl 1 rfl) ?_
  refine lv_iconst (v := 2) C.1 C.2.1 dX13_gives_77 (by decide) ?_
  refine lv_icmp_ne (tgt := 91) C.1 C.2.1 dX13_gives_78 (by decide) (fun hc => ?_) (fun hc => ?_)
  · replace h := iff0 hc h
    exact w_gives_91 C hr hk w (lv_sub hl [0, 1, 2] rfl) h
  · replace h := ift hc h
    refine lv_aload_n C.1 C.2.1 dX13_gives_81 rfl (lv_at hl 0 rfl) ?_
    refine lv_dup C.1 C.2.1 dX13_gives_82 rfl ?_
    refine x_getI C w fM373 obM dX13_gives_83 ?_
    refine lv_iload_n C.1 C.2.1 dX13_gives_86 rfl (lv_at hl 2 rfl) ?_
    refine lv_ior C.1 C.2.1 dX13_gives_87 ?_
    obtain ⟨S_3, eS_3, h⟩ := lt_e h
    refine y_putI C w eS_3 fM373 pM28 obM dX13_gives_88 (fun H locs w => ?_)
    exact w_gives_91 C hr hk w (lv_sub hl [0, 1, 2] rfl) h
set_option maxRecDepth 100000 in
set_option maxHeartbeats 4000000 in
theorem w_gives_60  {g : Nat} {S : St} {x2 : Int32} {y0 : Int32} (C : CallFix p m c cX13_gives 4 s args tb RX13) (hr : meth.sig.returnType = none) (hk : meth.locks = false) {S' : St} (w : Wn Ym D T ρ S A s H locs) (hl : lv_has ls 4 [(0, .ref (ρ 0)), (2, .int x2)]) (h : m_gives_60 g S x2 y0 = some S') : W p l e (rmN 2 45) s m args below meth c H locs 0 0 (MQ below (Qv Ym D T ρ A S') args s 0 0 A) (F0 m 60 ls [.int y0]) := by
  unfold m_gives_60 at h
  refine lv_istore_n (lv' := [(3, .int y0), (0, .ref (ρ 0)), (2, .int x2)]) C.1 C.2.1 dX13_gives_60 rfl hl (by decide) rfl (fun ls hl => ?_)
  refine lv_iload_n C.1 C.2.1 dX13_gives_61 rfl (lv_at hl 2 rfl) ?_
  refine lv_iconst (v := 1) C.1 C.2.1 dX13_gives_62 (by decide) ?_
  refine lv_icmp_ne (tgt := 76) C.1 C.2.1 dX13_gives_63 (by decide) (fun hc => ?_) (fun hc => ?_)
  · replace h := iff0 hc h
    exact w_gives_76 C hr hk w (lv_sub hl [1, 2, 0] rfl) h
  · replace h := ift hc h
    refine lv_aload_n C.1 C.2.1 dX13_gives_66 rfl (lv_at hl 1 rfl) ?_
    refine lv_dup C.1 C.2.1 dX13_gives_67 rfl ?_
    refine x_getI C w fM370 obM dX13_gives_68 ?_
    refine lv_iload_n C.1 C.2.1 dX13_gives_71 rfl (lv_at hl 0 rfl) ?_
    refine lv_ior C.1 C.2.1 dX13_gives_72 ?_
    obtain ⟨S_3, eS_3, h⟩ := lt_e h
    refine y_putI C w eS_3 fM370 pM27 obM dX13_gives_73 (fun H locs w => ?_)
    exact w_gives_76 C hr hk w (lv_sub hl [1, 2, 0] rfl) h
set_option maxRecDepth 100000 in
set_option maxHeartbeats 4000000 in
theorem w_gives_35  {g : Nat} {S : St} {x1 : Int32} {y0 : Int32} (C : CallFix p m c cX13_gives 4 s args tb RX13) (hr : meth.sig.returnType = none) (hk : meth.locks = false) {S' : St} (w : Wn Ym D T ρ S A s H locs) (hl : lv_has ls 4 [(0, .ref (ρ 0)), (1, .int x1)]) (h : m_gives_35 g S x1 y0 = some S') : W p l e (rmN 2 45) s m args below meth c H locs 0 0 (MQ below (Qv Ym D T ρ A S') args s 0 0 A) (F0 m 35 ls [.int y0]) := by
  unfold m_gives_35 at h
  refine lv_istore_n (lv' := [(2, .int y0), (0, .ref (ρ 0)), (1, .int x1)]) C.1 C.2.1 dX13_gives_35 rfl hl (by decide) rfl (fun ls hl => ?_)
  refine lv_iload_n C.1 C.2.1 dX13_gives_36 rfl (lv_at hl 0 rfl) ?_
  refine lv_if_ne (tgt := 44) C.1 C.2.1 dX13_gives_37 (by decide) (fun hc => ?_) (fun hc => ?_)
  · replace h := iff0 hc h
    refine lv_iconst (v := 1) C.1 C.2.1 dX13_gives_44 (by decide) ?_
    refine lv_aload_n C.1 C.2.1 dX13_gives_45 rfl (lv_at hl 1 rfl) ?_
    refine x_getC C w 10 fM150 obM rfl dX13_gives_46 ?_
    refine lv_bipush (v := 10) C.1 C.2.1 dX13_gives_49 (by decide) ?_
    refine lv_iload_n C.1 C.2.1 dX13_gives_51 rfl (lv_at hl 2 rfl) ?_
    refine lv_imul C.1 C.2.1 dX13_gives_52 ?_
    obtain ⟨v_2, hv_2, h⟩ := bnd h
    refine x_lald C w obM10 hv_2 dX13_gives_53 ?_
    refine lv_ldc2 C.1 C.2.1 C.2.2.2.1 (C.2.2.2.2 _ nM368) dX13_gives_54 ?_
    refine lv_land C.1 C.2.1 dX13_gives_57 ?_
    refine lv_l2i C.1 C.2.1 dX13_gives_58 rfl ?_
    refine lv_ishl C.1 C.2.1 dX13_gives_59 ?_
    exact w_gives_60 C hr hk w (lv_sub hl [1, 0] rfl) h
  · replace h := ift hc h
    refine lv_iconst (v := 0) C.1 C.2.1 dX13_gives_40 (by decide) ?_
    refine lv_goto (tgt := 60) C.1 C.2.1 dX13_gives_41 (by decide) ?_
    exact w_gives_60 C hr hk w (lv_sub hl [1, 0] rfl) h
set_option maxRecDepth 100000 in
set_option maxHeartbeats 4000000 in
theorem w_gives_20  {g : Nat} {S : St} {x1 : Int32} (C : CallFix p m c cX13_gives 4 s args tb RX13) (hr : meth.sig.returnType = none) (hk : meth.locks = false) {S' : St} (w : Wn Ym D T ρ S A s H locs) (hl : lv_has ls 4 [(0, .ref (ρ 0)), (1, .int x1)]) (h : m_gives_20 g S x1 = some S') : W p l e (rmN 2 45) s m args below meth c H locs 0 0 (MQ below (Qv Ym D T ρ A S') args s 0 0 A) (F0 m 20 ls []) := by
  unfold m_gives_20 at h
  refine lv_iconst (v := 0) C.1 C.2.1 dX13_gives_20 (by decide) ?_
  refine lv_goto (tgt := 35) C.1 C.2.1 dX13_gives_21 (by decide) ?_
  exact w_gives_35 C hr hk w (lv_sub hl [0, 1] rfl) h
set_option maxRecDepth 100000 in
set_option maxHeartbeats 4000000 in
theorem w_gives_0  {g : Nat} {S : St} {x1 : Int32} (C : CallFix p m c cX13_gives 4 s args tb RX13) (hr : meth.sig.returnType = none) (hk : meth.locks = false) {S' : St} (w : Wn Ym D T ρ S A s H locs) (hl : lv_has ls 4 [(0, .ref (ρ 0)), (1, .int x1)]) (h : m_gives g S x1 = some S') : W p l e (rmN 2 45) s m args below meth c H locs 0 0 (MQ below (Qv Ym D T ρ A S') args s 0 0 A) (F0 m 0 ls []) := by
  unfold m_gives at h
  refine lv_aload_n C.1 C.2.1 dX13_gives_0 rfl (lv_at hl 0 rfl) ?_
  refine x_getC C w 7 fM141 obM rfl dX13_gives_1 ?_
  refine lv_iload_n C.1 C.2.1 dX13_gives_4 rfl (lv_at hl 1 rfl) ?_
  obtain ⟨v_1, hv_1, h⟩ := bnd h
  refine x_iald C w obM7 hv_1 dX13_gives_5 ?_
  refine lv_if_eq (tgt := 20) C.1 C.2.1 dX13_gives_6 (by decide) (fun hc => ?_) (fun hc => ?_)
  · replace h := ift hc h
    exact w_gives_20 C hr hk w (lv_sub hl [0, 1] rfl) h
  · replace h := iff0 hc h
    refine lv_aload_n C.1 C.2.1 dX13_gives_9 rfl (lv_at hl 0 rfl) ?_
    refine x_getC C w 6 fM138 obM rfl dX13_gives_10 ?_
    refine lv_iload_n C.1 C.2.1 dX13_gives_13 rfl (lv_at hl 1 rfl) ?_
    obtain ⟨v_2, hv_2, h⟩ := bnd h
    refine x_iald C w obM6 hv_2 dX13_gives_14 ?_
    refine lv_bipush (v := 54) C.1 C.2.1 dX13_gives_15 (by decide) ?_
    refine lv_icmp_ne (tgt := 24) C.1 C.2.1 dX13_gives_17 (by decide) (fun hc => ?_) (fun hc => ?_)
    · replace h := iff0 hc h
      refine lv_aload_n C.1 C.2.1 dX13_gives_24 rfl (lv_at hl 0 rfl) ?_
      refine lv_aload_n C.1 C.2.1 dX13_gives_25 rfl (lv_at hl 0 rfl) ?_
      refine x_getC C w 6 fM138 obM rfl dX13_gives_26 ?_
      refine lv_iload_n C.1 C.2.1 dX13_gives_29 rfl (lv_at hl 1 rfl) ?_
      obtain ⟨v_3, hv_3, h⟩ := bnd h
      refine x_iald C w obM6 hv_3 dX13_gives_30 ?_
      refine lv_iconst (v := 0) C.1 C.2.1 dX13_gives_31 (by decide) ?_
      obtain ⟨v_4, hv_4, h⟩ := bnd h
      refine x_callVi (q := (RX13, TX13, 68)) (As := [.int v_3, .int (0 : Int32)]) (rest := []) C w (k_roleOf l D T ρ g H.size S hv_4) vM306 ⟨by decide, by decide⟩ obM (by decide) rfl rfl rfl hl.1 (Nat.le_of_ble_eq_true rfl) ⟨Nat.zero_le _, Nat.zero_le _⟩ dX13_gives_32 (fun H locs w => ?_)
      exact w_gives_35 C hr hk w (lv_sub hl [0, 1] rfl) h
    · replace h := ift hc h
      exact w_gives_20 C hr hk w (lv_sub hl [0, 1] rfl) h
end S_gives
set_option maxRecDepth 100000 in
theorem k_gives (l : Launch) (D : va_G) (T : Cy) (ρ : Nat → Nat) (g sz : Nat) (S : St) {x1 : Int32} {S' : St} (h : m_gives g S x1 = some S') : Mv l Ym D T ρ yX13_gives cX13_gives 4 none 2 45 S S' [.ref (ρ 0), .int x1] sz :=
  x_in (by decide) (Nat.le_of_ble_eq_true rfl) (fun p e s m below meth c ls C hr hk w hl => w_gives_0 C hr hk w hl h)

theorem dX13_isGiven_0 : decode cX13_isGiven 0 = .ok (.iconst 1, 1) := by decide +kernel
theorem dX13_isGiven_1 : decode cX13_isGiven 1 = .ok (.lload_n 2, 1) := by decide +kernel
theorem dX13_isGiven_2 : decode cX13_isGiven 2 = .ok (.ldc2_w 368, 3) := by decide +kernel
theorem dX13_isGiven_5 : decode cX13_isGiven 5 = .ok (.land, 1) := by decide +kernel
theorem dX13_isGiven_6 : decode cX13_isGiven 6 = .ok (.l2i, 1) := by decide +kernel
theorem dX13_isGiven_7 : decode cX13_isGiven 7 = .ok (.ishl, 1) := by decide +kernel
theorem dX13_isGiven_8 : decode cX13_isGiven 8 = .ok (.istore 4, 2) := by decide +kernel
theorem dX13_isGiven_10 : decode cX13_isGiven 10 = .ok (.iload_n 1, 1) := by decide +kernel
theorem dX13_isGiven_11 : decode cX13_isGiven 11 = .ok (.ifCond .ne 19, 3) := by decide +kernel
theorem dX13_isGiven_14 : decode cX13_isGiven 14 = .ok (.aload_n 0, 1) := by decide +kernel
theorem dX13_isGiven_15 : decode cX13_isGiven 15 = .ok (.getfield 370, 3) := by decide +kernel
theorem dX13_isGiven_18 : decode cX13_isGiven 18 = .ok (.iload 4, 2) := by decide +kernel
theorem dX13_isGiven_20 : decode cX13_isGiven 20 = .ok (.iand, 1) := by decide +kernel
theorem dX13_isGiven_21 : decode cX13_isGiven 21 = .ok (.ifCond .eq 7, 3) := by decide +kernel
theorem dX13_isGiven_24 : decode cX13_isGiven 24 = .ok (.iconst 1, 1) := by decide +kernel
theorem dX13_isGiven_25 : decode cX13_isGiven 25 = .ok (.goto 4, 3) := by decide +kernel
theorem dX13_isGiven_28 : decode cX13_isGiven 28 = .ok (.iconst 0, 1) := by decide +kernel
theorem dX13_isGiven_29 : decode cX13_isGiven 29 = .ok (.ireturn, 1) := by decide +kernel
theorem dX13_isGiven_30 : decode cX13_isGiven 30 = .ok (.iload_n 1, 1) := by decide +kernel
theorem dX13_isGiven_31 : decode cX13_isGiven 31 = .ok (.iconst 1, 1) := by decide +kernel
theorem dX13_isGiven_32 : decode cX13_isGiven 32 = .ok (.if_icmp .eq 14, 3) := by decide +kernel
theorem dX13_isGiven_35 : decode cX13_isGiven 35 = .ok (.iload_n 1, 1) := by decide +kernel
theorem dX13_isGiven_36 : decode cX13_isGiven 36 = .ok (.iconst 5, 1) := by decide +kernel
theorem dX13_isGiven_37 : decode cX13_isGiven 37 = .ok (.if_icmp .eq 9, 3) := by decide +kernel
theorem dX13_isGiven_40 : decode cX13_isGiven 40 = .ok (.iload_n 1, 1) := by decide +kernel
theorem dX13_isGiven_41 : decode cX13_isGiven 41 = .ok (.bipush 7, 2) := by decide +kernel
theorem dX13_isGiven_43 : decode cX13_isGiven 43 = .ok (.if_icmp .ne 19, 3) := by decide +kernel
theorem dX13_isGiven_46 : decode cX13_isGiven 46 = .ok (.aload_n 0, 1) := by decide +kernel
theorem dX13_isGiven_47 : decode cX13_isGiven 47 = .ok (.getfield 373, 3) := by decide +kernel
theorem dX13_isGiven_50 : decode cX13_isGiven 50 = .ok (.iload 4, 2) := by decide +kernel
theorem dX13_isGiven_52 : decode cX13_isGiven 52 = .ok (.iand, 1) := by decide +kernel
theorem dX13_isGiven_53 : decode cX13_isGiven 53 = .ok (.ifCond .eq 7, 3) := by decide +kernel
theorem dX13_isGiven_56 : decode cX13_isGiven 56 = .ok (.iconst 1, 1) := by decide +kernel
theorem dX13_isGiven_57 : decode cX13_isGiven 57 = .ok (.goto 4, 3) := by decide +kernel
theorem dX13_isGiven_60 : decode cX13_isGiven 60 = .ok (.iconst 0, 1) := by decide +kernel
theorem dX13_isGiven_61 : decode cX13_isGiven 61 = .ok (.ireturn, 1) := by decide +kernel
theorem dX13_isGiven_62 : decode cX13_isGiven 62 = .ok (.iload_n 1, 1) := by decide +kernel
theorem dX13_isGiven_63 : decode cX13_isGiven 63 = .ok (.iconst 2, 1) := by decide +kernel
theorem dX13_isGiven_64 : decode cX13_isGiven 64 = .ok (.if_icmp .ne 13, 3) := by decide +kernel
theorem dX13_isGiven_67 : decode cX13_isGiven 67 = .ok (.aload_n 0, 1) := by decide +kernel
theorem dX13_isGiven_68 : decode cX13_isGiven 68 = .ok (.getfield 376, 3) := by decide +kernel
theorem dX13_isGiven_71 : decode cX13_isGiven 71 = .ok (.iload 4, 2) := by decide +kernel
theorem dX13_isGiven_73 : decode cX13_isGiven 73 = .ok (.iand, 1) := by decide +kernel
theorem dX13_isGiven_74 : decode cX13_isGiven 74 = .ok (.ifCond .eq 7, 3) := by decide +kernel
theorem dX13_isGiven_77 : decode cX13_isGiven 77 = .ok (.iconst 1, 1) := by decide +kernel
theorem dX13_isGiven_78 : decode cX13_isGiven 78 = .ok (.goto 4, 3) := by decide +kernel
theorem dX13_isGiven_81 : decode cX13_isGiven 81 = .ok (.iconst 0, 1) := by decide +kernel
theorem dX13_isGiven_82 : decode cX13_isGiven 82 = .ok (.ireturn, 1) := by decide +kernel
def m_isGiven_46 (g : Nat) (S : St) (x4 : Int32) : Option Int32 :=
if ((gI S 0 28) &&& x4) = 0 then (
  some (0 : Int32)
) else (
  some (1 : Int32)
)
def m_isGiven (g : Nat) (S : St) (x1 : Int32) (x2 : Int64) : Option Int32 :=
lt ((1 : Int32) <<< (((x2 &&& (31 : Int64)).toInt32) &&& 31)) fun x4_1 =>
if x1 = 0 then (
  if ((gI S 0 27) &&& x4_1) = 0 then (
    some (0 : Int32)
  ) else (
    some (1 : Int32)
  )
) else (
  if x1 = (1 : Int32) then (
    m_isGiven_46 g S x4_1
  ) else (
    if x1 = (5 : Int32) then (
      m_isGiven_46 g S x4_1
    ) else (
      if x1 = (7 : Int32) then (
        m_isGiven_46 g S x4_1
      ) else (
        if x1 = (2 : Int32) then (
          if ((gI S 0 29) &&& x4_1) = 0 then (
            some (0 : Int32)
          ) else (
            some (1 : Int32)
          )
        ) else (
          some (1 : Int32)
        )
      )
    )
  )
)
section S_isGiven
variable {p : Program} {l : Launch} {e : Env} {s : State} {m : MethodId} {args : Array Value} {below : List Frame} {meth : Method} {c : Code} {H : Heap} {locs : List Loc} {ls : Array Slot} {D : va_G} {T : Cy} {ρ : Nat → Nat} {A : Nat → Prop}
set_option maxRecDepth 100000 in
set_option maxHeartbeats 4000000 in
theorem w_isGiven_46  {g : Nat} {S : St} {x4 : Int32} (C : CallFix p m c cX13_isGiven 5 s args tb RX13) (hr : meth.sig.returnType = (some .boolean)) (hk : meth.locks = false) {r : Int32} (w : Wn Ym D T ρ S A s H locs) (hl : lv_has ls 5 [(0, .ref (ρ 0)), (4, .int x4)]) (h : m_isGiven_46 g S x4 = some r) : W p l e (rmN 0 0) s m args below meth c H locs 0 0 (MQ below (Qi Ym D T ρ A S r) args s 0 0 A) (F0 m 46 ls []) := by
  unfold m_isGiven_46 at h
  refine lv_aload_n C.1 C.2.1 dX13_isGiven_46 rfl (lv_at hl 0 rfl) ?_
  refine x_getI C w fM373 obM dX13_isGiven_47 ?_
  refine lv_iload C.1 C.2.1 dX13_isGiven_50 (lv_at hl 1 rfl) ?_
  refine lv_iand C.1 C.2.1 dX13_isGiven_52 ?_
  refine lv_if_eq (tgt := 60) C.1 C.2.1 dX13_isGiven_53 (by decide) (fun hc => ?_) (fun hc => ?_)
  · replace h := ift hc h
    refine lv_iconst (v := 0) C.1 C.2.1 dX13_isGiven_60 (by decide) ?_
    obtain rfl := som h
    exact x_zret C w hr hk (by decide) dX13_isGiven_61
  · replace h := iff0 hc h
    refine lv_iconst (v := 1) C.1 C.2.1 dX13_isGiven_56 (by decide) ?_
    refine lv_goto (tgt := 61) C.1 C.2.1 dX13_isGiven_57 (by decide) ?_
    obtain rfl := som h
    exact x_zret C w hr hk (by decide) dX13_isGiven_61
set_option maxRecDepth 100000 in
set_option maxHeartbeats 4000000 in
theorem w_isGiven_0  {g : Nat} {S : St} {x1 : Int32} {x2 : Int64} (C : CallFix p m c cX13_isGiven 5 s args tb RX13) (hr : meth.sig.returnType = (some .boolean)) (hk : meth.locks = false) {r : Int32} (w : Wn Ym D T ρ S A s H locs) (hl : lv_has ls 5 [(0, .ref (ρ 0)), (1, .int x1), (2, .long x2)]) (h : m_isGiven g S x1 x2 = some r) : W p l e (rmN 0 0) s m args below meth c H locs 0 0 (MQ below (Qi Ym D T ρ A S r) args s 0 0 A) (F0 m 0 ls []) := by
  unfold m_isGiven at h
  refine lv_iconst (v := 1) C.1 C.2.1 dX13_isGiven_0 (by decide) ?_
  refine lv_lload_n C.1 C.2.1 dX13_isGiven_1 rfl (lv_at hl 2 rfl) ?_
  refine lv_ldc2 C.1 C.2.1 C.2.2.2.1 (C.2.2.2.2 _ nM368) dX13_isGiven_2 ?_
  refine lv_land C.1 C.2.1 dX13_isGiven_5 ?_
  refine lv_l2i C.1 C.2.1 dX13_isGiven_6 rfl ?_
  refine lv_ishl C.1 C.2.1 dX13_isGiven_7 ?_
  obtain ⟨x4_1, ex4_1, h⟩ := lt_e h
  refine x_nm ex4_1 ?_
  refine lv_istore (lv' := [(4, .int x4_1), (0, .ref (ρ 0)), (1, .int x1), (2, .long x2)]) C.1 C.2.1 dX13_isGiven_8 hl (by decide) rfl (fun ls hl => ?_)
  refine lv_iload_n C.1 C.2.1 dX13_isGiven_10 rfl (lv_at hl 2 rfl) ?_
  refine lv_if_ne (tgt := 30) C.1 C.2.1 dX13_isGiven_11 (by decide) (fun hc => ?_) (fun hc => ?_)
  · replace h := iff0 hc h
    refine lv_iload_n C.1 C.2.1 dX13_isGiven_30 rfl (lv_at hl 2 rfl) ?_
    refine lv_iconst (v := 1) C.1 C.2.1 dX13_isGiven_31 (by decide) ?_
    refine lv_icmp_eq (tgt := 46) C.1 C.2.1 dX13_isGiven_32 (by decide) (fun hc => ?_) (fun hc => ?_)
    · replace h := ift hc h
      exact w_isGiven_46 C hr hk w (lv_sub hl [1, 0] rfl) h
    · replace h := iff0 hc h
      refine lv_iload_n C.1 C.2.1 dX13_isGiven_35 rfl (lv_at hl 2 rfl) ?_
      refine lv_iconst (v := 5) C.1 C.2.1 dX13_isGiven_36 (by decide) ?_
      refine lv_icmp_eq (tgt := 46) C.1 C.2.1 dX13_isGiven_37 (by decide) (fun hc => ?_) (fun hc => ?_)
      · replace h := ift hc h
        exact w_isGiven_46 C hr hk w (lv_sub hl [1, 0] rfl) h
      · replace h := iff0 hc h
        refine lv_iload_n C.1 C.2.1 dX13_isGiven_40 rfl (lv_at hl 2 rfl) ?_
        refine lv_bipush (v := 7) C.1 C.2.1 dX13_isGiven_41 (by decide) ?_
        refine lv_icmp_ne (tgt := 62) C.1 C.2.1 dX13_isGiven_43 (by decide) (fun hc => ?_) (fun hc => ?_)
        · replace h := iff0 hc h
          refine lv_iload_n C.1 C.2.1 dX13_isGiven_62 rfl (lv_at hl 2 rfl) ?_
          refine lv_iconst (v := 2) C.1 C.2.1 dX13_isGiven_63 (by decide) ?_
          refine lv_icmp_ne (tgt := 77) C.1 C.2.1 dX13_isGiven_64 (by decide) (fun hc => ?_) (fun hc => ?_)
          · replace h := iff0 hc h
            refine lv_iconst (v := 1) C.1 C.2.1 dX13_isGiven_77 (by decide) ?_
            refine lv_goto (tgt := 82) C.1 C.2.1 dX13_isGiven_78 (by decide) ?_
            obtain rfl := som h
            exact x_zret C w hr hk (by decide) dX13_isGiven_82
          · replace h := ift hc h
            refine lv_aload_n C.1 C.2.1 dX13_isGiven_67 rfl (lv_at hl 1 rfl) ?_
            refine x_getI C w fM376 obM dX13_isGiven_68 ?_
            refine lv_iload C.1 C.2.1 dX13_isGiven_71 (lv_at hl 0 rfl) ?_
            refine lv_iand C.1 C.2.1 dX13_isGiven_73 ?_
            refine lv_if_eq (tgt := 81) C.1 C.2.1 dX13_isGiven_74 (by decide) (fun hc => ?_) (fun hc => ?_)
            · replace h := ift hc h
              refine lv_iconst (v := 0) C.1 C.2.1 dX13_isGiven_81 (by decide) ?_
              obtain rfl := som h
              exact x_zret C w hr hk (by decide) dX13_isGiven_82
            · replace h := iff0 hc h
              refine lv_iconst (v := 1) C.1 C.2.1 dX13_isGiven_77 (by decide) ?_
              refine lv_goto (tgt := 82) C.1 C.2.1 dX13_isGiven_78 (by decide) ?_
              obtain rfl := som h
              exact x_zret C w hr hk (by decide) dX13_isGiven_82
        · replace h := ift hc h
          exact w_isGiven_46 C hr hk w (lv_sub hl [1, 0] rfl) h
  · replace h := ift hc h
    refine lv_aload_n C.1 C.2.1 dX13_isGiven_14 rfl (lv_at hl 1 rfl) ?_
    refine x_getI C w fM370 obM dX13_isGiven_15 ?_
    refine lv_iload C.1 C.2.1 dX13_isGiven_18 (lv_at hl 0 rfl) ?_
    refine lv_iand C.1 C.2.1 dX13_isGiven_20 ?_
    refine lv_if_eq (tgt := 28) C.1 C.2.1 dX13_isGiven_21 (by decide) (fun hc => ?_) (fun hc => ?_)
    · replace h := ift hc h
      refine lv_iconst (v := 0) C.1 C.2.1 dX13_isGiven_28 (by decide) ?_
      obtain rfl := som h
      exact x_zret C w hr hk (by decide) dX13_isGiven_29
    · replace h := iff0 hc h
      refine lv_iconst (v := 1) C.1 C.2.1 dX13_isGiven_24 (by decide) ?_
      refine lv_goto (tgt := 29) C.1 C.2.1 dX13_isGiven_25 (by decide) ?_
      obtain rfl := som h
      exact x_zret C w hr hk (by decide) dX13_isGiven_29
end S_isGiven
set_option maxRecDepth 100000 in
theorem k_isGiven (l : Launch) (D : va_G) (T : Cy) (ρ : Nat → Nat) (g sz : Nat) (S : St) {x1 : Int32} {x2 : Int64} {r : Int32} (h : m_isGiven g S x1 x2 = some r) : Mi l Ym D T ρ yX13_isGiven cX13_isGiven 5 (some .boolean) 0 0 S S r [.ref (ρ 0), .int x1, .long x2] sz :=
  x_in (by decide) (Nat.le_of_ble_eq_true rfl) (fun p e s m below meth c ls C hr hk w hl => w_isGiven_0 C hr hk w hl h)

theorem dX13_opens_0 : decode cX13_opens 0 = .ok (.aload_n 0, 1) := by decide +kernel
theorem dX13_opens_1 : decode cX13_opens 1 = .ok (.getfield 174, 3) := by decide +kernel
theorem dX13_opens_4 : decode cX13_opens 4 = .ok (.aload_n 0, 1) := by decide +kernel
theorem dX13_opens_5 : decode cX13_opens 5 = .ok (.getfield 379, 3) := by decide +kernel
theorem dX13_opens_8 : decode cX13_opens 8 = .ok (.iload_n 2, 1) := by decide +kernel
theorem dX13_opens_9 : decode cX13_opens 9 = .ok (.iastore, 1) := by decide +kernel
theorem dX13_opens_10 : decode cX13_opens 10 = .ok (.aload_n 0, 1) := by decide +kernel
theorem dX13_opens_11 : decode cX13_opens 11 = .ok (.getfield 177, 3) := by decide +kernel
theorem dX13_opens_14 : decode cX13_opens 14 = .ok (.aload_n 0, 1) := by decide +kernel
theorem dX13_opens_15 : decode cX13_opens 15 = .ok (.getfield 379, 3) := by decide +kernel
theorem dX13_opens_18 : decode cX13_opens 18 = .ok (.aload_n 0, 1) := by decide +kernel
theorem dX13_opens_19 : decode cX13_opens 19 = .ok (.getfield 370, 3) := by decide +kernel
theorem dX13_opens_22 : decode cX13_opens 22 = .ok (.iastore, 1) := by decide +kernel
theorem dX13_opens_23 : decode cX13_opens 23 = .ok (.aload_n 0, 1) := by decide +kernel
theorem dX13_opens_24 : decode cX13_opens 24 = .ok (.getfield 180, 3) := by decide +kernel
theorem dX13_opens_27 : decode cX13_opens 27 = .ok (.aload_n 0, 1) := by decide +kernel
theorem dX13_opens_28 : decode cX13_opens 28 = .ok (.getfield 379, 3) := by decide +kernel
theorem dX13_opens_31 : decode cX13_opens 31 = .ok (.aload_n 0, 1) := by decide +kernel
theorem dX13_opens_32 : decode cX13_opens 32 = .ok (.getfield 138, 3) := by decide +kernel
theorem dX13_opens_35 : decode cX13_opens 35 = .ok (.iload_n 1, 1) := by decide +kernel
theorem dX13_opens_36 : decode cX13_opens 36 = .ok (.iaload, 1) := by decide +kernel
theorem dX13_opens_37 : decode cX13_opens 37 = .ok (.bipush 54, 2) := by decide +kernel
theorem dX13_opens_39 : decode cX13_opens 39 = .ok (.if_icmp .ne 23, 3) := by decide +kernel
theorem dX13_opens_42 : decode cX13_opens 42 = .ok (.aload_n 0, 1) := by decide +kernel
theorem dX13_opens_43 : decode cX13_opens 43 = .ok (.getfield 373, 3) := by decide +kernel
theorem dX13_opens_46 : decode cX13_opens 46 = .ok (.iconst 1, 1) := by decide +kernel
theorem dX13_opens_47 : decode cX13_opens 47 = .ok (.aload_n 0, 1) := by decide +kernel
theorem dX13_opens_48 : decode cX13_opens 48 = .ok (.getfield 150, 3) := by decide +kernel
theorem dX13_opens_51 : decode cX13_opens 51 = .ok (.bipush 10, 2) := by decide +kernel
theorem dX13_opens_53 : decode cX13_opens 53 = .ok (.iload_n 1, 1) := by decide +kernel
theorem dX13_opens_54 : decode cX13_opens 54 = .ok (.imul, 1) := by decide +kernel
theorem dX13_opens_55 : decode cX13_opens 55 = .ok (.laload, 1) := by decide +kernel
theorem dX13_opens_56 : decode cX13_opens 56 = .ok (.l2i, 1) := by decide +kernel
theorem dX13_opens_57 : decode cX13_opens 57 = .ok (.ishl, 1) := by decide +kernel
theorem dX13_opens_58 : decode cX13_opens 58 = .ok (.ior, 1) := by decide +kernel
theorem dX13_opens_59 : decode cX13_opens 59 = .ok (.goto 7, 3) := by decide +kernel
theorem dX13_opens_62 : decode cX13_opens 62 = .ok (.aload_n 0, 1) := by decide +kernel
theorem dX13_opens_63 : decode cX13_opens 63 = .ok (.getfield 373, 3) := by decide +kernel
theorem dX13_opens_66 : decode cX13_opens 66 = .ok (.iastore, 1) := by decide +kernel
theorem dX13_opens_67 : decode cX13_opens 67 = .ok (.aload_n 0, 1) := by decide +kernel
theorem dX13_opens_68 : decode cX13_opens 68 = .ok (.getfield 183, 3) := by decide +kernel
theorem dX13_opens_71 : decode cX13_opens 71 = .ok (.aload_n 0, 1) := by decide +kernel
theorem dX13_opens_72 : decode cX13_opens 72 = .ok (.getfield 379, 3) := by decide +kernel
theorem dX13_opens_75 : decode cX13_opens 75 = .ok (.aload_n 0, 1) := by decide +kernel
theorem dX13_opens_76 : decode cX13_opens 76 = .ok (.getfield 376, 3) := by decide +kernel
theorem dX13_opens_79 : decode cX13_opens 79 = .ok (.iastore, 1) := by decide +kernel
theorem dX13_opens_80 : decode cX13_opens 80 = .ok (.aload_n 0, 1) := by decide +kernel
theorem dX13_opens_81 : decode cX13_opens 81 = .ok (.dup, 1) := by decide +kernel
theorem dX13_opens_82 : decode cX13_opens 82 = .ok (.getfield 379, 3) := by decide +kernel
theorem dX13_opens_85 : decode cX13_opens 85 = .ok (.iconst 1, 1) := by decide +kernel
theorem dX13_opens_86 : decode cX13_opens 86 = .ok (.iadd, 1) := by decide +kernel
theorem dX13_opens_87 : decode cX13_opens 87 = .ok (.putfield 379, 3) := by decide +kernel
theorem dX13_opens_90 : decode cX13_opens 90 = .ok (.return_, 1) := by decide +kernel
def m_opens_66 (g : Nat) (S : St) (y1 : Int32) (y2 : Int32) : Option St :=
(tI S 20 y1 y2).bind fun S_4 =>
(tI S_4 21 (gI S_4 0 30) (gI S_4 0 29)).bind fun S_5 =>
lt (sI S_5 0 30 ((gI S_5 0 30) + (1 : Int32))) fun S_6 =>
some S_6
def m_opens (g : Nat) (S : St) (x1 : Int32) (x2 : Int32) : Option St :=
(tI S 18 (gI S 0 30) x2).bind fun S_1 =>
(tI S_1 19 (gI S_1 0 30) (gI S_1 0 27)).bind fun S_2 =>
(aI S_2 6 x1).bind fun v_3 =>
if v_3 = (54 : Int32) then (
  (aJ S_2 10 ((10 : Int32) * x1)).bind fun v_4 =>
  m_opens_66 g S_2 (gI S_2 0 30) ((gI S_2 0 28) ||| ((1 : Int32) <<< ((v_4.toInt32) &&& 31)))
) else (
  m_opens_66 g S_2 (gI S_2 0 30) (gI S_2 0 28)
)
section S_opens
variable {p : Program} {l : Launch} {e : Env} {s : State} {m : MethodId} {args : Array Value} {below : List Frame} {meth : Method} {c : Code} {H : Heap} {locs : List Loc} {ls : Array Slot} {D : va_G} {T : Cy} {ρ : Nat → Nat} {A : Nat → Prop}
set_option maxRecDepth 100000 in
set_option maxHeartbeats 4000000 in
theorem w_opens_66  {g : Nat} {S : St} {y1 : Int32} {y2 : Int32} (C : CallFix p m c cX13_opens 3 s args tb RX13) (hr : meth.sig.returnType = none) (hk : meth.locks = false) {S' : St} (w : Wn Ym D T ρ S A s H locs) (hl : lv_has ls 3 [(0, .ref (ρ 0))]) (h : m_opens_66 g S y1 y2 = some S') : W p l e (rmN 0 0) s m args below meth c H locs 0 0 (MQ below (Qv Ym D T ρ A S') args s 0 0 A) (F0 m 66 ls [.int y2, .int y1, .ref (ρ 20)]) := by
  unfold m_opens_66 at h
  obtain ⟨S_4, hS_4, h⟩ := bnd h
  refine x_iast C w obM20 hS_4 dX13_opens_66 (fun H locs w => ?_)
  refine lv_aload_n C.1 C.2.1 dX13_opens_67 rfl (lv_at hl 0 rfl) ?_
  refine x_getC C w 21 fM183 obM rfl dX13_opens_68 ?_
  refine lv_aload_n C.1 C.2.1 dX13_opens_71 rfl (lv_at hl 0 rfl) ?_
  refine x_getI C w fM379 obM dX13_opens_72 ?_
  refine lv_aload_n C.1 C.2.1 dX13_opens_75 rfl (lv_at hl 0 rfl) ?_
  refine x_getI C w fM376 obM dX13_opens_76 ?_
  obtain ⟨S_5, hS_5, h⟩ := bnd h
  refine x_iast C w obM21 hS_5 dX13_opens_79 (fun H locs w => ?_)
  refine lv_aload_n C.1 C.2.1 dX13_opens_80 rfl (lv_at hl 0 rfl) ?_
  refine lv_dup C.1 C.2.1 dX13_opens_81 rfl ?_
  refine x_getI C w fM379 obM dX13_opens_82 ?_
  refine lv_iconst (v := 1) C.1 C.2.1 dX13_opens_85 (by decide) ?_
  refine lv_iadd C.1 C.2.1 dX13_opens_86 ?_
  obtain ⟨S_6, eS_6, h⟩ := lt_e h
  refine y_putI C w eS_6 fM379 pM30 obM dX13_opens_87 (fun H locs w => ?_)
  obtain rfl := som h
  exact x_vret C w hr hk dX13_opens_90
set_option maxRecDepth 100000 in
set_option maxHeartbeats 4000000 in
theorem w_opens_0  {g : Nat} {S : St} {x1 : Int32} {x2 : Int32} (C : CallFix p m c cX13_opens 3 s args tb RX13) (hr : meth.sig.returnType = none) (hk : meth.locks = false) {S' : St} (w : Wn Ym D T ρ S A s H locs) (hl : lv_has ls 3 [(0, .ref (ρ 0)), (1, .int x1), (2, .int x2)]) (h : m_opens g S x1 x2 = some S') : W p l e (rmN 0 0) s m args below meth c H locs 0 0 (MQ below (Qv Ym D T ρ A S') args s 0 0 A) (F0 m 0 ls []) := by
  unfold m_opens at h
  refine lv_aload_n C.1 C.2.1 dX13_opens_0 rfl (lv_at hl 0 rfl) ?_
  refine x_getC C w 18 fM174 obM rfl dX13_opens_1 ?_
  refine lv_aload_n C.1 C.2.1 dX13_opens_4 rfl (lv_at hl 0 rfl) ?_
  refine x_getI C w fM379 obM dX13_opens_5 ?_
  refine lv_iload_n C.1 C.2.1 dX13_opens_8 rfl (lv_at hl 2 rfl) ?_
  obtain ⟨S_1, hS_1, h⟩ := bnd h
  refine x_iast C w obM18 hS_1 dX13_opens_9 (fun H locs w => ?_)
  refine lv_aload_n C.1 C.2.1 dX13_opens_10 rfl (lv_at hl 0 rfl) ?_
  refine x_getC C w 19 fM177 obM rfl dX13_opens_11 ?_
  refine lv_aload_n C.1 C.2.1 dX13_opens_14 rfl (lv_at hl 0 rfl) ?_
  refine x_getI C w fM379 obM dX13_opens_15 ?_
  refine lv_aload_n C.1 C.2.1 dX13_opens_18 rfl (lv_at hl 0 rfl) ?_
  refine x_getI C w fM370 obM dX13_opens_19 ?_
  obtain ⟨S_2, hS_2, h⟩ := bnd h
  refine x_iast C w obM19 hS_2 dX13_opens_22 (fun H locs w => ?_)
  refine lv_aload_n C.1 C.2.1 dX13_opens_23 rfl (lv_at hl 0 rfl) ?_
  refine x_getC C w 20 fM180 obM rfl dX13_opens_24 ?_
  refine lv_aload_n C.1 C.2.1 dX13_opens_27 rfl (lv_at hl 0 rfl) ?_
  refine x_getI C w fM379 obM dX13_opens_28 ?_
  refine lv_aload_n C.1 C.2.1 dX13_opens_31 rfl (lv_at hl 0 rfl) ?_
  refine x_getC C w 6 fM138 obM rfl dX13_opens_32 ?_
  refine lv_iload_n C.1 C.2.1 dX13_opens_35 rfl (lv_at hl 1 rfl) ?_
  obtain ⟨v_3, hv_3, h⟩ := bnd h
  refine x_iald C w obM6 hv_3 dX13_opens_36 ?_
  refine lv_bipush (v := 54) C.1 C.2.1 dX13_opens_37 (by decide) ?_
  refine lv_icmp_ne (tgt := 62) C.1 C.2.1 dX13_opens_39 (by decide) (fun hc => ?_) (fun hc => ?_)
  · replace h := iff0 hc h
    refine lv_aload_n C.1 C.2.1 dX13_opens_62 rfl (lv_at hl 0 rfl) ?_
    refine x_getI C w fM373 obM dX13_opens_63 ?_
    exact w_opens_66 C hr hk w (lv_sub hl [0] rfl) h
  · replace h := ift hc h
    refine lv_aload_n C.1 C.2.1 dX13_opens_42 rfl (lv_at hl 0 rfl) ?_
    refine x_getI C w fM373 obM dX13_opens_43 ?_
    refine lv_iconst (v := 1) C.1 C.2.1 dX13_opens_46 (by decide) ?_
    refine lv_aload_n C.1 C.2.1 dX13_opens_47 rfl (lv_at hl 0 rfl) ?_
    refine x_getC C w 10 fM150 obM rfl dX13_opens_48 ?_
    refine lv_bipush (v := 10) C.1 C.2.1 dX13_opens_51 (by decide) ?_
    refine lv_iload_n C.1 C.2.1 dX13_opens_53 rfl (lv_at hl 1 rfl) ?_
    refine lv_imul C.1 C.2.1 dX13_opens_54 ?_
    obtain ⟨v_4, hv_4, h⟩ := bnd h
    refine x_lald C w obM10 hv_4 dX13_opens_55 ?_
    refine lv_l2i C.1 C.2.1 dX13_opens_56 rfl ?_
    refine lv_ishl C.1 C.2.1 dX13_opens_57 ?_
    refine lv_ior C.1 C.2.1 dX13_opens_58 ?_
    refine lv_goto (tgt := 66) C.1 C.2.1 dX13_opens_59 (by decide) ?_
    exact w_opens_66 C hr hk w (lv_sub hl [0] rfl) h
end S_opens
set_option maxRecDepth 100000 in
theorem k_opens (l : Launch) (D : va_G) (T : Cy) (ρ : Nat → Nat) (g sz : Nat) (S : St) {x1 : Int32} {x2 : Int32} {S' : St} (h : m_opens g S x1 x2 = some S') : Mv l Ym D T ρ yX13_opens cX13_opens 3 none 0 0 S S' [.ref (ρ 0), .int x1, .int x2] sz :=
  x_in (by decide) (Nat.le_of_ble_eq_true rfl) (fun p e s m below meth c ls C hr hk w hl => w_opens_0 C hr hk w hl h)

theorem dX13_shut_0 : decode cX13_shut 0 = .ok (.aload_n 0, 1) := by decide +kernel
theorem dX13_shut_1 : decode cX13_shut 1 = .ok (.dup, 1) := by decide +kernel
theorem dX13_shut_2 : decode cX13_shut 2 = .ok (.getfield 379, 3) := by decide +kernel
theorem dX13_shut_5 : decode cX13_shut 5 = .ok (.iconst 1, 1) := by decide +kernel
theorem dX13_shut_6 : decode cX13_shut 6 = .ok (.isub, 1) := by decide +kernel
theorem dX13_shut_7 : decode cX13_shut 7 = .ok (.putfield 379, 3) := by decide +kernel
theorem dX13_shut_10 : decode cX13_shut 10 = .ok (.aload_n 0, 1) := by decide +kernel
theorem dX13_shut_11 : decode cX13_shut 11 = .ok (.aload_n 0, 1) := by decide +kernel
theorem dX13_shut_12 : decode cX13_shut 12 = .ok (.getfield 177, 3) := by decide +kernel
theorem dX13_shut_15 : decode cX13_shut 15 = .ok (.aload_n 0, 1) := by decide +kernel
theorem dX13_shut_16 : decode cX13_shut 16 = .ok (.getfield 379, 3) := by decide +kernel
theorem dX13_shut_19 : decode cX13_shut 19 = .ok (.iaload, 1) := by decide +kernel
theorem dX13_shut_20 : decode cX13_shut 20 = .ok (.putfield 370, 3) := by decide +kernel
theorem dX13_shut_23 : decode cX13_shut 23 = .ok (.aload_n 0, 1) := by decide +kernel
theorem dX13_shut_24 : decode cX13_shut 24 = .ok (.aload_n 0, 1) := by decide +kernel
theorem dX13_shut_25 : decode cX13_shut 25 = .ok (.getfield 180, 3) := by decide +kernel
theorem dX13_shut_28 : decode cX13_shut 28 = .ok (.aload_n 0, 1) := by decide +kernel
theorem dX13_shut_29 : decode cX13_shut 29 = .ok (.getfield 379, 3) := by decide +kernel
theorem dX13_shut_32 : decode cX13_shut 32 = .ok (.iaload, 1) := by decide +kernel
theorem dX13_shut_33 : decode cX13_shut 33 = .ok (.putfield 373, 3) := by decide +kernel
theorem dX13_shut_36 : decode cX13_shut 36 = .ok (.aload_n 0, 1) := by decide +kernel
theorem dX13_shut_37 : decode cX13_shut 37 = .ok (.aload_n 0, 1) := by decide +kernel
theorem dX13_shut_38 : decode cX13_shut 38 = .ok (.getfield 183, 3) := by decide +kernel
theorem dX13_shut_41 : decode cX13_shut 41 = .ok (.aload_n 0, 1) := by decide +kernel
theorem dX13_shut_42 : decode cX13_shut 42 = .ok (.getfield 379, 3) := by decide +kernel
theorem dX13_shut_45 : decode cX13_shut 45 = .ok (.iaload, 1) := by decide +kernel
theorem dX13_shut_46 : decode cX13_shut 46 = .ok (.putfield 376, 3) := by decide +kernel
theorem dX13_shut_49 : decode cX13_shut 49 = .ok (.return_, 1) := by decide +kernel
def m_shut (g : Nat) (S : St) : Option St :=
lt (sI S 0 30 ((gI S 0 30) - (1 : Int32))) fun S_1 =>
(aI S_1 19 (gI S_1 0 30)).bind fun v_2 =>
lt (sI S_1 0 27 v_2) fun S_3 =>
(aI S_3 20 (gI S_3 0 30)).bind fun v_4 =>
lt (sI S_3 0 28 v_4) fun S_5 =>
(aI S_5 21 (gI S_5 0 30)).bind fun v_6 =>
lt (sI S_5 0 29 v_6) fun S_7 =>
some S_7
section S_shut
variable {p : Program} {l : Launch} {e : Env} {s : State} {m : MethodId} {args : Array Value} {below : List Frame} {meth : Method} {c : Code} {H : Heap} {locs : List Loc} {ls : Array Slot} {D : va_G} {T : Cy} {ρ : Nat → Nat} {A : Nat → Prop}
set_option maxRecDepth 100000 in
set_option maxHeartbeats 4000000 in
theorem w_shut_0  {g : Nat} {S : St} (C : CallFix p m c cX13_shut 1 s args tb RX13) (hr : meth.sig.returnType = none) (hk : meth.locks = false) {S' : St} (w : Wn Ym D T ρ S A s H locs) (hl : lv_has ls 1 [(0, .ref (ρ 0))]) (h : m_shut g S = some S') : W p l e (rmN 0 0) s m args below meth c H locs 0 0 (MQ below (Qv Ym D T ρ A S') args s 0 0 A) (F0 m 0 ls []) := by
  unfold m_shut at h
  refine lv_aload_n C.1 C.2.1 dX13_shut_0 rfl (lv_at hl 0 rfl) ?_
  refine lv_dup C.1 C.2.1 dX13_shut_1 rfl ?_
  refine x_getI C w fM379 obM dX13_shut_2 ?_
  refine lv_iconst (v := 1) C.1 C.2.1 dX13_shut_5 (by decide) ?_
  refine lv_isub C.1 C.2.1 dX13_shut_6 ?_
  obtain ⟨S_1, eS_1, h⟩ := lt_e h
  refine y_putI C w eS_1 fM379 pM30 obM dX13_shut_7 (fun H locs w => ?_)
  refine lv_aload_n C.1 C.2.1 dX13_shut_10 rfl (lv_at hl 0 rfl) ?_
  refine lv_aload_n C.1 C.2.1 dX13_shut_11 rfl (lv_at hl 0 rfl) ?_
  refine x_getC C w 19 fM177 obM rfl dX13_shut_12 ?_
  refine lv_aload_n C.1 C.2.1 dX13_shut_15 rfl (lv_at hl 0 rfl) ?_
  refine x_getI C w fM379 obM dX13_shut_16 ?_
  obtain ⟨v_2, hv_2, h⟩ := bnd h
  refine x_iald C w obM19 hv_2 dX13_shut_19 ?_
  obtain ⟨S_3, eS_3, h⟩ := lt_e h
  refine y_putI C w eS_3 fM370 pM27 obM dX13_shut_20 (fun H locs w => ?_)
  refine lv_aload_n C.1 C.2.1 dX13_shut_23 rfl (lv_at hl 0 rfl) ?_
  refine lv_aload_n C.1 C.2.1 dX13_shut_24 rfl (lv_at hl 0 rfl) ?_
  refine x_getC C w 20 fM180 obM rfl dX13_shut_25 ?_
  refine lv_aload_n C.1 C.2.1 dX13_shut_28 rfl (lv_at hl 0 rfl) ?_
  refine x_getI C w fM379 obM dX13_shut_29 ?_
  obtain ⟨v_4, hv_4, h⟩ := bnd h
  refine x_iald C w obM20 hv_4 dX13_shut_32 ?_
  obtain ⟨S_5, eS_5, h⟩ := lt_e h
  refine y_putI C w eS_5 fM373 pM28 obM dX13_shut_33 (fun H locs w => ?_)
  refine lv_aload_n C.1 C.2.1 dX13_shut_36 rfl (lv_at hl 0 rfl) ?_
  refine lv_aload_n C.1 C.2.1 dX13_shut_37 rfl (lv_at hl 0 rfl) ?_
  refine x_getC C w 21 fM183 obM rfl dX13_shut_38 ?_
  refine lv_aload_n C.1 C.2.1 dX13_shut_41 rfl (lv_at hl 0 rfl) ?_
  refine x_getI C w fM379 obM dX13_shut_42 ?_
  obtain ⟨v_6, hv_6, h⟩ := bnd h
  refine x_iald C w obM21 hv_6 dX13_shut_45 ?_
  obtain ⟨S_7, eS_7, h⟩ := lt_e h
  refine y_putI C w eS_7 fM376 pM29 obM dX13_shut_46 (fun H locs w => ?_)
  obtain rfl := som h
  exact x_vret C w hr hk dX13_shut_49
end S_shut
set_option maxRecDepth 100000 in
theorem k_shut (l : Launch) (D : va_G) (T : Cy) (ρ : Nat → Nat) (g sz : Nat) (S : St) {S' : St} (h : m_shut g S = some S') : Mv l Ym D T ρ yX13_shut cX13_shut 1 none 0 0 S S' [.ref (ρ 0)] sz :=
  x_in (by decide) (Nat.le_of_ble_eq_true rfl) (fun p e s m below meth c ls C hr hk w hl => w_shut_0 C hr hk w hl h)

theorem dX13_judge_0 : decode cX13_judge 0 = .ok (.aload_n 0, 1) := by decide +kernel
theorem dX13_judge_1 : decode cX13_judge 1 = .ok (.iconst 0, 1) := by decide +kernel
theorem dX13_judge_2 : decode cX13_judge 2 = .ok (.putfield 370, 3) := by decide +kernel
theorem dX13_judge_5 : decode cX13_judge 5 = .ok (.aload_n 0, 1) := by decide +kernel
theorem dX13_judge_6 : decode cX13_judge 6 = .ok (.iconst 0, 1) := by decide +kernel
theorem dX13_judge_7 : decode cX13_judge 7 = .ok (.putfield 373, 3) := by decide +kernel
theorem dX13_judge_10 : decode cX13_judge 10 = .ok (.aload_n 0, 1) := by decide +kernel
theorem dX13_judge_11 : decode cX13_judge 11 = .ok (.iconst 0, 1) := by decide +kernel
theorem dX13_judge_12 : decode cX13_judge 12 = .ok (.putfield 376, 3) := by decide +kernel
theorem dX13_judge_15 : decode cX13_judge 15 = .ok (.aload_n 0, 1) := by decide +kernel
theorem dX13_judge_16 : decode cX13_judge 16 = .ok (.iconst 0, 1) := by decide +kernel
theorem dX13_judge_17 : decode cX13_judge 17 = .ok (.putfield 379, 3) := by decide +kernel
theorem dX13_judge_20 : decode cX13_judge 20 = .ok (.iconst 0, 1) := by decide +kernel
theorem dX13_judge_21 : decode cX13_judge 21 = .ok (.istore_n 2, 1) := by decide +kernel
theorem dX13_judge_22 : decode cX13_judge 22 = .ok (.iload_n 2, 1) := by decide +kernel
theorem dX13_judge_23 : decode cX13_judge 23 = .ok (.aload_n 0, 1) := by decide +kernel
theorem dX13_judge_24 : decode cX13_judge 24 = .ok (.getfield 153, 3) := by decide +kernel
theorem dX13_judge_27 : decode cX13_judge 27 = .ok (.iload_n 1, 1) := by decide +kernel
theorem dX13_judge_28 : decode cX13_judge 28 = .ok (.iaload, 1) := by decide +kernel
theorem dX13_judge_29 : decode cX13_judge 29 = .ok (.if_icmp .ge 227, 3) := by decide +kernel
theorem dX13_judge_32 : decode cX13_judge 32 = .ok (.aload_n 0, 1) := by decide +kernel
theorem dX13_judge_33 : decode cX13_judge 33 = .ok (.getfield 379, 3) := by decide +kernel
theorem dX13_judge_36 : decode cX13_judge 36 = .ok (.ifCond .le 25, 3) := by decide +kernel
theorem dX13_judge_39 : decode cX13_judge 39 = .ok (.aload_n 0, 1) := by decide +kernel
theorem dX13_judge_40 : decode cX13_judge 40 = .ok (.getfield 174, 3) := by decide +kernel
theorem dX13_judge_43 : decode cX13_judge 43 = .ok (.aload_n 0, 1) := by decide +kernel
theorem dX13_judge_44 : decode cX13_judge 44 = .ok (.getfield 379, 3) := by decide +kernel
theorem dX13_judge_47 : decode cX13_judge 47 = .ok (.iconst 1, 1) := by decide +kernel
theorem dX13_judge_48 : decode cX13_judge 48 = .ok (.isub, 1) := by decide +kernel
theorem dX13_judge_49 : decode cX13_judge 49 = .ok (.iaload, 1) := by decide +kernel
theorem dX13_judge_50 : decode cX13_judge 50 = .ok (.iload_n 2, 1) := by decide +kernel
theorem dX13_judge_51 : decode cX13_judge 51 = .ok (.if_icmp .ne 10, 3) := by decide +kernel
theorem dX13_judge_54 : decode cX13_judge 54 = .ok (.aload_n 0, 1) := by decide +kernel
theorem dX13_judge_55 : decode cX13_judge 55 = .ok (.invokevirtual 382, 3) := by decide +kernel
theorem dX13_judge_58 : decode cX13_judge 58 = .ok (.goto (-26), 3) := by decide +kernel
theorem dX13_judge_61 : decode cX13_judge 61 = .ok (.iload_n 1, 1) := by decide +kernel
theorem dX13_judge_62 : decode cX13_judge 62 = .ok (.bipush 60, 2) := by decide +kernel
theorem dX13_judge_64 : decode cX13_judge 64 = .ok (.imul, 1) := by decide +kernel
theorem dX13_judge_65 : decode cX13_judge 65 = .ok (.iload_n 2, 1) := by decide +kernel
theorem dX13_judge_66 : decode cX13_judge 66 = .ok (.iadd, 1) := by decide +kernel
theorem dX13_judge_67 : decode cX13_judge 67 = .ok (.istore_n 3, 1) := by decide +kernel
theorem dX13_judge_68 : decode cX13_judge 68 = .ok (.aload_n 0, 1) := by decide +kernel
theorem dX13_judge_69 : decode cX13_judge 69 = .ok (.getfield 138, 3) := by decide +kernel
theorem dX13_judge_72 : decode cX13_judge 72 = .ok (.iload_n 3, 1) := by decide +kernel
theorem dX13_judge_73 : decode cX13_judge 73 = .ok (.iaload, 1) := by decide +kernel
theorem dX13_judge_74 : decode cX13_judge 74 = .ok (.istore 4, 2) := by decide +kernel
theorem dX13_judge_76 : decode cX13_judge 76 = .ok (.iconst 0, 1) := by decide +kernel
theorem dX13_judge_77 : decode cX13_judge 77 = .ok (.istore 5, 2) := by decide +kernel
theorem dX13_judge_79 : decode cX13_judge 79 = .ok (.iload 5, 2) := by decide +kernel
theorem dX13_judge_81 : decode cX13_judge 81 = .ok (.aload_n 0, 1) := by decide +kernel
theorem dX13_judge_82 : decode cX13_judge 82 = .ok (.getfield 141, 3) := by decide +kernel
theorem dX13_judge_85 : decode cX13_judge 85 = .ok (.iload_n 3, 1) := by decide +kernel
theorem dX13_judge_86 : decode cX13_judge 86 = .ok (.iaload, 1) := by decide +kernel
theorem dX13_judge_87 : decode cX13_judge 87 = .ok (.if_icmp .ge 123, 3) := by decide +kernel
theorem dX13_judge_90 : decode cX13_judge 90 = .ok (.bipush 10, 2) := by decide +kernel
theorem dX13_judge_92 : decode cX13_judge 92 = .ok (.iload_n 3, 1) := by decide +kernel
theorem dX13_judge_93 : decode cX13_judge 93 = .ok (.imul, 1) := by decide +kernel
theorem dX13_judge_94 : decode cX13_judge 94 = .ok (.iload 5, 2) := by decide +kernel
theorem dX13_judge_96 : decode cX13_judge 96 = .ok (.iadd, 1) := by decide +kernel
theorem dX13_judge_97 : decode cX13_judge 97 = .ok (.istore 6, 2) := by decide +kernel
theorem dX13_judge_99 : decode cX13_judge 99 = .ok (.aload_n 0, 1) := by decide +kernel
theorem dX13_judge_100 : decode cX13_judge 100 = .ok (.iload 4, 2) := by decide +kernel
theorem dX13_judge_102 : decode cX13_judge 102 = .ok (.iload 5, 2) := by decide +kernel
theorem dX13_judge_104 : decode cX13_judge 104 = .ok (.invokevirtual 306, 3) := by decide +kernel
theorem dX13_judge_107 : decode cX13_judge 107 = .ok (.istore 7, 2) := by decide +kernel
theorem dX13_judge_109 : decode cX13_judge 109 = .ok (.aload_n 0, 1) := by decide +kernel
theorem dX13_judge_110 : decode cX13_judge 110 = .ok (.getfield 379, 3) := by decide +kernel
theorem dX13_judge_113 : decode cX13_judge 113 = .ok (.ifCond .le 17, 3) := by decide +kernel
theorem dX13_judge_116 : decode cX13_judge 116 = .ok (.aload_n 0, 1) := by decide +kernel
theorem dX13_judge_117 : decode cX13_judge 117 = .ok (.getfield 174, 3) := by decide +kernel
theorem dX13_judge_120 : decode cX13_judge 120 = .ok (.aload_n 0, 1) := by decide +kernel
theorem dX13_judge_121 : decode cX13_judge 121 = .ok (.getfield 379, 3) := by decide +kernel
theorem dX13_judge_124 : decode cX13_judge 124 = .ok (.iconst 1, 1) := by decide +kernel
theorem dX13_judge_125 : decode cX13_judge 125 = .ok (.isub, 1) := by decide +kernel
theorem dX13_judge_126 : decode cX13_judge 126 = .ok (.iaload, 1) := by decide +kernel
theorem dX13_judge_127 : decode cX13_judge 127 = .ok (.goto 9, 3) := by decide +kernel
theorem dX13_judge_130 : decode cX13_judge 130 = .ok (.aload_n 0, 1) := by decide +kernel
theorem dX13_judge_131 : decode cX13_judge 131 = .ok (.getfield 153, 3) := by decide +kernel
theorem dX13_judge_134 : decode cX13_judge 134 = .ok (.iload_n 1, 1) := by decide +kernel
theorem dX13_judge_135 : decode cX13_judge 135 = .ok (.iaload, 1) := by decide +kernel
theorem dX13_judge_136 : decode cX13_judge 136 = .ok (.istore 8, 2) := by decide +kernel
theorem dX13_judge_138 : decode cX13_judge 138 = .ok (.iload 7, 2) := by decide +kernel
theorem dX13_judge_140 : decode cX13_judge 140 = .ok (.bipush 8, 2) := by decide +kernel
theorem dX13_judge_142 : decode cX13_judge 142 = .ok (.if_icmp .ne 25, 3) := by decide +kernel
theorem dX13_judge_145 : decode cX13_judge 145 = .ok (.iload_n 2, 1) := by decide +kernel
theorem dX13_judge_146 : decode cX13_judge 146 = .ok (.iconst 1, 1) := by decide +kernel
theorem dX13_judge_147 : decode cX13_judge 147 = .ok (.iadd, 1) := by decide +kernel
theorem dX13_judge_148 : decode cX13_judge 148 = .ok (.i2l, 1) := by decide +kernel
theorem dX13_judge_149 : decode cX13_judge 149 = .ok (.aload_n 0, 1) := by decide +kernel
theorem dX13_judge_150 : decode cX13_judge 150 = .ok (.getfield 150, 3) := by decide +kernel
theorem dX13_judge_153 : decode cX13_judge 153 = .ok (.iload 6, 2) := by decide +kernel
theorem dX13_judge_155 : decode cX13_judge 155 = .ok (.laload, 1) := by decide +kernel
theorem dX13_judge_156 : decode cX13_judge 156 = .ok (.ladd, 1) := by decide +kernel
theorem dX13_judge_157 : decode cX13_judge 157 = .ok (.iload 8, 2) := by decide +kernel
theorem dX13_judge_159 : decode cX13_judge 159 = .ok (.i2l, 1) := by decide +kernel
theorem dX13_judge_160 : decode cX13_judge 160 = .ok (.lcmp, 1) := by decide +kernel
theorem dX13_judge_161 : decode cX13_judge 161 = .ok (.ifCond .le 6, 3) := by decide +kernel
theorem dX13_judge_164 : decode cX13_judge 164 = .ok (.iload 6, 2) := by decide +kernel
theorem dX13_judge_166 : decode cX13_judge 166 = .ok (.ireturn, 1) := by decide +kernel
theorem dX13_judge_167 : decode cX13_judge 167 = .ok (.iload 7, 2) := by decide +kernel
theorem dX13_judge_169 : decode cX13_judge 169 = .ok (.iconst 3, 1) := by decide +kernel
theorem dX13_judge_170 : decode cX13_judge 170 = .ok (.if_icmp .le 34, 3) := by decide +kernel
theorem dX13_judge_173 : decode cX13_judge 173 = .ok (.iload 7, 2) := by decide +kernel
theorem dX13_judge_175 : decode cX13_judge 175 = .ok (.bipush 8, 2) := by decide +kernel
theorem dX13_judge_177 : decode cX13_judge 177 = .ok (.if_icmp .ge 27, 3) := by decide +kernel
theorem dX13_judge_180 : decode cX13_judge 180 = .ok (.aload_n 0, 1) := by decide +kernel
theorem dX13_judge_181 : decode cX13_judge 181 = .ok (.aload_n 0, 1) := by decide +kernel
theorem dX13_judge_182 : decode cX13_judge 182 = .ok (.getfield 144, 3) := by decide +kernel
theorem dX13_judge_185 : decode cX13_judge 185 = .ok (.iload 6, 2) := by decide +kernel
theorem dX13_judge_187 : decode cX13_judge 187 = .ok (.iaload, 1) := by decide +kernel
theorem dX13_judge_188 : decode cX13_judge 188 = .ok (.aload_n 0, 1) := by decide +kernel
theorem dX13_judge_189 : decode cX13_judge 189 = .ok (.getfield 150, 3) := by decide +kernel
theorem dX13_judge_192 : decode cX13_judge 192 = .ok (.iload 6, 2) := by decide +kernel
theorem dX13_judge_194 : decode cX13_judge 194 = .ok (.laload, 1) := by decide +kernel
theorem dX13_judge_195 : decode cX13_judge 195 = .ok (.invokevirtual 385, 3) := by decide +kernel
theorem dX13_judge_198 : decode cX13_judge 198 = .ok (.ifCond .ne 6, 3) := by decide +kernel
theorem dX13_judge_201 : decode cX13_judge 201 = .ok (.iload 6, 2) := by decide +kernel
theorem dX13_judge_203 : decode cX13_judge 203 = .ok (.ireturn, 1) := by decide +kernel
theorem dX13_judge_204 : decode cX13_judge 204 = .ok (.iinc 5 1, 3) := by decide +kernel
theorem dX13_judge_207 : decode cX13_judge 207 = .ok (.goto (-128), 3) := by decide +kernel
theorem dX13_judge_210 : decode cX13_judge 210 = .ok (.aload_n 0, 1) := by decide +kernel
theorem dX13_judge_211 : decode cX13_judge 211 = .ok (.iload_n 3, 1) := by decide +kernel
theorem dX13_judge_212 : decode cX13_judge 212 = .ok (.invokevirtual 389, 3) := by decide +kernel
theorem dX13_judge_215 : decode cX13_judge 215 = .ok (.iload 4, 2) := by decide +kernel
theorem dX13_judge_217 : decode cX13_judge 217 = .ok (.bipush 53, 2) := by decide +kernel
theorem dX13_judge_219 : decode cX13_judge 219 = .ok (.if_icmp .eq 10, 3) := by decide +kernel
theorem dX13_judge_222 : decode cX13_judge 222 = .ok (.iload 4, 2) := by decide +kernel
theorem dX13_judge_224 : decode cX13_judge 224 = .ok (.bipush 54, 2) := by decide +kernel
theorem dX13_judge_226 : decode cX13_judge 226 = .ok (.if_icmp .ne 24, 3) := by decide +kernel
theorem dX13_judge_229 : decode cX13_judge 229 = .ok (.aload_n 0, 1) := by decide +kernel
theorem dX13_judge_230 : decode cX13_judge 230 = .ok (.iload_n 3, 1) := by decide +kernel
theorem dX13_judge_231 : decode cX13_judge 231 = .ok (.iload_n 2, 1) := by decide +kernel
theorem dX13_judge_232 : decode cX13_judge 232 = .ok (.iconst 1, 1) := by decide +kernel
theorem dX13_judge_233 : decode cX13_judge 233 = .ok (.iadd, 1) := by decide +kernel
theorem dX13_judge_234 : decode cX13_judge 234 = .ok (.aload_n 0, 1) := by decide +kernel
theorem dX13_judge_235 : decode cX13_judge 235 = .ok (.getfield 150, 3) := by decide +kernel
theorem dX13_judge_238 : decode cX13_judge 238 = .ok (.bipush 10, 2) := by decide +kernel
theorem dX13_judge_240 : decode cX13_judge 240 = .ok (.iload_n 3, 1) := by decide +kernel
theorem dX13_judge_241 : decode cX13_judge 241 = .ok (.imul, 1) := by decide +kernel
theorem dX13_judge_242 : decode cX13_judge 242 = .ok (.iconst 1, 1) := by decide +kernel
theorem dX13_judge_243 : decode cX13_judge 243 = .ok (.iadd, 1) := by decide +kernel
theorem dX13_judge_244 : decode cX13_judge 244 = .ok (.laload, 1) := by decide +kernel
theorem dX13_judge_245 : decode cX13_judge 245 = .ok (.l2i, 1) := by decide +kernel
theorem dX13_judge_246 : decode cX13_judge 246 = .ok (.iadd, 1) := by decide +kernel
theorem dX13_judge_247 : decode cX13_judge 247 = .ok (.invokevirtual 392, 3) := by decide +kernel
theorem dX13_judge_250 : decode cX13_judge 250 = .ok (.iinc 2 1, 3) := by decide +kernel
theorem dX13_judge_253 : decode cX13_judge 253 = .ok (.goto (-231), 3) := by decide +kernel
theorem dX13_judge_256 : decode cX13_judge 256 = .ok (.iconst (-1), 1) := by decide +kernel
theorem dX13_judge_257 : decode cX13_judge 257 = .ok (.ireturn, 1) := by decide +kernel
def m_judge_229 (g : Nat) (k22 : St → Int32 → Int32 → Option (St × Int32)) (S : St) (x1 : Int32) (x2 : Int32) (x3 : Int32) : Option (St × Int32) :=
(aJ S 10 (((10 : Int32) * x3) + (1 : Int32))).bind fun v_10 =>
(m_opens g S x3 ((x2 + (1 : Int32)) + (v_10.toInt32))).bind fun S_11 =>
lt (x2 + (1 : Int32)) fun x2_12 =>
k22 S_11 x1 x2_12
def m_judge_167 (g : Nat) (k22 : St → Int32 → Int32 → Option (St × Int32)) (k79 : St → Int32 → Int32 → Int32 → Int32 → Int32 → Option (St × Int32)) (S : St) (x1 : Int32) (x2 : Int32) (x3 : Int32) (x4 : Int32) (x5 : Int32) (x6 : Int32) (x7 : Int32) : Option (St × Int32) :=
if x7 ≤ (3 : Int32) then (
  lt (x5 + (1 : Int32)) fun x5_14 =>
  k79 S x1 x2 x3 x4 x5_14
) else (
  if (8 : Int32) ≤ x7 then (
    lt (x5 + (1 : Int32)) fun x5_15 =>
    k79 S x1 x2 x3 x4 x5_15
  ) else (
    (aI S 8 x6).bind fun v_16 =>
    (aJ S 10 x6).bind fun v_17 =>
    (m_isGiven g S v_16 v_17).bind fun v_18 =>
    if v_18 = 0 then (
      some (S, x6)
    ) else (
      lt (x5 + (1 : Int32)) fun x5_19 =>
      k79 S x1 x2 x3 x4 x5_19
    )
  )
)
def m_judge_136 (g : Nat) (k22 : St → Int32 → Int32 → Option (St × Int32)) (k79 : St → Int32 → Int32 → Int32 → Int32 → Int32 → Option (St × Int32)) (S : St) (x1 : Int32) (x2 : Int32) (x3 : Int32) (x4 : Int32) (x5 : Int32) (x6 : Int32) (x7 : Int32) (y0 : Int32) : Option (St × Int32) :=
if x7 = (8 : Int32) then (
  (aJ S 10 x6).bind fun v_14 =>
  if (y0.toInt64) < (((x2 + (1 : Int32)).toInt64) + v_14) then (
    some (S, x6)
  ) else (
    m_judge_167 g k22 k79 S x1 x2 x3 x4 x5 x6 x7
  )
) else (
  m_judge_167 g k22 k79 S x1 x2 x3 x4 x5 x6 x7
)
def b_judge_79 (g : Nat) (k22 : St → Int32 → Int32 → Option (St × Int32)) (k79 : St → Int32 → Int32 → Int32 → Int32 → Int32 → Option (St × Int32)) (S : St) (x1 : Int32) (x2 : Int32) (x3 : Int32) (x4 : Int32) (x5 : Int32) : Option (St × Int32) :=
(aI S 7 x3).bind fun v_8 =>
if v_8 ≤ x5 then (
  (m_gives g S x3).bind fun S_9 =>
  if x4 = (53 : Int32) then (
    m_judge_229 g k22 S_9 x1 x2 x3
  ) else (
    if x4 = (54 : Int32) then (
      m_judge_229 g k22 S_9 x1 x2 x3
    ) else (
      lt (x2 + (1 : Int32)) fun x2_10 =>
      k22 S_9 x1 x2_10
    )
  )
) else (
  lt (((10 : Int32) * x3) + x5) fun x6_11 =>
  (m_roleOf g S x4 x5).bind fun v_12 =>
  if (gI S 0 30) ≤ 0 then (
    (aI S 11 x1).bind fun v_13 =>
    m_judge_136 g k22 k79 S x1 x2 x3 x4 x5 x6_11 v_12 v_13
  ) else (
    (aI S 18 ((gI S 0 30) - (1 : Int32))).bind fun v_14 =>
    m_judge_136 g k22 k79 S x1 x2 x3 x4 x5 x6_11 v_12 v_14
  )
)
def m_judge_79 (g : Nat) (k22 : St → Int32 → Int32 → Option (St × Int32)) : Nat → St → Int32 → Int32 → Int32 → Int32 → Int32 → Option (St × Int32)
  | 0, _, _, _, _, _, _ => none
  | n + 1, S, x1, x2, x3, x4, x5 => b_judge_79 g k22 (m_judge_79 g k22 n) S x1 x2 x3 x4 x5
def m_judge_61 (g : Nat) (k22 : St → Int32 → Int32 → Option (St × Int32)) (S : St) (x1 : Int32) (x2 : Int32) : Option (St × Int32) :=
lt ((x1 * (60 : Int32)) + x2) fun x3_6 =>
(aI S 6 x3_6).bind fun v_7 =>
m_judge_79 g k22 g S x1 x2 x3_6 v_7 (0 : Int32)
def b_judge_32 (g : Nat) (k22 : St → Int32 → Int32 → Option (St × Int32)) (k32 : St → Int32 → Int32 → Option (St × Int32)) (S : St) (x1 : Int32) (x2 : Int32) : Option (St × Int32) :=
if (gI S 0 30) ≤ 0 then (
  m_judge_61 g k22 S x1 x2
) else (
  (aI S 18 ((gI S 0 30) - (1 : Int32))).bind fun v_6 =>
  if v_6 = x2 then (
    (m_shut g S).bind fun S_7 =>
    k32 S_7 x1 x2
  ) else (
    m_judge_61 g k22 S x1 x2
  )
)
def m_judge_32 (g : Nat) (k22 : St → Int32 → Int32 → Option (St × Int32)) : Nat → St → Int32 → Int32 → Option (St × Int32)
  | 0, _, _, _ => none
  | n + 1, S, x1, x2 => b_judge_32 g k22 (m_judge_32 g k22 n) S x1 x2
def b_judge_22 (g : Nat) (k22 : St → Int32 → Int32 → Option (St × Int32)) (S : St) (x1 : Int32) (x2 : Int32) : Option (St × Int32) :=
(aI S 11 x1).bind fun v_5 =>
if v_5 ≤ x2 then (
  some (S, (-1 : Int32))
) else (
  m_judge_32 g k22 g S x1 x2
)
def m_judge_22 (g : Nat) : Nat → St → Int32 → Int32 → Option (St × Int32)
  | 0, _, _, _ => none
  | n + 1, S, x1, x2 => b_judge_22 g (m_judge_22 g n) S x1 x2
def m_judge (g : Nat) (S : St) (x1 : Int32) : Option (St × Int32) :=
lt (sI S 0 27 (0 : Int32)) fun S_1 =>
lt (sI S_1 0 28 (0 : Int32)) fun S_2 =>
lt (sI S_2 0 29 (0 : Int32)) fun S_3 =>
lt (sI S_3 0 30 (0 : Int32)) fun S_4 =>
m_judge_22 g g S_4 x1 (0 : Int32)
section S_judge
variable {p : Program} {l : Launch} {e : Env} {s : State} {m : MethodId} {args : Array Value} {below : List Frame} {meth : Method} {c : Code} {H : Heap} {locs : List Loc} {ls : Array Slot} {D : va_G} {T : Cy} {ρ : Nat → Nat} {A : Nat → Prop}
set_option maxRecDepth 100000 in
set_option maxHeartbeats 4000000 in
theorem w_judge_229  {g : Nat} {S : St} {x1 : Int32} {x2 : Int32} {x3 : Int32} (C : CallFix p m c cX13_judge 9 s args tb RX13) (hr : meth.sig.returnType = (some .int)) (hk : meth.locks = false) {S' : St} {r : Int32} {k22 : St → Int32 → Int32 → Option (St × Int32)} (kk22 : ∀ (S : St) (x1 : Int32) (x2 : Int32) (H : Heap) (locs : List Loc) (ls : Array Slot), Wn Ym D T ρ S A s H locs → lv_has ls 9 [(0, .ref (ρ 0)), (1, .int x1), (2, .int x2)] → k22 S x1 x2 = some (S', r) → W p l e (rmN 3 68) s m args below meth c H locs 0 0 (MQ below (Qi Ym D T ρ A S' r) args s 0 0 A) (F0 m 22 ls [])) (w : Wn Ym D T ρ S A s H locs) (hl : lv_has ls 9 [(0, .ref (ρ 0)), (1, .int x1), (2, .int x2), (3, .int x3)]) (h : m_judge_229 g k22 S x1 x2 x3 = some (S', r)) : W p l e (rmN 3 68) s m args below meth c H locs 0 0 (MQ below (Qi Ym D T ρ A S' r) args s 0 0 A) (F0 m 229 ls []) := by
  unfold m_judge_229 at h
  refine lv_aload_n C.1 C.2.1 dX13_judge_229 rfl (lv_at hl 0 rfl) ?_
  refine lv_iload_n C.1 C.2.1 dX13_judge_230 rfl (lv_at hl 3 rfl) ?_
  refine lv_iload_n C.1 C.2.1 dX13_judge_231 rfl (lv_at hl 2 rfl) ?_
  refine lv_iconst (v := 1) C.1 C.2.1 dX13_judge_232 (by decide) ?_
  refine lv_iadd C.1 C.2.1 dX13_judge_233 ?_
  refine lv_aload_n C.1 C.2.1 dX13_judge_234 rfl (lv_at hl 0 rfl) ?_
  refine x_getC C w 10 fM150 obM rfl dX13_judge_235 ?_
  refine lv_bipush (v := 10) C.1 C.2.1 dX13_judge_238 (by decide) ?_
  refine lv_iload_n C.1 C.2.1 dX13_judge_240 rfl (lv_at hl 3 rfl) ?_
  refine lv_imul C.1 C.2.1 dX13_judge_241 ?_
  refine lv_iconst (v := 1) C.1 C.2.1 dX13_judge_242 (by decide) ?_
  refine lv_iadd C.1 C.2.1 dX13_judge_243 ?_
  obtain ⟨v_10, hv_10, h⟩ := bnd h
  refine x_lald C w obM10 hv_10 dX13_judge_244 ?_
  refine lv_l2i C.1 C.2.1 dX13_judge_245 rfl ?_
  refine lv_iadd C.1 C.2.1 dX13_judge_246 ?_
  obtain ⟨S_11, hS_11, h⟩ := bnd h
  refine x_callVv (q := (RX13, TX13, 68)) (As := [.int x3, .int ((x2 + (1 : Int32)) + (v_10.toInt32))]) (rest := []) C w (k_opens l D T ρ g H.size S hS_11) vM392 ⟨by decide, by decide⟩ obM (by decide) rfl rfl rfl hl.1 (Nat.le_of_ble_eq_true rfl) ⟨Nat.zero_le _, Nat.zero_le _⟩ dX13_judge_247 (fun H locs w => ?_)
  obtain ⟨x2_12, ex2_12, h⟩ := lt_e h
  refine lv_iinc (v := x2_12) (lv' := [(2, .int x2_12), (0, .ref (ρ 0)), (1, .int x1), (3, .int x3)]) C.1 C.2.1 dX13_judge_250 hl (k := 2) rfl (by rw [ex2_12]; rfl) (by decide) rfl (fun ls hl => ?_)
  refine lv_goto (tgt := 22) C.1 C.2.1 dX13_judge_253 (by decide) ?_
  exact kk22 _ _ _ _ _ _ w (lv_sub hl [1, 2, 0] rfl) h
set_option maxRecDepth 100000 in
set_option maxHeartbeats 4000000 in
theorem w_judge_167  {g : Nat} {S : St} {x1 : Int32} {x2 : Int32} {x3 : Int32} {x4 : Int32} {x5 : Int32} {x6 : Int32} {x7 : Int32} (C : CallFix p m c cX13_judge 9 s args tb RX13) (hr : meth.sig.returnType = (some .int)) (hk : meth.locks = false) {S' : St} {r : Int32} {k22 : St → Int32 → Int32 → Option (St × Int32)} (kk22 : ∀ (S : St) (x1 : Int32) (x2 : Int32) (H : Heap) (locs : List Loc) (ls : Array Slot), Wn Ym D T ρ S A s H locs → lv_has ls 9 [(0, .ref (ρ 0)), (1, .int x1), (2, .int x2)] → k22 S x1 x2 = some (S', r) → W p l e (rmN 3 68) s m args below meth c H locs 0 0 (MQ below (Qi Ym D T ρ A S' r) args s 0 0 A) (F0 m 22 ls [])) {k79 : St → Int32 → Int32 → Int32 → Int32 → Int32 → Option (St × Int32)} (kk79 : ∀ (S : St) (x1 : Int32) (x2 : Int32) (x3 : Int32) (x4 : Int32) (x5 : Int32) (H : Heap) (locs : List Loc) (ls : Array Slot), Wn Ym D T ρ S A s H locs → lv_has ls 9 [(0, .ref (ρ 0)), (1, .int x1), (2, .int x2), (3, .int x3), (4, .int x4), (5, .int x5)] → k79 S x1 x2 x3 x4 x5 = some (S', r) → W p l e (rmN 3 68) s m args below meth c H locs 0 0 (MQ below (Qi Ym D T ρ A S' r) args s 0 0 A) (F0 m 79 ls [])) (w : Wn Ym D T ρ S A s H locs) (hl : lv_has ls 9 [(0, .ref (ρ 0)), (1, .int x1), (2, .int x2), (3, .int x3), (4, .int x4), (5, .int x5), (6, .int x6), (7, .int x7)]) (h : m_judge_167 g k22 k79 S x1 x2 x3 x4 x5 x6 x7 = some (S', r)) : W p l e (rmN 3 68) s m args below meth c H locs 0 0 (MQ below (Qi Ym D T ρ A S' r) args s 0 0 A) (F0 m 167 ls []) := by
  unfold m_judge_167 at h
  refine lv_iload C.1 C.2.1 dX13_judge_167 (lv_at hl 7 rfl) ?_
  refine lv_iconst (v := 3) C.1 C.2.1 dX13_judge_169 (by decide) ?_
  refine lv_icmp_le (tgt := 204) C.1 C.2.1 dX13_judge_170 (by decide) (fun hc => ?_) (fun hc => ?_)
  · replace h := ift hc h
    obtain ⟨x5_14, ex5_14, h⟩ := lt_e h
    refine lv_iinc (v := x5_14) (lv' := [(5, .int x5_14), (0, .ref (ρ 0)), (1, .int x1), (2, .int x2), (3, .int x3), (4, .int x4), (6, .int x6), (7, .int x7)]) C.1 C.2.1 dX13_judge_204 hl (k := 5) rfl (by rw [ex5_14]; rfl) (by decide) rfl (fun ls hl => ?_)
    refine lv_goto (tgt := 79) C.1 C.2.1 dX13_judge_207 (by decide) ?_
    exact kk79 _ _ _ _ _ _ _ _ _ w (lv_sub hl [1, 2, 3, 4, 5, 0] rfl) h
  · replace h := iff0 hc h
    refine lv_iload C.1 C.2.1 dX13_judge_173 (lv_at hl 7 rfl) ?_
    refine lv_bipush (v := 8) C.1 C.2.1 dX13_judge_175 (by decide) ?_
    refine lv_icmp_ge (tgt := 204) C.1 C.2.1 dX13_judge_177 (by decide) (fun hc => ?_) (fun hc => ?_)
    · replace h := ift hc h
      obtain ⟨x5_15, ex5_15, h⟩ := lt_e h
      refine lv_iinc (v := x5_15) (lv' := [(5, .int x5_15), (0, .ref (ρ 0)), (1, .int x1), (2, .int x2), (3, .int x3), (4, .int x4), (6, .int x6), (7, .int x7)]) C.1 C.2.1 dX13_judge_204 hl (k := 5) rfl (by rw [ex5_15]; rfl) (by decide) rfl (fun ls hl => ?_)
      refine lv_goto (tgt := 79) C.1 C.2.1 dX13_judge_207 (by decide) ?_
      exact kk79 _ _ _ _ _ _ _ _ _ w (lv_sub hl [1, 2, 3, 4, 5, 0] rfl) h
    · replace h := iff0 hc h
      refine lv_aload_n C.1 C.2.1 dX13_judge_180 rfl (lv_at hl 0 rfl) ?_
      refine lv_aload_n C.1 C.2.1 dX13_judge_181 rfl (lv_at hl 0 rfl) ?_
      refine x_getC C w 8 fM144 obM rfl dX13_judge_182 ?_
      refine lv_iload C.1 C.2.1 dX13_judge_185 (lv_at hl 6 rfl) ?_
      obtain ⟨v_16, hv_16, h⟩ := bnd h
      refine x_iald C w obM8 hv_16 dX13_judge_187 ?_
      refine lv_aload_n C.1 C.2.1 dX13_judge_188 rfl (lv_at hl 0 rfl) ?_
      refine x_getC C w 10 fM150 obM rfl dX13_judge_189 ?_
      refine lv_iload C.1 C.2.1 dX13_judge_192 (lv_at hl 6 rfl) ?_
      obtain ⟨v_17, hv_17, h⟩ := bnd h
      refine x_lald C w obM10 hv_17 dX13_judge_194 ?_
      obtain ⟨v_18, hv_18, h⟩ := bnd h
      refine x_callVi (q := (RX13, TX13, 68)) (As := [.int v_16, .long v_17]) (rest := []) C w (k_isGiven l D T ρ g H.size S hv_18) vM385 ⟨by decide, by decide⟩ obM (by decide) rfl rfl rfl hl.1 (Nat.le_of_ble_eq_true rfl) ⟨Nat.zero_le _, Nat.zero_le _⟩ dX13_judge_195 (fun H locs w => ?_)
      refine lv_if_ne (tgt := 204) C.1 C.2.1 dX13_judge_198 (by decide) (fun hc => ?_) (fun hc => ?_)
      · replace h := iff0 hc h
        obtain ⟨x5_19, ex5_19, h⟩ := lt_e h
        refine lv_iinc (v := x5_19) (lv' := [(5, .int x5_19), (0, .ref (ρ 0)), (1, .int x1), (2, .int x2), (3, .int x3), (4, .int x4), (6, .int x6), (7, .int x7)]) C.1 C.2.1 dX13_judge_204 hl (k := 5) rfl (by rw [ex5_19]; rfl) (by decide) rfl (fun ls hl => ?_)
        refine lv_goto (tgt := 79) C.1 C.2.1 dX13_judge_207 (by decide) ?_
        exact kk79 _ _ _ _ _ _ _ _ _ w (lv_sub hl [1, 2, 3, 4, 5, 0] rfl) h
      · replace h := ift hc h
        refine lv_iload C.1 C.2.1 dX13_judge_201 (lv_at hl 6 rfl) ?_
        obtain ⟨rfl, rfl⟩ := prI h
        exact x_iret C w hr hk dX13_judge_203
set_option maxRecDepth 100000 in
set_option maxHeartbeats 4000000 in
theorem w_judge_136  {g : Nat} {S : St} {x1 : Int32} {x2 : Int32} {x3 : Int32} {x4 : Int32} {x5 : Int32} {x6 : Int32} {x7 : Int32} {y0 : Int32} (C : CallFix p m c cX13_judge 9 s args tb RX13) (hr : meth.sig.returnType = (some .int)) (hk : meth.locks = false) {S' : St} {r : Int32} {k22 : St → Int32 → Int32 → Option (St × Int32)} (kk22 : ∀ (S : St) (x1 : Int32) (x2 : Int32) (H : Heap) (locs : List Loc) (ls : Array Slot), Wn Ym D T ρ S A s H locs → lv_has ls 9 [(0, .ref (ρ 0)), (1, .int x1), (2, .int x2)] → k22 S x1 x2 = some (S', r) → W p l e (rmN 3 68) s m args below meth c H locs 0 0 (MQ below (Qi Ym D T ρ A S' r) args s 0 0 A) (F0 m 22 ls [])) {k79 : St → Int32 → Int32 → Int32 → Int32 → Int32 → Option (St × Int32)} (kk79 : ∀ (S : St) (x1 : Int32) (x2 : Int32) (x3 : Int32) (x4 : Int32) (x5 : Int32) (H : Heap) (locs : List Loc) (ls : Array Slot), Wn Ym D T ρ S A s H locs → lv_has ls 9 [(0, .ref (ρ 0)), (1, .int x1), (2, .int x2), (3, .int x3), (4, .int x4), (5, .int x5)] → k79 S x1 x2 x3 x4 x5 = some (S', r) → W p l e (rmN 3 68) s m args below meth c H locs 0 0 (MQ below (Qi Ym D T ρ A S' r) args s 0 0 A) (F0 m 79 ls [])) (w : Wn Ym D T ρ S A s H locs) (hl : lv_has ls 9 [(0, .ref (ρ 0)), (1, .int x1), (2, .int x2), (3, .int x3), (4, .int x4), (5, .int x5), (6, .int x6), (7, .int x7)]) (h : m_judge_136 g k22 k79 S x1 x2 x3 x4 x5 x6 x7 y0 = some (S', r)) : W p l e (rmN 3 68) s m args below meth c H locs 0 0 (MQ below (Qi Ym D T ρ A S' r) args s 0 0 A) (F0 m 136 ls [.int y0]) := by
  unfold m_judge_136 at h
  refine lv_istore (lv' := [(8, .int y0), (0, .ref (ρ 0)), (1, .int x1), (2, .int x2), (3, .int x3), (4, .int x4), (5, .int x5), (6, .int x6), (7, .int x7)]) C.1 C.2.1 dX13_judge_136 hl (by decide) rfl (fun ls hl => ?_)
  refine lv_iload C.1 C.2.1 dX13_judge_138 (lv_at hl 8 rfl) ?_
  refine lv_bipush (v := 8) C.1 C.2.1 dX13_judge_140 (by decide) ?_
  refine lv_icmp_ne (tgt := 167) C.1 C.2.1 dX13_judge_142 (by decide) (fun hc => ?_) (fun hc => ?_)
  · replace h := iff0 hc h
    exact w_judge_167 C hr hk kk22 kk79 w (lv_sub hl [1, 2, 3, 4, 5, 6, 7, 8] rfl) h
  · replace h := ift hc h
    refine lv_iload_n C.1 C.2.1 dX13_judge_145 rfl (lv_at hl 3 rfl) ?_
    refine lv_iconst (v := 1) C.1 C.2.1 dX13_judge_146 (by decide) ?_
    refine lv_iadd C.1 C.2.1 dX13_judge_147 ?_
    refine lv_i2l C.1 C.2.1 dX13_judge_148 rfl ?_
    refine lv_aload_n C.1 C.2.1 dX13_judge_149 rfl (lv_at hl 1 rfl) ?_
    refine x_getC C w 10 fM150 obM rfl dX13_judge_150 ?_
    refine lv_iload C.1 C.2.1 dX13_judge_153 (lv_at hl 7 rfl) ?_
    obtain ⟨v_14, hv_14, h⟩ := bnd h
    refine x_lald C w obM10 hv_14 dX13_judge_155 ?_
    refine lv_ladd C.1 C.2.1 dX13_judge_156 ?_
    refine lv_iload C.1 C.2.1 dX13_judge_157 (lv_at hl 0 rfl) ?_
    refine lv_i2l C.1 C.2.1 dX13_judge_159 rfl ?_
    refine x_l_le (tgt := 167) C dX13_judge_160 dX13_judge_161 (by decide) (fun hc => ?_) (fun hc => ?_)
    · replace h := iff0 hc h
      exact w_judge_167 C hr hk kk22 kk79 w (lv_sub hl [1, 2, 3, 4, 5, 6, 7, 8] rfl) h
    · replace h := ift hc h
      refine lv_iload C.1 C.2.1 dX13_judge_164 (lv_at hl 7 rfl) ?_
      obtain ⟨rfl, rfl⟩ := prI h
      exact x_iret C w hr hk dX13_judge_166
set_option maxRecDepth 100000 in
set_option maxHeartbeats 4000000 in
theorem wb_judge_79  {g : Nat} {S : St} {x1 : Int32} {x2 : Int32} {x3 : Int32} {x4 : Int32} {x5 : Int32} (C : CallFix p m c cX13_judge 9 s args tb RX13) (hr : meth.sig.returnType = (some .int)) (hk : meth.locks = false) {S' : St} {r : Int32} {k22 : St → Int32 → Int32 → Option (St × Int32)} (kk22 : ∀ (S : St) (x1 : Int32) (x2 : Int32) (H : Heap) (locs : List Loc) (ls : Array Slot), Wn Ym D T ρ S A s H locs → lv_has ls 9 [(0, .ref (ρ 0)), (1, .int x1), (2, .int x2)] → k22 S x1 x2 = some (S', r) → W p l e (rmN 3 68) s m args below meth c H locs 0 0 (MQ below (Qi Ym D T ρ A S' r) args s 0 0 A) (F0 m 22 ls [])) {k79 : St → Int32 → Int32 → Int32 → Int32 → Int32 → Option (St × Int32)} (kk79 : ∀ (S : St) (x1 : Int32) (x2 : Int32) (x3 : Int32) (x4 : Int32) (x5 : Int32) (H : Heap) (locs : List Loc) (ls : Array Slot), Wn Ym D T ρ S A s H locs → lv_has ls 9 [(0, .ref (ρ 0)), (1, .int x1), (2, .int x2), (3, .int x3), (4, .int x4), (5, .int x5)] → k79 S x1 x2 x3 x4 x5 = some (S', r) → W p l e (rmN 3 68) s m args below meth c H locs 0 0 (MQ below (Qi Ym D T ρ A S' r) args s 0 0 A) (F0 m 79 ls [])) (w : Wn Ym D T ρ S A s H locs) (hl : lv_has ls 9 [(0, .ref (ρ 0)), (1, .int x1), (2, .int x2), (3, .int x3), (4, .int x4), (5, .int x5)]) (h : b_judge_79 g k22 k79 S x1 x2 x3 x4 x5 = some (S', r)) : W p l e (rmN 3 68) s m args below meth c H locs 0 0 (MQ below (Qi Ym D T ρ A S' r) args s 0 0 A) (F0 m 79 ls []) := by
  unfold b_judge_79 at h
  refine lv_iload C.1 C.2.1 dX13_judge_79 (lv_at hl 5 rfl) ?_
  refine lv_aload_n C.1 C.2.1 dX13_judge_81 rfl (lv_at hl 0 rfl) ?_
  refine x_getC C w 7 fM141 obM rfl dX13_judge_82 ?_
  refine lv_iload_n C.1 C.2.1 dX13_judge_85 rfl (lv_at hl 3 rfl) ?_
  obtain ⟨v_8, hv_8, h⟩ := bnd h
  refine x_iald C w obM7 hv_8 dX13_judge_86 ?_
  refine lv_icmp_ge (tgt := 210) C.1 C.2.1 dX13_judge_87 (by decide) (fun hc => ?_) (fun hc => ?_)
  · replace h := ift hc h
    refine lv_aload_n C.1 C.2.1 dX13_judge_210 rfl (lv_at hl 0 rfl) ?_
    refine lv_iload_n C.1 C.2.1 dX13_judge_211 rfl (lv_at hl 3 rfl) ?_
    obtain ⟨S_9, hS_9, h⟩ := bnd h
    refine x_callVv (q := (RX13, TX13, 68)) (As := [.int x3]) (rest := []) C w (k_gives l D T ρ g H.size S hS_9) vM389 ⟨by decide, by decide⟩ obM (by decide) rfl rfl rfl hl.1 (Nat.le_of_ble_eq_true rfl) ⟨Nat.zero_le _, Nat.zero_le _⟩ dX13_judge_212 (fun H locs w => ?_)
    refine lv_iload C.1 C.2.1 dX13_judge_215 (lv_at hl 4 rfl) ?_
    refine lv_bipush (v := 53) C.1 C.2.1 dX13_judge_217 (by decide) ?_
    refine lv_icmp_eq (tgt := 229) C.1 C.2.1 dX13_judge_219 (by decide) (fun hc => ?_) (fun hc => ?_)
    · replace h := ift hc h
      exact w_judge_229 C hr hk kk22 w (lv_sub hl [0, 1, 2, 3] rfl) h
    · replace h := iff0 hc h
      refine lv_iload C.1 C.2.1 dX13_judge_222 (lv_at hl 4 rfl) ?_
      refine lv_bipush (v := 54) C.1 C.2.1 dX13_judge_224 (by decide) ?_
      refine lv_icmp_ne (tgt := 250) C.1 C.2.1 dX13_judge_226 (by decide) (fun hc => ?_) (fun hc => ?_)
      · replace h := iff0 hc h
        obtain ⟨x2_10, ex2_10, h⟩ := lt_e h
        refine lv_iinc (v := x2_10) (lv' := [(2, .int x2_10), (0, .ref (ρ 0)), (1, .int x1), (3, .int x3), (4, .int x4), (5, .int x5)]) C.1 C.2.1 dX13_judge_250 hl (k := 2) rfl (by rw [ex2_10]; rfl) (by decide) rfl (fun ls hl => ?_)
        refine lv_goto (tgt := 22) C.1 C.2.1 dX13_judge_253 (by decide) ?_
        exact kk22 _ _ _ _ _ _ w (lv_sub hl [1, 2, 0] rfl) h
      · replace h := ift hc h
        exact w_judge_229 C hr hk kk22 w (lv_sub hl [0, 1, 2, 3] rfl) h
  · replace h := iff0 hc h
    refine lv_bipush (v := 10) C.1 C.2.1 dX13_judge_90 (by decide) ?_
    refine lv_iload_n C.1 C.2.1 dX13_judge_92 rfl (lv_at hl 3 rfl) ?_
    refine lv_imul C.1 C.2.1 dX13_judge_93 ?_
    refine lv_iload C.1 C.2.1 dX13_judge_94 (lv_at hl 5 rfl) ?_
    refine lv_iadd C.1 C.2.1 dX13_judge_96 ?_
    obtain ⟨x6_11, ex6_11, h⟩ := lt_e h
    refine x_nm ex6_11 ?_
    refine lv_istore (lv' := [(6, .int x6_11), (0, .ref (ρ 0)), (1, .int x1), (2, .int x2), (3, .int x3), (4, .int x4), (5, .int x5)]) C.1 C.2.1 dX13_judge_97 hl (by decide) rfl (fun ls hl => ?_)
    refine lv_aload_n C.1 C.2.1 dX13_judge_99 rfl (lv_at hl 1 rfl) ?_
    refine lv_iload C.1 C.2.1 dX13_judge_100 (lv_at hl 5 rfl) ?_
    refine lv_iload C.1 C.2.1 dX13_judge_102 (lv_at hl 6 rfl) ?_
    obtain ⟨v_12, hv_12, h⟩ := bnd h
    refine x_callVi (q := (RX13, TX13, 68)) (As := [.int x4, .int x5]) (rest := []) C w (k_roleOf l D T ρ g H.size S hv_12) vM306 ⟨by decide, by decide⟩ obM (by decide) rfl rfl rfl hl.1 (Nat.le_of_ble_eq_true rfl) ⟨Nat.zero_le _, Nat.zero_le _⟩ dX13_judge_104 (fun H locs w => ?_)
    refine lv_istore (lv' := [(7, .int v_12), (6, .int x6_11), (0, .ref (ρ 0)), (1, .int x1), (2, .int x2), (3, .int x3), (4, .int x4), (5, .int x5)]) C.1 C.2.1 dX13_judge_107 hl (by decide) rfl (fun ls hl => ?_)
    refine lv_aload_n C.1 C.2.1 dX13_judge_109 rfl (lv_at hl 2 rfl) ?_
    refine x_getI C w fM379 obM dX13_judge_110 ?_
    refine lv_if_le (tgt := 130) C.1 C.2.1 dX13_judge_113 (by decide) (fun hc => ?_) (fun hc => ?_)
    · replace h := ift hc h
      refine lv_aload_n C.1 C.2.1 dX13_judge_130 rfl (lv_at hl 2 rfl) ?_
      refine x_getC C w 11 fM153 obM rfl dX13_judge_131 ?_
      refine lv_iload_n C.1 C.2.1 dX13_judge_134 rfl (lv_at hl 3 rfl) ?_
      obtain ⟨v_13, hv_13, h⟩ := bnd h
      refine x_iald C w obM11 hv_13 dX13_judge_135 ?_
      exact w_judge_136 C hr hk kk22 kk79 w (lv_sub hl [2, 3, 4, 5, 6, 7, 1, 0] rfl) h
    · replace h := iff0 hc h
      refine lv_aload_n C.1 C.2.1 dX13_judge_116 rfl (lv_at hl 2 rfl) ?_
      refine x_getC C w 18 fM174 obM rfl dX13_judge_117 ?_
      refine lv_aload_n C.1 C.2.1 dX13_judge_120 rfl (lv_at hl 2 rfl) ?_
      refine x_getI C w fM379 obM dX13_judge_121 ?_
      refine lv_iconst (v := 1) C.1 C.2.1 dX13_judge_124 (by decide) ?_
      refine lv_isub C.1 C.2.1 dX13_judge_125 ?_
      obtain ⟨v_14, hv_14, h⟩ := bnd h
      refine x_iald C w obM18 hv_14 dX13_judge_126 ?_
      refine lv_goto (tgt := 136) C.1 C.2.1 dX13_judge_127 (by decide) ?_
      exact w_judge_136 C hr hk kk22 kk79 w (lv_sub hl [2, 3, 4, 5, 6, 7, 1, 0] rfl) h
theorem w_judge_79 {g : Nat} (C : CallFix p m c cX13_judge 9 s args tb RX13) (hr : meth.sig.returnType = (some .int)) (hk : meth.locks = false) {S' : St} {r : Int32} {k22 : St → Int32 → Int32 → Option (St × Int32)} (kk22 : ∀ (S : St) (x1 : Int32) (x2 : Int32) (H : Heap) (locs : List Loc) (ls : Array Slot), Wn Ym D T ρ S A s H locs → lv_has ls 9 [(0, .ref (ρ 0)), (1, .int x1), (2, .int x2)] → k22 S x1 x2 = some (S', r) → W p l e (rmN 3 68) s m args below meth c H locs 0 0 (MQ below (Qi Ym D T ρ A S' r) args s 0 0 A) (F0 m 22 ls [])) (n : Nat) : ∀ (S : St) (x1 : Int32) (x2 : Int32) (x3 : Int32) (x4 : Int32) (x5 : Int32) (H : Heap) (locs : List Loc) (ls : Array Slot), Wn Ym D T ρ S A s H locs → lv_has ls 9 [(0, .ref (ρ 0)), (1, .int x1), (2, .int x2), (3, .int x3), (4, .int x4), (5, .int x5)] → m_judge_79 g k22 n S x1 x2 x3 x4 x5 = some (S', r) → W p l e (rmN 3 68) s m args below meth c H locs 0 0 (MQ below (Qi Ym D T ρ A S' r) args s 0 0 A) (F0 m 79 ls []) := by
  induction n with
  | zero => intro S x1 x2 x3 x4 x5 H locs ls w hl h; exact absurd h (fun q => by cases q)
  | succ n ih => intro S x1 x2 x3 x4 x5 H locs ls w hl h; exact wb_judge_79 C hr hk kk22 ih w hl h
set_option maxRecDepth 100000 in
set_option maxHeartbeats 4000000 in
theorem w_judge_61  {g : Nat} {S : St} {x1 : Int32} {x2 : Int32} (C : CallFix p m c cX13_judge 9 s args tb RX13) (hr : meth.sig.returnType = (some .int)) (hk : meth.locks = false) {S' : St} {r : Int32} {k22 : St → Int32 → Int32 → Option (St × Int32)} (kk22 : ∀ (S : St) (x1 : Int32) (x2 : Int32) (H : Heap) (locs : List Loc) (ls : Array Slot), Wn Ym D T ρ S A s H locs → lv_has ls 9 [(0, .ref (ρ 0)), (1, .int x1), (2, .int x2)] → k22 S x1 x2 = some (S', r) → W p l e (rmN 3 68) s m args below meth c H locs 0 0 (MQ below (Qi Ym D T ρ A S' r) args s 0 0 A) (F0 m 22 ls [])) (w : Wn Ym D T ρ S A s H locs) (hl : lv_has ls 9 [(0, .ref (ρ 0)), (1, .int x1), (2, .int x2)]) (h : m_judge_61 g k22 S x1 x2 = some (S', r)) : W p l e (rmN 3 68) s m args below meth c H locs 0 0 (MQ below (Qi Ym D T ρ A S' r) args s 0 0 A) (F0 m 61 ls []) := by
  unfold m_judge_61 at h
  refine lv_iload_n C.1 C.2.1 dX13_judge_61 rfl (lv_at hl 1 rfl) ?_
  refine lv_bipush (v := 60) C.1 C.2.1 dX13_judge_62 (by decide) ?_
  refine lv_imul C.1 C.2.1 dX13_judge_64 ?_
  refine lv_iload_n C.1 C.2.1 dX13_judge_65 rfl (lv_at hl 2 rfl) ?_
  refine lv_iadd C.1 C.2.1 dX13_judge_66 ?_
  obtain ⟨x3_6, ex3_6, h⟩ := lt_e h
  refine x_nm ex3_6 ?_
  refine lv_istore_n (lv' := [(3, .int x3_6), (0, .ref (ρ 0)), (1, .int x1), (2, .int x2)]) C.1 C.2.1 dX13_judge_67 rfl hl (by decide) rfl (fun ls hl => ?_)
  refine lv_aload_n C.1 C.2.1 dX13_judge_68 rfl (lv_at hl 1 rfl) ?_
  refine x_getC C w 6 fM138 obM rfl dX13_judge_69 ?_
  refine lv_iload_n C.1 C.2.1 dX13_judge_72 rfl (lv_at hl 0 rfl) ?_
  obtain ⟨v_7, hv_7, h⟩ := bnd h
  refine x_iald C w obM6 hv_7 dX13_judge_73 ?_
  refine lv_istore (lv' := [(4, .int v_7), (3, .int x3_6), (0, .ref (ρ 0)), (1, .int x1), (2, .int x2)]) C.1 C.2.1 dX13_judge_74 hl (by decide) rfl (fun ls hl => ?_)
  refine lv_iconst (v := 0) C.1 C.2.1 dX13_judge_76 (by decide) ?_
  refine lv_istore (lv' := [(5, .int (0 : Int32)), (4, .int v_7), (3, .int x3_6), (0, .ref (ρ 0)), (1, .int x1), (2, .int x2)]) C.1 C.2.1 dX13_judge_77 hl (by decide) rfl (fun ls hl => ?_)
  exact w_judge_79 C hr hk kk22 g _ _ _ _ _ _ _ _ _ w (lv_sub hl [3, 4, 5, 2, 1, 0] rfl) h
set_option maxRecDepth 100000 in
set_option maxHeartbeats 4000000 in
theorem wb_judge_32  {g : Nat} {S : St} {x1 : Int32} {x2 : Int32} (C : CallFix p m c cX13_judge 9 s args tb RX13) (hr : meth.sig.returnType = (some .int)) (hk : meth.locks = false) {S' : St} {r : Int32} {k22 : St → Int32 → Int32 → Option (St × Int32)} (kk22 : ∀ (S : St) (x1 : Int32) (x2 : Int32) (H : Heap) (locs : List Loc) (ls : Array Slot), Wn Ym D T ρ S A s H locs → lv_has ls 9 [(0, .ref (ρ 0)), (1, .int x1), (2, .int x2)] → k22 S x1 x2 = some (S', r) → W p l e (rmN 3 68) s m args below meth c H locs 0 0 (MQ below (Qi Ym D T ρ A S' r) args s 0 0 A) (F0 m 22 ls [])) {k32 : St → Int32 → Int32 → Option (St × Int32)} (kk32 : ∀ (S : St) (x1 : Int32) (x2 : Int32) (H : Heap) (locs : List Loc) (ls : Array Slot), Wn Ym D T ρ S A s H locs → lv_has ls 9 [(0, .ref (ρ 0)), (1, .int x1), (2, .int x2)] → k32 S x1 x2 = some (S', r) → W p l e (rmN 3 68) s m args below meth c H locs 0 0 (MQ below (Qi Ym D T ρ A S' r) args s 0 0 A) (F0 m 32 ls [])) (w : Wn Ym D T ρ S A s H locs) (hl : lv_has ls 9 [(0, .ref (ρ 0)), (1, .int x1), (2, .int x2)]) (h : b_judge_32 g k22 k32 S x1 x2 = some (S', r)) : W p l e (rmN 3 68) s m args below meth c H locs 0 0 (MQ below (Qi Ym D T ρ A S' r) args s 0 0 A) (F0 m 32 ls []) := by
  unfold b_judge_32 at h
  refine lv_aload_n C.1 C.2.1 dX13_judge_32 rfl (lv_at hl 0 rfl) ?_
  refine x_getI C w fM379 obM dX13_judge_33 ?_
  refine lv_if_le (tgt := 61) C.1 C.2.1 dX13_judge_36 (by decide) (fun hc => ?_) (fun hc => ?_)
  · replace h := ift hc h
    exact w_judge_61 C hr hk kk22 w (lv_sub hl [0, 1, 2] rfl) h
  · replace h := iff0 hc h
    refine lv_aload_n C.1 C.2.1 dX13_judge_39 rfl (lv_at hl 0 rfl) ?_
    refine x_getC C w 18 fM174 obM rfl dX13_judge_40 ?_
    refine lv_aload_n C.1 C.2.1 dX13_judge_43 rfl (lv_at hl 0 rfl) ?_
    refine x_getI C w fM379 obM dX13_judge_44 ?_
    refine lv_iconst (v := 1) C.1 C.2.1 dX13_judge_47 (by decide) ?_
    refine lv_isub C.1 C.2.1 dX13_judge_48 ?_
    obtain ⟨v_6, hv_6, h⟩ := bnd h
    refine x_iald C w obM18 hv_6 dX13_judge_49 ?_
    refine lv_iload_n C.1 C.2.1 dX13_judge_50 rfl (lv_at hl 2 rfl) ?_
    refine lv_icmp_ne (tgt := 61) C.1 C.2.1 dX13_judge_51 (by decide) (fun hc => ?_) (fun hc => ?_)
    · replace h := iff0 hc h
      exact w_judge_61 C hr hk kk22 w (lv_sub hl [0, 1, 2] rfl) h
    · replace h := ift hc h
      refine lv_aload_n C.1 C.2.1 dX13_judge_54 rfl (lv_at hl 0 rfl) ?_
      obtain ⟨S_7, hS_7, h⟩ := bnd h
      refine x_callVv (q := (RX13, TX13, 68)) (As := []) (rest := []) C w (k_shut l D T ρ g H.size S hS_7) vM382 ⟨by decide, by decide⟩ obM (by decide) rfl rfl rfl hl.1 (Nat.le_of_ble_eq_true rfl) ⟨Nat.zero_le _, Nat.zero_le _⟩ dX13_judge_55 (fun H locs w => ?_)
      refine lv_goto (tgt := 32) C.1 C.2.1 dX13_judge_58 (by decide) ?_
      exact kk32 _ _ _ _ _ _ w (lv_sub hl [0, 1, 2] rfl) h
theorem w_judge_32 {g : Nat} (C : CallFix p m c cX13_judge 9 s args tb RX13) (hr : meth.sig.returnType = (some .int)) (hk : meth.locks = false) {S' : St} {r : Int32} {k22 : St → Int32 → Int32 → Option (St × Int32)} (kk22 : ∀ (S : St) (x1 : Int32) (x2 : Int32) (H : Heap) (locs : List Loc) (ls : Array Slot), Wn Ym D T ρ S A s H locs → lv_has ls 9 [(0, .ref (ρ 0)), (1, .int x1), (2, .int x2)] → k22 S x1 x2 = some (S', r) → W p l e (rmN 3 68) s m args below meth c H locs 0 0 (MQ below (Qi Ym D T ρ A S' r) args s 0 0 A) (F0 m 22 ls [])) (n : Nat) : ∀ (S : St) (x1 : Int32) (x2 : Int32) (H : Heap) (locs : List Loc) (ls : Array Slot), Wn Ym D T ρ S A s H locs → lv_has ls 9 [(0, .ref (ρ 0)), (1, .int x1), (2, .int x2)] → m_judge_32 g k22 n S x1 x2 = some (S', r) → W p l e (rmN 3 68) s m args below meth c H locs 0 0 (MQ below (Qi Ym D T ρ A S' r) args s 0 0 A) (F0 m 32 ls []) := by
  induction n with
  | zero => intro S x1 x2 H locs ls w hl h; exact absurd h (fun q => by cases q)
  | succ n ih => intro S x1 x2 H locs ls w hl h; exact wb_judge_32 C hr hk kk22 ih w hl h
set_option maxRecDepth 100000 in
set_option maxHeartbeats 4000000 in
theorem wb_judge_22  {g : Nat} {S : St} {x1 : Int32} {x2 : Int32} (C : CallFix p m c cX13_judge 9 s args tb RX13) (hr : meth.sig.returnType = (some .int)) (hk : meth.locks = false) {S' : St} {r : Int32} {k22 : St → Int32 → Int32 → Option (St × Int32)} (kk22 : ∀ (S : St) (x1 : Int32) (x2 : Int32) (H : Heap) (locs : List Loc) (ls : Array Slot), Wn Ym D T ρ S A s H locs → lv_has ls 9 [(0, .ref (ρ 0)), (1, .int x1), (2, .int x2)] → k22 S x1 x2 = some (S', r) → W p l e (rmN 3 68) s m args below meth c H locs 0 0 (MQ below (Qi Ym D T ρ A S' r) args s 0 0 A) (F0 m 22 ls [])) (w : Wn Ym D T ρ S A s H locs) (hl : lv_has ls 9 [(0, .ref (ρ 0)), (1, .int x1), (2, .int x2)]) (h : b_judge_22 g k22 S x1 x2 = some (S', r)) : W p l e (rmN 3 68) s m args below meth c H locs 0 0 (MQ below (Qi Ym D T ρ A S' r) args s 0 0 A) (F0 m 22 ls []) := by
  unfold b_judge_22 at h
  refine lv_iload_n C.1 C.2.1 dX13_judge_22 rfl (lv_at hl 2 rfl) ?_
  refine lv_aload_n C.1 C.2.1 dX13_judge_23 rfl (lv_at hl 0 rfl) ?_
  refine x_getC C w 11 fM153 obM rfl dX13_judge_24 ?_
  refine lv_iload_n C.1 C.2.1 dX13_judge_27 rfl (lv_at hl 1 rfl) ?_
  obtain ⟨v_5, hv_5, h⟩ := bnd h
  refine x_iald C w obM11 hv_5 dX13_judge_28 ?_
  refine lv_icmp_ge (tgt := 256) C.1 C.2.1 dX13_judge_29 (by decide) (fun hc => ?_) (fun hc => ?_)
  · replace h := ift hc h
    refine lv_iconst (v := (-1)) C.1 C.2.1 dX13_judge_256 (by decide) ?_
    obtain ⟨rfl, rfl⟩ := prI h
    exact x_iret C w hr hk dX13_judge_257
  · replace h := iff0 hc h
    exact w_judge_32 C hr hk kk22 g _ _ _ _ _ _ w (lv_sub hl [0, 1, 2] rfl) h
theorem w_judge_22 {g : Nat} (C : CallFix p m c cX13_judge 9 s args tb RX13) (hr : meth.sig.returnType = (some .int)) (hk : meth.locks = false) {S' : St} {r : Int32} (n : Nat) : ∀ (S : St) (x1 : Int32) (x2 : Int32) (H : Heap) (locs : List Loc) (ls : Array Slot), Wn Ym D T ρ S A s H locs → lv_has ls 9 [(0, .ref (ρ 0)), (1, .int x1), (2, .int x2)] → m_judge_22 g n S x1 x2 = some (S', r) → W p l e (rmN 3 68) s m args below meth c H locs 0 0 (MQ below (Qi Ym D T ρ A S' r) args s 0 0 A) (F0 m 22 ls []) := by
  induction n with
  | zero => intro S x1 x2 H locs ls w hl h; exact absurd h (fun q => by cases q)
  | succ n ih => intro S x1 x2 H locs ls w hl h; exact wb_judge_22 C hr hk ih w hl h
set_option maxRecDepth 100000 in
set_option maxHeartbeats 4000000 in
theorem w_judge_0  {g : Nat} {S : St} {x1 : Int32} (C : CallFix p m c cX13_judge 9 s args tb RX13) (hr : meth.sig.returnType = (some .int)) (hk : meth.locks = false) {S' : St} {r : Int32} (w : Wn Ym D T ρ S A s H locs) (hl : lv_has ls 9 [(0, .ref (ρ 0)), (1, .int x1)]) (h : m_judge g S x1 = some (S', r)) : W p l e (rmN 3 68) s m args below meth c H locs 0 0 (MQ below (Qi Ym D T ρ A S' r) args s 0 0 A) (F0 m 0 ls []) := by
  unfold m_judge at h
  refine lv_aload_n C.1 C.2.1 dX13_judge_0 rfl (lv_at hl 0 rfl) ?_
  refine lv_iconst (v := 0) C.1 C.2.1 dX13_judge_1 (by decide) ?_
  obtain ⟨S_1, eS_1, h⟩ := lt_e h
  refine y_putI C w eS_1 fM370 pM27 obM dX13_judge_2 (fun H locs w => ?_)
  refine lv_aload_n C.1 C.2.1 dX13_judge_5 rfl (lv_at hl 0 rfl) ?_
  refine lv_iconst (v := 0) C.1 C.2.1 dX13_judge_6 (by decide) ?_
  obtain ⟨S_2, eS_2, h⟩ := lt_e h
  refine y_putI C w eS_2 fM373 pM28 obM dX13_judge_7 (fun H locs w => ?_)
  refine lv_aload_n C.1 C.2.1 dX13_judge_10 rfl (lv_at hl 0 rfl) ?_
  refine lv_iconst (v := 0) C.1 C.2.1 dX13_judge_11 (by decide) ?_
  obtain ⟨S_3, eS_3, h⟩ := lt_e h
  refine y_putI C w eS_3 fM376 pM29 obM dX13_judge_12 (fun H locs w => ?_)
  refine lv_aload_n C.1 C.2.1 dX13_judge_15 rfl (lv_at hl 0 rfl) ?_
  refine lv_iconst (v := 0) C.1 C.2.1 dX13_judge_16 (by decide) ?_
  obtain ⟨S_4, eS_4, h⟩ := lt_e h
  refine y_putI C w eS_4 fM379 pM30 obM dX13_judge_17 (fun H locs w => ?_)
  refine lv_iconst (v := 0) C.1 C.2.1 dX13_judge_20 (by decide) ?_
  refine lv_istore_n (lv' := [(2, .int (0 : Int32)), (0, .ref (ρ 0)), (1, .int x1)]) C.1 C.2.1 dX13_judge_21 rfl hl (by decide) rfl (fun ls hl => ?_)
  exact w_judge_22 C hr hk g _ _ _ _ _ _ w (lv_sub hl [1, 2, 0] rfl) h
end S_judge
set_option maxRecDepth 100000 in
theorem k_judge (l : Launch) (D : va_G) (T : Cy) (ρ : Nat → Nat) (g sz : Nat) (S : St) {x1 : Int32} {S' : St} {r : Int32} (h : m_judge g S x1 = some (S', r)) : Mi l Ym D T ρ yX13_judge cX13_judge 9 (some .int) 3 68 S S' r [.ref (ρ 0), .int x1] sz :=
  x_in (by decide) (Nat.le_of_ble_eq_true rfl) (fun p e s m below meth c ls C hr hk w hl => w_judge_0 C hr hk w hl h)
