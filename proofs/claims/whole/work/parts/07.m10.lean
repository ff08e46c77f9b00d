theorem dX13_shrink_0 : decode cX13_shrink 0 = .ok (.aload_n 0, 1) := by decide +kernel
theorem dX13_shrink_1 : decode cX13_shrink 1 = .ok (.getfield 362, 3) := by decide +kernel
theorem dX13_shrink_4 : decode cX13_shrink 4 = .ok (.ifCond .eq 10, 3) := by decide +kernel
theorem dX13_shrink_7 : decode cX13_shrink 7 = .ok (.aload_n 0, 1) := by decide +kernel
theorem dX13_shrink_8 : decode cX13_shrink 8 = .ok (.getfield 428, 3) := by decide +kernel
theorem dX13_shrink_11 : decode cX13_shrink 11 = .ok (.ifCond .ne 6, 3) := by decide +kernel
theorem dX13_shrink_14 : decode cX13_shrink 14 = .ok (.bipush (-2), 2) := by decide +kernel
theorem dX13_shrink_16 : decode cX13_shrink 16 = .ok (.ireturn, 1) := by decide +kernel
theorem dX13_shrink_17 : decode cX13_shrink 17 = .ok (.aload_n 0, 1) := by decide +kernel
theorem dX13_shrink_18 : decode cX13_shrink 18 = .ok (.getfield 428, 3) := by decide +kernel
theorem dX13_shrink_21 : decode cX13_shrink 21 = .ok (.istore_n 1, 1) := by decide +kernel
theorem dX13_shrink_22 : decode cX13_shrink 22 = .ok (.iconst 1, 1) := by decide +kernel
theorem dX13_shrink_23 : decode cX13_shrink 23 = .ok (.istore_n 2, 1) := by decide +kernel
theorem dX13_shrink_24 : decode cX13_shrink 24 = .ok (.iload_n 2, 1) := by decide +kernel
theorem dX13_shrink_25 : decode cX13_shrink 25 = .ok (.ifCond .eq 67, 3) := by decide +kernel
theorem dX13_shrink_28 : decode cX13_shrink 28 = .ok (.iconst 0, 1) := by decide +kernel
theorem dX13_shrink_29 : decode cX13_shrink 29 = .ok (.istore_n 2, 1) := by decide +kernel
theorem dX13_shrink_30 : decode cX13_shrink 30 = .ok (.aload_n 0, 1) := by decide +kernel
theorem dX13_shrink_31 : decode cX13_shrink 31 = .ok (.getfield 153, 3) := by decide +kernel
theorem dX13_shrink_34 : decode cX13_shrink 34 = .ok (.iconst 0, 1) := by decide +kernel
theorem dX13_shrink_35 : decode cX13_shrink 35 = .ok (.iaload, 1) := by decide +kernel
theorem dX13_shrink_36 : decode cX13_shrink 36 = .ok (.iconst 1, 1) := by decide +kernel
theorem dX13_shrink_37 : decode cX13_shrink 37 = .ok (.isub, 1) := by decide +kernel
theorem dX13_shrink_38 : decode cX13_shrink 38 = .ok (.istore_n 3, 1) := by decide +kernel
theorem dX13_shrink_39 : decode cX13_shrink 39 = .ok (.iload_n 3, 1) := by decide +kernel
theorem dX13_shrink_40 : decode cX13_shrink 40 = .ok (.ifCond .lt 49, 3) := by decide +kernel
theorem dX13_shrink_43 : decode cX13_shrink 43 = .ok (.aload_n 0, 1) := by decide +kernel
theorem dX13_shrink_44 : decode cX13_shrink 44 = .ok (.iload_n 3, 1) := by decide +kernel
theorem dX13_shrink_45 : decode cX13_shrink 45 = .ok (.invokevirtual 701, 3) := by decide +kernel
theorem dX13_shrink_48 : decode cX13_shrink 48 = .ok (.aload_n 0, 1) := by decide +kernel
theorem dX13_shrink_49 : decode cX13_shrink 49 = .ok (.iconst 2, 1) := by decide +kernel
theorem dX13_shrink_50 : decode cX13_shrink 50 = .ok (.invokevirtual 355, 3) := by decide +kernel
theorem dX13_shrink_53 : decode cX13_shrink 53 = .ok (.ifCond .ge 30, 3) := by decide +kernel
theorem dX13_shrink_56 : decode cX13_shrink 56 = .ok (.aload_n 0, 1) := by decide +kernel
theorem dX13_shrink_57 : decode cX13_shrink 57 = .ok (.iconst 2, 1) := by decide +kernel
theorem dX13_shrink_58 : decode cX13_shrink 58 = .ok (.invokevirtual 704, 3) := by decide +kernel
theorem dX13_shrink_61 : decode cX13_shrink 61 = .ok (.ifCond .lt 22, 3) := by decide +kernel
theorem dX13_shrink_64 : decode cX13_shrink 64 = .ok (.aload_n 0, 1) := by decide +kernel
theorem dX13_shrink_65 : decode cX13_shrink 65 = .ok (.getfield 428, 3) := by decide +kernel
theorem dX13_shrink_68 : decode cX13_shrink 68 = .ok (.iload_n 1, 1) := by decide +kernel
theorem dX13_shrink_69 : decode cX13_shrink 69 = .ok (.if_icmp .eq 6, 3) := by decide +kernel
theorem dX13_shrink_72 : decode cX13_shrink 72 = .ok (.goto 11, 3) := by decide +kernel
theorem dX13_shrink_75 : decode cX13_shrink 75 = .ok (.aload_n 0, 1) := by decide +kernel
theorem dX13_shrink_76 : decode cX13_shrink 76 = .ok (.iconst 2, 1) := by decide +kernel
theorem dX13_shrink_77 : decode cX13_shrink 77 = .ok (.iconst 0, 1) := by decide +kernel
theorem dX13_shrink_78 : decode cX13_shrink 78 = .ok (.invokevirtual 358, 3) := by decide +kernel
theorem dX13_shrink_81 : decode cX13_shrink 81 = .ok (.iconst 1, 1) := by decide +kernel
theorem dX13_shrink_82 : decode cX13_shrink 82 = .ok (.istore_n 2, 1) := by decide +kernel
theorem dX13_shrink_83 : decode cX13_shrink 83 = .ok (.iinc 3 (-1), 3) := by decide +kernel
theorem dX13_shrink_86 : decode cX13_shrink 86 = .ok (.goto (-47), 3) := by decide +kernel
theorem dX13_shrink_89 : decode cX13_shrink 89 = .ok (.goto (-65), 3) := by decide +kernel
theorem dX13_shrink_92 : decode cX13_shrink 92 = .ok (.aload_n 0, 1) := by decide +kernel
theorem dX13_shrink_93 : decode cX13_shrink 93 = .ok (.iconst 0, 1) := by decide +kernel
theorem dX13_shrink_94 : decode cX13_shrink 94 = .ok (.invokevirtual 704, 3) := by decide +kernel
theorem dX13_shrink_97 : decode cX13_shrink 97 = .ok (.istore_n 3, 1) := by decide +kernel
theorem dX13_shrink_98 : decode cX13_shrink 98 = .ok (.aload_n 0, 1) := by decide +kernel
theorem dX13_shrink_99 : decode cX13_shrink 99 = .ok (.getfield 153, 3) := by decide +kernel
theorem dX13_shrink_102 : decode cX13_shrink 102 = .ok (.iconst 0, 1) := by decide +kernel
theorem dX13_shrink_103 : decode cX13_shrink 103 = .ok (.iaload, 1) := by decide +kernel
theorem dX13_shrink_104 : decode cX13_shrink 104 = .ok (.ireturn, 1) := by decide +kernel
def b_shrink_39 (g : Nat) (k24 : St → Int32 → Int32 → Option (St × Int32)) (k39 : St → Int32 → Int32 → Int32 → Option (St × Int32)) (S : St) (x1 : Int32) (x2 : Int32) (x3 : Int32) : Option (St × Int32) :=
if x3 < 0 then (
  k24 S x1 x2
) else (
  (m_without g S x3).bind fun S_7 =>
  (m_judge g S_7 (2 : Int32)).bind fun (S_8, v_9) =>
  if 0 ≤ v_9 then (
    lt (x3 + (-1 : Int32)) fun x3_10 =>
    k39 S_8 x1 x2 x3_10
  ) else (
    (m_runs g S_8 (2 : Int32)).bind fun (S_11, v_12) =>
    if v_12 < 0 then (
      lt (x3 + (-1 : Int32)) fun x3_13 =>
      k39 S_11 x1 x2 x3_13
    ) else (
      if (gI S_11 0 53) = x1 then (
        (m_copyProgram g S_11 (2 : Int32) (0 : Int32)).bind fun S_14 =>
        lt (x3 + (-1 : Int32)) fun x3_15 =>
        k39 S_14 x1 (1 : Int32) x3_15
      ) else (
        lt (x3 + (-1 : Int32)) fun x3_16 =>
        k39 S_11 x1 x2 x3_16
      )
    )
  )
)
def m_shrink_39 (g : Nat) (k24 : St → Int32 → Int32 → Option (St × Int32)) : Nat → St → Int32 → Int32 → Int32 → Option (St × Int32)
  | 0, _, _, _, _ => none
  | n + 1, S, x1, x2, x3 => b_shrink_39 g k24 (m_shrink_39 g k24 n) S x1 x2 x3
def b_shrink_24 (g : Nat) (k24 : St → Int32 → Int32 → Option (St × Int32)) (S : St) (x1 : Int32) (x2 : Int32) : Option (St × Int32) :=
if x2 = 0 then (
  (m_runs g S (0 : Int32)).bind fun (S_2, v_3) =>
  (aI S_2 11 (0 : Int32)).bind fun v_4 =>
  some (S_2, v_4)
) else (
  (aI S 11 (0 : Int32)).bind fun v_5 =>
  lt (v_5 - (1 : Int32)) fun x3_6 =>
  m_shrink_39 g k24 g S x1 (0 : Int32) x3_6
)
def m_shrink_24 (g : Nat) : Nat → St → Int32 → Int32 → Option (St × Int32)
  | 0, _, _, _ => none
  | n + 1, S, x1, x2 => b_shrink_24 g (m_shrink_24 g n) S x1 x2
def m_shrink (g : Nat) (S : St) : Option (St × Int32) :=
if (gI S 0 12) = 0 then (
  some (S, (-2 : Int32))
) else (
  if (gI S 0 53) = 0 then (
    some (S, (-2 : Int32))
  ) else (
    lt (gI S 0 53) fun x1_1 =>
    m_shrink_24 g g S x1_1 (1 : Int32)
  )
)
section S_shrink
variable {p : Program} {l : Launch} {e : Env} {s : State} {m : MethodId} {args : Array Value} {below : List Frame} {meth : Method} {c : Code} {H : Heap} {locs : List Loc} {ls : Array Slot} {D : va_G} {T : Cy} {ρ : Nat → Nat} {A : Nat → Prop}
set_option maxRecDepth 100000 in
set_option maxHeartbeats 4000000 in
theorem wb_shrink_39  {g : Nat} {S : St} {x1 : Int32} {x2 : Int32} {x3 : Int32} (C : CallFix p m c cX13_shrink 4 s args tb RX13) (hr : meth.sig.returnType = (some .int)) (hk : meth.locks = false) {S' : St} {r : Int32} {k24 : St → Int32 → Int32 → Option (St × Int32)} (kk24 : ∀ (S : St) (x1 : Int32) (x2 : Int32) (H : Heap) (locs : List Loc) (ls : Array Slot), Wn Ym D T ρ S A s H locs → lv_has ls 4 [(0, .ref (ρ 0)), (1, .int x1), (2, .int x2)] → k24 S x1 x2 = some (S', r) → W p l e (rmN 9 208) s m args below meth c H locs 0 0 (MQ below (Qi Ym D T ρ A S' r) args s 0 0 A) (F0 m 24 ls [])) {k39 : St → Int32 → Int32 → Int32 → Option (St × Int32)} (kk39 : ∀ (S : St) (x1 : Int32) (x2 : Int32) (x3 : Int32) (H : Heap) (locs : List Loc) (ls : Array Slot), Wn Ym D T ρ S A s H locs → lv_has ls 4 [(0, .ref (ρ 0)), (1, .int x1), (2, .int x2), (3, .int x3)] → k39 S x1 x2 x3 = some (S', r) → W p l e (rmN 9 208) s m args below meth c H locs 0 0 (MQ below (Qi Ym D T ρ A S' r) args s 0 0 A) (F0 m 39 ls [])) (w : Wn Ym D T ρ S A s H locs) (hl : lv_has ls 4 [(0, .ref (ρ 0)), (1, .int x1), (2, .int x2), (3, .int x3)]) (h : b_shrink_39 g k24 k39 S x1 x2 x3 = some (S', r)) : W p l e (rmN 9 208) s m args below meth c H locs 0 0 (MQ below (Qi Ym D T ρ A S' r) args s 0 0 A) (F0 m 39 ls []) := by
  unfold b_shrink_39 at h
  refine lv_iload_n C.1 C.2.1 dX13_shrink_39 rfl (lv_at hl 3 rfl) ?_
  refine lv_if_lt (tgt := 89) C.1 C.2.1 dX13_shrink_40 (by decide) (fun hc => ?_) (fun hc => ?_)
  · replace h := ift hc h
    refine lv_goto (tgt := 24) C.1 C.2.1 dX13_shrink_89 (by decide) ?_
    exact kk24 _ _ _ _ _ _ w (lv_sub hl [0, 1, 2] rfl) h
  · replace h := iff0 hc h
    refine lv_aload_n C.1 C.2.1 dX13_shrink_43 rfl (lv_at hl 0 rfl) ?_
    refine lv_iload_n C.1 C.2.1 dX13_shrink_44 rfl (lv_at hl 3 rfl) ?_
    obtain ⟨S_7, hS_7, h⟩ := bnd h
    refine x_callVv (q := (RX13, TX13, 68)) (As := [.int x3]) (rest := []) C w (k_without l D T ρ g H.size S hS_7) vM701 ⟨by decide, by decide⟩ obM (by decide) rfl rfl rfl hl.1 (Nat.le_of_ble_eq_true rfl) ⟨Nat.zero_le _, Nat.zero_le _⟩ dX13_shrink_45 (fun H locs w => ?_)
    refine lv_aload_n C.1 C.2.1 dX13_shrink_48 rfl (lv_at hl 0 rfl) ?_
    refine lv_iconst (v := 2) C.1 C.2.1 dX13_shrink_49 (by decide) ?_
    obtain ⟨⟨S_8, v_9⟩, hv_9, h⟩ := bnd h
    refine x_callVi (q := (RX13, TX13, 68)) (As := [.int (2 : Int32)]) (rest := []) C w (k_judge l D T ρ g H.size S_7 hv_9) vM355 ⟨by decide, by decide⟩ obM (by decide) rfl rfl rfl hl.1 (Nat.le_of_ble_eq_true rfl) ⟨Nat.zero_le _, Nat.zero_le _⟩ dX13_shrink_50 (fun H locs w => ?_)
    refine lv_if_ge (tgt := 83) C.1 C.2.1 dX13_shrink_53 (by decide) (fun hc => ?_) (fun hc => ?_)
    · replace h := ift hc h
      obtain ⟨x3_10, ex3_10, h⟩ := lt_e h
      refine lv_iinc (v := x3_10) (lv' := [(3, .int x3_10), (0, .ref (ρ 0)), (1, .int x1), (2, .int x2)]) C.1 C.2.1 dX13_shrink_83 hl (k := 3) rfl (by rw [ex3_10]; rfl) (by decide) rfl (fun ls hl => ?_)
      refine lv_goto (tgt := 39) C.1 C.2.1 dX13_shrink_86 (by decide) ?_
      exact kk39 _ _ _ _ _ _ _ w (lv_sub hl [1, 2, 3, 0] rfl) h
    · replace h := iff0 hc h
      refine lv_aload_n C.1 C.2.1 dX13_shrink_56 rfl (lv_at hl 0 rfl) ?_
      refine lv_iconst (v := 2) C.1 C.2.1 dX13_shrink_57 (by decide) ?_
      obtain ⟨⟨S_11, v_12⟩, hv_12, h⟩ := bnd h
      refine x_callVi (q := (RX13, TX13, 68)) (As := [.int (2 : Int32)]) (rest := []) C w (k_runs l D T ρ g H.size S_8 hv_12) vM704 ⟨by decide, by decide⟩ obM (by decide) rfl rfl rfl hl.1 (Nat.le_of_ble_eq_true rfl) ⟨Nat.zero_le _, Nat.zero_le _⟩ dX13_shrink_58 (fun H locs w => ?_)
      refine lv_if_lt (tgt := 83) C.1 C.2.1 dX13_shrink_61 (by decide) (fun hc => ?_) (fun hc => ?_)
      · replace h := ift hc h
        obtain ⟨x3_13, ex3_13, h⟩ := lt_e h
        refine lv_iinc (v := x3_13) (lv' := [(3, .int x3_13), (0, .ref (ρ 0)), (1, .int x1), (2, .int x2)]) C.1 C.2.1 dX13_shrink_83 hl (k := 3) rfl (by rw [ex3_13]; rfl) (by decide) rfl (fun ls hl => ?_)
        refine lv_goto (tgt := 39) C.1 C.2.1 dX13_shrink_86 (by decide) ?_
        exact kk39 _ _ _ _ _ _ _ w (lv_sub hl [1, 2, 3, 0] rfl) h
      · replace h := iff0 hc h
        refine lv_aload_n C.1 C.2.1 dX13_shrink_64 rfl (lv_at hl 0 rfl) ?_
        refine x_getI C w fM428 obM dX13_shrink_65 ?_
        refine lv_iload_n C.1 C.2.1 dX13_shrink_68 rfl (lv_at hl 1 rfl) ?_
        refine lv_icmp_eq (tgt := 75) C.1 C.2.1 dX13_shrink_69 (by decide) (fun hc => ?_) (fun hc => ?_)
        · replace h := ift hc h
          refine lv_aload_n C.1 C.2.1 dX13_shrink_75 rfl (lv_at hl 0 rfl) ?_
          refine lv_iconst (v := 2) C.1 C.2.1 dX13_shrink_76 (by decide) ?_
          refine lv_iconst (v := 0) C.1 C.2.1 dX13_shrink_77 (by decide) ?_
          obtain ⟨S_14, hS_14, h⟩ := bnd h
          refine x_callVv (q := (RX13, TX13, 68)) (As := [.int (2 : Int32), .int (0 : Int32)]) (rest := []) C w (k_copyProgram l D T ρ g H.size S_11 hS_14) vM358 ⟨by decide, by decide⟩ obM (by decide) rfl rfl rfl hl.1 (Nat.le_of_ble_eq_true rfl) ⟨Nat.zero_le _, Nat.zero_le _⟩ dX13_shrink_78 (fun H locs w => ?_)
          refine lv_iconst (v := 1) C.1 C.2.1 dX13_shrink_81 (by decide) ?_
          refine lv_istore_n (lv' := [(2, .int (1 : Int32)), (0, .ref (ρ 0)), (1, .int x1), (3, .int x3)]) C.1 C.2.1 dX13_shrink_82 rfl hl (by decide) rfl (fun ls hl => ?_)
          obtain ⟨x3_15, ex3_15, h⟩ := lt_e h
          refine lv_iinc (v := x3_15) (lv' := [(3, .int x3_15), (2, .int (1 : Int32)), (0, .ref (ρ 0)), (1, .int x1)]) C.1 C.2.1 dX13_shrink_83 hl (k := 3) rfl (by rw [ex3_15]; rfl) (by decide) rfl (fun ls hl => ?_)
          refine lv_goto (tgt := 39) C.1 C.2.1 dX13_shrink_86 (by decide) ?_
          exact kk39 _ _ _ _ _ _ _ w (lv_sub hl [2, 3, 1, 0] rfl) h
        · replace h := iff0 hc h
          refine lv_goto (tgt := 83) C.1 C.2.1 dX13_shrink_72 (by decide) ?_
          obtain ⟨x3_16, ex3_16, h⟩ := lt_e h
          refine lv_iinc (v := x3_16) (lv' := [(3, .int x3_16), (0, .ref (ρ 0)), (1, .int x1), (2, .int x2)]) C.1 C.2.1 dX13_shrink_83 hl (k := 3) rfl (by rw [ex3_16]; rfl) (by decide) rfl (fun ls hl => ?_)
          refine lv_goto (tgt := 39) C.1 C.2.1 dX13_shrink_86 (by decide) ?_
          exact kk39 _ _ _ _ _ _ _ w (lv_sub hl [1, 2, 3, 0] rfl) h
theorem w_shrink_39 {g : Nat} (C : CallFix p m c cX13_shrink 4 s args tb RX13) (hr : meth.sig.returnType = (some .int)) (hk : meth.locks = false) {S' : St} {r : Int32} {k24 : St → Int32 → Int32 → Option (St × Int32)} (kk24 : ∀ (S : St) (x1 : Int32) (x2 : Int32) (H : Heap) (locs : List Loc) (ls : Array Slot), Wn Ym D T ρ S A s H locs → lv_has ls 4 [(0, .ref (ρ 0)), (1, .int x1), (2, .int x2)] → k24 S x1 x2 = some (S', r) → W p l e (rmN 9 208) s m args below meth c H locs 0 0 (MQ below (Qi Ym D T ρ A S' r) args s 0 0 A) (F0 m 24 ls [])) (n : Nat) : ∀ (S : St) (x1 : Int32) (x2 : Int32) (x3 : Int32) (H : Heap) (locs : List Loc) (ls : Array Slot), Wn Ym D T ρ S A s H locs → lv_has ls 4 [(0, .ref (ρ 0)), (1, .int x1), (2, .int x2), (3, .int x3)] → m_shrink_39 g k24 n S x1 x2 x3 = some (S', r) → W p l e (rmN 9 208) s m args below meth c H locs 0 0 (MQ below (Qi Ym D T ρ A S' r) args s 0 0 A) (F0 m 39 ls []) := by
  induction n with
  | zero => intro S x1 x2 x3 H locs ls w hl h; exact absurd h (fun q => by cases q)
  | succ n ih => intro S x1 x2 x3 H locs ls w hl h; exact wb_shrink_39 C hr hk kk24 ih w hl h
set_option maxRecDepth 100000 in
set_option maxHeartbeats 4000000 in
theorem wb_shrink_24  {g : Nat} {S : St} {x1 : Int32} {x2 : Int32} (C : CallFix p m c cX13_shrink 4 s args tb RX13) (hr : meth.sig.returnType = (some .int)) (hk : meth.locks = false) {S' : St} {r : Int32} {k24 : St → Int32 → Int32 → Option (St × Int32)} (kk24 : ∀ (S : St) (x1 : Int32) (x2 : Int32) (H : Heap) (locs : List Loc) (ls : Array Slot), Wn Ym D T ρ S A s H locs → lv_has ls 4 [(0, .ref (ρ 0)), (1, .int x1), (2, .int x2)] → k24 S x1 x2 = some (S', r) → W p l e (rmN 9 208) s m args below meth c H locs 0 0 (MQ below (Qi Ym D T ρ A S' r) args s 0 0 A) (F0 m 24 ls [])) (w : Wn Ym D T ρ S A s H locs) (hl : lv_has ls 4 [(0, .ref (ρ 0)), (1, .int x1), (2, .int x2)]) (h : b_shrink_24 g k24 S x1 x2 = some (S', r)) : W p l e (rmN 9 208) s m args below meth c H locs 0 0 (MQ below (Qi Ym D T ρ A S' r) args s 0 0 A) (F0 m 24 ls []) := by
  unfold b_shrink_24 at h
  refine lv_iload_n C.1 C.2.1 dX13_shrink_24 rfl (lv_at hl 2 rfl) ?_
  refine lv_if_eq (tgt := 92) C.1 C.2.1 dX13_shrink_25 (by decide) (fun hc => ?_) (fun hc => ?_)
  · replace h := ift hc h
    refine lv_aload_n C.1 C.2.1 dX13_shrink_92 rfl (lv_at hl 0 rfl) ?_
    refine lv_iconst (v := 0) C.1 C.2.1 dX13_shrink_93 (by decide) ?_
    obtain ⟨⟨S_2, v_3⟩, hv_3, h⟩ := bnd h
    refine x_callVi (q := (RX13, TX13, 68)) (As := [.int (0 : Int32)]) (rest := []) C w (k_runs l D T ρ g H.size S hv_3) vM704 ⟨by decide, by decide⟩ obM (by decide) rfl rfl rfl hl.1 (Nat.le_of_ble_eq_true rfl) ⟨Nat.zero_le _, Nat.zero_le _⟩ dX13_shrink_94 (fun H locs w => ?_)
    refine lv_istore_n (lv' := [(3, .int v_3), (0, .ref (ρ 0)), (1, .int x1), (2, .int x2)]) C.1 C.2.1 dX13_shrink_97 rfl hl (by decide) rfl (fun ls hl => ?_)
    refine lv_aload_n C.1 C.2.1 dX13_shrink_98 rfl (lv_at hl 1 rfl) ?_
    refine x_getC C w 11 fM153 obM rfl dX13_shrink_99 ?_
    refine lv_iconst (v := 0) C.1 C.2.1 dX13_shrink_102 (by decide) ?_
    obtain ⟨v_4, hv_4, h⟩ := bnd h
    refine x_iald C w obM11 hv_4 dX13_shrink_103 ?_
    obtain ⟨rfl, rfl⟩ := prI h
    exact x_iret C w hr hk dX13_shrink_104
  · replace h := iff0 hc h
    refine lv_iconst (v := 0) C.1 C.2.1 dX13_shrink_28 (by decide) ?_
    refine lv_istore_n (lv' := [(2, .int (0 : Int32)), (0, .ref (ρ 0)), (1, .int x1)]) C.1 C.2.1 dX13_shrink_29 rfl hl (by decide) rfl (fun ls hl => ?_)
    refine lv_aload_n C.1 C.2.1 dX13_shrink_30 rfl (lv_at hl 1 rfl) ?_
    refine x_getC C w 11 fM153 obM rfl dX13_shrink_31 ?_
    refine lv_iconst (v := 0) C.1 C.2.1 dX13_shrink_34 (by decide) ?_
    obtain ⟨v_5, hv_5, h⟩ := bnd h
    refine x_iald C w obM11 hv_5 dX13_shrink_35 ?_
    refine lv_iconst (v := 1) C.1 C.2.1 dX13_shrink_36 (by decide) ?_
    refine lv_isub C.1 C.2.1 dX13_shrink_37 ?_
    obtain ⟨x3_6, ex3_6, h⟩ := lt_e h
    refine x_nm ex3_6 ?_
    refine lv_istore_n (lv' := [(3, .int x3_6), (2, .int (0 : Int32)), (0, .ref (ρ 0)), (1, .int x1)]) C.1 C.2.1 dX13_shrink_38 rfl hl (by decide) rfl (fun ls hl => ?_)
    exact w_shrink_39 C hr hk kk24 g _ _ _ _ _ _ _ w (lv_sub hl [2, 3, 1, 0] rfl) h
theorem w_shrink_24 {g : Nat} (C : CallFix p m c cX13_shrink 4 s args tb RX13) (hr : meth.sig.returnType = (some .int)) (hk : meth.locks = false) {S' : St} {r : Int32} (n : Nat) : ∀ (S : St) (x1 : Int32) (x2 : Int32) (H : Heap) (locs : List Loc) (ls : Array Slot), Wn Ym D T ρ S A s H locs → lv_has ls 4 [(0, .ref (ρ 0)), (1, .int x1), (2, .int x2)] → m_shrink_24 g n S x1 x2 = some (S', r) → W p l e (rmN 9 208) s m args below meth c H locs 0 0 (MQ below (Qi Ym D T ρ A S' r) args s 0 0 A) (F0 m 24 ls []) := by
  induction n with
  | zero => intro S x1 x2 H locs ls w hl h; exact absurd h (fun q => by cases q)
  | succ n ih => intro S x1 x2 H locs ls w hl h; exact wb_shrink_24 C hr hk ih w hl h
set_option maxRecDepth 100000 in
set_option maxHeartbeats 4000000 in
theorem w_shrink_0  {g : Nat} {S : St} (C : CallFix p m c cX13_shrink 4 s args tb RX13) (hr : meth.sig.returnType = (some .int)) (hk : meth.locks = false) {S' : St} {r : Int32} (w : Wn Ym D T ρ S A s H locs) (hl : lv_has ls 4 [(0, .ref (ρ 0))]) (h : m_shrink g S = some (S', r)) : W p l e (rmN 9 208) s m args below meth c H locs 0 0 (MQ below (Qi Ym D T ρ A S' r) args s 0 0 A) (F0 m 0 ls []) := by
  unfold m_shrink at h
  refine lv_aload_n C.1 C.2.1 dX13_shrink_0 rfl (lv_at hl 0 rfl) ?_
  refine x_getI C w fM362 obM dX13_shrink_1 ?_
  refine lv_if_eq (tgt := 14) C.1 C.2.1 dX13_shrink_4 (by decide) (fun hc => ?_) (fun hc => ?_)
  · replace h := ift hc h
    refine lv_bipush (v := (-2)) C.1 C.2.1 dX13_shrink_14 (by decide) ?_
    obtain ⟨rfl, rfl⟩ := prI h
    exact x_iret C w hr hk dX13_shrink_16
  · replace h := iff0 hc h
    refine lv_aload_n C.1 C.2.1 dX13_shrink_7 rfl (lv_at hl 0 rfl) ?_
    refine x_getI C w fM428 obM dX13_shrink_8 ?_
    refine lv_if_ne (tgt := 17) C.1 C.2.1 dX13_shrink_11 (by decide) (fun hc => ?_) (fun hc => ?_)
    · replace h := iff0 hc h
      refine lv_aload_n C.1 C.2.1 dX13_shrink_17 rfl (lv_at hl 0 rfl) ?_
      refine x_getI C w fM428 obM dX13_shrink_18 ?_
      obtain ⟨x1_1, ex1_1, h⟩ := lt_e h
      refine x_nm ex1_1 ?_
      refine lv_istore_n (lv' := [(1, .int x1_1), (0, .ref (ρ 0))]) C.1 C.2.1 dX13_shrink_21 rfl hl (by decide) rfl (fun ls hl => ?_)
      refine lv_iconst (v := 1) C.1 C.2.1 dX13_shrink_22 (by decide) ?_
      refine lv_istore_n (lv' := [(2, .int (1 : Int32)), (1, .int x1_1), (0, .ref (ρ 0))]) C.1 C.2.1 dX13_shrink_23 rfl hl (by decide) rfl (fun ls hl => ?_)
      exact w_shrink_24 C hr hk g _ _ _ _ _ _ w (lv_sub hl [2, 1, 0] rfl) h
    · replace h := ift hc h
      refine lv_bipush (v := (-2)) C.1 C.2.1 dX13_shrink_14 (by decide) ?_
      obtain ⟨rfl, rfl⟩ := prI h
      exact x_iret C w hr hk dX13_shrink_16
end S_shrink
set_option maxRecDepth 100000 in
theorem k_shrink (l : Launch) (D : va_G) (T : Cy) (ρ : Nat → Nat) (g sz : Nat) (S : St) {S' : St} {r : Int32} (h : m_shrink g S = some (S', r)) : Mi l Ym D T ρ yX13_shrink cX13_shrink 4 (some .int) 9 208 S S' r [.ref (ρ 0)] sz :=
  x_in (by decide) (Nat.le_of_ble_eq_true rfl) (fun p e s m below meth c ls C hr hk w hl => w_shrink_0 C hr hk w hl h)

theorem dX13_run_0 : decode cX13_run 0 = .ok (.aload_n 0, 1) := by decide +kernel
theorem dX13_run_1 : decode cX13_run 1 = .ok (.getfield 362, 3) := by decide +kernel
theorem dX13_run_4 : decode cX13_run 4 = .ok (.ifCond .ne 6, 3) := by decide +kernel
theorem dX13_run_7 : decode cX13_run 7 = .ok (.bipush (-2), 2) := by decide +kernel
theorem dX13_run_9 : decode cX13_run 9 = .ok (.ireturn, 1) := by decide +kernel
theorem dX13_run_10 : decode cX13_run 10 = .ok (.aload_n 0, 1) := by decide +kernel
theorem dX13_run_11 : decode cX13_run 11 = .ok (.iconst 0, 1) := by decide +kernel
theorem dX13_run_12 : decode cX13_run 12 = .ok (.invokevirtual 704, 3) := by decide +kernel
theorem dX13_run_15 : decode cX13_run 15 = .ok (.istore_n 1, 1) := by decide +kernel
theorem dX13_run_16 : decode cX13_run 16 = .ok (.iload_n 1, 1) := by decide +kernel
theorem dX13_run_17 : decode cX13_run 17 = .ok (.ifCond .ge 7, 3) := by decide +kernel
theorem dX13_run_20 : decode cX13_run 20 = .ok (.iconst 0, 1) := by decide +kernel
theorem dX13_run_21 : decode cX13_run 21 = .ok (.goto 6, 3) := by decide +kernel
theorem dX13_run_24 : decode cX13_run 24 = .ok (.iconst 1, 1) := by decide +kernel
theorem dX13_run_25 : decode cX13_run 25 = .ok (.iload_n 1, 1) := by decide +kernel
theorem dX13_run_26 : decode cX13_run 26 = .ok (.iadd, 1) := by decide +kernel
theorem dX13_run_27 : decode cX13_run 27 = .ok (.ireturn, 1) := by decide +kernel
def m_run (g : Nat) (S : St) : Option (St × Int32) :=
if (gI S 0 12) = 0 then (
  some (S, (-2 : Int32))
) else (
  (m_runs g S (0 : Int32)).bind fun (S_1, v_2) =>
  if 0 ≤ v_2 then (
    some (S_1, (1 : Int32) + v_2)
  ) else (
    some (S_1, (0 : Int32))
  )
)
section S_run
variable {p : Program} {l : Launch} {e : Env} {s : State} {m : MethodId} {args : Array Value} {below : List Frame} {meth : Method} {c : Code} {H : Heap} {locs : List Loc} {ls : Array Slot} {D : va_G} {T : Cy} {ρ : Nat → Nat} {A : Nat → Prop}
set_option maxRecDepth 100000 in
set_option maxHeartbeats 4000000 in
theorem w_run_0  {g : Nat} {S : St} (C : CallFix p m c cX13_run 2 s args tb RX13) (hr : meth.sig.returnType = (some .int)) (hk : meth.locks = false) {S' : St} {r : Int32} (w : Wn Ym D T ρ S A s H locs) (hl : lv_has ls 2 [(0, .ref (ρ 0))]) (h : m_run g S = some (S', r)) : W p l e (rmN 9 208) s m args below meth c H locs 0 0 (MQ below (Qi Ym D T ρ A S' r) args s 0 0 A) (F0 m 0 ls []) := by
  unfold m_run at h
  refine lv_aload_n C.1 C.2.1 dX13_run_0 rfl (lv_at hl 0 rfl) ?_
  refine x_getI C w fM362 obM dX13_run_1 ?_
  refine lv_if_ne (tgt := 10) C.1 C.2.1 dX13_run_4 (by decide) (fun hc => ?_) (fun hc => ?_)
  · replace h := iff0 hc h
    refine lv_aload_n C.1 C.2.1 dX13_run_10 rfl (lv_at hl 0 rfl) ?_
    refine lv_iconst (v := 0) C.1 C.2.1 dX13_run_11 (by decide) ?_
    obtain ⟨⟨S_1, v_2⟩, hv_2, h⟩ := bnd h
    refine x_callVi (q := (RX13, TX13, 68)) (As := [.int (0 : Int32)]) (rest := []) C w (k_runs l D T ρ g H.size S hv_2) vM704 ⟨by decide, by decide⟩ obM (by decide) rfl rfl rfl hl.1 (Nat.le_of_ble_eq_true rfl) ⟨Nat.zero_le _, Nat.zero_le _⟩ dX13_run_12 (fun H locs w => ?_)
    refine lv_istore_n (lv' := [(1, .int v_2), (0, .ref (ρ 0))]) C.1 C.2.1 dX13_run_15 rfl hl (by decide) rfl (fun ls hl => ?_)
    refine lv_iload_n C.1 C.2.1 dX13_run_16 rfl (lv_at hl 0 rfl) ?_
    refine lv_if_ge (tgt := 24) C.1 C.2.1 dX13_run_17 (by decide) (fun hc => ?_) (fun hc => ?_)
    · replace h := ift hc h
      refine lv_iconst (v := 1) C.1 C.2.1 dX13_run_24 (by decide) ?_
      refine lv_iload_n C.1 C.2.1 dX13_run_25 rfl (lv_at hl 0 rfl) ?_
      refine lv_iadd C.1 C.2.1 dX13_run_26 ?_
      obtain ⟨rfl, rfl⟩ := prI h
      exact x_iret C w hr hk dX13_run_27
    · replace h := iff0 hc h
      refine lv_iconst (v := 0) C.1 C.2.1 dX13_run_20 (by decide) ?_
      refine lv_goto (tgt := 27) C.1 C.2.1 dX13_run_21 (by decide) ?_
      obtain ⟨rfl, rfl⟩ := prI h
      exact x_iret C w hr hk dX13_run_27
  · replace h := ift hc h
    refine lv_bipush (v := (-2)) C.1 C.2.1 dX13_run_7 (by decide) ?_
    obtain ⟨rfl, rfl⟩ := prI h
    exact x_iret C w hr hk dX13_run_9
end S_run
set_option maxRecDepth 100000 in
theorem k_run (l : Launch) (D : va_G) (T : Cy) (ρ : Nat → Nat) (g sz : Nat) (S : St) {S' : St} {r : Int32} (h : m_run g S = some (S', r)) : Mi l Ym D T ρ yX13_run cX13_run 2 (some .int) 9 208 S S' r [.ref (ρ 0)] sz :=
  x_in (by decide) (Nat.le_of_ble_eq_true rfl) (fun p e s m below meth c ls C hr hk w hl => w_run_0 C hr hk w hl h)

theorem dX13_ended_0 : decode cX13_ended 0 = .ok (.iload_n 1, 1) := by decide +kernel
theorem dX13_ended_1 : decode cX13_ended 1 = .ok (.ifCond .ne 8, 3) := by decide +kernel
theorem dX13_ended_4 : decode cX13_ended 4 = .ok (.aload_n 0, 1) := by decide +kernel
theorem dX13_ended_5 : decode cX13_ended 5 = .ok (.getfield 425, 3) := by decide +kernel
theorem dX13_ended_8 : decode cX13_ended 8 = .ok (.ireturn, 1) := by decide +kernel
theorem dX13_ended_9 : decode cX13_ended 9 = .ok (.iload_n 1, 1) := by decide +kernel
theorem dX13_ended_10 : decode cX13_ended 10 = .ok (.iconst 1, 1) := by decide +kernel
theorem dX13_ended_11 : decode cX13_ended 11 = .ok (.if_icmp .ne 8, 3) := by decide +kernel
theorem dX13_ended_14 : decode cX13_ended 14 = .ok (.aload_n 0, 1) := by decide +kernel
theorem dX13_ended_15 : decode cX13_ended 15 = .ok (.getfield 428, 3) := by decide +kernel
theorem dX13_ended_18 : decode cX13_ended 18 = .ok (.ireturn, 1) := by decide +kernel
theorem dX13_ended_19 : decode cX13_ended 19 = .ok (.iload_n 1, 1) := by decide +kernel
theorem dX13_ended_20 : decode cX13_ended 20 = .ok (.iconst 2, 1) := by decide +kernel
theorem dX13_ended_21 : decode cX13_ended 21 = .ok (.if_icmp .ne 8, 3) := by decide +kernel
theorem dX13_ended_24 : decode cX13_ended 24 = .ok (.aload_n 0, 1) := by decide +kernel
theorem dX13_ended_25 : decode cX13_ended 25 = .ok (.getfield 431, 3) := by decide +kernel
theorem dX13_ended_28 : decode cX13_ended 28 = .ok (.ireturn, 1) := by decide +kernel
theorem dX13_ended_29 : decode cX13_ended 29 = .ok (.iload_n 1, 1) := by decide +kernel
theorem dX13_ended_30 : decode cX13_ended 30 = .ok (.iconst 3, 1) := by decide +kernel
theorem dX13_ended_31 : decode cX13_ended 31 = .ok (.if_icmp .ne 10, 3) := by decide +kernel
theorem dX13_ended_34 : decode cX13_ended 34 = .ok (.aload_n 0, 1) := by decide +kernel
theorem dX13_ended_35 : decode cX13_ended 35 = .ok (.getfield 434, 3) := by decide +kernel
theorem dX13_ended_38 : decode cX13_ended 38 = .ok (.goto 4, 3) := by decide +kernel
theorem dX13_ended_41 : decode cX13_ended 41 = .ok (.iconst (-1), 1) := by decide +kernel
theorem dX13_ended_42 : decode cX13_ended 42 = .ok (.ireturn, 1) := by decide +kernel
def m_ended (g : Nat) (S : St) (x1 : Int32) : Option Int32 :=
if x1 = 0 then (
  some (gI S 0 52)
) else (
  if x1 = (1 : Int32) then (
    some (gI S 0 53)
  ) else (
    if x1 = (2 : Int32) then (
      some (gI S 0 54)
    ) else (
      if x1 = (3 : Int32) then (
        some (gI S 0 55)
      ) else (
        some (-1 : Int32)
      )
    )
  )
)
section S_ended
variable {p : Program} {l : Launch} {e : Env} {s : State} {m : MethodId} {args : Array Value} {below : List Frame} {meth : Method} {c : Code} {H : Heap} {locs : List Loc} {ls : Array Slot} {D : va_G} {T : Cy} {ρ : Nat → Nat} {A : Nat → Prop}
set_option maxRecDepth 100000 in
set_option maxHeartbeats 4000000 in
theorem w_ended_0  {g : Nat} {S : St} {x1 : Int32} (C : CallFix p m c cX13_ended 2 s args tb RX13) (hr : meth.sig.returnType = (some .int)) (hk : meth.locks = false) {r : Int32} (w : Wn Ym D T ρ S A s H locs) (hl : lv_has ls 2 [(0, .ref (ρ 0)), (1, .int x1)]) (h : m_ended g S x1 = some r) : W p l e (rmN 0 0) s m args below meth c H locs 0 0 (MQ below (Qi Ym D T ρ A S r) args s 0 0 A) (F0 m 0 ls []) := by
  unfold m_ended at h
  refine lv_iload_n C.1 C.2.1 dX13_ended_0 rfl (lv_at hl 1 rfl) ?_
  refine lv_if_ne (tgt := 9) C.1 C.2.1 dX13_ended_1 (by decide) (fun hc => ?_) (fun hc => ?_)
  · replace h := iff0 hc h
    refine lv_iload_n C.1 C.2.1 dX13_ended_9 rfl (lv_at hl 1 rfl) ?_
    refine lv_iconst (v := 1) C.1 C.2.1 dX13_ended_10 (by decide) ?_
    refine lv_icmp_ne (tgt := 19) C.1 C.2.1 dX13_ended_11 (by decide) (fun hc => ?_) (fun hc => ?_)
    · replace h := iff0 hc h
      refine lv_iload_n C.1 C.2.1 dX13_ended_19 rfl (lv_at hl 1 rfl) ?_
      refine lv_iconst (v := 2) C.1 C.2.1 dX13_ended_20 (by decide) ?_
      refine lv_icmp_ne (tgt := 29) C.1 C.2.1 dX13_ended_21 (by decide) (fun hc => ?_) (fun hc => ?_)
      · replace h := iff0 hc h
        refine lv_iload_n C.1 C.2.1 dX13_ended_29 rfl (lv_at hl 1 rfl) ?_
        refine lv_iconst (v := 3) C.1 C.2.1 dX13_ended_30 (by decide) ?_
        refine lv_icmp_ne (tgt := 41) C.1 C.2.1 dX13_ended_31 (by decide) (fun hc => ?_) (fun hc => ?_)
        · replace h := iff0 hc h
          refine lv_iconst (v := (-1)) C.1 C.2.1 dX13_ended_41 (by decide) ?_
          obtain rfl := som h
          exact x_iret C w hr hk dX13_ended_42
        · replace h := ift hc h
          refine lv_aload_n C.1 C.2.1 dX13_ended_34 rfl (lv_at hl 0 rfl) ?_
          refine x_getI C w fM434 obM dX13_ended_35 ?_
          refine lv_goto (tgt := 42) C.1 C.2.1 dX13_ended_38 (by decide) ?_
          obtain rfl := som h
          exact x_iret C w hr hk dX13_ended_42
      · replace h := ift hc h
        refine lv_aload_n C.1 C.2.1 dX13_ended_24 rfl (lv_at hl 0 rfl) ?_
        refine x_getI C w fM431 obM dX13_ended_25 ?_
        obtain rfl := som h
        exact x_iret C w hr hk dX13_ended_28
    · replace h := ift hc h
      refine lv_aload_n C.1 C.2.1 dX13_ended_14 rfl (lv_at hl 0 rfl) ?_
      refine x_getI C w fM428 obM dX13_ended_15 ?_
      obtain rfl := som h
      exact x_iret C w hr hk dX13_ended_18
  · replace h := ift hc h
    refine lv_aload_n C.1 C.2.1 dX13_ended_4 rfl (lv_at hl 0 rfl) ?_
    refine x_getI C w fM425 obM dX13_ended_5 ?_
    obtain rfl := som h
    exact x_iret C w hr hk dX13_ended_8
end S_ended
set_option maxRecDepth 100000 in
theorem k_ended (l : Launch) (D : va_G) (T : Cy) (ρ : Nat → Nat) (g sz : Nat) (S : St) {x1 : Int32} {r : Int32} (h : m_ended g S x1 = some r) : Mi l Ym D T ρ yX13_ended cX13_ended 2 (some .int) 0 0 S S r [.ref (ρ 0), .int x1] sz :=
  x_in (by decide) (Nat.le_of_ble_eq_true rfl) (fun p e s m below meth c ls C hr hk w hl => w_ended_0 C hr hk w hl h)

theorem dX13_done_0 : decode cX13_done 0 = .ok (.iload_n 1, 1) := by decide +kernel
theorem dX13_done_1 : decode cX13_done 1 = .ok (.i2l, 1) := by decide +kernel
theorem dX13_done_2 : decode cX13_done 2 = .ok (.lconst 0, 1) := by decide +kernel
theorem dX13_done_3 : decode cX13_done 3 = .ok (.ldc2_w 707, 3) := by decide +kernel
theorem dX13_done_6 : decode cX13_done 6 = .ok (.invokestatic 318, 3) := by decide +kernel
theorem dX13_done_9 : decode cX13_done 9 = .ok (.ifCond .eq 12, 3) := by decide +kernel
theorem dX13_done_12 : decode cX13_done 12 = .ok (.aload_n 0, 1) := by decide +kernel
theorem dX13_done_13 : decode cX13_done 13 = .ok (.getfield 214, 3) := by decide +kernel
theorem dX13_done_16 : decode cX13_done 16 = .ok (.iload_n 1, 1) := by decide +kernel
theorem dX13_done_17 : decode cX13_done 17 = .ok (.iaload, 1) := by decide +kernel
theorem dX13_done_18 : decode cX13_done 18 = .ok (.goto 4, 3) := by decide +kernel
theorem dX13_done_21 : decode cX13_done 21 = .ok (.iconst (-1), 1) := by decide +kernel
theorem dX13_done_22 : decode cX13_done 22 = .ok (.ireturn, 1) := by decide +kernel
def m_done (g : Nat) (S : St) (x1 : Int32) : Option Int32 :=
(m_isIn g (x1.toInt64) (0 : Int64) (55 : Int64)).bind fun v_1 =>
if v_1 = 0 then (
  some (-1 : Int32)
) else (
  (aI S 31 x1).bind fun v_2 =>
  some v_2
)
section S_done
variable {p : Program} {l : Launch} {e : Env} {s : State} {m : MethodId} {args : Array Value} {below : List Frame} {meth : Method} {c : Code} {H : Heap} {locs : List Loc} {ls : Array Slot} {D : va_G} {T : Cy} {ρ : Nat → Nat} {A : Nat → Prop}
set_option maxRecDepth 100000 in
set_option maxHeartbeats 4000000 in
theorem w_done_0  {g : Nat} {S : St} {x1 : Int32} (C : CallFix p m c cX13_done 2 s args tb RX13) (hr : meth.sig.returnType = (some .int)) (hk : meth.locks = false) {r : Int32} (w : Wn Ym D T ρ S A s H locs) (hl : lv_has ls 2 [(0, .ref (ρ 0)), (1, .int x1)]) (h : m_done g S x1 = some r) : W p l e (rmN 1 25) s m args below meth c H locs 0 0 (MQ below (Qi Ym D T ρ A S r) args s 0 0 A) (F0 m 0 ls []) := by
  unfold m_done at h
  refine lv_iload_n C.1 C.2.1 dX13_done_0 rfl (lv_at hl 1 rfl) ?_
  refine lv_i2l C.1 C.2.1 dX13_done_1 rfl ?_
  refine lv_lconst (v := 0) C.1 C.2.1 dX13_done_2 (by decide) ?_
  refine lv_ldc2 C.1 C.2.1 C.2.2.2.1 (C.2.2.2.2 _ nM707) dX13_done_3 ?_
  obtain ⟨v_1, hv_1, h⟩ := bnd h
  refine x_callSi (As := [.long (x1.toInt64), .long (0 : Int64), .long (55 : Int64)]) (rest := []) C w (k_isIn l D T ρ g H.size S hv_1) vM318 ⟨by decide, by decide⟩ rfl rfl hl.1 (Nat.le_of_ble_eq_true rfl) ⟨Nat.zero_le _, Nat.zero_le _⟩ dX13_done_6 (fun H locs w => ?_)
  refine lv_if_eq (tgt := 21) C.1 C.2.1 dX13_done_9 (by decide) (fun hc => ?_) (fun hc => ?_)
  · replace h := ift hc h
    refine lv_iconst (v := (-1)) C.1 C.2.1 dX13_done_21 (by decide) ?_
    obtain rfl := som h
    exact x_iret C w hr hk dX13_done_22
  · replace h := iff0 hc h
    refine lv_aload_n C.1 C.2.1 dX13_done_12 rfl (lv_at hl 0 rfl) ?_
    refine x_getC C w 31 fM214 obM rfl dX13_done_13 ?_
    refine lv_iload_n C.1 C.2.1 dX13_done_16 rfl (lv_at hl 1 rfl) ?_
    obtain ⟨v_2, hv_2, h⟩ := bnd h
    refine x_iald C w obM31 hv_2 dX13_done_17 ?_
    refine lv_goto (tgt := 22) C.1 C.2.1 dX13_done_18 (by decide) ?_
    obtain rfl := som h
    exact x_iret C w hr hk dX13_done_22
end S_done
set_option maxRecDepth 100000 in
theorem k_done (l : Launch) (D : va_G) (T : Cy) (ρ : Nat → Nat) (g sz : Nat) (S : St) {x1 : Int32} {r : Int32} (h : m_done g S x1 = some r) : Mi l Ym D T ρ yX13_done cX13_done 2 (some .int) 1 25 S S r [.ref (ρ 0), .int x1] sz :=
  x_in (by decide) (Nat.le_of_ble_eq_true rfl) (fun p e s m below meth c ls C hr hk w hl => w_done_0 C hr hk w hl h)

theorem dX13_isStep_0 : decode cX13_isStep 0 = .ok (.aload_n 0, 1) := by decide +kernel
theorem dX13_isStep_1 : decode cX13_isStep 1 = .ok (.getfield 362, 3) := by decide +kernel
theorem dX13_isStep_4 : decode cX13_isStep 4 = .ok (.ifCond .eq 25, 3) := by decide +kernel
theorem dX13_isStep_7 : decode cX13_isStep 7 = .ok (.iload_n 1, 1) := by decide +kernel
theorem dX13_isStep_8 : decode cX13_isStep 8 = .ok (.i2l, 1) := by decide +kernel
theorem dX13_isStep_9 : decode cX13_isStep 9 = .ok (.lconst 0, 1) := by decide +kernel
theorem dX13_isStep_10 : decode cX13_isStep 10 = .ok (.aload_n 0, 1) := by decide +kernel
theorem dX13_isStep_11 : decode cX13_isStep 11 = .ok (.getfield 153, 3) := by decide +kernel
theorem dX13_isStep_14 : decode cX13_isStep 14 = .ok (.iconst 0, 1) := by decide +kernel
theorem dX13_isStep_15 : decode cX13_isStep 15 = .ok (.iaload, 1) := by decide +kernel
theorem dX13_isStep_16 : decode cX13_isStep 16 = .ok (.iconst 1, 1) := by decide +kernel
theorem dX13_isStep_17 : decode cX13_isStep 17 = .ok (.isub, 1) := by decide +kernel
theorem dX13_isStep_18 : decode cX13_isStep 18 = .ok (.i2l, 1) := by decide +kernel
theorem dX13_isStep_19 : decode cX13_isStep 19 = .ok (.invokestatic 318, 3) := by decide +kernel
theorem dX13_isStep_22 : decode cX13_isStep 22 = .ok (.ifCond .eq 7, 3) := by decide +kernel
theorem dX13_isStep_25 : decode cX13_isStep 25 = .ok (.iconst 1, 1) := by decide +kernel
theorem dX13_isStep_26 : decode cX13_isStep 26 = .ok (.goto 4, 3) := by decide +kernel
theorem dX13_isStep_29 : decode cX13_isStep 29 = .ok (.iconst 0, 1) := by decide +kernel
theorem dX13_isStep_30 : decode cX13_isStep 30 = .ok (.ireturn, 1) := by decide +kernel
def m_isStep (g : Nat) (S : St) (x1 : Int32) : Option Int32 :=
if (gI S 0 12) = 0 then (
  some (0 : Int32)
) else (
  (aI S 11 (0 : Int32)).bind fun v_1 =>
  (m_isIn g (x1.toInt64) (0 : Int64) ((v_1 - (1 : Int32)).toInt64)).bind fun v_2 =>
  if v_2 = 0 then (
    some (0 : Int32)
  ) else (
    some (1 : Int32)
  )
)
section S_isStep
variable {p : Program} {l : Launch} {e : Env} {s : State} {m : MethodId} {args : Array Value} {below : List Frame} {meth : Method} {c : Code} {H : Heap} {locs : List Loc} {ls : Array Slot} {D : va_G} {T : Cy} {ρ : Nat → Nat} {A : Nat → Prop}
set_option maxRecDepth 100000 in
set_option maxHeartbeats 4000000 in
theorem w_isStep_0  {g : Nat} {S : St} {x1 : Int32} (C : CallFix p m c cX13_isStep 2 s args tb RX13) (hr : meth.sig.returnType = (some .boolean)) (hk : meth.locks = false) {r : Int32} (w : Wn Ym D T ρ S A s H locs) (hl : lv_has ls 2 [(0, .ref (ρ 0)), (1, .int x1)]) (h : m_isStep g S x1 = some r) : W p l e (rmN 1 25) s m args below meth c H locs 0 0 (MQ below (Qi Ym D T ρ A S r) args s 0 0 A) (F0 m 0 ls []) := by
  unfold m_isStep at h
  refine lv_aload_n C.1 C.2.1 dX13_isStep_0 rfl (lv_at hl 0 rfl) ?_
  refine x_getI C w fM362 obM dX13_isStep_1 ?_
  refine lv_if_eq (tgt := 29) C.1 C.2.1 dX13_isStep_4 (by decide) (fun hc => ?_) (fun hc => ?_)
  · replace h := ift hc h
    refine lv_iconst (v := 0) C.1 C.2.1 dX13_isStep_29 (by decide) ?_
    obtain rfl := som h
    exact x_zret C w hr hk (by decide) dX13_isStep_30
  · replace h := iff0 hc h
    refine lv_iload_n C.1 C.2.1 dX13_isStep_7 rfl (lv_at hl 1 rfl) ?_
    refine lv_i2l C.1 C.2.1 dX13_isStep_8 rfl ?_
    refine lv_lconst (v := 0) C.1 C.2.1 dX13_isStep_9 (by decide) ?_
    refine lv_aload_n C.1 C.2.1 dX13_isStep_10 rfl (lv_at hl 0 rfl) ?_
    refine x_getC C w 11 fM153 obM rfl dX13_isStep_11 ?_
    refine lv_iconst (v := 0) C.1 C.2.1 dX13_isStep_14 (by decide) ?_
    obtain ⟨v_1, hv_1, h⟩ := bnd h
    refine x_iald C w obM11 hv_1 dX13_isStep_15 ?_
    refine lv_iconst (v := 1) C.1 C.2.1 dX13_isStep_16 (by decide) ?_
    refine lv_isub C.1 C.2.1 dX13_isStep_17 ?_
    refine lv_i2l C.1 C.2.1 dX13_isStep_18 rfl ?_
    obtain ⟨v_2, hv_2, h⟩ := bnd h
    refine x_callSi (As := [.long (x1.toInt64), .long (0 : Int64), .long ((v_1 - (1 : Int32)).toInt64)]) (rest := []) C w (k_isIn l D T ρ g H.size S hv_2) vM318 ⟨by decide, by decide⟩ rfl rfl hl.1 (Nat.le_of_ble_eq_true rfl) ⟨Nat.zero_le _, Nat.zero_le _⟩ dX13_isStep_19 (fun H locs w => ?_)
    refine lv_if_eq (tgt := 29) C.1 C.2.1 dX13_isStep_22 (by decide) (fun hc => ?_) (fun hc => ?_)
    · replace h := ift hc h
      refine lv_iconst (v := 0) C.1 C.2.1 dX13_isStep_29 (by decide) ?_
      obtain rfl := som h
      exact x_zret C w hr hk (by decide) dX13_isStep_30
    · replace h := iff0 hc h
      refine lv_iconst (v := 1) C.1 C.2.1 dX13_isStep_25 (by decide) ?_
      refine lv_goto (tgt := 30) C.1 C.2.1 dX13_isStep_26 (by decide) ?_
      obtain rfl := som h
      exact x_zret C w hr hk (by decide) dX13_isStep_30
end S_isStep
set_option maxRecDepth 100000 in
theorem k_isStep (l : Launch) (D : va_G) (T : Cy) (ρ : Nat → Nat) (g sz : Nat) (S : St) {x1 : Int32} {r : Int32} (h : m_isStep g S x1 = some r) : Mi l Ym D T ρ yX13_isStep cX13_isStep 2 (some .boolean) 1 25 S S r [.ref (ρ 0), .int x1] sz :=
  x_in (by decide) (Nat.le_of_ble_eq_true rfl) (fun p e s m below meth c ls C hr hk w hl => w_isStep_0 C hr hk w hl h)

theorem dX13_step_0 : decode cX13_step 0 = .ok (.aload_n 0, 1) := by decide +kernel
theorem dX13_step_1 : decode cX13_step 1 = .ok (.iload_n 1, 1) := by decide +kernel
theorem dX13_step_2 : decode cX13_step 2 = .ok (.invokevirtual 709, 3) := by decide +kernel
theorem dX13_step_5 : decode cX13_step 5 = .ok (.ifCond .eq 13, 3) := by decide +kernel
theorem dX13_step_8 : decode cX13_step 8 = .ok (.iload_n 2, 1) := by decide +kernel
theorem dX13_step_9 : decode cX13_step 9 = .ok (.i2l, 1) := by decide +kernel
theorem dX13_step_10 : decode cX13_step 10 = .ok (.lconst 0, 1) := by decide +kernel
theorem dX13_step_11 : decode cX13_step 11 = .ok (.lconst 1, 1) := by decide +kernel
theorem dX13_step_12 : decode cX13_step 12 = .ok (.invokestatic 318, 3) := by decide +kernel
theorem dX13_step_15 : decode cX13_step 15 = .ok (.ifCond .ne 5, 3) := by decide +kernel
theorem dX13_step_18 : decode cX13_step 18 = .ok (.iconst (-1), 1) := by decide +kernel
theorem dX13_step_19 : decode cX13_step 19 = .ok (.ireturn, 1) := by decide +kernel
theorem dX13_step_20 : decode cX13_step 20 = .ok (.iload_n 2, 1) := by decide +kernel
theorem dX13_step_21 : decode cX13_step 21 = .ok (.ifCond .ne 12, 3) := by decide +kernel
theorem dX13_step_24 : decode cX13_step 24 = .ok (.aload_n 0, 1) := by decide +kernel
theorem dX13_step_25 : decode cX13_step 25 = .ok (.getfield 138, 3) := by decide +kernel
theorem dX13_step_28 : decode cX13_step 28 = .ok (.iload_n 1, 1) := by decide +kernel
theorem dX13_step_29 : decode cX13_step 29 = .ok (.iaload, 1) := by decide +kernel
theorem dX13_step_30 : decode cX13_step 30 = .ok (.goto 9, 3) := by decide +kernel
theorem dX13_step_33 : decode cX13_step 33 = .ok (.aload_n 0, 1) := by decide +kernel
theorem dX13_step_34 : decode cX13_step 34 = .ok (.getfield 141, 3) := by decide +kernel
theorem dX13_step_37 : decode cX13_step 37 = .ok (.iload_n 1, 1) := by decide +kernel
theorem dX13_step_38 : decode cX13_step 38 = .ok (.iaload, 1) := by decide +kernel
theorem dX13_step_39 : decode cX13_step 39 = .ok (.ireturn, 1) := by decide +kernel
def m_step (g : Nat) (S : St) (x1 : Int32) (x2 : Int32) : Option Int32 :=
(m_isStep g S x1).bind fun v_1 =>
if v_1 = 0 then (
  some (-1 : Int32)
) else (
  (m_isIn g (x2.toInt64) (0 : Int64) (1 : Int64)).bind fun v_2 =>
  if v_2 = 0 then (
    some (-1 : Int32)
  ) else (
    if x2 = 0 then (
      (aI S 6 x1).bind fun v_4 =>
      some v_4
    ) else (
      (aI S 7 x1).bind fun v_3 =>
      some v_3
    )
  )
)
section S_step
variable {p : Program} {l : Launch} {e : Env} {s : State} {m : MethodId} {args : Array Value} {below : List Frame} {meth : Method} {c : Code} {H : Heap} {locs : List Loc} {ls : Array Slot} {D : va_G} {T : Cy} {ρ : Nat → Nat} {A : Nat → Prop}
set_option maxRecDepth 100000 in
set_option maxHeartbeats 4000000 in
theorem w_step_0  {g : Nat} {S : St} {x1 : Int32} {x2 : Int32} (C : CallFix p m c cX13_step 3 s args tb RX13) (hr : meth.sig.returnType = (some .int)) (hk : meth.locks = false) {r : Int32} (w : Wn Ym D T ρ S A s H locs) (hl : lv_has ls 3 [(0, .ref (ρ 0)), (1, .int x1), (2, .int x2)]) (h : m_step g S x1 x2 = some r) : W p l e (rmN 2 46) s m args below meth c H locs 0 0 (MQ below (Qi Ym D T ρ A S r) args s 0 0 A) (F0 m 0 ls []) := by
  unfold m_step at h
  refine lv_aload_n C.1 C.2.1 dX13_step_0 rfl (lv_at hl 0 rfl) ?_
  refine lv_iload_n C.1 C.2.1 dX13_step_1 rfl (lv_at hl 1 rfl) ?_
  obtain ⟨v_1, hv_1, h⟩ := bnd h
  refine x_callVi (q := (RX13, TX13, 68)) (As := [.int x1]) (rest := []) C w (k_isStep l D T ρ g H.size S hv_1) vM709 ⟨by decide, by decide⟩ obM (by decide) rfl rfl rfl hl.1 (Nat.le_of_ble_eq_true rfl) ⟨Nat.zero_le _, Nat.zero_le _⟩ dX13_step_2 (fun H locs w => ?_)
  refine lv_if_eq (tgt := 18) C.1 C.2.1 dX13_step_5 (by decide) (fun hc => ?_) (fun hc => ?_)
  · replace h := ift hc h
    refine lv_iconst (v := (-1)) C.1 C.2.1 dX13_step_18 (by decide) ?_
    obtain rfl := som h
    exact x_iret C w hr hk dX13_step_19
  · replace h := iff0 hc h
    refine lv_iload_n C.1 C.2.1 dX13_step_8 rfl (lv_at hl 2 rfl) ?_
    refine lv_i2l C.1 C.2.1 dX13_step_9 rfl ?_
    refine lv_lconst (v := 0) C.1 C.2.1 dX13_step_10 (by decide) ?_
    refine lv_lconst (v := 1) C.1 C.2.1 dX13_step_11 (by decide) ?_
    obtain ⟨v_2, hv_2, h⟩ := bnd h
    refine x_callSi (As := [.long (x2.toInt64), .long (0 : Int64), .long (1 : Int64)]) (rest := []) C w (k_isIn l D T ρ g H.size S hv_2) vM318 ⟨by decide, by decide⟩ rfl rfl hl.1 (Nat.le_of_ble_eq_true rfl) ⟨Nat.zero_le _, Nat.zero_le _⟩ dX13_step_12 (fun H locs w => ?_)
    refine lv_if_ne (tgt := 20) C.1 C.2.1 dX13_step_15 (by decide) (fun hc => ?_) (fun hc => ?_)
    · replace h := iff0 hc h
      refine lv_iload_n C.1 C.2.1 dX13_step_20 rfl (lv_at hl 2 rfl) ?_
      refine lv_if_ne (tgt := 33) C.1 C.2.1 dX13_step_21 (by decide) (fun hc => ?_) (fun hc => ?_)
      · replace h := iff0 hc h
        refine lv_aload_n C.1 C.2.1 dX13_step_33 rfl (lv_at hl 0 rfl) ?_
        refine x_getC C w 7 fM141 obM rfl dX13_step_34 ?_
        refine lv_iload_n C.1 C.2.1 dX13_step_37 rfl (lv_at hl 1 rfl) ?_
        obtain ⟨v_3, hv_3, h⟩ := bnd h
        refine x_iald C w obM7 hv_3 dX13_step_38 ?_
        obtain rfl := som h
        exact x_iret C w hr hk dX13_step_39
      · replace h := ift hc h
        refine lv_aload_n C.1 C.2.1 dX13_step_24 rfl (lv_at hl 0 rfl) ?_
        refine x_getC C w 6 fM138 obM rfl dX13_step_25 ?_
        refine lv_iload_n C.1 C.2.1 dX13_step_28 rfl (lv_at hl 1 rfl) ?_
        obtain ⟨v_4, hv_4, h⟩ := bnd h
        refine x_iald C w obM6 hv_4 dX13_step_29 ?_
        refine lv_goto (tgt := 39) C.1 C.2.1 dX13_step_30 (by decide) ?_
        obtain rfl := som h
        exact x_iret C w hr hk dX13_step_39
    · replace h := ift hc h
      refine lv_iconst (v := (-1)) C.1 C.2.1 dX13_step_18 (by decide) ?_
      obtain rfl := som h
      exact x_iret C w hr hk dX13_step_19
end S_step
set_option maxRecDepth 100000 in
theorem k_step (l : Launch) (D : va_G) (T : Cy) (ρ : Nat → Nat) (g sz : Nat) (S : St) {x1 : Int32} {x2 : Int32} {r : Int32} (h : m_step g S x1 x2 = some r) : Mi l Ym D T ρ yX13_step cX13_step 3 (some .int) 2 46 S S r [.ref (ρ 0), .int x1, .int x2] sz :=
  x_in (by decide) (Nat.le_of_ble_eq_true rfl) (fun p e s m below meth c ls C hr hk w hl => w_step_0 C hr hk w hl h)

theorem dX13_lay_0 : decode cX13_lay 0 = .ok (.aload_n 0, 1) := by decide +kernel
theorem dX13_lay_1 : decode cX13_lay 1 = .ok (.getfield 241, 3) := by decide +kernel
theorem dX13_lay_4 : decode cX13_lay 4 = .ok (.aload_n 0, 1) := by decide +kernel
theorem dX13_lay_5 : decode cX13_lay 5 = .ok (.getfield 712, 3) := by decide +kernel
theorem dX13_lay_8 : decode cX13_lay 8 = .ok (.iload_n 1, 1) := by decide +kernel
theorem dX13_lay_9 : decode cX13_lay 9 = .ok (.iastore, 1) := by decide +kernel
theorem dX13_lay_10 : decode cX13_lay 10 = .ok (.aload_n 0, 1) := by decide +kernel
theorem dX13_lay_11 : decode cX13_lay 11 = .ok (.dup, 1) := by decide +kernel
theorem dX13_lay_12 : decode cX13_lay 12 = .ok (.getfield 712, 3) := by decide +kernel
theorem dX13_lay_15 : decode cX13_lay 15 = .ok (.iconst 1, 1) := by decide +kernel
theorem dX13_lay_16 : decode cX13_lay 16 = .ok (.iadd, 1) := by decide +kernel
theorem dX13_lay_17 : decode cX13_lay 17 = .ok (.putfield 712, 3) := by decide +kernel
theorem dX13_lay_20 : decode cX13_lay 20 = .ok (.return_, 1) := by decide +kernel
def m_lay (g : Nat) (S : St) (x1 : Int32) : Option St :=
(tI S 40 (gI S 0 67) x1).bind fun S_1 =>
lt (sI S_1 0 67 ((gI S_1 0 67) + (1 : Int32))) fun S_2 =>
some S_2
section S_lay
variable {p : Program} {l : Launch} {e : Env} {s : State} {m : MethodId} {args : Array Value} {below : List Frame} {meth : Method} {c : Code} {H : Heap} {locs : List Loc} {ls : Array Slot} {D : va_G} {T : Cy} {ρ : Nat → Nat} {A : Nat → Prop}
set_option maxRecDepth 100000 in
set_option maxHeartbeats 4000000 in
theorem w_lay_0  {g : Nat} {S : St} {x1 : Int32} (C : CallFix p m c cX13_lay 2 s args tb RX13) (hr : meth.sig.returnType = none) (hk : meth.locks = false) {S' : St} (w : Wn Ym D T ρ S A s H locs) (hl : lv_has ls 2 [(0, .ref (ρ 0)), (1, .int x1)]) (h : m_lay g S x1 = some S') : W p l e (rmN 0 0) s m args below meth c H locs 0 0 (MQ below (Qv Ym D T ρ A S') args s 0 0 A) (F0 m 0 ls []) := by
  unfold m_lay at h
  refine lv_aload_n C.1 C.2.1 dX13_lay_0 rfl (lv_at hl 0 rfl) ?_
  refine x_getC C w 40 fM241 obM rfl dX13_lay_1 ?_
  refine lv_aload_n C.1 C.2.1 dX13_lay_4 rfl (lv_at hl 0 rfl) ?_
  refine x_getI C w fM712 obM dX13_lay_5 ?_
  refine lv_iload_n C.1 C.2.1 dX13_lay_8 rfl (lv_at hl 1 rfl) ?_
  obtain ⟨S_1, hS_1, h⟩ := bnd h
  refine x_iast C w obM40 hS_1 dX13_lay_9 (fun H locs w => ?_)
  refine lv_aload_n C.1 C.2.1 dX13_lay_10 rfl (lv_at hl 0 rfl) ?_
  refine lv_dup C.1 C.2.1 dX13_lay_11 rfl ?_
  refine x_getI C w fM712 obM dX13_lay_12 ?_
  refine lv_iconst (v := 1) C.1 C.2.1 dX13_lay_15 (by decide) ?_
  refine lv_iadd C.1 C.2.1 dX13_lay_16 ?_
  obtain ⟨S_2, eS_2, h⟩ := lt_e h
  refine y_putI C w eS_2 fM712 pM67 obM dX13_lay_17 (fun H locs w => ?_)
  obtain rfl := som h
  exact x_vret C w hr hk dX13_lay_20
end S_lay
set_option maxRecDepth 100000 in
theorem k_lay (l : Launch) (D : va_G) (T : Cy) (ρ : Nat → Nat) (g sz : Nat) (S : St) {x1 : Int32} {S' : St} (h : m_lay g S x1 = some S') : Mv l Ym D T ρ yX13_lay cX13_lay 2 none 0 0 S S' [.ref (ρ 0), .int x1] sz :=
  x_in (by decide) (Nat.le_of_ble_eq_true rfl) (fun p e s m below meth c ls C hr hk w hl => w_lay_0 C hr hk w hl h)

theorem dX13_layNumber_0 : decode cX13_layNumber 0 = .ok (.aload_n 0, 1) := by decide +kernel
theorem dX13_layNumber_1 : decode cX13_layNumber 1 = .ok (.iconst 0, 1) := by decide +kernel
theorem dX13_layNumber_2 : decode cX13_layNumber 2 = .ok (.putfield 395, 3) := by decide +kernel
theorem dX13_layNumber_5 : decode cX13_layNumber 5 = .ok (.aload_n 0, 1) := by decide +kernel
theorem dX13_layNumber_6 : decode cX13_layNumber 6 = .ok (.lload_n 1, 1) := by decide +kernel
theorem dX13_layNumber_7 : decode cX13_layNumber 7 = .ok (.bipush 10, 2) := by decide +kernel
theorem dX13_layNumber_9 : decode cX13_layNumber 9 = .ok (.invokevirtual 481, 3) := by decide +kernel
theorem dX13_layNumber_12 : decode cX13_layNumber 12 = .ok (.iconst 0, 1) := by decide +kernel
theorem dX13_layNumber_13 : decode cX13_layNumber 13 = .ok (.istore_n 3, 1) := by decide +kernel
theorem dX13_layNumber_14 : decode cX13_layNumber 14 = .ok (.iload_n 3, 1) := by decide +kernel
theorem dX13_layNumber_15 : decode cX13_layNumber 15 = .ok (.aload_n 0, 1) := by decide +kernel
theorem dX13_layNumber_16 : decode cX13_layNumber 16 = .ok (.getfield 395, 3) := by decide +kernel
theorem dX13_layNumber_19 : decode cX13_layNumber 19 = .ok (.if_icmp .ge 19, 3) := by decide +kernel
theorem dX13_layNumber_22 : decode cX13_layNumber 22 = .ok (.aload_n 0, 1) := by decide +kernel
theorem dX13_layNumber_23 : decode cX13_layNumber 23 = .ok (.aload_n 0, 1) := by decide +kernel
theorem dX13_layNumber_24 : decode cX13_layNumber 24 = .ok (.getfield 223, 3) := by decide +kernel
theorem dX13_layNumber_27 : decode cX13_layNumber 27 = .ok (.iload_n 3, 1) := by decide +kernel
theorem dX13_layNumber_28 : decode cX13_layNumber 28 = .ok (.iaload, 1) := by decide +kernel
theorem dX13_layNumber_29 : decode cX13_layNumber 29 = .ok (.invokevirtual 715, 3) := by decide +kernel
theorem dX13_layNumber_32 : decode cX13_layNumber 32 = .ok (.iinc 3 1, 3) := by decide +kernel
theorem dX13_layNumber_35 : decode cX13_layNumber 35 = .ok (.goto (-21), 3) := by decide +kernel
theorem dX13_layNumber_38 : decode cX13_layNumber 38 = .ok (.return_, 1) := by decide +kernel
def b_layNumber_14 (g : Nat) (k14 : St → Int32 → Option St) (S : St) (x3 : Int32) : Option St :=
if (gI S 0 57) ≤ x3 then (
  some S
) else (
  (aI S 34 x3).bind fun v_3 =>
  (m_lay g S v_3).bind fun S_4 =>
  lt (x3 + (1 : Int32)) fun x3_5 =>
  k14 S_4 x3_5
)
def m_layNumber_14 (g : Nat) : Nat → St → Int32 → Option St
  | 0, _, _ => none
  | n + 1, S, x3 => b_layNumber_14 g (m_layNumber_14 g n) S x3
def m_layNumber (g : Nat) (S : St) (x1 : Int64) : Option St :=
lt (sI S 0 57 (0 : Int32)) fun S_1 =>
(m_emitNumber g S_1 x1 (10 : Int32)).bind fun S_2 =>
m_layNumber_14 g g S_2 (0 : Int32)
section S_layNumber
variable {p : Program} {l : Launch} {e : Env} {s : State} {m : MethodId} {args : Array Value} {below : List Frame} {meth : Method} {c : Code} {H : Heap} {locs : List Loc} {ls : Array Slot} {D : va_G} {T : Cy} {ρ : Nat → Nat} {A : Nat → Prop}
set_option maxRecDepth 100000 in
set_option maxHeartbeats 4000000 in
theorem wb_layNumber_14  {g : Nat} {S : St} {x3 : Int32} (C : CallFix p m c cX13_layNumber 4 s args tb RX13) (hr : meth.sig.returnType = none) (hk : meth.locks = false) {S' : St} {k14 : St → Int32 → Option St} (kk14 : ∀ (S : St) (x3 : Int32) (H : Heap) (locs : List Loc) (ls : Array Slot), Wn Ym D T ρ S A s H locs → lv_has ls 4 [(0, .ref (ρ 0)), (3, .int x3)] → k14 S x3 = some S' → W p l e (rmN 2 49) s m args below meth c H locs 0 0 (MQ below (Qv Ym D T ρ A S') args s 0 0 A) (F0 m 14 ls [])) (w : Wn Ym D T ρ S A s H locs) (hl : lv_has ls 4 [(0, .ref (ρ 0)), (3, .int x3)]) (h : b_layNumber_14 g k14 S x3 = some S') : W p l e (rmN 2 49) s m args below meth c H locs 0 0 (MQ below (Qv Ym D T ρ A S') args s 0 0 A) (F0 m 14 ls []) := by
  unfold b_layNumber_14 at h
  refine lv_iload_n C.1 C.2.1 dX13_layNumber_14 rfl (lv_at hl 1 rfl) ?_
  refine lv_aload_n C.1 C.2.1 dX13_layNumber_15 rfl (lv_at hl 0 rfl) ?_
  refine x_getI C w fM395 obM dX13_layNumber_16 ?_
  refine lv_icmp_ge (tgt := 38) C.1 C.2.1 dX13_layNumber_19 (by decide) (fun hc => ?_) (fun hc => ?_)
  · replace h := ift hc h
    obtain rfl := som h
    exact x_vret C w hr hk dX13_layNumber_38
  · replace h := iff0 hc h
    refine lv_aload_n C.1 C.2.1 dX13_layNumber_22 rfl (lv_at hl 0 rfl) ?_
    refine lv_aload_n C.1 C.2.1 dX13_layNumber_23 rfl (lv_at hl 0 rfl) ?_
    refine x_getC C w 34 fM223 obM rfl dX13_layNumber_24 ?_
    refine lv_iload_n C.1 C.2.1 dX13_layNumber_27 rfl (lv_at hl 1 rfl) ?_
    obtain ⟨v_3, hv_3, h⟩ := bnd h
    refine x_iald C w obM34 hv_3 dX13_layNumber_28 ?_
    obtain ⟨S_4, hS_4, h⟩ := bnd h
    refine x_callVv (q := (RX13, TX13, 68)) (As := [.int v_3]) (rest := []) C w (k_lay l D T ρ g H.size S hS_4) vM715 ⟨by decide, by decide⟩ obM (by decide) rfl rfl rfl hl.1 (Nat.le_of_ble_eq_true rfl) ⟨Nat.zero_le _, Nat.zero_le _⟩ dX13_layNumber_29 (fun H locs w => ?_)
    obtain ⟨x3_5, ex3_5, h⟩ := lt_e h
    refine lv_iinc (v := x3_5) (lv' := [(3, .int x3_5), (0, .ref (ρ 0))]) C.1 C.2.1 dX13_layNumber_32 hl (k := 1) rfl (by rw [ex3_5]; rfl) (by decide) rfl (fun ls hl => ?_)
    refine lv_goto (tgt := 14) C.1 C.2.1 dX13_layNumber_35 (by decide) ?_
    exact kk14 _ _ _ _ _ w (lv_sub hl [1, 0] rfl) h
theorem w_layNumber_14 {g : Nat} (C : CallFix p m c cX13_layNumber 4 s args tb RX13) (hr : meth.sig.returnType = none) (hk : meth.locks = false) {S' : St} (n : Nat) : ∀ (S : St) (x3 : Int32) (H : Heap) (locs : List Loc) (ls : Array Slot), Wn Ym D T ρ S A s H locs → lv_has ls 4 [(0, .ref (ρ 0)), (3, .int x3)] → m_layNumber_14 g n S x3 = some S' → W p l e (rmN 2 49) s m args below meth c H locs 0 0 (MQ below (Qv Ym D T ρ A S') args s 0 0 A) (F0 m 14 ls []) := by
  induction n with
  | zero => intro S x3 H locs ls w hl h; exact absurd h (fun q => by cases q)
  | succ n ih => intro S x3 H locs ls w hl h; exact wb_layNumber_14 C hr hk ih w hl h
set_option maxRecDepth 100000 in
set_option maxHeartbeats 4000000 in
theorem w_layNumber_0  {g : Nat} {S : St} {x1 : Int64} (C : CallFix p m c cX13_layNumber 4 s args tb RX13) (hr : meth.sig.returnType = none) (hk : meth.locks = false) {S' : St} (w : Wn Ym D T ρ S A s H locs) (hl : lv_has ls 4 [(0, .ref (ρ 0)), (1, .long x1)]) (h : m_layNumber g S x1 = some S') : W p l e (rmN 2 49) s m args below meth c H locs 0 0 (MQ below (Qv Ym D T ρ A S') args s 0 0 A) (F0 m 0 ls []) := by
  unfold m_layNumber at h
  refine lv_aload_n C.1 C.2.1 dX13_layNumber_0 rfl (lv_at hl 0 rfl) ?_
  refine lv_iconst (v := 0) C.1 C.2.1 dX13_layNumber_1 (by decide) ?_
  obtain ⟨S_1, eS_1, h⟩ := lt_e h
  refine y_putI C w eS_1 fM395 pM57 obM dX13_layNumber_2 (fun H locs w => ?_)
  refine lv_aload_n C.1 C.2.1 dX13_layNumber_5 rfl (lv_at hl 0 rfl) ?_
  refine lv_lload_n C.1 C.2.1 dX13_layNumber_6 rfl (lv_at hl 1 rfl) ?_
  refine lv_bipush (v := 10) C.1 C.2.1 dX13_layNumber_7 (by decide) ?_
  obtain ⟨S_2, hS_2, h⟩ := bnd h
  refine x_callVv (q := (RX13, TX13, 68)) (As := [.long x1, .int (10 : Int32)]) (rest := []) C w (k_emitNumber l D T ρ g H.size S_1 hS_2) vM481 ⟨by decide, by decide⟩ obM (by decide) rfl rfl rfl hl.1 (Nat.le_of_ble_eq_true rfl) ⟨Nat.zero_le _, Nat.zero_le _⟩ dX13_layNumber_9 (fun H locs w => ?_)
  refine lv_iconst (v := 0) C.1 C.2.1 dX13_layNumber_12 (by decide) ?_
  refine lv_istore_n (lv' := [(3, .int (0 : Int32)), (0, .ref (ρ 0)), (1, .long x1)]) C.1 C.2.1 dX13_layNumber_13 rfl hl (by decide) rfl (fun ls hl => ?_)
  exact w_layNumber_14 C hr hk g _ _ _ _ _ w (lv_sub hl [1, 0] rfl) h
end S_layNumber
set_option maxRecDepth 100000 in
theorem k_layNumber (l : Launch) (D : va_G) (T : Cy) (ρ : Nat → Nat) (g sz : Nat) (S : St) {x1 : Int64} {S' : St} (h : m_layNumber g S x1 = some S') : Mv l Ym D T ρ yX13_layNumber cX13_layNumber 4 none 2 49 S S' [.ref (ρ 0), .long x1] sz :=
  x_in (by decide) (Nat.le_of_ble_eq_true rfl) (fun p e s m below meth c ls C hr hk w hl => w_layNumber_0 C hr hk w hl h)

theorem dX13_layName_0 : decode cX13_layName 0 = .ok (.iload_n 1, 1) := by decide +kernel
theorem dX13_layName_1 : decode cX13_layName 1 = .ok (.bipush 28, 2) := by decide +kernel
theorem dX13_layName_3 : decode cX13_layName 3 = .ok (.if_icmp .ge 12, 3) := by decide +kernel
theorem dX13_layName_6 : decode cX13_layName 6 = .ok (.aload_n 0, 1) := by decide +kernel
theorem dX13_layName_7 : decode cX13_layName 7 = .ok (.getfield 63, 3) := by decide +kernel
theorem dX13_layName_10 : decode cX13_layName 10 = .ok (.iload_n 1, 1) := by decide +kernel
theorem dX13_layName_11 : decode cX13_layName 11 = .ok (.laload, 1) := by decide +kernel
theorem dX13_layName_12 : decode cX13_layName 12 = .ok (.goto 12, 3) := by decide +kernel
theorem dX13_layName_15 : decode cX13_layName 15 = .ok (.aload_n 0, 1) := by decide +kernel
theorem dX13_layName_16 : decode cX13_layName 16 = .ok (.getfield 125, 3) := by decide +kernel
theorem dX13_layName_19 : decode cX13_layName 19 = .ok (.iload_n 1, 1) := by decide +kernel
theorem dX13_layName_20 : decode cX13_layName 20 = .ok (.bipush 28, 2) := by decide +kernel
theorem dX13_layName_22 : decode cX13_layName 22 = .ok (.isub, 1) := by decide +kernel
theorem dX13_layName_23 : decode cX13_layName 23 = .ok (.laload, 1) := by decide +kernel
theorem dX13_layName_24 : decode cX13_layName 24 = .ok (.lstore_n 2, 1) := by decide +kernel
theorem dX13_layName_25 : decode cX13_layName 25 = .ok (.bipush 30, 2) := by decide +kernel
theorem dX13_layName_27 : decode cX13_layName 27 = .ok (.istore 4, 2) := by decide +kernel
theorem dX13_layName_29 : decode cX13_layName 29 = .ok (.iload 4, 2) := by decide +kernel
theorem dX13_layName_31 : decode cX13_layName 31 = .ok (.ifCond .lt 34, 3) := by decide +kernel
theorem dX13_layName_34 : decode cX13_layName 34 = .ok (.lload_n 2, 1) := by decide +kernel
theorem dX13_layName_35 : decode cX13_layName 35 = .ok (.iload 4, 2) := by decide +kernel
theorem dX13_layName_37 : decode cX13_layName 37 = .ok (.lshr, 1) := by decide +kernel
theorem dX13_layName_38 : decode cX13_layName 38 = .ok (.ldc2_w 368, 3) := by decide +kernel
theorem dX13_layName_41 : decode cX13_layName 41 = .ok (.land, 1) := by decide +kernel
theorem dX13_layName_42 : decode cX13_layName 42 = .ok (.l2i, 1) := by decide +kernel
theorem dX13_layName_43 : decode cX13_layName 43 = .ok (.istore 5, 2) := by decide +kernel
theorem dX13_layName_45 : decode cX13_layName 45 = .ok (.iload 5, 2) := by decide +kernel
theorem dX13_layName_47 : decode cX13_layName 47 = .ok (.ifCond .le 12, 3) := by decide +kernel
theorem dX13_layName_50 : decode cX13_layName 50 = .ok (.aload_n 0, 1) := by decide +kernel
theorem dX13_layName_51 : decode cX13_layName 51 = .ok (.bipush 96, 2) := by decide +kernel
theorem dX13_layName_53 : decode cX13_layName 53 = .ok (.iload 5, 2) := by decide +kernel
theorem dX13_layName_55 : decode cX13_layName 55 = .ok (.iadd, 1) := by decide +kernel
theorem dX13_layName_56 : decode cX13_layName 56 = .ok (.invokevirtual 715, 3) := by decide +kernel
theorem dX13_layName_59 : decode cX13_layName 59 = .ok (.iinc 4 (-5), 3) := by decide +kernel
theorem dX13_layName_62 : decode cX13_layName 62 = .ok (.goto (-33), 3) := by decide +kernel
theorem dX13_layName_65 : decode cX13_layName 65 = .ok (.return_, 1) := by decide +kernel
def b_layName_29 (g : Nat) (k29 : St → Int64 → Int32 → Option St) (S : St) (x2 : Int64) (x4 : Int32) : Option St :=
if x4 < 0 then (
  some S
) else (
  lt (((x2 >>> (x4.toInt64 &&& 63)) &&& (31 : Int64)).toInt32) fun x5_2 =>
  if x5_2 ≤ 0 then (
    lt (x4 + (-5 : Int32)) fun x4_3 =>
    k29 S x2 x4_3
  ) else (
    (m_lay g S ((96 : Int32) + x5_2)).bind fun S_4 =>
    lt (x4 + (-5 : Int32)) fun x4_5 =>
    k29 S_4 x2 x4_5
  )
)
def m_layName_29 (g : Nat) : Nat → St → Int64 → Int32 → Option St
  | 0, _, _, _ => none
  | n + 1, S, x2, x4 => b_layName_29 g (m_layName_29 g n) S x2 x4
def m_layName (g : Nat) (S : St) (x1 : Int32) : Option St :=
if (28 : Int32) ≤ x1 then (
  (aJ S 2 (x1 - (28 : Int32))).bind fun v_1 =>
  m_layName_29 g g S v_1 (30 : Int32)
) else (
  (aJ S 1 x1).bind fun v_2 =>
  m_layName_29 g g S v_2 (30 : Int32)
)
section S_layName
variable {p : Program} {l : Launch} {e : Env} {s : State} {m : MethodId} {args : Array Value} {below : List Frame} {meth : Method} {c : Code} {H : Heap} {locs : List Loc} {ls : Array Slot} {D : va_G} {T : Cy} {ρ : Nat → Nat} {A : Nat → Prop}
set_option maxRecDepth 100000 in
set_option maxHeartbeats 4000000 in
theorem wb_layName_29  {g : Nat} {S : St} {x2 : Int64} {x4 : Int32} (C : CallFix p m c cX13_layName 6 s args tb RX13) (hr : meth.sig.returnType = none) (hk : meth.locks = false) {S' : St} {k29 : St → Int64 → Int32 → Option St} (kk29 : ∀ (S : St) (x2 : Int64) (x4 : Int32) (H : Heap) (locs : List Loc) (ls : Array Slot), Wn Ym D T ρ S A s H locs → lv_has ls 6 [(0, .ref (ρ 0)), (2, .long x2), (4, .int x4)] → k29 S x2 x4 = some S' → W p l e (rmN 1 21) s m args below meth c H locs 0 0 (MQ below (Qv Ym D T ρ A S') args s 0 0 A) (F0 m 29 ls [])) (w : Wn Ym D T ρ S A s H locs) (hl : lv_has ls 6 [(0, .ref (ρ 0)), (2, .long x2), (4, .int x4)]) (h : b_layName_29 g k29 S x2 x4 = some S') : W p l e (rmN 1 21) s m args below meth c H locs 0 0 (MQ below (Qv Ym D T ρ A S') args s 0 0 A) (F0 m 29 ls []) := by
  unfold b_layName_29 at h
  refine lv_iload C.1 C.2.1 dX13_layName_29 (lv_at hl 2 rfl) ?_
  refine lv_if_lt (tgt := 65) C.1 C.2.1 dX13_layName_31 (by decide) (fun hc => ?_) (fun hc => ?_)
  · replace h := ift hc h
    obtain rfl := som h
    exact x_vret C w hr hk dX13_layName_65
  · replace h := iff0 hc h
    refine lv_lload_n C.1 C.2.1 dX13_layName_34 rfl (lv_at hl 1 rfl) ?_
    refine lv_iload C.1 C.2.1 dX13_layName_35 (lv_at hl 2 rfl) ?_
    refine lv_lshr C.1 C.2.1 dX13_layName_37 rfl ?_
    refine lv_ldc2 C.1 C.2.1 C.2.2.2.1 (C.2.2.2.2 _ nM368) dX13_layName_38 ?_
    refine lv_land C.1 C.2.1 dX13_layName_41 ?_
    refine lv_l2i C.1 C.2.1 dX13_layName_42 rfl ?_
    obtain ⟨x5_2, ex5_2, h⟩ := lt_e h
    refine x_nm ex5_2 ?_
    refine lv_istore (lv' := [(5, .int x5_2), (0, .ref (ρ 0)), (2, .long x2), (4, .int x4)]) C.1 C.2.1 dX13_layName_43 hl (by decide) rfl (fun ls hl => ?_)
    refine lv_iload C.1 C.2.1 dX13_layName_45 (lv_at hl 0 rfl) ?_
    refine lv_if_le (tgt := 59) C.1 C.2.1 dX13_layName_47 (by decide) (fun hc => ?_) (fun hc => ?_)
    · replace h := ift hc h
      obtain ⟨x4_3, ex4_3, h⟩ := lt_e h
      refine lv_iinc (v := x4_3) (lv' := [(4, .int x4_3), (5, .int x5_2), (0, .ref (ρ 0)), (2, .long x2)]) C.1 C.2.1 dX13_layName_59 hl (k := 3) rfl (by rw [ex4_3]; rfl) (by decide) rfl (fun ls hl => ?_)
      refine lv_goto (tgt := 29) C.1 C.2.1 dX13_layName_62 (by decide) ?_
      exact kk29 _ _ _ _ _ _ w (lv_sub hl [2, 3, 0] rfl) h
    · replace h := iff0 hc h
      refine lv_aload_n C.1 C.2.1 dX13_layName_50 rfl (lv_at hl 1 rfl) ?_
      refine lv_bipush (v := 96) C.1 C.2.1 dX13_layName_51 (by decide) ?_
      refine lv_iload C.1 C.2.1 dX13_layName_53 (lv_at hl 0 rfl) ?_
      refine lv_iadd C.1 C.2.1 dX13_layName_55 ?_
      obtain ⟨S_4, hS_4, h⟩ := bnd h
      refine x_callVv (q := (RX13, TX13, 68)) (As := [.int ((96 : Int32) + x5_2)]) (rest := []) C w (k_lay l D T ρ g H.size S hS_4) vM715 ⟨by decide, by decide⟩ obM (by decide) rfl rfl rfl hl.1 (Nat.le_of_ble_eq_true rfl) ⟨Nat.zero_le _, Nat.zero_le _⟩ dX13_layName_56 (fun H locs w => ?_)
      obtain ⟨x4_5, ex4_5, h⟩ := lt_e h
      refine lv_iinc (v := x4_5) (lv' := [(4, .int x4_5), (5, .int x5_2), (0, .ref (ρ 0)), (2, .long x2)]) C.1 C.2.1 dX13_layName_59 hl (k := 3) rfl (by rw [ex4_5]; rfl) (by decide) rfl (fun ls hl => ?_)
      refine lv_goto (tgt := 29) C.1 C.2.1 dX13_layName_62 (by decide) ?_
      exact kk29 _ _ _ _ _ _ w (lv_sub hl [2, 3, 0] rfl) h
theorem w_layName_29 {g : Nat} (C : CallFix p m c cX13_layName 6 s args tb RX13) (hr : meth.sig.returnType = none) (hk : meth.locks = false) {S' : St} (n : Nat) : ∀ (S : St) (x2 : Int64) (x4 : Int32) (H : Heap) (locs : List Loc) (ls : Array Slot), Wn Ym D T ρ S A s H locs → lv_has ls 6 [(0, .ref (ρ 0)), (2, .long x2), (4, .int x4)] → m_layName_29 g n S x2 x4 = some S' → W p l e (rmN 1 21) s m args below meth c H locs 0 0 (MQ below (Qv Ym D T ρ A S') args s 0 0 A) (F0 m 29 ls []) := by
  induction n with
  | zero => intro S x2 x4 H locs ls w hl h; exact absurd h (fun q => by cases q)
  | succ n ih => intro S x2 x4 H locs ls w hl h; exact wb_layName_29 C hr hk ih w hl h
set_option maxRecDepth 100000 in
set_option maxHeartbeats 4000000 in
theorem w_layName_0  {g : Nat} {S : St} {x1 : Int32} (C : CallFix p m c cX13_layName 6 s args tb RX13) (hr : meth.sig.returnType = none) (hk : meth.locks = false) {S' : St} (w : Wn Ym D T ρ S A s H locs) (hl : lv_has ls 6 [(0, .ref (ρ 0)), (1, .int x1)]) (h : m_layName g S x1 = some S') : W p l e (rmN 1 21) s m args below meth c H locs 0 0 (MQ below (Qv Ym D T ρ A S') args s 0 0 A) (F0 m 0 ls []) := by
  unfold m_layName at h
  refine lv_iload_n C.1 C.2.1 dX13_layName_0 rfl (lv_at hl 1 rfl) ?_
  refine lv_bipush (v := 28) C.1 C.2.1 dX13_layName_1 (by decide) ?_
  refine lv_icmp_ge (tgt := 15) C.1 C.2.1 dX13_layName_3 (by decide) (fun hc => ?_) (fun hc => ?_)
  · replace h := ift hc h
    refine lv_aload_n C.1 C.2.1 dX13_layName_15 rfl (lv_at hl 0 rfl) ?_
    refine x_getC C w 2 fM125 obM rfl dX13_layName_16 ?_
    refine lv_iload_n C.1 C.2.1 dX13_layName_19 rfl (lv_at hl 1 rfl) ?_
    refine lv_bipush (v := 28) C.1 C.2.1 dX13_layName_20 (by decide) ?_
    refine lv_isub C.1 C.2.1 dX13_layName_22 ?_
    obtain ⟨v_1, hv_1, h⟩ := bnd h
    refine x_lald C w obM2 hv_1 dX13_layName_23 ?_
    refine lv_lstore_n (lv' := [(2, .long v_1), (0, .ref (ρ 0)), (1, .int x1)]) C.1 C.2.1 dX13_layName_24 rfl hl (by decide) rfl (fun ls hl => ?_)
    refine lv_bipush (v := 30) C.1 C.2.1 dX13_layName_25 (by decide) ?_
    refine lv_istore (lv' := [(4, .int (30 : Int32)), (2, .long v_1), (0, .ref (ρ 0)), (1, .int x1)]) C.1 C.2.1 dX13_layName_27 hl (by decide) rfl (fun ls hl => ?_)
    exact w_layName_29 C hr hk g _ _ _ _ _ _ w (lv_sub hl [2, 1, 0] rfl) h
  · replace h := iff0 hc h
    refine lv_aload_n C.1 C.2.1 dX13_layName_6 rfl (lv_at hl 0 rfl) ?_
    refine x_getC C w 1 fM63 obM rfl dX13_layName_7 ?_
    refine lv_iload_n C.1 C.2.1 dX13_layName_10 rfl (lv_at hl 1 rfl) ?_
    obtain ⟨v_2, hv_2, h⟩ := bnd h
    refine x_lald C w obM1 hv_2 dX13_layName_11 ?_
    refine lv_goto (tgt := 24) C.1 C.2.1 dX13_layName_12 (by decide) ?_
    refine lv_lstore_n (lv' := [(2, .long v_2), (0, .ref (ρ 0)), (1, .int x1)]) C.1 C.2.1 dX13_layName_24 rfl hl (by decide) rfl (fun ls hl => ?_)
    refine lv_bipush (v := 30) C.1 C.2.1 dX13_layName_25 (by decide) ?_
    refine lv_istore (lv' := [(4, .int (30 : Int32)), (2, .long v_2), (0, .ref (ρ 0)), (1, .int x1)]) C.1 C.2.1 dX13_layName_27 hl (by decide) rfl (fun ls hl => ?_)
    exact w_layName_29 C hr hk g _ _ _ _ _ _ w (lv_sub hl [2, 1, 0] rfl) h
end S_layName
set_option maxRecDepth 100000 in
theorem k_layName (l : Launch) (D : va_G) (T : Cy) (ρ : Nat → Nat) (g sz : Nat) (S : St) {x1 : Int32} {S' : St} (h : m_layName g S x1 = some S') : Mv l Ym D T ρ yX13_layName cX13_layName 6 none 1 21 S S' [.ref (ρ 0), .int x1] sz :=
  x_in (by decide) (Nat.le_of_ble_eq_true rfl) (fun p e s m below meth c ls C hr hk w hl => w_layName_0 C hr hk w hl h)

theorem dX13_layUnit_0 : decode cX13_layUnit 0 = .ok (.iload_n 1, 1) := by decide +kernel
theorem dX13_layUnit_1 : decode cX13_layUnit 1 = .ok (.bipush 34, 2) := by decide +kernel
theorem dX13_layUnit_3 : decode cX13_layUnit 3 = .ok (.if_icmp .eq 21, 3) := by decide +kernel
theorem dX13_layUnit_6 : decode cX13_layUnit 6 = .ok (.iload_n 1, 1) := by decide +kernel
theorem dX13_layUnit_7 : decode cX13_layUnit 7 = .ok (.bipush 92, 2) := by decide +kernel
theorem dX13_layUnit_9 : decode cX13_layUnit 9 = .ok (.if_icmp .eq 15, 3) := by decide +kernel
theorem dX13_layUnit_12 : decode cX13_layUnit 12 = .ok (.iload_n 1, 1) := by decide +kernel
theorem dX13_layUnit_13 : decode cX13_layUnit 13 = .ok (.bipush 10, 2) := by decide +kernel
theorem dX13_layUnit_15 : decode cX13_layUnit 15 = .ok (.if_icmp .eq 9, 3) := by decide +kernel
theorem dX13_layUnit_18 : decode cX13_layUnit 18 = .ok (.iload_n 1, 1) := by decide +kernel
theorem dX13_layUnit_19 : decode cX13_layUnit 19 = .ok (.bipush 9, 2) := by decide +kernel
theorem dX13_layUnit_21 : decode cX13_layUnit 21 = .ok (.if_icmp .ne 7, 3) := by decide +kernel
theorem dX13_layUnit_24 : decode cX13_layUnit 24 = .ok (.iconst 1, 1) := by decide +kernel
theorem dX13_layUnit_25 : decode cX13_layUnit 25 = .ok (.goto 4, 3) := by decide +kernel
theorem dX13_layUnit_28 : decode cX13_layUnit 28 = .ok (.iconst 0, 1) := by decide +kernel
theorem dX13_layUnit_29 : decode cX13_layUnit 29 = .ok (.istore_n 2, 1) := by decide +kernel
theorem dX13_layUnit_30 : decode cX13_layUnit 30 = .ok (.iload_n 2, 1) := by decide +kernel
theorem dX13_layUnit_31 : decode cX13_layUnit 31 = .ok (.ifCond .ne 21, 3) := by decide +kernel
theorem dX13_layUnit_34 : decode cX13_layUnit 34 = .ok (.iload_n 1, 1) := by decide +kernel
theorem dX13_layUnit_35 : decode cX13_layUnit 35 = .ok (.bipush 32, 2) := by decide +kernel
theorem dX13_layUnit_37 : decode cX13_layUnit 37 = .ok (.if_icmp .lt 15, 3) := by decide +kernel
theorem dX13_layUnit_40 : decode cX13_layUnit 40 = .ok (.iload_n 1, 1) := by decide +kernel
theorem dX13_layUnit_41 : decode cX13_layUnit 41 = .ok (.bipush 126, 2) := by decide +kernel
theorem dX13_layUnit_43 : decode cX13_layUnit 43 = .ok (.if_icmp .gt 9, 3) := by decide +kernel
theorem dX13_layUnit_46 : decode cX13_layUnit 46 = .ok (.aload_n 0, 1) := by decide +kernel
theorem dX13_layUnit_47 : decode cX13_layUnit 47 = .ok (.iload_n 1, 1) := by decide +kernel
theorem dX13_layUnit_48 : decode cX13_layUnit 48 = .ok (.invokevirtual 715, 3) := by decide +kernel
theorem dX13_layUnit_51 : decode cX13_layUnit 51 = .ok (.return_, 1) := by decide +kernel
theorem dX13_layUnit_52 : decode cX13_layUnit 52 = .ok (.aload_n 0, 1) := by decide +kernel
theorem dX13_layUnit_53 : decode cX13_layUnit 53 = .ok (.bipush 92, 2) := by decide +kernel
theorem dX13_layUnit_55 : decode cX13_layUnit 55 = .ok (.invokevirtual 715, 3) := by decide +kernel
theorem dX13_layUnit_58 : decode cX13_layUnit 58 = .ok (.aload_n 0, 1) := by decide +kernel
theorem dX13_layUnit_59 : decode cX13_layUnit 59 = .ok (.iload_n 1, 1) := by decide +kernel
theorem dX13_layUnit_60 : decode cX13_layUnit 60 = .ok (.bipush 10, 2) := by decide +kernel
theorem dX13_layUnit_62 : decode cX13_layUnit 62 = .ok (.if_icmp .ne 8, 3) := by decide +kernel
theorem dX13_layUnit_65 : decode cX13_layUnit 65 = .ok (.bipush 110, 2) := by decide +kernel
theorem dX13_layUnit_67 : decode cX13_layUnit 67 = .ok (.goto 24, 3) := by decide +kernel
theorem dX13_layUnit_70 : decode cX13_layUnit 70 = .ok (.iload_n 1, 1) := by decide +kernel
theorem dX13_layUnit_71 : decode cX13_layUnit 71 = .ok (.bipush 9, 2) := by decide +kernel
theorem dX13_layUnit_73 : decode cX13_layUnit 73 = .ok (.if_icmp .ne 8, 3) := by decide +kernel
theorem dX13_layUnit_76 : decode cX13_layUnit 76 = .ok (.bipush 116, 2) := by decide +kernel
theorem dX13_layUnit_78 : decode cX13_layUnit 78 = .ok (.goto 13, 3) := by decide +kernel
theorem dX13_layUnit_81 : decode cX13_layUnit 81 = .ok (.iload_n 2, 1) := by decide +kernel
theorem dX13_layUnit_82 : decode cX13_layUnit 82 = .ok (.ifCond .eq 7, 3) := by decide +kernel
theorem dX13_layUnit_85 : decode cX13_layUnit 85 = .ok (.iload_n 1, 1) := by decide +kernel
theorem dX13_layUnit_86 : decode cX13_layUnit 86 = .ok (.goto 5, 3) := by decide +kernel
theorem dX13_layUnit_89 : decode cX13_layUnit 89 = .ok (.bipush 117, 2) := by decide +kernel
theorem dX13_layUnit_91 : decode cX13_layUnit 91 = .ok (.invokevirtual 715, 3) := by decide +kernel
theorem dX13_layUnit_94 : decode cX13_layUnit 94 = .ok (.bipush 12, 2) := by decide +kernel
theorem dX13_layUnit_96 : decode cX13_layUnit 96 = .ok (.istore_n 3, 1) := by decide +kernel
theorem dX13_layUnit_97 : decode cX13_layUnit 97 = .ok (.iload_n 3, 1) := by decide +kernel
theorem dX13_layUnit_98 : decode cX13_layUnit 98 = .ok (.ifCond .lt 48, 3) := by decide +kernel
theorem dX13_layUnit_101 : decode cX13_layUnit 101 = .ok (.iload_n 2, 1) := by decide +kernel
theorem dX13_layUnit_102 : decode cX13_layUnit 102 = .ok (.ifCond .ne 44, 3) := by decide +kernel
theorem dX13_layUnit_105 : decode cX13_layUnit 105 = .ok (.iload_n 1, 1) := by decide +kernel
theorem dX13_layUnit_106 : decode cX13_layUnit 106 = .ok (.iload_n 3, 1) := by decide +kernel
theorem dX13_layUnit_107 : decode cX13_layUnit 107 = .ok (.ishr, 1) := by decide +kernel
theorem dX13_layUnit_108 : decode cX13_layUnit 108 = .ok (.bipush 15, 2) := by decide +kernel
theorem dX13_layUnit_110 : decode cX13_layUnit 110 = .ok (.iand, 1) := by decide +kernel
theorem dX13_layUnit_111 : decode cX13_layUnit 111 = .ok (.istore 4, 2) := by decide +kernel
theorem dX13_layUnit_113 : decode cX13_layUnit 113 = .ok (.aload_n 0, 1) := by decide +kernel
theorem dX13_layUnit_114 : decode cX13_layUnit 114 = .ok (.iload 4, 2) := by decide +kernel
theorem dX13_layUnit_116 : decode cX13_layUnit 116 = .ok (.bipush 10, 2) := by decide +kernel
theorem dX13_layUnit_118 : decode cX13_layUnit 118 = .ok (.if_icmp .ge 11, 3) := by decide +kernel
theorem dX13_layUnit_121 : decode cX13_layUnit 121 = .ok (.bipush 48, 2) := by decide +kernel
theorem dX13_layUnit_123 : decode cX13_layUnit 123 = .ok (.iload 4, 2) := by decide +kernel
theorem dX13_layUnit_125 : decode cX13_layUnit 125 = .ok (.iadd, 1) := by decide +kernel
theorem dX13_layUnit_126 : decode cX13_layUnit 126 = .ok (.goto 11, 3) := by decide +kernel
theorem dX13_layUnit_129 : decode cX13_layUnit 129 = .ok (.bipush 97, 2) := by decide +kernel
theorem dX13_layUnit_131 : decode cX13_layUnit 131 = .ok (.iload 4, 2) := by decide +kernel
theorem dX13_layUnit_133 : decode cX13_layUnit 133 = .ok (.iadd, 1) := by decide +kernel
theorem dX13_layUnit_134 : decode cX13_layUnit 134 = .ok (.bipush 10, 2) := by decide +kernel
theorem dX13_layUnit_136 : decode cX13_layUnit 136 = .ok (.isub, 1) := by decide +kernel
theorem dX13_layUnit_137 : decode cX13_layUnit 137 = .ok (.invokevirtual 715, 3) := by decide +kernel
theorem dX13_layUnit_140 : decode cX13_layUnit 140 = .ok (.iinc 3 (-4), 3) := by decide +kernel
theorem dX13_layUnit_143 : decode cX13_layUnit 143 = .ok (.goto (-46), 3) := by decide +kernel
theorem dX13_layUnit_146 : decode cX13_layUnit 146 = .ok (.return_, 1) := by decide +kernel
def m_layUnit_137 (g : Nat) (k97 : St → Int32 → Int32 → Int32 → Option St) (S : St) (x1 : Int32) (x2 : Int32) (x3 : Int32) (y1 : Int32) : Option St :=
(m_lay g S y1).bind fun S_4 =>
lt (x3 + (-4 : Int32)) fun x3_5 =>
k97 S_4 x1 x2 x3_5
def b_layUnit_97 (g : Nat) (k97 : St → Int32 → Int32 → Int32 → Option St) (S : St) (x1 : Int32) (x2 : Int32) (x3 : Int32) : Option St :=
if x3 < 0 then (
  some S
) else (
  if x2 = 0 then (
    lt ((x1 >>> (x3 &&& 31)) &&& (15 : Int32)) fun x4_3 =>
    if (10 : Int32) ≤ x4_3 then (
      m_layUnit_137 g k97 S x1 x2 x3 (((97 : Int32) + x4_3) - (10 : Int32))
    ) else (
      m_layUnit_137 g k97 S x1 x2 x3 ((48 : Int32) + x4_3)
    )
  ) else (
    some S
  )
)
def m_layUnit_97 (g : Nat) : Nat → St → Int32 → Int32 → Int32 → Option St
  | 0, _, _, _, _ => none
  | n + 1, S, x1, x2, x3 => b_layUnit_97 g (m_layUnit_97 g n) S x1 x2 x3
def m_layUnit_91 (g : Nat) (S : St) (x1 : Int32) (x2 : Int32) (y1 : Int32) : Option St :=
(m_lay g S y1).bind fun S_2 =>
m_layUnit_97 g g S_2 x1 x2 (12 : Int32)
def m_layUnit_52 (g : Nat) (S : St) (x1 : Int32) (x2 : Int32) : Option St :=
(m_lay g S (92 : Int32)).bind fun S_1 =>
if x1 = (10 : Int32) then (
  m_layUnit_91 g S_1 x1 x2 (110 : Int32)
) else (
  if x1 = (9 : Int32) then (
    m_layUnit_91 g S_1 x1 x2 (116 : Int32)
  ) else (
    if x2 = 0 then (
      m_layUnit_91 g S_1 x1 x2 (117 : Int32)
    ) else (
      m_layUnit_91 g S_1 x1 x2 x1
    )
  )
)
def m_layUnit_29 (g : Nat) (S : St) (x1 : Int32) (y0 : Int32) : Option St :=
if y0 = 0 then (
  if x1 < (32 : Int32) then (
    m_layUnit_52 g S x1 y0
  ) else (
    if (126 : Int32) < x1 then (
      m_layUnit_52 g S x1 y0
    ) else (
      (m_lay g S x1).bind fun S_1 =>
      some S_1
    )
  )
) else (
  m_layUnit_52 g S x1 y0
)
def m_layUnit_24 (g : Nat) (S : St) (x1 : Int32) : Option St :=
m_layUnit_29 g S x1 (1 : Int32)
def m_layUnit (g : Nat) (S : St) (x1 : Int32) : Option St :=
if x1 = (34 : Int32) then (
  m_layUnit_24 g S x1
) else (
  if x1 = (92 : Int32) then (
    m_layUnit_24 g S x1
  ) else (
    if x1 = (10 : Int32) then (
      m_layUnit_24 g S x1
    ) else (
      if x1 = (9 : Int32) then (
        m_layUnit_24 g S x1
      ) else (
        m_layUnit_29 g S x1 (0 : Int32)
      )
    )
  )
)
section S_layUnit
variable {p : Program} {l : Launch} {e : Env} {s : State} {m : MethodId} {args : Array Value} {below : List Frame} {meth : Method} {c : Code} {H : Heap} {locs : List Loc} {ls : Array Slot} {D : va_G} {T : Cy} {ρ : Nat → Nat} {A : Nat → Prop}
set_option maxRecDepth 100000 in
set_option maxHeartbeats 4000000 in
theorem w_layUnit_137  {g : Nat} {S : St} {x1 : Int32} {x2 : Int32} {x3 : Int32} {y1 : Int32} (C : CallFix p m c cX13_layUnit 5 s args tb RX13) (hr : meth.sig.returnType = none) (hk : meth.locks = false) {S' : St} {k97 : St → Int32 → Int32 → Int32 → Option St} (kk97 : ∀ (S : St) (x1 : Int32) (x2 : Int32) (x3 : Int32) (H : Heap) (locs : List Loc) (ls : Array Slot), Wn Ym D T ρ S A s H locs → lv_has ls 5 [(0, .ref (ρ 0)), (1, .int x1), (2, .int x2), (3, .int x3)] → k97 S x1 x2 x3 = some S' → W p l e (rmN 1 21) s m args below meth c H locs 0 0 (MQ below (Qv Ym D T ρ A S') args s 0 0 A) (F0 m 97 ls [])) (w : Wn Ym D T ρ S A s H locs) (hl : lv_has ls 5 [(0, .ref (ρ 0)), (1, .int x1), (2, .int x2), (3, .int x3)]) (h : m_layUnit_137 g k97 S x1 x2 x3 y1 = some S') : W p l e (rmN 1 21) s m args below meth c H locs 0 0 (MQ below (Qv Ym D T ρ A S') args s 0 0 A) (F0 m 137 ls [.int y1, .ref (ρ 0)]) := by
  unfold m_layUnit_137 at h
  obtain ⟨S_4, hS_4, h⟩ := bnd h
  refine x_callVv (q := (RX13, TX13, 68)) (As := [.int y1]) (rest := []) C w (k_lay l D T ρ g H.size S hS_4) vM715 ⟨by decide, by decide⟩ obM (by decide) rfl rfl rfl hl.1 (Nat.le_of_ble_eq_true rfl) ⟨Nat.zero_le _, Nat.zero_le _⟩ dX13_layUnit_137 (fun H locs w => ?_)
  obtain ⟨x3_5, ex3_5, h⟩ := lt_e h
  refine lv_iinc (v := x3_5) (lv' := [(3, .int x3_5), (0, .ref (ρ 0)), (1, .int x1), (2, .int x2)]) C.1 C.2.1 dX13_layUnit_140 hl (k := 3) rfl (by rw [ex3_5]; rfl) (by decide) rfl (fun ls hl => ?_)
  refine lv_goto (tgt := 97) C.1 C.2.1 dX13_layUnit_143 (by decide) ?_
  exact kk97 _ _ _ _ _ _ _ w (lv_sub hl [1, 2, 3, 0] rfl) h
set_option maxRecDepth 100000 in
set_option maxHeartbeats 4000000 in
theorem wb_layUnit_97  {g : Nat} {S : St} {x1 : Int32} {x2 : Int32} {x3 : Int32} (C : CallFix p m c cX13_layUnit 5 s args tb RX13) (hr : meth.sig.returnType = none) (hk : meth.locks = false) {S' : St} {k97 : St → Int32 → Int32 → Int32 → Option St} (kk97 : ∀ (S : St) (x1 : Int32) (x2 : Int32) (x3 : Int32) (H : Heap) (locs : List Loc) (ls : Array Slot), Wn Ym D T ρ S A s H locs → lv_has ls 5 [(0, .ref (ρ 0)), (1, .int x1), (2, .int x2), (3, .int x3)] → k97 S x1 x2 x3 = some S' → W p l e (rmN 1 21) s m args below meth c H locs 0 0 (MQ below (Qv Ym D T ρ A S') args s 0 0 A) (F0 m 97 ls [])) (w : Wn Ym D T ρ S A s H locs) (hl : lv_has ls 5 [(0, .ref (ρ 0)), (1, .int x1), (2, .int x2), (3, .int x3)]) (h : b_layUnit_97 g k97 S x1 x2 x3 = some S') : W p l e (rmN 1 21) s m args below meth c H locs 0 0 (MQ below (Qv Ym D T ρ A S') args s 0 0 A) (F0 m 97 ls []) := by
  unfold b_layUnit_97 at h
  refine lv_iload_n C.1 C.2.1 dX13_layUnit_97 rfl (lv_at hl 3 rfl) ?_
  refine lv_if_lt (tgt := 146) C.1 C.2.1 dX13_layUnit_98 (by decide) (fun hc => ?_) (fun hc => ?_)
  · replace h := ift hc h
    obtain rfl := som h
    exact x_vret C w hr hk dX13_layUnit_146
  · replace h := iff0 hc h
    refine lv_iload_n C.1 C.2.1 dX13_layUnit_101 rfl (lv_at hl 2 rfl) ?_
    refine lv_if_ne (tgt := 146) C.1 C.2.1 dX13_layUnit_102 (by decide) (fun hc => ?_) (fun hc => ?_)
    · replace h := iff0 hc h
      obtain rfl := som h
      exact x_vret C w hr hk dX13_layUnit_146
    · replace h := ift hc h
      refine lv_iload_n C.1 C.2.1 dX13_layUnit_105 rfl (lv_at hl 1 rfl) ?_
      refine lv_iload_n C.1 C.2.1 dX13_layUnit_106 rfl (lv_at hl 3 rfl) ?_
      refine lv_ishr C.1 C.2.1 dX13_layUnit_107 ?_
      refine lv_bipush (v := 15) C.1 C.2.1 dX13_layUnit_108 (by decide) ?_
      refine lv_iand C.1 C.2.1 dX13_layUnit_110 ?_
      obtain ⟨x4_3, ex4_3, h⟩ := lt_e h
      refine x_nm ex4_3 ?_
      refine lv_istore (lv' := [(4, .int x4_3), (0, .ref (ρ 0)), (1, .int x1), (2, .int x2), (3, .int x3)]) C.1 C.2.1 dX13_layUnit_111 hl (by decide) rfl (fun ls hl => ?_)
      refine lv_aload_n C.1 C.2.1 dX13_layUnit_113 rfl (lv_at hl 1 rfl) ?_
      refine lv_iload C.1 C.2.1 dX13_layUnit_114 (lv_at hl 0 rfl) ?_
      refine lv_bipush (v := 10) C.1 C.2.1 dX13_layUnit_116 (by decide) ?_
      refine lv_icmp_ge (tgt := 129) C.1 C.2.1 dX13_layUnit_118 (by decide) (fun hc => ?_) (fun hc => ?_)
      · replace h := ift hc h
        refine lv_bipush (v := 97) C.1 C.2.1 dX13_layUnit_129 (by decide) ?_
        refine lv_iload C.1 C.2.1 dX13_layUnit_131 (lv_at hl 0 rfl) ?_
        refine lv_iadd C.1 C.2.1 dX13_layUnit_133 ?_
        refine lv_bipush (v := 10) C.1 C.2.1 dX13_layUnit_134 (by decide) ?_
        refine lv_isub C.1 C.2.1 dX13_layUnit_136 ?_
        exact w_layUnit_137 C hr hk kk97 w (lv_sub hl [1, 2, 3, 4] rfl) h
      · replace h := iff0 hc h
        refine lv_bipush (v := 48) C.1 C.2.1 dX13_layUnit_121 (by decide) ?_
        refine lv_iload C.1 C.2.1 dX13_layUnit_123 (lv_at hl 0 rfl) ?_
        refine lv_iadd C.1 C.2.1 dX13_layUnit_125 ?_
        refine lv_goto (tgt := 137) C.1 C.2.1 dX13_layUnit_126 (by decide) ?_
        exact w_layUnit_137 C hr hk kk97 w (lv_sub hl [1, 2, 3, 4] rfl) h
theorem w_layUnit_97 {g : Nat} (C : CallFix p m c cX13_layUnit 5 s args tb RX13) (hr : meth.sig.returnType = none) (hk : meth.locks = false) {S' : St} (n : Nat) : ∀ (S : St) (x1 : Int32) (x2 : Int32) (x3 : Int32) (H : Heap) (locs : List Loc) (ls : Array Slot), Wn Ym D T ρ S A s H locs → lv_has ls 5 [(0, .ref (ρ 0)), (1, .int x1), (2, .int x2), (3, .int x3)] → m_layUnit_97 g n S x1 x2 x3 = some S' → W p l e (rmN 1 21) s m args below meth c H locs 0 0 (MQ below (Qv Ym D T ρ A S') args s 0 0 A) (F0 m 97 ls []) := by
  induction n with
  | zero => intro S x1 x2 x3 H locs ls w hl h; exact absurd h (fun q => by cases q)
  | succ n ih => intro S x1 x2 x3 H locs ls w hl h; exact wb_layUnit_97 C hr hk ih w hl h
set_option maxRecDepth 100000 in
set_option maxHeartbeats 4000000 in
theorem w_layUnit_91  {g : Nat} {S : St} {x1 : Int32} {x2 : Int32} {y1 : Int32} (C : CallFix p m c cX13_layUnit 5 s args tb RX13) (hr : meth.sig.returnType = none) (hk : meth.locks = false) {S' : St} (w : Wn Ym D T ρ S A s H locs) (hl : lv_has ls 5 [(0, .ref (ρ 0)), (1, .int x1), (2, .int x2)]) (h : m_layUnit_91 g S x1 x2 y1 = some S') : W p l e (rmN 1 21) s m args below meth c H locs 0 0 (MQ below (Qv Ym D T ρ A S') args s 0 0 A) (F0 m 91 ls [.int y1, .ref (ρ 0)]) := by
  unfold m_layUnit_91 at h
  obtain ⟨S_2, hS_2, h⟩ := bnd h
  refine x_callVv (q := (RX13, TX13, 68)) (As := [.int y1]) (rest := []) C w (k_lay l D T ρ g H.size S hS_2) vM715 ⟨by decide, by decide⟩ obM (by decide) rfl rfl rfl hl.1 (Nat.le_of_ble_eq_true rfl) ⟨Nat.zero_le _, Nat.zero_le _⟩ dX13_layUnit_91 (fun H locs w => ?_)
  refine lv_bipush (v := 12) C.1 C.2.1 dX13_layUnit_94 (by decide) ?_
  refine lv_istore_n (lv' := [(3, .int (12 : Int32)), (0, .ref (ρ 0)), (1, .int x1), (2, .int x2)]) C.1 C.2.1 dX13_layUnit_96 rfl hl (by decide) rfl (fun ls hl => ?_)
  exact w_layUnit_97 C hr hk g _ _ _ _ _ _ _ w (lv_sub hl [1, 2, 3, 0] rfl) h
set_option maxRecDepth 100000 in
set_option maxHeartbeats 4000000 in
theorem w_layUnit_52  {g : Nat} {S : St} {x1 : Int32} {x2 : Int32} (C : CallFix p m c cX13_layUnit 5 s args tb RX13) (hr : meth.sig.returnType = none) (hk : meth.locks = false) {S' : St} (w : Wn Ym D T ρ S A s H locs) (hl : lv_has ls 5 [(0, .ref (ρ 0)), (1, .int x1), (2, .int x2)]) (h : m_layUnit_52 g S x1 x2 = some S') : W p l e (rmN 1 21) s m args below meth c H locs 0 0 (MQ below (Qv Ym D T ρ A S') args s 0 0 A) (F0 m 52 ls []) := by
  unfold m_layUnit_52 at h
  refine lv_aload_n C.1 C.2.1 dX13_layUnit_52 rfl (lv_at hl 0 rfl) ?_
  refine lv_bipush (v := 92) C.1 C.2.1 dX13_layUnit_53 (by decide) ?_
  obtain ⟨S_1, hS_1, h⟩ := bnd h
  refine x_callVv (q := (RX13, TX13, 68)) (As := [.int (92 : Int32)]) (rest := []) C w (k_lay l D T ρ g H.size S hS_1) vM715 ⟨by decide, by decide⟩ obM (by decide) rfl rfl rfl hl.1 (Nat.le_of_ble_eq_true rfl) ⟨Nat.zero_le _, Nat.zero_le _⟩ dX13_layUnit_55 (fun H locs w => ?_)
  refine lv_aload_n C.1 C.2.1 dX13_layUnit_58 rfl (lv_at hl 0 rfl) ?_
  refine lv_iload_n C.1 C.2.1 dX13_layUnit_59 rfl (lv_at hl 1 rfl) ?_
  refine lv_bipush (v := 10) C.1 C.2.1 dX13_layUnit_60 (by decide) ?_
  refine lv_icmp_ne (tgt := 70) C.1 C.2.1 dX13_layUnit_62 (by decide) (fun hc => ?_) (fun hc => ?_)
  · replace h := iff0 hc h
    refine lv_iload_n C.1 C.2.1 dX13_layUnit_70 rfl (lv_at hl 1 rfl) ?_
    refine lv_bipush (v := 9) C.1 C.2.1 dX13_layUnit_71 (by decide) ?_
    refine lv_icmp_ne (tgt := 81) C.1 C.2.1 dX13_layUnit_73 (by decide) (fun hc => ?_) (fun hc => ?_)
    · replace h := iff0 hc h
      refine lv_iload_n C.1 C.2.1 dX13_layUnit_81 rfl (lv_at hl 2 rfl) ?_
      refine lv_if_eq (tgt := 89) C.1 C.2.1 dX13_layUnit_82 (by decide) (fun hc => ?_) (fun hc => ?_)
      · replace h := ift hc h
        refine lv_bipush (v := 117) C.1 C.2.1 dX13_layUnit_89 (by decide) ?_
        exact w_layUnit_91 C hr hk w (lv_sub hl [0, 1, 2] rfl) h
      · replace h := iff0 hc h
        refine lv_iload_n C.1 C.2.1 dX13_layUnit_85 rfl (lv_at hl 1 rfl) ?_
        refine lv_goto (tgt := 91) C.1 C.2.1 dX13_layUnit_86 (by decide) ?_
        exact w_layUnit_91 C hr hk w (lv_sub hl [0, 1, 2] rfl) h
    · replace h := ift hc h
      refine lv_bipush (v := 116) C.1 C.2.1 dX13_layUnit_76 (by decide) ?_
      refine lv_goto (tgt := 91) C.1 C.2.1 dX13_layUnit_78 (by decide) ?_
      exact w_layUnit_91 C hr hk w (lv_sub hl [0, 1, 2] rfl) h
  · replace h := ift hc h
    refine lv_bipush (v := 110) C.1 C.2.1 dX13_layUnit_65 (by decide) ?_
    refine lv_goto (tgt := 91) C.1 C.2.1 dX13_layUnit_67 (by decide) ?_
    exact w_layUnit_91 C hr hk w (lv_sub hl [0, 1, 2] rfl) h
set_option maxRecDepth 100000 in
set_option maxHeartbeats 4000000 in
theorem w_layUnit_29  {g : Nat} {S : St} {x1 : Int32} {y0 : Int32} (C : CallFix p m c cX13_layUnit 5 s args tb RX13) (hr : meth.sig.returnType = none) (hk : meth.locks = false) {S' : St} (w : Wn Ym D T ρ S A s H locs) (hl : lv_has ls 5 [(0, .ref (ρ 0)), (1, .int x1)]) (h : m_layUnit_29 g S x1 y0 = some S') : W p l e (rmN 1 21) s m args below meth c H locs 0 0 (MQ below (Qv Ym D T ρ A S') args s 0 0 A) (F0 m 29 ls [.int y0]) := by
  unfold m_layUnit_29 at h
  refine lv_istore_n (lv' := [(2, .int y0), (0, .ref (ρ 0)), (1, .int x1)]) C.1 C.2.1 dX13_layUnit_29 rfl hl (by decide) rfl (fun ls hl => ?_)
  refine lv_iload_n C.1 C.2.1 dX13_layUnit_30 rfl (lv_at hl 0 rfl) ?_
  refine lv_if_ne (tgt := 52) C.1 C.2.1 dX13_layUnit_31 (by decide) (fun hc => ?_) (fun hc => ?_)
  · replace h := iff0 hc h
    exact w_layUnit_52 C hr hk w (lv_sub hl [1, 2, 0] rfl) h
  · replace h := ift hc h
    refine lv_iload_n C.1 C.2.1 dX13_layUnit_34 rfl (lv_at hl 2 rfl) ?_
    refine lv_bipush (v := 32) C.1 C.2.1 dX13_layUnit_35 (by decide) ?_
    refine lv_icmp_lt (tgt := 52) C.1 C.2.1 dX13_layUnit_37 (by decide) (fun hc => ?_) (fun hc => ?_)
    · replace h := ift hc h
      exact w_layUnit_52 C hr hk w (lv_sub hl [1, 2, 0] rfl) h
    · replace h := iff0 hc h
      refine lv_iload_n C.1 C.2.1 dX13_layUnit_40 rfl (lv_at hl 2 rfl) ?_
      refine lv_bipush (v := 126) C.1 C.2.1 dX13_layUnit_41 (by decide) ?_
      refine lv_icmp_gt (tgt := 52) C.1 C.2.1 dX13_layUnit_43 (by decide) (fun hc => ?_) (fun hc => ?_)
      · replace h := ift hc h
        exact w_layUnit_52 C hr hk w (lv_sub hl [1, 2, 0] rfl) h
      · replace h := iff0 hc h
        refine lv_aload_n C.1 C.2.1 dX13_layUnit_46 rfl (lv_at hl 1 rfl) ?_
        refine lv_iload_n C.1 C.2.1 dX13_layUnit_47 rfl (lv_at hl 2 rfl) ?_
        obtain ⟨S_1, hS_1, h⟩ := bnd h
        refine x_callVv (q := (RX13, TX13, 68)) (As := [.int x1]) (rest := []) C w (k_lay l D T ρ g H.size S hS_1) vM715 ⟨by decide, by decide⟩ obM (by decide) rfl rfl rfl hl.1 (Nat.le_of_ble_eq_true rfl) ⟨Nat.zero_le _, Nat.zero_le _⟩ dX13_layUnit_48 (fun H locs w => ?_)
        obtain rfl := som h
        exact x_vret C w hr hk dX13_layUnit_51
set_option maxRecDepth 100000 in
set_option maxHeartbeats 4000000 in
theorem w_layUnit_24  {g : Nat} {S : St} {x1 : Int32} (C : CallFix p m c cX13_layUnit 5 s args tb RX13) (hr : meth.sig.returnType = none) (hk : meth.locks = false) {S' : St} (w : Wn Ym D T ρ S A s H locs) (hl : lv_has ls 5 [(0, .ref (ρ 0)), (1, .int x1)]) (h : m_layUnit_24 g S x1 = some S') : W p l e (rmN 1 21) s m args below meth c H locs 0 0 (MQ below (Qv Ym D T ρ A S') args s 0 0 A) (F0 m 24 ls []) := by
  unfold m_layUnit_24 at h
  refine lv_iconst (v := 1) C.1 C.2.1 dX13_layUnit_24 (by decide) ?_
  refine lv_goto (tgt := 29) C.1 C.2.1 dX13_layUnit_25 (by decide) ?_
  exact w_layUnit_29 C hr hk w (lv_sub hl [0, 1] rfl) h
set_option maxRecDepth 100000 in
set_option maxHeartbeats 4000000 in
theorem w_layUnit_0  {g : Nat} {S : St} {x1 : Int32} (C : CallFix p m c cX13_layUnit 5 s args tb RX13) (hr : meth.sig.returnType = none) (hk : meth.locks = false) {S' : St} (w : Wn Ym D T ρ S A s H locs) (hl : lv_has ls 5 [(0, .ref (ρ 0)), (1, .int x1)]) (h : m_layUnit g S x1 = some S') : W p l e (rmN 1 21) s m args below meth c H locs 0 0 (MQ below (Qv Ym D T ρ A S') args s 0 0 A) (F0 m 0 ls []) := by
  unfold m_layUnit at h
  refine lv_iload_n C.1 C.2.1 dX13_layUnit_0 rfl (lv_at hl 1 rfl) ?_
  refine lv_bipush (v := 34) C.1 C.2.1 dX13_layUnit_1 (by decide) ?_
  refine lv_icmp_eq (tgt := 24) C.1 C.2.1 dX13_layUnit_3 (by decide) (fun hc => ?_) (fun hc => ?_)
  · replace h := ift hc h
    exact w_layUnit_24 C hr hk w (lv_sub hl [0, 1] rfl) h
  · replace h := iff0 hc h
    refine lv_iload_n C.1 C.2.1 dX13_layUnit_6 rfl (lv_at hl 1 rfl) ?_
    refine lv_bipush (v := 92) C.1 C.2.1 dX13_layUnit_7 (by decide) ?_
    refine lv_icmp_eq (tgt := 24) C.1 C.2.1 dX13_layUnit_9 (by decide) (fun hc => ?_) (fun hc => ?_)
    · replace h := ift hc h
      exact w_layUnit_24 C hr hk w (lv_sub hl [0, 1] rfl) h
    · replace h := iff0 hc h
      refine lv_iload_n C.1 C.2.1 dX13_layUnit_12 rfl (lv_at hl 1 rfl) ?_
      refine lv_bipush (v := 10) C.1 C.2.1 dX13_layUnit_13 (by decide) ?_
      refine lv_icmp_eq (tgt := 24) C.1 C.2.1 dX13_layUnit_15 (by decide) (fun hc => ?_) (fun hc => ?_)
      · replace h := ift hc h
        exact w_layUnit_24 C hr hk w (lv_sub hl [0, 1] rfl) h
      · replace h := iff0 hc h
        refine lv_iload_n C.1 C.2.1 dX13_layUnit_18 rfl (lv_at hl 1 rfl) ?_
        refine lv_bipush (v := 9) C.1 C.2.1 dX13_layUnit_19 (by decide) ?_
        refine lv_icmp_ne (tgt := 28) C.1 C.2.1 dX13_layUnit_21 (by decide) (fun hc => ?_) (fun hc => ?_)
        · replace h := iff0 hc h
          refine lv_iconst (v := 0) C.1 C.2.1 dX13_layUnit_28 (by decide) ?_
          exact w_layUnit_29 C hr hk w (lv_sub hl [0, 1] rfl) h
        · replace h := ift hc h
          exact w_layUnit_24 C hr hk w (lv_sub hl [0, 1] rfl) h
end S_layUnit
set_option maxRecDepth 100000 in
theorem k_layUnit (l : Launch) (D : va_G) (T : Cy) (ρ : Nat → Nat) (g sz : Nat) (S : St) {x1 : Int32} {S' : St} (h : m_layUnit g S x1 = some S') : Mv l Ym D T ρ yX13_layUnit cX13_layUnit 5 none 1 21 S S' [.ref (ρ 0), .int x1] sz :=
  x_in (by decide) (Nat.le_of_ble_eq_true rfl) (fun p e s m below meth c ls C hr hk w hl => w_layUnit_0 C hr hk w hl h)

theorem dX13_layWord_0 : decode cX13_layWord 0 = .ok (.aload_n 0, 1) := by decide +kernel
theorem dX13_layWord_1 : decode cX13_layWord 1 = .ok (.getfield 144, 3) := by decide +kernel
theorem dX13_layWord_4 : decode cX13_layWord 4 = .ok (.iload_n 1, 1) := by decide +kernel
theorem dX13_layWord_5 : decode cX13_layWord 5 = .ok (.iaload, 1) := by decide +kernel
theorem dX13_layWord_6 : decode cX13_layWord 6 = .ok (.istore_n 2, 1) := by decide +kernel
theorem dX13_layWord_7 : decode cX13_layWord 7 = .ok (.iload_n 2, 1) := by decide +kernel
theorem dX13_layWord_8 : decode cX13_layWord 8 = .ok (.iconst 3, 1) := by decide +kernel
theorem dX13_layWord_9 : decode cX13_layWord 9 = .ok (.if_icmp .ne 62, 3) := by decide +kernel
theorem dX13_layWord_12 : decode cX13_layWord 12 = .ok (.aload_n 0, 1) := by decide +kernel
theorem dX13_layWord_13 : decode cX13_layWord 13 = .ok (.getfield 150, 3) := by decide +kernel
theorem dX13_layWord_16 : decode cX13_layWord 16 = .ok (.iload_n 1, 1) := by decide +kernel
theorem dX13_layWord_17 : decode cX13_layWord 17 = .ok (.laload, 1) := by decide +kernel
theorem dX13_layWord_18 : decode cX13_layWord 18 = .ok (.l2i, 1) := by decide +kernel
theorem dX13_layWord_19 : decode cX13_layWord 19 = .ok (.istore_n 3, 1) := by decide +kernel
theorem dX13_layWord_20 : decode cX13_layWord 20 = .ok (.aload_n 0, 1) := by decide +kernel
theorem dX13_layWord_21 : decode cX13_layWord 21 = .ok (.bipush 34, 2) := by decide +kernel
theorem dX13_layWord_23 : decode cX13_layWord 23 = .ok (.invokevirtual 715, 3) := by decide +kernel
theorem dX13_layWord_26 : decode cX13_layWord 26 = .ok (.iconst 0, 1) := by decide +kernel
theorem dX13_layWord_27 : decode cX13_layWord 27 = .ok (.istore 4, 2) := by decide +kernel
theorem dX13_layWord_29 : decode cX13_layWord 29 = .ok (.iload 4, 2) := by decide +kernel
theorem dX13_layWord_31 : decode cX13_layWord 31 = .ok (.aload_n 0, 1) := by decide +kernel
theorem dX13_layWord_32 : decode cX13_layWord 32 = .ok (.getfield 162, 3) := by decide +kernel
theorem dX13_layWord_35 : decode cX13_layWord 35 = .ok (.iload_n 3, 1) := by decide +kernel
theorem dX13_layWord_36 : decode cX13_layWord 36 = .ok (.iaload, 1) := by decide +kernel
theorem dX13_layWord_37 : decode cX13_layWord 37 = .ok (.if_icmp .ge 27, 3) := by decide +kernel
theorem dX13_layWord_40 : decode cX13_layWord 40 = .ok (.aload_n 0, 1) := by decide +kernel
theorem dX13_layWord_41 : decode cX13_layWord 41 = .ok (.aload_n 0, 1) := by decide +kernel
theorem dX13_layWord_42 : decode cX13_layWord 42 = .ok (.getfield 156, 3) := by decide +kernel
theorem dX13_layWord_45 : decode cX13_layWord 45 = .ok (.aload_n 0, 1) := by decide +kernel
theorem dX13_layWord_46 : decode cX13_layWord 46 = .ok (.getfield 159, 3) := by decide +kernel
theorem dX13_layWord_49 : decode cX13_layWord 49 = .ok (.iload_n 3, 1) := by decide +kernel
theorem dX13_layWord_50 : decode cX13_layWord 50 = .ok (.iaload, 1) := by decide +kernel
theorem dX13_layWord_51 : decode cX13_layWord 51 = .ok (.iload 4, 2) := by decide +kernel
theorem dX13_layWord_53 : decode cX13_layWord 53 = .ok (.iadd, 1) := by decide +kernel
theorem dX13_layWord_54 : decode cX13_layWord 54 = .ok (.iaload, 1) := by decide +kernel
theorem dX13_layWord_55 : decode cX13_layWord 55 = .ok (.invokevirtual 718, 3) := by decide +kernel
theorem dX13_layWord_58 : decode cX13_layWord 58 = .ok (.iinc 4 1, 3) := by decide +kernel
theorem dX13_layWord_61 : decode cX13_layWord 61 = .ok (.goto (-32), 3) := by decide +kernel
theorem dX13_layWord_64 : decode cX13_layWord 64 = .ok (.aload_n 0, 1) := by decide +kernel
theorem dX13_layWord_65 : decode cX13_layWord 65 = .ok (.bipush 34, 2) := by decide +kernel
theorem dX13_layWord_67 : decode cX13_layWord 67 = .ok (.invokevirtual 715, 3) := by decide +kernel
theorem dX13_layWord_70 : decode cX13_layWord 70 = .ok (.return_, 1) := by decide +kernel
theorem dX13_layWord_71 : decode cX13_layWord 71 = .ok (.iload_n 2, 1) := by decide +kernel
theorem dX13_layWord_72 : decode cX13_layWord 72 = .ok (.iconst 5, 1) := by decide +kernel
theorem dX13_layWord_73 : decode cX13_layWord 73 = .ok (.if_icmp .eq 9, 3) := by decide +kernel
theorem dX13_layWord_76 : decode cX13_layWord 76 = .ok (.iload_n 2, 1) := by decide +kernel
theorem dX13_layWord_77 : decode cX13_layWord 77 = .ok (.bipush 6, 2) := by decide +kernel
theorem dX13_layWord_79 : decode cX13_layWord 79 = .ok (.if_icmp .ne 9, 3) := by decide +kernel
theorem dX13_layWord_82 : decode cX13_layWord 82 = .ok (.aload_n 0, 1) := by decide +kernel
theorem dX13_layWord_83 : decode cX13_layWord 83 = .ok (.bipush 64, 2) := by decide +kernel
theorem dX13_layWord_85 : decode cX13_layWord 85 = .ok (.invokevirtual 715, 3) := by decide +kernel
theorem dX13_layWord_88 : decode cX13_layWord 88 = .ok (.iload_n 2, 1) := by decide +kernel
theorem dX13_layWord_89 : decode cX13_layWord 89 = .ok (.bipush 7, 2) := by decide +kernel
theorem dX13_layWord_91 : decode cX13_layWord 91 = .ok (.if_icmp .eq 9, 3) := by decide +kernel
theorem dX13_layWord_94 : decode cX13_layWord 94 = .ok (.iload_n 2, 1) := by decide +kernel
theorem dX13_layWord_95 : decode cX13_layWord 95 = .ok (.bipush 8, 2) := by decide +kernel
theorem dX13_layWord_97 : decode cX13_layWord 97 = .ok (.if_icmp .ne 9, 3) := by decide +kernel
theorem dX13_layWord_100 : decode cX13_layWord 100 = .ok (.aload_n 0, 1) := by decide +kernel
theorem dX13_layWord_101 : decode cX13_layWord 101 = .ok (.bipush 63, 2) := by decide +kernel
theorem dX13_layWord_103 : decode cX13_layWord 103 = .ok (.invokevirtual 715, 3) := by decide +kernel
theorem dX13_layWord_106 : decode cX13_layWord 106 = .ok (.iload_n 2, 1) := by decide +kernel
theorem dX13_layWord_107 : decode cX13_layWord 107 = .ok (.ifCond .ne 9, 3) := by decide +kernel
theorem dX13_layWord_110 : decode cX13_layWord 110 = .ok (.aload_n 0, 1) := by decide +kernel
theorem dX13_layWord_111 : decode cX13_layWord 111 = .ok (.bipush 118, 2) := by decide +kernel
theorem dX13_layWord_113 : decode cX13_layWord 113 = .ok (.invokevirtual 715, 3) := by decide +kernel
theorem dX13_layWord_116 : decode cX13_layWord 116 = .ok (.iload_n 2, 1) := by decide +kernel
theorem dX13_layWord_117 : decode cX13_layWord 117 = .ok (.iconst 1, 1) := by decide +kernel
theorem dX13_layWord_118 : decode cX13_layWord 118 = .ok (.if_icmp .eq 14, 3) := by decide +kernel
theorem dX13_layWord_121 : decode cX13_layWord 121 = .ok (.iload_n 2, 1) := by decide +kernel
theorem dX13_layWord_122 : decode cX13_layWord 122 = .ok (.iconst 5, 1) := by decide +kernel
theorem dX13_layWord_123 : decode cX13_layWord 123 = .ok (.if_icmp .eq 9, 3) := by decide +kernel
theorem dX13_layWord_126 : decode cX13_layWord 126 = .ok (.iload_n 2, 1) := by decide +kernel
theorem dX13_layWord_127 : decode cX13_layWord 127 = .ok (.bipush 7, 2) := by decide +kernel
theorem dX13_layWord_129 : decode cX13_layWord 129 = .ok (.if_icmp .ne 9, 3) := by decide +kernel
theorem dX13_layWord_132 : decode cX13_layWord 132 = .ok (.aload_n 0, 1) := by decide +kernel
theorem dX13_layWord_133 : decode cX13_layWord 133 = .ok (.bipush 119, 2) := by decide +kernel
theorem dX13_layWord_135 : decode cX13_layWord 135 = .ok (.invokevirtual 715, 3) := by decide +kernel
theorem dX13_layWord_138 : decode cX13_layWord 138 = .ok (.iload_n 2, 1) := by decide +kernel
theorem dX13_layWord_139 : decode cX13_layWord 139 = .ok (.iconst 2, 1) := by decide +kernel
theorem dX13_layWord_140 : decode cX13_layWord 140 = .ok (.if_icmp .ne 9, 3) := by decide +kernel
theorem dX13_layWord_143 : decode cX13_layWord 143 = .ok (.aload_n 0, 1) := by decide +kernel
theorem dX13_layWord_144 : decode cX13_layWord 144 = .ok (.bipush 98, 2) := by decide +kernel
theorem dX13_layWord_146 : decode cX13_layWord 146 = .ok (.invokevirtual 715, 3) := by decide +kernel
theorem dX13_layWord_149 : decode cX13_layWord 149 = .ok (.aload_n 0, 1) := by decide +kernel
theorem dX13_layWord_150 : decode cX13_layWord 150 = .ok (.aload_n 0, 1) := by decide +kernel
theorem dX13_layWord_151 : decode cX13_layWord 151 = .ok (.getfield 150, 3) := by decide +kernel
theorem dX13_layWord_154 : decode cX13_layWord 154 = .ok (.iload_n 1, 1) := by decide +kernel
theorem dX13_layWord_155 : decode cX13_layWord 155 = .ok (.laload, 1) := by decide +kernel
theorem dX13_layWord_156 : decode cX13_layWord 156 = .ok (.invokevirtual 721, 3) := by decide +kernel
theorem dX13_layWord_159 : decode cX13_layWord 159 = .ok (.return_, 1) := by decide +kernel
def m_layWord_149 (g : Nat) (S : St) (x1 : Int32) : Option St :=
(aJ S 10 x1).bind fun v_5 =>
(m_layNumber g S v_5).bind fun S_6 =>
some S_6
def m_layWord_138 (g : Nat) (S : St) (x1 : Int32) (x2 : Int32) : Option St :=
if x2 = (2 : Int32) then (
  (m_lay g S (98 : Int32)).bind fun S_5 =>
  m_layWord_149 g S_5 x1
) else (
  m_layWord_149 g S x1
)
def m_layWord_132 (g : Nat) (S : St) (x1 : Int32) (x2 : Int32) : Option St :=
(m_lay g S (119 : Int32)).bind fun S_4 =>
m_layWord_138 g S_4 x1 x2
def m_layWord_116 (g : Nat) (S : St) (x1 : Int32) (x2 : Int32) : Option St :=
if x2 = (1 : Int32) then (
  m_layWord_132 g S x1 x2
) else (
  if x2 = (5 : Int32) then (
    m_layWord_132 g S x1 x2
  ) else (
    if x2 = (7 : Int32) then (
      m_layWord_132 g S x1 x2
    ) else (
      m_layWord_138 g S x1 x2
    )
  )
)
def m_layWord_106 (g : Nat) (S : St) (x1 : Int32) (x2 : Int32) : Option St :=
if x2 = 0 then (
  (m_lay g S (118 : Int32)).bind fun S_4 =>
  m_layWord_116 g S_4 x1 x2
) else (
  m_layWord_116 g S x1 x2
)
def m_layWord_100 (g : Nat) (S : St) (x1 : Int32) (x2 : Int32) : Option St :=
(m_lay g S (63 : Int32)).bind fun S_3 =>
m_layWord_106 g S_3 x1 x2
def m_layWord_88 (g : Nat) (S : St) (x1 : Int32) (x2 : Int32) : Option St :=
if x2 = (7 : Int32) then (
  m_layWord_100 g S x1 x2
) else (
  if x2 = (8 : Int32) then (
    m_layWord_100 g S x1 x2
  ) else (
    m_layWord_106 g S x1 x2
  )
)
def m_layWord_82 (g : Nat) (S : St) (x1 : Int32) (x2 : Int32) : Option St :=
(m_lay g S (64 : Int32)).bind fun S_2 =>
m_layWord_88 g S_2 x1 x2
def b_layWord_29 (g : Nat) (k29 : St → Int32 → Int32 → Option St) (S : St) (x3 : Int32) (x4 : Int32) : Option St :=
(aI S 14 x3).bind fun v_5 =>
if v_5 ≤ x4 then (
  (m_lay g S (34 : Int32)).bind fun S_6 =>
  some S_6
) else (
  (aI S 13 x3).bind fun v_7 =>
  (aI S 12 (v_7 + x4)).bind fun v_8 =>
  (m_layUnit g S v_8).bind fun S_9 =>
  lt (x4 + (1 : Int32)) fun x4_10 =>
  k29 S_9 x3 x4_10
)
def m_layWord_29 (g : Nat) : Nat → St → Int32 → Int32 → Option St
  | 0, _, _, _ => none
  | n + 1, S, x3, x4 => b_layWord_29 g (m_layWord_29 g n) S x3 x4
def m_layWord (g : Nat) (S : St) (x1 : Int32) : Option St :=
(aI S 8 x1).bind fun v_1 =>
if v_1 = (3 : Int32) then (
  (aJ S 10 x1).bind fun v_2 =>
  lt (v_2.toInt32) fun x3_3 =>
  (m_lay g S (34 : Int32)).bind fun S_4 =>
  m_layWord_29 g g S_4 x3_3 (0 : Int32)
) else (
  if v_1 = (5 : Int32) then (
    m_layWord_82 g S x1 v_1
  ) else (
    if v_1 = (6 : Int32) then (
      m_layWord_82 g S x1 v_1
    ) else (
      m_layWord_88 g S x1 v_1
    )
  )
)
section S_layWord
variable {p : Program} {l : Launch} {e : Env} {s : State} {m : MethodId} {args : Array Value} {below : List Frame} {meth : Method} {c : Code} {H : Heap} {locs : List Loc} {ls : Array Slot} {D : va_G} {T : Cy} {ρ : Nat → Nat} {A : Nat → Prop}
set_option maxRecDepth 100000 in
set_option maxHeartbeats 4000000 in
theorem w_layWord_149  {g : Nat} {S : St} {x1 : Int32} (C : CallFix p m c cX13_layWord 5 s args tb RX13) (hr : meth.sig.returnType = none) (hk : meth.locks = false) {S' : St} (w : Wn Ym D T ρ S A s H locs) (hl : lv_has ls 5 [(0, .ref (ρ 0)), (1, .int x1)]) (h : m_layWord_149 g S x1 = some S') : W p l e (rmN 3 72) s m args below meth c H locs 0 0 (MQ below (Qv Ym D T ρ A S') args s 0 0 A) (F0 m 149 ls []) := by
  unfold m_layWord_149 at h
  refine lv_aload_n C.1 C.2.1 dX13_layWord_149 rfl (lv_at hl 0 rfl) ?_
  refine lv_aload_n C.1 C.2.1 dX13_layWord_150 rfl (lv_at hl 0 rfl) ?_
  refine x_getC C w 10 fM150 obM rfl dX13_layWord_151 ?_
  refine lv_iload_n C.1 C.2.1 dX13_layWord_154 rfl (lv_at hl 1 rfl) ?_
  obtain ⟨v_5, hv_5, h⟩ := bnd h
  refine x_lald C w obM10 hv_5 dX13_layWord_155 ?_
  obtain ⟨S_6, hS_6, h⟩ := bnd h
  refine x_callVv (q := (RX13, TX13, 68)) (As := [.long v_5]) (rest := []) C w (k_layNumber l D T ρ g H.size S hS_6) vM721 ⟨by decide, by decide⟩ obM (by decide) rfl rfl rfl hl.1 (Nat.le_of_ble_eq_true rfl) ⟨Nat.zero_le _, Nat.zero_le _⟩ dX13_layWord_156 (fun H locs w => ?_)
  obtain rfl := som h
  exact x_vret C w hr hk dX13_layWord_159
set_option maxRecDepth 100000 in
set_option maxHeartbeats 4000000 in
theorem w_layWord_138  {g : Nat} {S : St} {x1 : Int32} {x2 : Int32} (C : CallFix p m c cX13_layWord 5 s args tb RX13) (hr : meth.sig.returnType = none) (hk : meth.locks = false) {S' : St} (w : Wn Ym D T ρ S A s H locs) (hl : lv_has ls 5 [(0, .ref (ρ 0)), (1, .int x1), (2, .int x2)]) (h : m_layWord_138 g S x1 x2 = some S') : W p l e (rmN 3 72) s m args below meth c H locs 0 0 (MQ below (Qv Ym D T ρ A S') args s 0 0 A) (F0 m 138 ls []) := by
  unfold m_layWord_138 at h
  refine lv_iload_n C.1 C.2.1 dX13_layWord_138 rfl (lv_at hl 2 rfl) ?_
  refine lv_iconst (v := 2) C.1 C.2.1 dX13_layWord_139 (by decide) ?_
  refine lv_icmp_ne (tgt := 149) C.1 C.2.1 dX13_layWord_140 (by decide) (fun hc => ?_) (fun hc => ?_)
  · replace h := iff0 hc h
    exact w_layWord_149 C hr hk w (lv_sub hl [0, 1] rfl) h
  · replace h := ift hc h
    refine lv_aload_n C.1 C.2.1 dX13_layWord_143 rfl (lv_at hl 0 rfl) ?_
    refine lv_bipush (v := 98) C.1 C.2.1 dX13_layWord_144 (by decide) ?_
    obtain ⟨S_5, hS_5, h⟩ := bnd h
    refine x_callVv (q := (RX13, TX13, 68)) (As := [.int (98 : Int32)]) (rest := []) C w (k_lay l D T ρ g H.size S hS_5) vM715 ⟨by decide, by decide⟩ obM (by decide) rfl rfl rfl hl.1 (Nat.le_of_ble_eq_true rfl) ⟨Nat.zero_le _, Nat.zero_le _⟩ dX13_layWord_146 (fun H locs w => ?_)
    exact w_layWord_149 C hr hk w (lv_sub hl [0, 1] rfl) h
set_option maxRecDepth 100000 in
set_option maxHeartbeats 4000000 in
theorem w_layWord_132  {g : Nat} {S : St} {x1 : Int32} {x2 : Int32} (C : CallFix p m c cX13_layWord 5 s args tb RX13) (hr : meth.sig.returnType = none) (hk : meth.locks = false) {S' : St} (w : Wn Ym D T ρ S A s H locs) (hl : lv_has ls 5 [(0, .ref (ρ 0)), (1, .int x1), (2, .int x2)]) (h : m_layWord_132 g S x1 x2 = some S') : W p l e (rmN 3 72) s m args below meth c H locs 0 0 (MQ below (Qv Ym D T ρ A S') args s 0 0 A) (F0 m 132 ls []) := by
  unfold m_layWord_132 at h
  refine lv_aload_n C.1 C.2.1 dX13_layWord_132 rfl (lv_at hl 0 rfl) ?_
  refine lv_bipush (v := 119) C.1 C.2.1 dX13_layWord_133 (by decide) ?_
  obtain ⟨S_4, hS_4, h⟩ := bnd h
  refine x_callVv (q := (RX13, TX13, 68)) (As := [.int (119 : Int32)]) (rest := []) C w (k_lay l D T ρ g H.size S hS_4) vM715 ⟨by decide, by decide⟩ obM (by decide) rfl rfl rfl hl.1 (Nat.le_of_ble_eq_true rfl) ⟨Nat.zero_le _, Nat.zero_le _⟩ dX13_layWord_135 (fun H locs w => ?_)
  exact w_layWord_138 C hr hk w (lv_sub hl [0, 1, 2] rfl) h
set_option maxRecDepth 100000 in
set_option maxHeartbeats 4000000 in
theorem w_layWord_116  {g : Nat} {S : St} {x1 : Int32} {x2 : Int32} (C : CallFix p m c cX13_layWord 5 s args tb RX13) (hr : meth.sig.returnType = none) (hk : meth.locks = false) {S' : St} (w : Wn Ym D T ρ S A s H locs) (hl : lv_has ls 5 [(0, .ref (ρ 0)), (1, .int x1), (2, .int x2)]) (h : m_layWord_116 g S x1 x2 = some S') : W p l e (rmN 3 72) s m args below meth c H locs 0 0 (MQ below (Qv Ym D T ρ A S') args s 0 0 A) (F0 m 116 ls []) := by
  unfold m_layWord_116 at h
  refine lv_iload_n C.1 C.2.1 dX13_layWord_116 rfl (lv_at hl 2 rfl) ?_
  refine lv_iconst (v := 1) C.1 C.2.1 dX13_layWord_117 (by decide) ?_
  refine lv_icmp_eq (tgt := 132) C.1 C.2.1 dX13_layWord_118 (by decide) (fun hc => ?_) (fun hc => ?_)
  · replace h := ift hc h
    exact w_layWord_132 C hr hk w (lv_sub hl [0, 1, 2] rfl) h
  · replace h := iff0 hc h
    refine lv_iload_n C.1 C.2.1 dX13_layWord_121 rfl (lv_at hl 2 rfl) ?_
    refine lv_iconst (v := 5) C.1 C.2.1 dX13_layWord_122 (by decide) ?_
    refine lv_icmp_eq (tgt := 132) C.1 C.2.1 dX13_layWord_123 (by decide) (fun hc => ?_) (fun hc => ?_)
    · replace h := ift hc h
      exact w_layWord_132 C hr hk w (lv_sub hl [0, 1, 2] rfl) h
    · replace h := iff0 hc h
      refine lv_iload_n C.1 C.2.1 dX13_layWord_126 rfl (lv_at hl 2 rfl) ?_
      refine lv_bipush (v := 7) C.1 C.2.1 dX13_layWord_127 (by decide) ?_
      refine lv_icmp_ne (tgt := 138) C.1 C.2.1 dX13_layWord_129 (by decide) (fun hc => ?_) (fun hc => ?_)
      · replace h := iff0 hc h
        exact w_layWord_138 C hr hk w (lv_sub hl [0, 1, 2] rfl) h
      · replace h := ift hc h
        exact w_layWord_132 C hr hk w (lv_sub hl [0, 1, 2] rfl) h
set_option maxRecDepth 100000 in
set_option maxHeartbeats 4000000 in
theorem w_layWord_106  {g : Nat} {S : St} {x1 : Int32} {x2 : Int32} (C : CallFix p m c cX13_layWord 5 s args tb RX13) (hr : meth.sig.returnType = none) (hk : meth.locks = false) {S' : St} (w : Wn Ym D T ρ S A s H locs) (hl : lv_has ls 5 [(0, .ref (ρ 0)), (1, .int x1), (2, .int x2)]) (h : m_layWord_106 g S x1 x2 = some S') : W p l e (rmN 3 72) s m args below meth c H locs 0 0 (MQ below (Qv Ym D T ρ A S') args s 0 0 A) (F0 m 106 ls []) := by
  unfold m_layWord_106 at h
  refine lv_iload_n C.1 C.2.1 dX13_layWord_106 rfl (lv_at hl 2 rfl) ?_
  refine lv_if_ne (tgt := 116) C.1 C.2.1 dX13_layWord_107 (by decide) (fun hc => ?_) (fun hc => ?_)
  · replace h := iff0 hc h
    exact w_layWord_116 C hr hk w (lv_sub hl [0, 1, 2] rfl) h
  · replace h := ift hc h
    refine lv_aload_n C.1 C.2.1 dX13_layWord_110 rfl (lv_at hl 0 rfl) ?_
    refine lv_bipush (v := 118) C.1 C.2.1 dX13_layWord_111 (by decide) ?_
    obtain ⟨S_4, hS_4, h⟩ := bnd h
    refine x_callVv (q := (RX13, TX13, 68)) (As := [.int (118 : Int32)]) (rest := []) C w (k_lay l D T ρ g H.size S hS_4) vM715 ⟨by decide, by decide⟩ obM (by decide) rfl rfl rfl hl.1 (Nat.le_of_ble_eq_true rfl) ⟨Nat.zero_le _, Nat.zero_le _⟩ dX13_layWord_113 (fun H locs w => ?_)
    exact w_layWord_116 C hr hk w (lv_sub hl [0, 1, 2] rfl) h
set_option maxRecDepth 100000 in
set_option maxHeartbeats 4000000 in
theorem w_layWord_100  {g : Nat} {S : St} {x1 : Int32} {x2 : Int32} (C : CallFix p m c cX13_layWord 5 s args tb RX13) (hr : meth.sig.returnType = none) (hk : meth.locks = false) {S' : St} (w : Wn Ym D T ρ S A s H locs) (hl : lv_has ls 5 [(0, .ref (ρ 0)), (1, .int x1), (2, .int x2)]) (h : m_layWord_100 g S x1 x2 = some S') : W p l e (rmN 3 72) s m args below meth c H locs 0 0 (MQ below (Qv Ym D T ρ A S') args s 0 0 A) (F0 m 100 ls []) := by
  unfold m_layWord_100 at h
  refine lv_aload_n C.1 C.2.1 dX13_layWord_100 rfl (lv_at hl 0 rfl) ?_
  refine lv_bipush (v := 63) C.1 C.2.1 dX13_layWord_101 (by decide) ?_
  obtain ⟨S_3, hS_3, h⟩ := bnd h
  refine x_callVv (q := (RX13, TX13, 68)) (As := [.int (63 : Int32)]) (rest := []) C w (k_lay l D T ρ g H.size S hS_3) vM715 ⟨by decide, by decide⟩ obM (by decide) rfl rfl rfl hl.1 (Nat.le_of_ble_eq_true rfl) ⟨Nat.zero_le _, Nat.zero_le _⟩ dX13_layWord_103 (fun H locs w => ?_)
  exact w_layWord_106 C hr hk w (lv_sub hl [0, 1, 2] rfl) h
set_option maxRecDepth 100000 in
set_option maxHeartbeats 4000000 in
theorem w_layWord_88  {g : Nat} {S : St} {x1 : Int32} {x2 : Int32} (C : CallFix p m c cX13_layWord 5 s args tb RX13) (hr : meth.sig.returnType = none) (hk : meth.locks = false) {S' : St} (w : Wn Ym D T ρ S A s H locs) (hl : lv_has ls 5 [(0, .ref (ρ 0)), (1, .int x1), (2, .int x2)]) (h : m_layWord_88 g S x1 x2 = some S') : W p l e (rmN 3 72) s m args below meth c H locs 0 0 (MQ below (Qv Ym D T ρ A S') args s 0 0 A) (F0 m 88 ls []) := by
  unfold m_layWord_88 at h
  refine lv_iload_n C.1 C.2.1 dX13_layWord_88 rfl (lv_at hl 2 rfl) ?_
  refine lv_bipush (v := 7) C.1 C.2.1 dX13_layWord_89 (by decide) ?_
  refine lv_icmp_eq (tgt := 100) C.1 C.2.1 dX13_layWord_91 (by decide) (fun hc => ?_) (fun hc => ?_)
  · replace h := ift hc h
    exact w_layWord_100 C hr hk w (lv_sub hl [0, 1, 2] rfl) h
  · replace h := iff0 hc h
    refine lv_iload_n C.1 C.2.1 dX13_layWord_94 rfl (lv_at hl 2 rfl) ?_
    refine lv_bipush (v := 8) C.1 C.2.1 dX13_layWord_95 (by decide) ?_
    refine lv_icmp_ne (tgt := 106) C.1 C.2.1 dX13_layWord_97 (by decide) (fun hc => ?_) (fun hc => ?_)
    · replace h := iff0 hc h
      exact w_layWord_106 C hr hk w (lv_sub hl [0, 1, 2] rfl) h
    · replace h := ift hc h
      exact w_layWord_100 C hr hk w (lv_sub hl [0, 1, 2] rfl) h
set_option maxRecDepth 100000 in
set_option maxHeartbeats 4000000 in
theorem w_layWord_82  {g : Nat} {S : St} {x1 : Int32} {x2 : Int32} (C : CallFix p m c cX13_layWord 5 s args tb RX13) (hr : meth.sig.returnType = none) (hk : meth.locks = false) {S' : St} (w : Wn Ym D T ρ S A s H locs) (hl : lv_has ls 5 [(0, .ref (ρ 0)), (1, .int x1), (2, .int x2)]) (h : m_layWord_82 g S x1 x2 = some S') : W p l e (rmN 3 72) s m args below meth c H locs 0 0 (MQ below (Qv Ym D T ρ A S') args s 0 0 A) (F0 m 82 ls []) := by
  unfold m_layWord_82 at h
  refine lv_aload_n C.1 C.2.1 dX13_layWord_82 rfl (lv_at hl 0 rfl) ?_
  refine lv_bipush (v := 64) C.1 C.2.1 dX13_layWord_83 (by decide) ?_
  obtain ⟨S_2, hS_2, h⟩ := bnd h
  refine x_callVv (q := (RX13, TX13, 68)) (As := [.int (64 : Int32)]) (rest := []) C w (k_lay l D T ρ g H.size S hS_2) vM715 ⟨by decide, by decide⟩ obM (by decide) rfl rfl rfl hl.1 (Nat.le_of_ble_eq_true rfl) ⟨Nat.zero_le _, Nat.zero_le _⟩ dX13_layWord_85 (fun H locs w => ?_)
  exact w_layWord_88 C hr hk w (lv_sub hl [0, 1, 2] rfl) h
set_option maxRecDepth 100000 in
set_option maxHeartbeats 4000000 in
theorem wb_layWord_29  {g : Nat} {S : St} {x3 : Int32} {x4 : Int32} (C : CallFix p m c cX13_layWord 5 s args tb RX13) (hr : meth.sig.returnType = none) (hk : meth.locks = false) {S' : St} {k29 : St → Int32 → Int32 → Option St} (kk29 : ∀ (S : St) (x3 : Int32) (x4 : Int32) (H : Heap) (locs : List Loc) (ls : Array Slot), Wn Ym D T ρ S A s H locs → lv_has ls 5 [(0, .ref (ρ 0)), (3, .int x3), (4, .int x4)] → k29 S x3 x4 = some S' → W p l e (rmN 3 72) s m args below meth c H locs 0 0 (MQ below (Qv Ym D T ρ A S') args s 0 0 A) (F0 m 29 ls [])) (w : Wn Ym D T ρ S A s H locs) (hl : lv_has ls 5 [(0, .ref (ρ 0)), (3, .int x3), (4, .int x4)]) (h : b_layWord_29 g k29 S x3 x4 = some S') : W p l e (rmN 3 72) s m args below meth c H locs 0 0 (MQ below (Qv Ym D T ρ A S') args s 0 0 A) (F0 m 29 ls []) := by
  unfold b_layWord_29 at h
  refine lv_iload C.1 C.2.1 dX13_layWord_29 (lv_at hl 2 rfl) ?_
  refine lv_aload_n C.1 C.2.1 dX13_layWord_31 rfl (lv_at hl 0 rfl) ?_
  refine x_getC C w 14 fM162 obM rfl dX13_layWord_32 ?_
  refine lv_iload_n C.1 C.2.1 dX13_layWord_35 rfl (lv_at hl 1 rfl) ?_
  obtain ⟨v_5, hv_5, h⟩ := bnd h
  refine x_iald C w obM14 hv_5 dX13_layWord_36 ?_
  refine lv_icmp_ge (tgt := 64) C.1 C.2.1 dX13_layWord_37 (by decide) (fun hc => ?_) (fun hc => ?_)
  · replace h := ift hc h
    refine lv_aload_n C.1 C.2.1 dX13_layWord_64 rfl (lv_at hl 0 rfl) ?_
    refine lv_bipush (v := 34) C.1 C.2.1 dX13_layWord_65 (by decide) ?_
    obtain ⟨S_6, hS_6, h⟩ := bnd h
    refine x_callVv (q := (RX13, TX13, 68)) (As := [.int (34 : Int32)]) (rest := []) C w (k_lay l D T ρ g H.size S hS_6) vM715 ⟨by decide, by decide⟩ obM (by decide) rfl rfl rfl hl.1 (Nat.le_of_ble_eq_true rfl) ⟨Nat.zero_le _, Nat.zero_le _⟩ dX13_layWord_67 (fun H locs w => ?_)
    obtain rfl := som h
    exact x_vret C w hr hk dX13_layWord_70
  · replace h := iff0 hc h
    refine lv_aload_n C.1 C.2.1 dX13_layWord_40 rfl (lv_at hl 0 rfl) ?_
    refine lv_aload_n C.1 C.2.1 dX13_layWord_41 rfl (lv_at hl 0 rfl) ?_
    refine x_getC C w 12 fM156 obM rfl dX13_layWord_42 ?_
    refine lv_aload_n C.1 C.2.1 dX13_layWord_45 rfl (lv_at hl 0 rfl) ?_
    refine x_getC C w 13 fM159 obM rfl dX13_layWord_46 ?_
    refine lv_iload_n C.1 C.2.1 dX13_layWord_49 rfl (lv_at hl 1 rfl) ?_
    obtain ⟨v_7, hv_7, h⟩ := bnd h
    refine x_iald C w obM13 hv_7 dX13_layWord_50 ?_
    refine lv_iload C.1 C.2.1 dX13_layWord_51 (lv_at hl 2 rfl) ?_
    refine lv_iadd C.1 C.2.1 dX13_layWord_53 ?_
    obtain ⟨v_8, hv_8, h⟩ := bnd h
    refine x_iald C w obM12 hv_8 dX13_layWord_54 ?_
    obtain ⟨S_9, hS_9, h⟩ := bnd h
    refine x_callVv (q := (RX13, TX13, 68)) (As := [.int v_8]) (rest := []) C w (k_layUnit l D T ρ g H.size S hS_9) vM718 ⟨by decide, by decide⟩ obM (by decide) rfl rfl rfl hl.1 (Nat.le_of_ble_eq_true rfl) ⟨Nat.zero_le _, Nat.zero_le _⟩ dX13_layWord_55 (fun H locs w => ?_)
    obtain ⟨x4_10, ex4_10, h⟩ := lt_e h
    refine lv_iinc (v := x4_10) (lv' := [(4, .int x4_10), (0, .ref (ρ 0)), (3, .int x3)]) C.1 C.2.1 dX13_layWord_58 hl (k := 2) rfl (by rw [ex4_10]; rfl) (by decide) rfl (fun ls hl => ?_)
    refine lv_goto (tgt := 29) C.1 C.2.1 dX13_layWord_61 (by decide) ?_
    exact kk29 _ _ _ _ _ _ w (lv_sub hl [1, 2, 0] rfl) h
theorem w_layWord_29 {g : Nat} (C : CallFix p m c cX13_layWord 5 s args tb RX13) (hr : meth.sig.returnType = none) (hk : meth.locks = false) {S' : St} (n : Nat) : ∀ (S : St) (x3 : Int32) (x4 : Int32) (H : Heap) (locs : List Loc) (ls : Array Slot), Wn Ym D T ρ S A s H locs → lv_has ls 5 [(0, .ref (ρ 0)), (3, .int x3), (4, .int x4)] → m_layWord_29 g n S x3 x4 = some S' → W p l e (rmN 3 72) s m args below meth c H locs 0 0 (MQ below (Qv Ym D T ρ A S') args s 0 0 A) (F0 m 29 ls []) := by
  induction n with
  | zero => intro S x3 x4 H locs ls w hl h; exact absurd h (fun q => by cases q)
  | succ n ih => intro S x3 x4 H locs ls w hl h; exact wb_layWord_29 C hr hk ih w hl h
set_option maxRecDepth 100000 in
set_option maxHeartbeats 4000000 in
theorem w_layWord_0  {g : Nat} {S : St} {x1 : Int32} (C : CallFix p m c cX13_layWord 5 s args tb RX13) (hr : meth.sig.returnType = none) (hk : meth.locks = false) {S' : St} (w : Wn Ym D T ρ S A s H locs) (hl : lv_has ls 5 [(0, .ref (ρ 0)), (1, .int x1)]) (h : m_layWord g S x1 = some S') : W p l e (rmN 3 72) s m args below meth c H locs 0 0 (MQ below (Qv Ym D T ρ A S') args s 0 0 A) (F0 m 0 ls []) := by
  unfold m_layWord at h
  refine lv_aload_n C.1 C.2.1 dX13_layWord_0 rfl (lv_at hl 0 rfl) ?_
  refine x_getC C w 8 fM144 obM rfl dX13_layWord_1 ?_
  refine lv_iload_n C.1 C.2.1 dX13_layWord_4 rfl (lv_at hl 1 rfl) ?_
  obtain ⟨v_1, hv_1, h⟩ := bnd h
  refine x_iald C w obM8 hv_1 dX13_layWord_5 ?_
  refine lv_istore_n (lv' := [(2, .int v_1), (0, .ref (ρ 0)), (1, .int x1)]) C.1 C.2.1 dX13_layWord_6 rfl hl (by decide) rfl (fun ls hl => ?_)
  refine lv_iload_n C.1 C.2.1 dX13_layWord_7 rfl (lv_at hl 0 rfl) ?_
  refine lv_iconst (v := 3) C.1 C.2.1 dX13_layWord_8 (by decide) ?_
  refine lv_icmp_ne (tgt := 71) C.1 C.2.1 dX13_layWord_9 (by decide) (fun hc => ?_) (fun hc => ?_)
  · replace h := iff0 hc h
    refine lv_iload_n C.1 C.2.1 dX13_layWord_71 rfl (lv_at hl 0 rfl) ?_
    refine lv_iconst (v := 5) C.1 C.2.1 dX13_layWord_72 (by decide) ?_
    refine lv_icmp_eq (tgt := 82) C.1 C.2.1 dX13_layWord_73 (by decide) (fun hc => ?_) (fun hc => ?_)
    · replace h := ift hc h
      exact w_layWord_82 C hr hk w (lv_sub hl [1, 2, 0] rfl) h
    · replace h := iff0 hc h
      refine lv_iload_n C.1 C.2.1 dX13_layWord_76 rfl (lv_at hl 0 rfl) ?_
      refine lv_bipush (v := 6) C.1 C.2.1 dX13_layWord_77 (by decide) ?_
      refine lv_icmp_ne (tgt := 88) C.1 C.2.1 dX13_layWord_79 (by decide) (fun hc => ?_) (fun hc => ?_)
      · replace h := iff0 hc h
        exact w_layWord_88 C hr hk w (lv_sub hl [1, 2, 0] rfl) h
      · replace h := ift hc h
        exact w_layWord_82 C hr hk w (lv_sub hl [1, 2, 0] rfl) h
  · replace h := ift hc h
    refine lv_aload_n C.1 C.2.1 dX13_layWord_12 rfl (lv_at hl 1 rfl) ?_
    refine x_getC C w 10 fM150 obM rfl dX13_layWord_13 ?_
    refine lv_iload_n C.1 C.2.1 dX13_layWord_16 rfl (lv_at hl 2 rfl) ?_
    obtain ⟨v_2, hv_2, h⟩ := bnd h
    refine x_lald C w obM10 hv_2 dX13_layWord_17 ?_
    refine lv_l2i C.1 C.2.1 dX13_layWord_18 rfl ?_
    obtain ⟨x3_3, ex3_3, h⟩ := lt_e h
    refine x_nm ex3_3 ?_
    refine lv_istore_n (lv' := [(3, .int x3_3), (2, .int v_1), (0, .ref (ρ 0)), (1, .int x1)]) C.1 C.2.1 dX13_layWord_19 rfl hl (by decide) rfl (fun ls hl => ?_)
    refine lv_aload_n C.1 C.2.1 dX13_layWord_20 rfl (lv_at hl 2 rfl) ?_
    refine lv_bipush (v := 34) C.1 C.2.1 dX13_layWord_21 (by decide) ?_
    obtain ⟨S_4, hS_4, h⟩ := bnd h
    refine x_callVv (q := (RX13, TX13, 68)) (As := [.int (34 : Int32)]) (rest := []) C w (k_lay l D T ρ g H.size S hS_4) vM715 ⟨by decide, by decide⟩ obM (by decide) rfl rfl rfl hl.1 (Nat.le_of_ble_eq_true rfl) ⟨Nat.zero_le _, Nat.zero_le _⟩ dX13_layWord_23 (fun H locs w => ?_)
    refine lv_iconst (v := 0) C.1 C.2.1 dX13_layWord_26 (by decide) ?_
    refine lv_istore (lv' := [(4, .int (0 : Int32)), (3, .int x3_3), (2, .int v_1), (0, .ref (ρ 0)), (1, .int x1)]) C.1 C.2.1 dX13_layWord_27 hl (by decide) rfl (fun ls hl => ?_)
    exact w_layWord_29 C hr hk g _ _ _ _ _ _ w (lv_sub hl [3, 1, 0] rfl) h
end S_layWord
set_option maxRecDepth 100000 in
theorem k_layWord (l : Launch) (D : va_G) (T : Cy) (ρ : Nat → Nat) (g sz : Nat) (S : St) {x1 : Int32} {S' : St} (h : m_layWord g S x1 = some S') : Mv l Ym D T ρ yX13_layWord cX13_layWord 5 none 3 72 S S' [.ref (ρ 0), .int x1] sz :=
  x_in (by decide) (Nat.le_of_ble_eq_true rfl) (fun p e s m below meth c ls C hr hk w hl => w_layWord_0 C hr hk w hl h)

theorem dX13_spelled_0 : decode cX13_spelled 0 = .ok (.aload_n 0, 1) := by decide +kernel
theorem dX13_spelled_1 : decode cX13_spelled 1 = .ok (.iload_n 1, 1) := by decide +kernel
theorem dX13_spelled_2 : decode cX13_spelled 2 = .ok (.invokevirtual 709, 3) := by decide +kernel
theorem dX13_spelled_5 : decode cX13_spelled 5 = .ok (.ifCond .ne 5, 3) := by decide +kernel
theorem dX13_spelled_8 : decode cX13_spelled 8 = .ok (.iconst (-1), 1) := by decide +kernel
theorem dX13_spelled_9 : decode cX13_spelled 9 = .ok (.ireturn, 1) := by decide +kernel
theorem dX13_spelled_10 : decode cX13_spelled 10 = .ok (.aload_n 0, 1) := by decide +kernel
theorem dX13_spelled_11 : decode cX13_spelled 11 = .ok (.iconst 0, 1) := by decide +kernel
theorem dX13_spelled_12 : decode cX13_spelled 12 = .ok (.putfield 712, 3) := by decide +kernel
theorem dX13_spelled_15 : decode cX13_spelled 15 = .ok (.aload_n 0, 1) := by decide +kernel
theorem dX13_spelled_16 : decode cX13_spelled 16 = .ok (.aload_n 0, 1) := by decide +kernel
theorem dX13_spelled_17 : decode cX13_spelled 17 = .ok (.getfield 138, 3) := by decide +kernel
theorem dX13_spelled_20 : decode cX13_spelled 20 = .ok (.iload_n 1, 1) := by decide +kernel
theorem dX13_spelled_21 : decode cX13_spelled 21 = .ok (.iaload, 1) := by decide +kernel
theorem dX13_spelled_22 : decode cX13_spelled 22 = .ok (.invokevirtual 724, 3) := by decide +kernel
theorem dX13_spelled_25 : decode cX13_spelled 25 = .ok (.iconst 0, 1) := by decide +kernel
theorem dX13_spelled_26 : decode cX13_spelled 26 = .ok (.istore_n 3, 1) := by decide +kernel
theorem dX13_spelled_27 : decode cX13_spelled 27 = .ok (.iload_n 3, 1) := by decide +kernel
theorem dX13_spelled_28 : decode cX13_spelled 28 = .ok (.aload_n 0, 1) := by decide +kernel
theorem dX13_spelled_29 : decode cX13_spelled 29 = .ok (.getfield 141, 3) := by decide +kernel
theorem dX13_spelled_32 : decode cX13_spelled 32 = .ok (.iload_n 1, 1) := by decide +kernel
theorem dX13_spelled_33 : decode cX13_spelled 33 = .ok (.iaload, 1) := by decide +kernel
theorem dX13_spelled_34 : decode cX13_spelled 34 = .ok (.if_icmp .ge 25, 3) := by decide +kernel
theorem dX13_spelled_37 : decode cX13_spelled 37 = .ok (.aload_n 0, 1) := by decide +kernel
theorem dX13_spelled_38 : decode cX13_spelled 38 = .ok (.bipush 32, 2) := by decide +kernel
theorem dX13_spelled_40 : decode cX13_spelled 40 = .ok (.invokevirtual 715, 3) := by decide +kernel
theorem dX13_spelled_43 : decode cX13_spelled 43 = .ok (.aload_n 0, 1) := by decide +kernel
theorem dX13_spelled_44 : decode cX13_spelled 44 = .ok (.bipush 10, 2) := by decide +kernel
theorem dX13_spelled_46 : decode cX13_spelled 46 = .ok (.iload_n 1, 1) := by decide +kernel
theorem dX13_spelled_47 : decode cX13_spelled 47 = .ok (.imul, 1) := by decide +kernel
theorem dX13_spelled_48 : decode cX13_spelled 48 = .ok (.iload_n 3, 1) := by decide +kernel
theorem dX13_spelled_49 : decode cX13_spelled 49 = .ok (.iadd, 1) := by decide +kernel
theorem dX13_spelled_50 : decode cX13_spelled 50 = .ok (.invokevirtual 727, 3) := by decide +kernel
theorem dX13_spelled_53 : decode cX13_spelled 53 = .ok (.iinc 3 1, 3) := by decide +kernel
theorem dX13_spelled_56 : decode cX13_spelled 56 = .ok (.goto (-29), 3) := by decide +kernel
theorem dX13_spelled_59 : decode cX13_spelled 59 = .ok (.iload_n 2, 1) := by decide +kernel
theorem dX13_spelled_60 : decode cX13_spelled 60 = .ok (.i2l, 1) := by decide +kernel
theorem dX13_spelled_61 : decode cX13_spelled 61 = .ok (.lconst 0, 1) := by decide +kernel
theorem dX13_spelled_62 : decode cX13_spelled 62 = .ok (.aload_n 0, 1) := by decide +kernel
theorem dX13_spelled_63 : decode cX13_spelled 63 = .ok (.getfield 712, 3) := by decide +kernel
theorem dX13_spelled_66 : decode cX13_spelled 66 = .ok (.iconst 1, 1) := by decide +kernel
theorem dX13_spelled_67 : decode cX13_spelled 67 = .ok (.isub, 1) := by decide +kernel
theorem dX13_spelled_68 : decode cX13_spelled 68 = .ok (.i2l, 1) := by decide +kernel
theorem dX13_spelled_69 : decode cX13_spelled 69 = .ok (.invokestatic 318, 3) := by decide +kernel
theorem dX13_spelled_72 : decode cX13_spelled 72 = .ok (.ifCond .eq 12, 3) := by decide +kernel
theorem dX13_spelled_75 : decode cX13_spelled 75 = .ok (.aload_n 0, 1) := by decide +kernel
theorem dX13_spelled_76 : decode cX13_spelled 76 = .ok (.getfield 241, 3) := by decide +kernel
theorem dX13_spelled_79 : decode cX13_spelled 79 = .ok (.iload_n 2, 1) := by decide +kernel
theorem dX13_spelled_80 : decode cX13_spelled 80 = .ok (.iaload, 1) := by decide +kernel
theorem dX13_spelled_81 : decode cX13_spelled 81 = .ok (.goto 4, 3) := by decide +kernel
theorem dX13_spelled_84 : decode cX13_spelled 84 = .ok (.iconst (-1), 1) := by decide +kernel
theorem dX13_spelled_85 : decode cX13_spelled 85 = .ok (.ireturn, 1) := by decide +kernel
def b_spelled_27 (g : Nat) (k27 : St → Int32 → Int32 → Int32 → Option (St × Int32)) (S : St) (x1 : Int32) (x2 : Int32) (x3 : Int32) : Option (St × Int32) :=
(aI S 7 x1).bind fun v_5 =>
if v_5 ≤ x3 then (
  (m_isIn g (x2.toInt64) (0 : Int64) (((gI S 0 67) - (1 : Int32)).toInt64)).bind fun v_6 =>
  if v_6 = 0 then (
    some (S, (-1 : Int32))
  ) else (
    (aI S 40 x2).bind fun v_7 =>
    some (S, v_7)
  )
) else (
  (m_lay g S (32 : Int32)).bind fun S_8 =>
  (m_layWord g S_8 (((10 : Int32) * x1) + x3)).bind fun S_9 =>
  lt (x3 + (1 : Int32)) fun x3_10 =>
  k27 S_9 x1 x2 x3_10
)
def m_spelled_27 (g : Nat) : Nat → St → Int32 → Int32 → Int32 → Option (St × Int32)
  | 0, _, _, _, _ => none
  | n + 1, S, x1, x2, x3 => b_spelled_27 g (m_spelled_27 g n) S x1 x2 x3
def m_spelled (g : Nat) (S : St) (x1 : Int32) (x2 : Int32) : Option (St × Int32) :=
(m_isStep g S x1).bind fun v_1 =>
if v_1 = 0 then (
  some (S, (-1 : Int32))
) else (
  lt (sI S 0 67 (0 : Int32)) fun S_2 =>
  (aI S_2 6 x1).bind fun v_3 =>
  (m_layName g S_2 v_3).bind fun S_4 =>
  m_spelled_27 g g S_4 x1 x2 (0 : Int32)
)
section S_spelled
variable {p : Program} {l : Launch} {e : Env} {s : State} {m : MethodId} {args : Array Value} {below : List Frame} {meth : Method} {c : Code} {H : Heap} {locs : List Loc} {ls : Array Slot} {D : va_G} {T : Cy} {ρ : Nat → Nat} {A : Nat → Prop}
set_option maxRecDepth 100000 in
set_option maxHeartbeats 4000000 in
theorem wb_spelled_27  {g : Nat} {S : St} {x1 : Int32} {x2 : Int32} {x3 : Int32} (C : CallFix p m c cX13_spelled 4 s args tb RX13) (hr : meth.sig.returnType = (some .int)) (hk : meth.locks = false) {S' : St} {r : Int32} {k27 : St → Int32 → Int32 → Int32 → Option (St × Int32)} (kk27 : ∀ (S : St) (x1 : Int32) (x2 : Int32) (x3 : Int32) (H : Heap) (locs : List Loc) (ls : Array Slot), Wn Ym D T ρ S A s H locs → lv_has ls 4 [(0, .ref (ρ 0)), (1, .int x1), (2, .int x2), (3, .int x3)] → k27 S x1 x2 x3 = some (S', r) → W p l e (rmN 4 96) s m args below meth c H locs 0 0 (MQ below (Qi Ym D T ρ A S' r) args s 0 0 A) (F0 m 27 ls [])) (w : Wn Ym D T ρ S A s H locs) (hl : lv_has ls 4 [(0, .ref (ρ 0)), (1, .int x1), (2, .int x2), (3, .int x3)]) (h : b_spelled_27 g k27 S x1 x2 x3 = some (S', r)) : W p l e (rmN 4 96) s m args below meth c H locs 0 0 (MQ below (Qi Ym D T ρ A S' r) args s 0 0 A) (F0 m 27 ls []) := by
  unfold b_spelled_27 at h
  refine lv_iload_n C.1 C.2.1 dX13_spelled_27 rfl (lv_at hl 3 rfl) ?_
  refine lv_aload_n C.1 C.2.1 dX13_spelled_28 rfl (lv_at hl 0 rfl) ?_
  refine x_getC C w 7 fM141 obM rfl dX13_spelled_29 ?_
  refine lv_iload_n C.1 C.2.1 dX13_spelled_32 rfl (lv_at hl 1 rfl) ?_
  obtain ⟨v_5, hv_5, h⟩ := bnd h
  refine x_iald C w obM7 hv_5 dX13_spelled_33 ?_
  refine lv_icmp_ge (tgt := 59) C.1 C.2.1 dX13_spelled_34 (by decide) (fun hc => ?_) (fun hc => ?_)
  · replace h := ift hc h
    refine lv_iload_n C.1 C.2.1 dX13_spelled_59 rfl (lv_at hl 2 rfl) ?_
    refine lv_i2l C.1 C.2.1 dX13_spelled_60 rfl ?_
    refine lv_lconst (v := 0) C.1 C.2.1 dX13_spelled_61 (by decide) ?_
    refine lv_aload_n C.1 C.2.1 dX13_spelled_62 rfl (lv_at hl 0 rfl) ?_
    refine x_getI C w fM712 obM dX13_spelled_63 ?_
    refine lv_iconst (v := 1) C.1 C.2.1 dX13_spelled_66 (by decide) ?_
    refine lv_isub C.1 C.2.1 dX13_spelled_67 ?_
    refine lv_i2l C.1 C.2.1 dX13_spelled_68 rfl ?_
    obtain ⟨v_6, hv_6, h⟩ := bnd h
    refine x_callSi (As := [.long (x2.toInt64), .long (0 : Int64), .long (((gI S 0 67) - (1 : Int32)).toInt64)]) (rest := []) C w (k_isIn l D T ρ g H.size S hv_6) vM318 ⟨by decide, by decide⟩ rfl rfl hl.1 (Nat.le_of_ble_eq_true rfl) ⟨Nat.zero_le _, Nat.zero_le _⟩ dX13_spelled_69 (fun H locs w => ?_)
    refine lv_if_eq (tgt := 84) C.1 C.2.1 dX13_spelled_72 (by decide) (fun hc => ?_) (fun hc => ?_)
    · replace h := ift hc h
      refine lv_iconst (v := (-1)) C.1 C.2.1 dX13_spelled_84 (by decide) ?_
      obtain ⟨rfl, rfl⟩ := prI h
      exact x_iret C w hr hk dX13_spelled_85
    · replace h := iff0 hc h
      refine lv_aload_n C.1 C.2.1 dX13_spelled_75 rfl (lv_at hl 0 rfl) ?_
      refine x_getC C w 40 fM241 obM rfl dX13_spelled_76 ?_
      refine lv_iload_n C.1 C.2.1 dX13_spelled_79 rfl (lv_at hl 2 rfl) ?_
      obtain ⟨v_7, hv_7, h⟩ := bnd h
      refine x_iald C w obM40 hv_7 dX13_spelled_80 ?_
      refine lv_goto (tgt := 85) C.1 C.2.1 dX13_spelled_81 (by decide) ?_
      obtain ⟨rfl, rfl⟩ := prI h
      exact x_iret C w hr hk dX13_spelled_85
  · replace h := iff0 hc h
    refine lv_aload_n C.1 C.2.1 dX13_spelled_37 rfl (lv_at hl 0 rfl) ?_
    refine lv_bipush (v := 32) C.1 C.2.1 dX13_spelled_38 (by decide) ?_
    obtain ⟨S_8, hS_8, h⟩ := bnd h
    refine x_callVv (q := (RX13, TX13, 68)) (As := [.int (32 : Int32)]) (rest := []) C w (k_lay l D T ρ g H.size S hS_8) vM715 ⟨by decide, by decide⟩ obM (by decide) rfl rfl rfl hl.1 (Nat.le_of_ble_eq_true rfl) ⟨Nat.zero_le _, Nat.zero_le _⟩ dX13_spelled_40 (fun H locs w => ?_)
    refine lv_aload_n C.1 C.2.1 dX13_spelled_43 rfl (lv_at hl 0 rfl) ?_
    refine lv_bipush (v := 10) C.1 C.2.1 dX13_spelled_44 (by decide) ?_
    refine lv_iload_n C.1 C.2.1 dX13_spelled_46 rfl (lv_at hl 1 rfl) ?_
    refine lv_imul C.1 C.2.1 dX13_spelled_47 ?_
    refine lv_iload_n C.1 C.2.1 dX13_spelled_48 rfl (lv_at hl 3 rfl) ?_
    refine lv_iadd C.1 C.2.1 dX13_spelled_49 ?_
    obtain ⟨S_9, hS_9, h⟩ := bnd h
    refine x_callVv (q := (RX13, TX13, 68)) (As := [.int (((10 : Int32) * x1) + x3)]) (rest := []) C w (k_layWord l D T ρ g H.size S_8 hS_9) vM727 ⟨by decide, by decide⟩ obM (by decide) rfl rfl rfl hl.1 (Nat.le_of_ble_eq_true rfl) ⟨Nat.zero_le _, Nat.zero_le _⟩ dX13_spelled_50 (fun H locs w => ?_)
    obtain ⟨x3_10, ex3_10, h⟩ := lt_e h
    refine lv_iinc (v := x3_10) (lv' := [(3, .int x3_10), (0, .ref (ρ 0)), (1, .int x1), (2, .int x2)]) C.1 C.2.1 dX13_spelled_53 hl (k := 3) rfl (by rw [ex3_10]; rfl) (by decide) rfl (fun ls hl => ?_)
    refine lv_goto (tgt := 27) C.1 C.2.1 dX13_spelled_56 (by decide) ?_
    exact kk27 _ _ _ _ _ _ _ w (lv_sub hl [1, 2, 3, 0] rfl) h
theorem w_spelled_27 {g : Nat} (C : CallFix p m c cX13_spelled 4 s args tb RX13) (hr : meth.sig.returnType = (some .int)) (hk : meth.locks = false) {S' : St} {r : Int32} (n : Nat) : ∀ (S : St) (x1 : Int32) (x2 : Int32) (x3 : Int32) (H : Heap) (locs : List Loc) (ls : Array Slot), Wn Ym D T ρ S A s H locs → lv_has ls 4 [(0, .ref (ρ 0)), (1, .int x1), (2, .int x2), (3, .int x3)] → m_spelled_27 g n S x1 x2 x3 = some (S', r) → W p l e (rmN 4 96) s m args below meth c H locs 0 0 (MQ below (Qi Ym D T ρ A S' r) args s 0 0 A) (F0 m 27 ls []) := by
  induction n with
  | zero => intro S x1 x2 x3 H locs ls w hl h; exact absurd h (fun q => by cases q)
  | succ n ih => intro S x1 x2 x3 H locs ls w hl h; exact wb_spelled_27 C hr hk ih w hl h
set_option maxRecDepth 100000 in
set_option maxHeartbeats 4000000 in
theorem w_spelled_0  {g : Nat} {S : St} {x1 : Int32} {x2 : Int32} (C : CallFix p m c cX13_spelled 4 s args tb RX13) (hr : meth.sig.returnType = (some .int)) (hk : meth.locks = false) {S' : St} {r : Int32} (w : Wn Ym D T ρ S A s H locs) (hl : lv_has ls 4 [(0, .ref (ρ 0)), (1, .int x1), (2, .int x2)]) (h : m_spelled g S x1 x2 = some (S', r)) : W p l e (rmN 4 96) s m args below meth c H locs 0 0 (MQ below (Qi Ym D T ρ A S' r) args s 0 0 A) (F0 m 0 ls []) := by
  unfold m_spelled at h
  refine lv_aload_n C.1 C.2.1 dX13_spelled_0 rfl (lv_at hl 0 rfl) ?_
  refine lv_iload_n C.1 C.2.1 dX13_spelled_1 rfl (lv_at hl 1 rfl) ?_
  obtain ⟨v_1, hv_1, h⟩ := bnd h
  refine x_callVi (q := (RX13, TX13, 68)) (As := [.int x1]) (rest := []) C w (k_isStep l D T ρ g H.size S hv_1) vM709 ⟨by decide, by decide⟩ obM (by decide) rfl rfl rfl hl.1 (Nat.le_of_ble_eq_true rfl) ⟨Nat.zero_le _, Nat.zero_le _⟩ dX13_spelled_2 (fun H locs w => ?_)
  refine lv_if_ne (tgt := 10) C.1 C.2.1 dX13_spelled_5 (by decide) (fun hc => ?_) (fun hc => ?_)
  · replace h := iff0 hc h
    refine lv_aload_n C.1 C.2.1 dX13_spelled_10 rfl (lv_at hl 0 rfl) ?_
    refine lv_iconst (v := 0) C.1 C.2.1 dX13_spelled_11 (by decide) ?_
    obtain ⟨S_2, eS_2, h⟩ := lt_e h
    refine y_putI C w eS_2 fM712 pM67 obM dX13_spelled_12 (fun H locs w => ?_)
    refine lv_aload_n C.1 C.2.1 dX13_spelled_15 rfl (lv_at hl 0 rfl) ?_
    refine lv_aload_n C.1 C.2.1 dX13_spelled_16 rfl (lv_at hl 0 rfl) ?_
    refine x_getC C w 6 fM138 obM rfl dX13_spelled_17 ?_
    refine lv_iload_n C.1 C.2.1 dX13_spelled_20 rfl (lv_at hl 1 rfl) ?_
    obtain ⟨v_3, hv_3, h⟩ := bnd h
    refine x_iald C w obM6 hv_3 dX13_spelled_21 ?_
    obtain ⟨S_4, hS_4, h⟩ := bnd h
    refine x_callVv (q := (RX13, TX13, 68)) (As := [.int v_3]) (rest := []) C w (k_layName l D T ρ g H.size S_2 hS_4) vM724 ⟨by decide, by decide⟩ obM (by decide) rfl rfl rfl hl.1 (Nat.le_of_ble_eq_true rfl) ⟨Nat.zero_le _, Nat.zero_le _⟩ dX13_spelled_22 (fun H locs w => ?_)
    refine lv_iconst (v := 0) C.1 C.2.1 dX13_spelled_25 (by decide) ?_
    refine lv_istore_n (lv' := [(3, .int (0 : Int32)), (0, .ref (ρ 0)), (1, .int x1), (2, .int x2)]) C.1 C.2.1 dX13_spelled_26 rfl hl (by decide) rfl (fun ls hl => ?_)
    exact w_spelled_27 C hr hk g _ _ _ _ _ _ _ w (lv_sub hl [1, 2, 3, 0] rfl) h
  · replace h := ift hc h
    refine lv_iconst (v := (-1)) C.1 C.2.1 dX13_spelled_8 (by decide) ?_
    obtain ⟨rfl, rfl⟩ := prI h
    exact x_iret C w hr hk dX13_spelled_9
end S_spelled
set_option maxRecDepth 100000 in
theorem k_spelled (l : Launch) (D : va_G) (T : Cy) (ρ : Nat → Nat) (g sz : Nat) (S : St) {x1 : Int32} {x2 : Int32} {S' : St} {r : Int32} (h : m_spelled g S x1 x2 = some (S', r)) : Mi l Ym D T ρ yX13_spelled cX13_spelled 4 (some .int) 4 96 S S' r [.ref (ρ 0), .int x1, .int x2] sz :=
  x_in (by decide) (Nat.le_of_ble_eq_true rfl) (fun p e s m below meth c ls C hr hk w hl => w_spelled_0 C hr hk w hl h)

theorem dX13_textOf_0 : decode cX13_textOf 0 = .ok (.iload_n 1, 1) := by decide +kernel
theorem dX13_textOf_1 : decode cX13_textOf 1 = .ok (.i2l, 1) := by decide +kernel
theorem dX13_textOf_2 : decode cX13_textOf 2 = .ok (.lconst 0, 1) := by decide +kernel
theorem dX13_textOf_3 : decode cX13_textOf 3 = .ok (.ldc2_w 730, 3) := by decide +kernel
theorem dX13_textOf_6 : decode cX13_textOf 6 = .ok (.invokestatic 318, 3) := by decide +kernel
theorem dX13_textOf_9 : decode cX13_textOf 9 = .ok (.ifCond .eq 12, 3) := by decide +kernel
theorem dX13_textOf_12 : decode cX13_textOf 12 = .ok (.aload_n 0, 1) := by decide +kernel
theorem dX13_textOf_13 : decode cX13_textOf 13 = .ok (.getfield 199, 3) := by decide +kernel
theorem dX13_textOf_16 : decode cX13_textOf 16 = .ok (.iload_n 1, 1) := by decide +kernel
theorem dX13_textOf_17 : decode cX13_textOf 17 = .ok (.iaload, 1) := by decide +kernel
theorem dX13_textOf_18 : decode cX13_textOf 18 = .ok (.goto 4, 3) := by decide +kernel
theorem dX13_textOf_21 : decode cX13_textOf 21 = .ok (.iconst (-1), 1) := by decide +kernel
theorem dX13_textOf_22 : decode cX13_textOf 22 = .ok (.ireturn, 1) := by decide +kernel
def m_textOf (g : Nat) (S : St) (x1 : Int32) : Option Int32 :=
(m_isIn g (x1.toInt64) (0 : Int64) (19 : Int64)).bind fun v_1 =>
if v_1 = 0 then (
  some (-1 : Int32)
) else (
  (aI S 26 x1).bind fun v_2 =>
  some v_2
)
section S_textOf
variable {p : Program} {l : Launch} {e : Env} {s : State} {m : MethodId} {args : Array Value} {below : List Frame} {meth : Method} {c : Code} {H : Heap} {locs : List Loc} {ls : Array Slot} {D : va_G} {T : Cy} {ρ : Nat → Nat} {A : Nat → Prop}
set_option maxRecDepth 100000 in
set_option maxHeartbeats 4000000 in
theorem w_textOf_0  {g : Nat} {S : St} {x1 : Int32} (C : CallFix p m c cX13_textOf 2 s args tb RX13) (hr : meth.sig.returnType = (some .int)) (hk : meth.locks = false) {r : Int32} (w : Wn Ym D T ρ S A s H locs) (hl : lv_has ls 2 [(0, .ref (ρ 0)), (1, .int x1)]) (h : m_textOf g S x1 = some r) : W p l e (rmN 1 25) s m args below meth c H locs 0 0 (MQ below (Qi Ym D T ρ A S r) args s 0 0 A) (F0 m 0 ls []) := by
  unfold m_textOf at h
  refine lv_iload_n C.1 C.2.1 dX13_textOf_0 rfl (lv_at hl 1 rfl) ?_
  refine lv_i2l C.1 C.2.1 dX13_textOf_1 rfl ?_
  refine lv_lconst (v := 0) C.1 C.2.1 dX13_textOf_2 (by decide) ?_
  refine lv_ldc2 C.1 C.2.1 C.2.2.2.1 (C.2.2.2.2 _ nM730) dX13_textOf_3 ?_
  obtain ⟨v_1, hv_1, h⟩ := bnd h
  refine x_callSi (As := [.long (x1.toInt64), .long (0 : Int64), .long (19 : Int64)]) (rest := []) C w (k_isIn l D T ρ g H.size S hv_1) vM318 ⟨by decide, by decide⟩ rfl rfl hl.1 (Nat.le_of_ble_eq_true rfl) ⟨Nat.zero_le _, Nat.zero_le _⟩ dX13_textOf_6 (fun H locs w => ?_)
  refine lv_if_eq (tgt := 21) C.1 C.2.1 dX13_textOf_9 (by decide) (fun hc => ?_) (fun hc => ?_)
  · replace h := ift hc h
    refine lv_iconst (v := (-1)) C.1 C.2.1 dX13_textOf_21 (by decide) ?_
    obtain rfl := som h
    exact x_iret C w hr hk dX13_textOf_22
  · replace h := iff0 hc h
    refine lv_aload_n C.1 C.2.1 dX13_textOf_12 rfl (lv_at hl 0 rfl) ?_
    refine x_getC C w 26 fM199 obM rfl dX13_textOf_13 ?_
    refine lv_iload_n C.1 C.2.1 dX13_textOf_16 rfl (lv_at hl 1 rfl) ?_
    obtain ⟨v_2, hv_2, h⟩ := bnd h
    refine x_iald C w obM26 hv_2 dX13_textOf_17 ?_
    refine lv_goto (tgt := 22) C.1 C.2.1 dX13_textOf_18 (by decide) ?_
    obtain rfl := som h
    exact x_iret C w hr hk dX13_textOf_22
end S_textOf
set_option maxRecDepth 100000 in
theorem k_textOf (l : Launch) (D : va_G) (T : Cy) (ρ : Nat → Nat) (g sz : Nat) (S : St) {x1 : Int32} {r : Int32} (h : m_textOf g S x1 = some r) : Mi l Ym D T ρ yX13_textOf cX13_textOf 2 (some .int) 1 25 S S r [.ref (ρ 0), .int x1] sz :=
  x_in (by decide) (Nat.le_of_ble_eq_true rfl) (fun p e s m below meth c ls C hr hk w hl => w_textOf_0 C hr hk w hl h)

theorem dX13_length_0 : decode cX13_length 0 = .ok (.aload_n 0, 1) := by decide +kernel
theorem dX13_length_1 : decode cX13_length 1 = .ok (.iload_n 1, 1) := by decide +kernel
theorem dX13_length_2 : decode cX13_length 2 = .ok (.invokevirtual 732, 3) := by decide +kernel
theorem dX13_length_5 : decode cX13_length 5 = .ok (.istore_n 2, 1) := by decide +kernel
theorem dX13_length_6 : decode cX13_length 6 = .ok (.iload_n 2, 1) := by decide +kernel
theorem dX13_length_7 : decode cX13_length 7 = .ok (.ifCond .ge 7, 3) := by decide +kernel
theorem dX13_length_10 : decode cX13_length 10 = .ok (.iconst (-1), 1) := by decide +kernel
theorem dX13_length_11 : decode cX13_length 11 = .ok (.goto 9, 3) := by decide +kernel
theorem dX13_length_14 : decode cX13_length 14 = .ok (.aload_n 0, 1) := by decide +kernel
theorem dX13_length_15 : decode cX13_length 15 = .ok (.getfield 193, 3) := by decide +kernel
theorem dX13_length_18 : decode cX13_length 18 = .ok (.iload_n 2, 1) := by decide +kernel
theorem dX13_length_19 : decode cX13_length 19 = .ok (.iaload, 1) := by decide +kernel
theorem dX13_length_20 : decode cX13_length 20 = .ok (.ireturn, 1) := by decide +kernel
def m_length (g : Nat) (S : St) (x1 : Int32) : Option Int32 :=
(m_textOf g S x1).bind fun v_1 =>
if 0 ≤ v_1 then (
  (aI S 24 v_1).bind fun v_2 =>
  some v_2
) else (
  some (-1 : Int32)
)
section S_length
variable {p : Program} {l : Launch} {e : Env} {s : State} {m : MethodId} {args : Array Value} {below : List Frame} {meth : Method} {c : Code} {H : Heap} {locs : List Loc} {ls : Array Slot} {D : va_G} {T : Cy} {ρ : Nat → Nat} {A : Nat → Prop}
set_option maxRecDepth 100000 in
set_option maxHeartbeats 4000000 in
theorem w_length_0  {g : Nat} {S : St} {x1 : Int32} (C : CallFix p m c cX13_length 3 s args tb RX13) (hr : meth.sig.returnType = (some .int)) (hk : meth.locks = false) {r : Int32} (w : Wn Ym D T ρ S A s H locs) (hl : lv_has ls 3 [(0, .ref (ρ 0)), (1, .int x1)]) (h : m_length g S x1 = some r) : W p l e (rmN 2 46) s m args below meth c H locs 0 0 (MQ below (Qi Ym D T ρ A S r) args s 0 0 A) (F0 m 0 ls []) := by
  unfold m_length at h
  refine lv_aload_n C.1 C.2.1 dX13_length_0 rfl (lv_at hl 0 rfl) ?_
  refine lv_iload_n C.1 C.2.1 dX13_length_1 rfl (lv_at hl 1 rfl) ?_
  obtain ⟨v_1, hv_1, h⟩ := bnd h
  refine x_callVi (q := (RX13, TX13, 68)) (As := [.int x1]) (rest := []) C w (k_textOf l D T ρ g H.size S hv_1) vM732 ⟨by decide, by decide⟩ obM (by decide) rfl rfl rfl hl.1 (Nat.le_of_ble_eq_true rfl) ⟨Nat.zero_le _, Nat.zero_le _⟩ dX13_length_2 (fun H locs w => ?_)
  refine lv_istore_n (lv' := [(2, .int v_1), (0, .ref (ρ 0)), (1, .int x1)]) C.1 C.2.1 dX13_length_5 rfl hl (by decide) rfl (fun ls hl => ?_)
  refine lv_iload_n C.1 C.2.1 dX13_length_6 rfl (lv_at hl 0 rfl) ?_
  refine lv_if_ge (tgt := 14) C.1 C.2.1 dX13_length_7 (by decide) (fun hc => ?_) (fun hc => ?_)
  · replace h := ift hc h
    refine lv_aload_n C.1 C.2.1 dX13_length_14 rfl (lv_at hl 1 rfl) ?_
    refine x_getC C w 24 fM193 obM rfl dX13_length_15 ?_
    refine lv_iload_n C.1 C.2.1 dX13_length_18 rfl (lv_at hl 0 rfl) ?_
    obtain ⟨v_2, hv_2, h⟩ := bnd h
    refine x_iald C w obM24 hv_2 dX13_length_19 ?_
    obtain rfl := som h
    exact x_iret C w hr hk dX13_length_20
  · replace h := iff0 hc h
    refine lv_iconst (v := (-1)) C.1 C.2.1 dX13_length_10 (by decide) ?_
    refine lv_goto (tgt := 20) C.1 C.2.1 dX13_length_11 (by decide) ?_
    obtain rfl := som h
    exact x_iret C w hr hk dX13_length_20
end S_length
set_option maxRecDepth 100000 in
theorem k_length (l : Launch) (D : va_G) (T : Cy) (ρ : Nat → Nat) (g sz : Nat) (S : St) {x1 : Int32} {r : Int32} (h : m_length g S x1 = some r) : Mi l Ym D T ρ yX13_length cX13_length 3 (some .int) 2 46 S S r [.ref (ρ 0), .int x1] sz :=
  x_in (by decide) (Nat.le_of_ble_eq_true rfl) (fun p e s m below meth c ls C hr hk w hl => w_length_0 C hr hk w hl h)

theorem dX13_unit_0 : decode cX13_unit 0 = .ok (.aload_n 0, 1) := by decide +kernel
theorem dX13_unit_1 : decode cX13_unit 1 = .ok (.iload_n 1, 1) := by decide +kernel
theorem dX13_unit_2 : decode cX13_unit 2 = .ok (.invokevirtual 732, 3) := by decide +kernel
theorem dX13_unit_5 : decode cX13_unit 5 = .ok (.istore_n 3, 1) := by decide +kernel
theorem dX13_unit_6 : decode cX13_unit 6 = .ok (.iload_n 3, 1) := by decide +kernel
theorem dX13_unit_7 : decode cX13_unit 7 = .ok (.ifCond .lt 21, 3) := by decide +kernel
theorem dX13_unit_10 : decode cX13_unit 10 = .ok (.iload_n 2, 1) := by decide +kernel
theorem dX13_unit_11 : decode cX13_unit 11 = .ok (.i2l, 1) := by decide +kernel
theorem dX13_unit_12 : decode cX13_unit 12 = .ok (.lconst 0, 1) := by decide +kernel
theorem dX13_unit_13 : decode cX13_unit 13 = .ok (.aload_n 0, 1) := by decide +kernel
theorem dX13_unit_14 : decode cX13_unit 14 = .ok (.getfield 193, 3) := by decide +kernel
theorem dX13_unit_17 : decode cX13_unit 17 = .ok (.iload_n 3, 1) := by decide +kernel
theorem dX13_unit_18 : decode cX13_unit 18 = .ok (.iaload, 1) := by decide +kernel
theorem dX13_unit_19 : decode cX13_unit 19 = .ok (.iconst 1, 1) := by decide +kernel
theorem dX13_unit_20 : decode cX13_unit 20 = .ok (.isub, 1) := by decide +kernel
theorem dX13_unit_21 : decode cX13_unit 21 = .ok (.i2l, 1) := by decide +kernel
theorem dX13_unit_22 : decode cX13_unit 22 = .ok (.invokestatic 318, 3) := by decide +kernel
theorem dX13_unit_25 : decode cX13_unit 25 = .ok (.ifCond .ne 7, 3) := by decide +kernel
theorem dX13_unit_28 : decode cX13_unit 28 = .ok (.iconst (-1), 1) := by decide +kernel
theorem dX13_unit_29 : decode cX13_unit 29 = .ok (.goto 9, 3) := by decide +kernel
theorem dX13_unit_32 : decode cX13_unit 32 = .ok (.aload_n 0, 1) := by decide +kernel
theorem dX13_unit_33 : decode cX13_unit 33 = .ok (.iload_n 3, 1) := by decide +kernel
theorem dX13_unit_34 : decode cX13_unit 34 = .ok (.iload_n 2, 1) := by decide +kernel
theorem dX13_unit_35 : decode cX13_unit 35 = .ok (.invokevirtual 470, 3) := by decide +kernel
theorem dX13_unit_38 : decode cX13_unit 38 = .ok (.ireturn, 1) := by decide +kernel
def m_unit (g : Nat) (S : St) (x1 : Int32) (x2 : Int32) : Option Int32 :=
(m_textOf g S x1).bind fun v_1 =>
if v_1 < 0 then (
  some (-1 : Int32)
) else (
  (aI S 24 v_1).bind fun v_2 =>
  (m_isIn g (x2.toInt64) (0 : Int64) ((v_2 - (1 : Int32)).toInt64)).bind fun v_3 =>
  if v_3 = 0 then (
    some (-1 : Int32)
  ) else (
    (m_unitAt g S v_1 x2).bind fun v_4 =>
    some v_4
  )
)
section S_unit
variable {p : Program} {l : Launch} {e : Env} {s : State} {m : MethodId} {args : Array Value} {below : List Frame} {meth : Method} {c : Code} {H : Heap} {locs : List Loc} {ls : Array Slot} {D : va_G} {T : Cy} {ρ : Nat → Nat} {A : Nat → Prop}
set_option maxRecDepth 100000 in
set_option maxHeartbeats 4000000 in
theorem w_unit_0  {g : Nat} {S : St} {x1 : Int32} {x2 : Int32} (C : CallFix p m c cX13_unit 4 s args tb RX13) (hr : meth.sig.returnType = (some .int)) (hk : meth.locks = false) {r : Int32} (w : Wn Ym D T ρ S A s H locs) (hl : lv_has ls 4 [(0, .ref (ρ 0)), (1, .int x1), (2, .int x2)]) (h : m_unit g S x1 x2 = some r) : W p l e (rmN 2 46) s m args below meth c H locs 0 0 (MQ below (Qi Ym D T ρ A S r) args s 0 0 A) (F0 m 0 ls []) := by
  unfold m_unit at h
  refine lv_aload_n C.1 C.2.1 dX13_unit_0 rfl (lv_at hl 0 rfl) ?_
  refine lv_iload_n C.1 C.2.1 dX13_unit_1 rfl (lv_at hl 1 rfl) ?_
  obtain ⟨v_1, hv_1, h⟩ := bnd h
  refine x_callVi (q := (RX13, TX13, 68)) (As := [.int x1]) (rest := []) C w (k_textOf l D T ρ g H.size S hv_1) vM732 ⟨by decide, by decide⟩ obM (by decide) rfl rfl rfl hl.1 (Nat.le_of_ble_eq_true rfl) ⟨Nat.zero_le _, Nat.zero_le _⟩ dX13_unit_2 (fun H locs w => ?_)
  refine lv_istore_n (lv' := [(3, .int v_1), (0, .ref (ρ 0)), (1, .int x1), (2, .int x2)]) C.1 C.2.1 dX13_unit_5 rfl hl (by decide) rfl (fun ls hl => ?_)
  refine lv_iload_n C.1 C.2.1 dX13_unit_6 rfl (lv_at hl 0 rfl) ?_
  refine lv_if_lt (tgt := 28) C.1 C.2.1 dX13_unit_7 (by decide) (fun hc => ?_) (fun hc => ?_)
  · replace h := ift hc h
    refine lv_iconst (v := (-1)) C.1 C.2.1 dX13_unit_28 (by decide) ?_
    refine lv_goto (tgt := 38) C.1 C.2.1 dX13_unit_29 (by decide) ?_
    obtain rfl := som h
    exact x_iret C w hr hk dX13_unit_38
  · replace h := iff0 hc h
    refine lv_iload_n C.1 C.2.1 dX13_unit_10 rfl (lv_at hl 3 rfl) ?_
    refine lv_i2l C.1 C.2.1 dX13_unit_11 rfl ?_
    refine lv_lconst (v := 0) C.1 C.2.1 dX13_unit_12 (by decide) ?_
    refine lv_aload_n C.1 C.2.1 dX13_unit_13 rfl (lv_at hl 1 rfl) ?_
    refine x_getC C w 24 fM193 obM rfl dX13_unit_14 ?_
    refine lv_iload_n C.1 C.2.1 dX13_unit_17 rfl (lv_at hl 0 rfl) ?_
    obtain ⟨v_2, hv_2, h⟩ := bnd h
    refine x_iald C w obM24 hv_2 dX13_unit_18 ?_
    refine lv_iconst (v := 1) C.1 C.2.1 dX13_unit_19 (by decide) ?_
    refine lv_isub C.1 C.2.1 dX13_unit_20 ?_
    refine lv_i2l C.1 C.2.1 dX13_unit_21 rfl ?_
    obtain ⟨v_3, hv_3, h⟩ := bnd h
    refine x_callSi (As := [.long (x2.toInt64), .long (0 : Int64), .long ((v_2 - (1 : Int32)).toInt64)]) (rest := []) C w (k_isIn l D T ρ g H.size S hv_3) vM318 ⟨by decide, by decide⟩ rfl rfl hl.1 (Nat.le_of_ble_eq_true rfl) ⟨Nat.zero_le _, Nat.zero_le _⟩ dX13_unit_22 (fun H locs w => ?_)
    refine lv_if_ne (tgt := 32) C.1 C.2.1 dX13_unit_25 (by decide) (fun hc => ?_) (fun hc => ?_)
    · replace h := iff0 hc h
      refine lv_aload_n C.1 C.2.1 dX13_unit_32 rfl (lv_at hl 1 rfl) ?_
      refine lv_iload_n C.1 C.2.1 dX13_unit_33 rfl (lv_at hl 0 rfl) ?_
      refine lv_iload_n C.1 C.2.1 dX13_unit_34 rfl (lv_at hl 3 rfl) ?_
      obtain ⟨v_4, hv_4, h⟩ := bnd h
      refine x_callVi (q := (RX13, TX13, 68)) (As := [.int v_1, .int x2]) (rest := []) C w (k_unitAt l D T ρ g H.size S hv_4) vM470 ⟨by decide, by decide⟩ obM (by decide) rfl rfl rfl hl.1 (Nat.le_of_ble_eq_true rfl) ⟨Nat.zero_le _, Nat.zero_le _⟩ dX13_unit_35 (fun H locs w => ?_)
      obtain rfl := som h
      exact x_iret C w hr hk dX13_unit_38
    · replace h := ift hc h
      refine lv_iconst (v := (-1)) C.1 C.2.1 dX13_unit_28 (by decide) ?_
      refine lv_goto (tgt := 38) C.1 C.2.1 dX13_unit_29 (by decide) ?_
      obtain rfl := som h
      exact x_iret C w hr hk dX13_unit_38
end S_unit
set_option maxRecDepth 100000 in
theorem k_unit (l : Launch) (D : va_G) (T : Cy) (ρ : Nat → Nat) (g sz : Nat) (S : St) {x1 : Int32} {x2 : Int32} {r : Int32} (h : m_unit g S x1 x2 = some r) : Mi l Ym D T ρ yX13_unit cX13_unit 4 (some .int) 2 46 S S r [.ref (ρ 0), .int x1, .int x2] sz :=
  x_in (by decide) (Nat.le_of_ble_eq_true rfl) (fun p e s m below meth c ls C hr hk w hl => w_unit_0 C hr hk w hl h)

theorem dX13_hash_0 : decode cX13_hash 0 = .ok (.aload_n 0, 1) := by decide +kernel
theorem dX13_hash_1 : decode cX13_hash 1 = .ok (.iload_n 1, 1) := by decide +kernel
theorem dX13_hash_2 : decode cX13_hash 2 = .ok (.invokevirtual 732, 3) := by decide +kernel
theorem dX13_hash_5 : decode cX13_hash 5 = .ok (.istore_n 2, 1) := by decide +kernel
theorem dX13_hash_6 : decode cX13_hash 6 = .ok (.iload_n 2, 1) := by decide +kernel
theorem dX13_hash_7 : decode cX13_hash 7 = .ok (.ifCond .ge 7, 3) := by decide +kernel
theorem dX13_hash_10 : decode cX13_hash 10 = .ok (.iconst 0, 1) := by decide +kernel
theorem dX13_hash_11 : decode cX13_hash 11 = .ok (.goto 8, 3) := by decide +kernel
theorem dX13_hash_14 : decode cX13_hash 14 = .ok (.aload_n 0, 1) := by decide +kernel
theorem dX13_hash_15 : decode cX13_hash 15 = .ok (.iload_n 2, 1) := by decide +kernel
theorem dX13_hash_16 : decode cX13_hash 16 = .ok (.invokevirtual 578, 3) := by decide +kernel
theorem dX13_hash_19 : decode cX13_hash 19 = .ok (.ireturn, 1) := by decide +kernel
def m_hash (g : Nat) (S : St) (x1 : Int32) : Option Int32 :=
(m_textOf g S x1).bind fun v_1 =>
if 0 ≤ v_1 then (
  (m_hashOf g S v_1).bind fun v_2 =>
  some v_2
) else (
  some (0 : Int32)
)
section S_hash
variable {p : Program} {l : Launch} {e : Env} {s : State} {m : MethodId} {args : Array Value} {below : List Frame} {meth : Method} {c : Code} {H : Heap} {locs : List Loc} {ls : Array Slot} {D : va_G} {T : Cy} {ρ : Nat → Nat} {A : Nat → Prop}
set_option maxRecDepth 100000 in
set_option maxHeartbeats 4000000 in
theorem w_hash_0  {g : Nat} {S : St} {x1 : Int32} (C : CallFix p m c cX13_hash 3 s args tb RX13) (hr : meth.sig.returnType = (some .int)) (hk : meth.locks = false) {r : Int32} (w : Wn Ym D T ρ S A s H locs) (hl : lv_has ls 3 [(0, .ref (ρ 0)), (1, .int x1)]) (h : m_hash g S x1 = some r) : W p l e (rmN 2 46) s m args below meth c H locs 0 0 (MQ below (Qi Ym D T ρ A S r) args s 0 0 A) (F0 m 0 ls []) := by
  unfold m_hash at h
  refine lv_aload_n C.1 C.2.1 dX13_hash_0 rfl (lv_at hl 0 rfl) ?_
  refine lv_iload_n C.1 C.2.1 dX13_hash_1 rfl (lv_at hl 1 rfl) ?_
  obtain ⟨v_1, hv_1, h⟩ := bnd h
  refine x_callVi (q := (RX13, TX13, 68)) (As := [.int x1]) (rest := []) C w (k_textOf l D T ρ g H.size S hv_1) vM732 ⟨by decide, by decide⟩ obM (by decide) rfl rfl rfl hl.1 (Nat.le_of_ble_eq_true rfl) ⟨Nat.zero_le _, Nat.zero_le _⟩ dX13_hash_2 (fun H locs w => ?_)
  refine lv_istore_n (lv' := [(2, .int v_1), (0, .ref (ρ 0)), (1, .int x1)]) C.1 C.2.1 dX13_hash_5 rfl hl (by decide) rfl (fun ls hl => ?_)
  refine lv_iload_n C.1 C.2.1 dX13_hash_6 rfl (lv_at hl 0 rfl) ?_
  refine lv_if_ge (tgt := 14) C.1 C.2.1 dX13_hash_7 (by decide) (fun hc => ?_) (fun hc => ?_)
  · replace h := ift hc h
    refine lv_aload_n C.1 C.2.1 dX13_hash_14 rfl (lv_at hl 1 rfl) ?_
    refine lv_iload_n C.1 C.2.1 dX13_hash_15 rfl (lv_at hl 0 rfl) ?_
    obtain ⟨v_2, hv_2, h⟩ := bnd h
    refine x_callVi (q := (RX13, TX13, 68)) (As := [.int v_1]) (rest := []) C w (k_hashOf l D T ρ g H.size S hv_2) vM578 ⟨by decide, by decide⟩ obM (by decide) rfl rfl rfl hl.1 (Nat.le_of_ble_eq_true rfl) ⟨Nat.zero_le _, Nat.zero_le _⟩ dX13_hash_16 (fun H locs w => ?_)
    obtain rfl := som h
    exact x_iret C w hr hk dX13_hash_19
  · replace h := iff0 hc h
    refine lv_iconst (v := 0) C.1 C.2.1 dX13_hash_10 (by decide) ?_
    refine lv_goto (tgt := 19) C.1 C.2.1 dX13_hash_11 (by decide) ?_
    obtain rfl := som h
    exact x_iret C w hr hk dX13_hash_19
end S_hash
set_option maxRecDepth 100000 in
theorem k_hash (l : Launch) (D : va_G) (T : Cy) (ρ : Nat → Nat) (g sz : Nat) (S : St) {x1 : Int32} {r : Int32} (h : m_hash g S x1 = some r) : Mi l Ym D T ρ yX13_hash cX13_hash 3 (some .int) 2 46 S S r [.ref (ρ 0), .int x1] sz :=
  x_in (by decide) (Nat.le_of_ble_eq_true rfl) (fun p e s m below meth c ls C hr hk w hl => w_hash_0 C hr hk w hl h)

theorem dX13_same_0 : decode cX13_same 0 = .ok (.iload_n 1, 1) := by decide +kernel
theorem dX13_same_1 : decode cX13_same 1 = .ok (.i2l, 1) := by decide +kernel
theorem dX13_same_2 : decode cX13_same 2 = .ok (.lconst 0, 1) := by decide +kernel
theorem dX13_same_3 : decode cX13_same 3 = .ok (.ldc2_w 730, 3) := by decide +kernel
theorem dX13_same_6 : decode cX13_same 6 = .ok (.invokestatic 318, 3) := by decide +kernel
theorem dX13_same_9 : decode cX13_same 9 = .ok (.ifCond .eq 15, 3) := by decide +kernel
theorem dX13_same_12 : decode cX13_same 12 = .ok (.iload_n 2, 1) := by decide +kernel
theorem dX13_same_13 : decode cX13_same 13 = .ok (.i2l, 1) := by decide +kernel
theorem dX13_same_14 : decode cX13_same 14 = .ok (.lconst 0, 1) := by decide +kernel
theorem dX13_same_15 : decode cX13_same 15 = .ok (.ldc2_w 730, 3) := by decide +kernel
theorem dX13_same_18 : decode cX13_same 18 = .ok (.invokestatic 318, 3) := by decide +kernel
theorem dX13_same_21 : decode cX13_same 21 = .ok (.ifCond .ne 5, 3) := by decide +kernel
theorem dX13_same_24 : decode cX13_same 24 = .ok (.iconst (-1), 1) := by decide +kernel
theorem dX13_same_25 : decode cX13_same 25 = .ok (.ireturn, 1) := by decide +kernel
theorem dX13_same_26 : decode cX13_same 26 = .ok (.aload_n 0, 1) := by decide +kernel
theorem dX13_same_27 : decode cX13_same 27 = .ok (.getfield 199, 3) := by decide +kernel
theorem dX13_same_30 : decode cX13_same 30 = .ok (.iload_n 1, 1) := by decide +kernel
theorem dX13_same_31 : decode cX13_same 31 = .ok (.iaload, 1) := by decide +kernel
theorem dX13_same_32 : decode cX13_same 32 = .ok (.ifCond .lt 22, 3) := by decide +kernel
theorem dX13_same_35 : decode cX13_same 35 = .ok (.aload_n 0, 1) := by decide +kernel
theorem dX13_same_36 : decode cX13_same 36 = .ok (.getfield 199, 3) := by decide +kernel
theorem dX13_same_39 : decode cX13_same 39 = .ok (.iload_n 1, 1) := by decide +kernel
theorem dX13_same_40 : decode cX13_same 40 = .ok (.iaload, 1) := by decide +kernel
theorem dX13_same_41 : decode cX13_same 41 = .ok (.aload_n 0, 1) := by decide +kernel
theorem dX13_same_42 : decode cX13_same 42 = .ok (.getfield 199, 3) := by decide +kernel
theorem dX13_same_45 : decode cX13_same 45 = .ok (.iload_n 2, 1) := by decide +kernel
theorem dX13_same_46 : decode cX13_same 46 = .ok (.iaload, 1) := by decide +kernel
theorem dX13_same_47 : decode cX13_same 47 = .ok (.if_icmp .ne 7, 3) := by decide +kernel
theorem dX13_same_50 : decode cX13_same 50 = .ok (.iconst 1, 1) := by decide +kernel
theorem dX13_same_51 : decode cX13_same 51 = .ok (.goto 4, 3) := by decide +kernel
theorem dX13_same_54 : decode cX13_same 54 = .ok (.iconst 0, 1) := by decide +kernel
theorem dX13_same_55 : decode cX13_same 55 = .ok (.ireturn, 1) := by decide +kernel
def m_same (g : Nat) (S : St) (x1 : Int32) (x2 : Int32) : Option Int32 :=
(m_isIn g (x1.toInt64) (0 : Int64) (19 : Int64)).bind fun v_1 =>
if v_1 = 0 then (
  some (-1 : Int32)
) else (
  (m_isIn g (x2.toInt64) (0 : Int64) (19 : Int64)).bind fun v_2 =>
  if v_2 = 0 then (
    some (-1 : Int32)
  ) else (
    (aI S 26 x1).bind fun v_3 =>
    if v_3 < 0 then (
      some (0 : Int32)
    ) else (
      (aI S 26 x1).bind fun v_4 =>
      (aI S 26 x2).bind fun v_5 =>
      if v_4 = v_5 then (
        some (1 : Int32)
      ) else (
        some (0 : Int32)
      )
    )
  )
)
section S_same
variable {p : Program} {l : Launch} {e : Env} {s : State} {m : MethodId} {args : Array Value} {below : List Frame} {meth : Method} {c : Code} {H : Heap} {locs : List Loc} {ls : Array Slot} {D : va_G} {T : Cy} {ρ : Nat → Nat} {A : Nat → Prop}
set_option maxRecDepth 100000 in
set_option maxHeartbeats 4000000 in
theorem w_same_0  {g : Nat} {S : St} {x1 : Int32} {x2 : Int32} (C : CallFix p m c cX13_same 3 s args tb RX13) (hr : meth.sig.returnType = (some .int)) (hk : meth.locks = false) {r : Int32} (w : Wn Ym D T ρ S A s H locs) (hl : lv_has ls 3 [(0, .ref (ρ 0)), (1, .int x1), (2, .int x2)]) (h : m_same g S x1 x2 = some r) : W p l e (rmN 1 25) s m args below meth c H locs 0 0 (MQ below (Qi Ym D T ρ A S r) args s 0 0 A) (F0 m 0 ls []) := by
  unfold m_same at h
  refine lv_iload_n C.1 C.2.1 dX13_same_0 rfl (lv_at hl 1 rfl) ?_
  refine lv_i2l C.1 C.2.1 dX13_same_1 rfl ?_
  refine lv_lconst (v := 0) C.1 C.2.1 dX13_same_2 (by decide) ?_
  refine lv_ldc2 C.1 C.2.1 C.2.2.2.1 (C.2.2.2.2 _ nM730) dX13_same_3 ?_
  obtain ⟨v_1, hv_1, h⟩ := bnd h
  refine x_callSi (As := [.long (x1.toInt64), .long (0 : Int64), .long (19 : Int64)]) (rest := []) C w (k_isIn l D T ρ g H.size S hv_1) vM318 ⟨by decide, by decide⟩ rfl rfl hl.1 (Nat.le_of_ble_eq_true rfl) ⟨Nat.zero_le _, Nat.zero_le _⟩ dX13_same_6 (fun H locs w => ?_)
  refine lv_if_eq (tgt := 24) C.1 C.2.1 dX13_same_9 (by decide) (fun hc => ?_) (fun hc => ?_)
  · replace h := ift hc h
    refine lv_iconst (v := (-1)) C.1 C.2.1 dX13_same_24 (by decide) ?_
    obtain rfl := som h
    exact x_iret C w hr hk dX13_same_25
  · replace h := iff0 hc h
    refine lv_iload_n C.1 C.2.1 dX13_same_12 rfl (lv_at hl 2 rfl) ?_
    refine lv_i2l C.1 C.2.1 dX13_same_13 rfl ?_
    refine lv_lconst (v := 0) C.1 C.2.1 dX13_same_14 (by decide) ?_
    refine lv_ldc2 C.1 C.2.1 C.2.2.2.1 (C.2.2.2.2 _ nM730) dX13_same_15 ?_
    obtain ⟨v_2, hv_2, h⟩ := bnd h
    refine x_callSi (As := [.long (x2.toInt64), .long (0 : Int64), .long (19 : Int64)]) (rest := []) C w (k_isIn l D T ρ g H.size S hv_2) vM318 ⟨by decide, by decide⟩ rfl rfl hl.1 (Nat.le_of_ble_eq_true rfl) ⟨Nat.zero_le _, Nat.zero_le _⟩ dX13_same_18 (fun H locs w => ?_)
    refine lv_if_ne (tgt := 26) C.1 C.2.1 dX13_same_21 (by decide) (fun hc => ?_) (fun hc => ?_)
    · replace h := iff0 hc h
      refine lv_aload_n C.1 C.2.1 dX13_same_26 rfl (lv_at hl 0 rfl) ?_
      refine x_getC C w 26 fM199 obM rfl dX13_same_27 ?_
      refine lv_iload_n C.1 C.2.1 dX13_same_30 rfl (lv_at hl 1 rfl) ?_
      obtain ⟨v_3, hv_3, h⟩ := bnd h
      refine x_iald C w obM26 hv_3 dX13_same_31 ?_
      refine lv_if_lt (tgt := 54) C.1 C.2.1 dX13_same_32 (by decide) (fun hc => ?_) (fun hc => ?_)
      · replace h := ift hc h
        refine lv_iconst (v := 0) C.1 C.2.1 dX13_same_54 (by decide) ?_
        obtain rfl := som h
        exact x_iret C w hr hk dX13_same_55
      · replace h := iff0 hc h
        refine lv_aload_n C.1 C.2.1 dX13_same_35 rfl (lv_at hl 0 rfl) ?_
        refine x_getC C w 26 fM199 obM rfl dX13_same_36 ?_
        refine lv_iload_n C.1 C.2.1 dX13_same_39 rfl (lv_at hl 1 rfl) ?_
        obtain ⟨v_4, hv_4, h⟩ := bnd h
        refine x_iald C w obM26 hv_4 dX13_same_40 ?_
        refine lv_aload_n C.1 C.2.1 dX13_same_41 rfl (lv_at hl 0 rfl) ?_
        refine x_getC C w 26 fM199 obM rfl dX13_same_42 ?_
        refine lv_iload_n C.1 C.2.1 dX13_same_45 rfl (lv_at hl 2 rfl) ?_
        obtain ⟨v_5, hv_5, h⟩ := bnd h
        refine x_iald C w obM26 hv_5 dX13_same_46 ?_
        refine lv_icmp_ne (tgt := 54) C.1 C.2.1 dX13_same_47 (by decide) (fun hc => ?_) (fun hc => ?_)
        · replace h := iff0 hc h
          refine lv_iconst (v := 0) C.1 C.2.1 dX13_same_54 (by decide) ?_
          obtain rfl := som h
          exact x_iret C w hr hk dX13_same_55
        · replace h := ift hc h
          refine lv_iconst (v := 1) C.1 C.2.1 dX13_same_50 (by decide) ?_
          refine lv_goto (tgt := 55) C.1 C.2.1 dX13_same_51 (by decide) ?_
          obtain rfl := som h
          exact x_iret C w hr hk dX13_same_55
    · replace h := ift hc h
      refine lv_iconst (v := (-1)) C.1 C.2.1 dX13_same_24 (by decide) ?_
      obtain rfl := som h
      exact x_iret C w hr hk dX13_same_25
end S_same
set_option maxRecDepth 100000 in
theorem k_same (l : Launch) (D : va_G) (T : Cy) (ρ : Nat → Nat) (g sz : Nat) (S : St) {x1 : Int32} {x2 : Int32} {r : Int32} (h : m_same g S x1 x2 = some r) : Mi l Ym D T ρ yX13_same cX13_same 3 (some .int) 1 25 S S r [.ref (ρ 0), .int x1, .int x2] sz :=
  x_in (by decide) (Nat.le_of_ble_eq_true rfl) (fun p e s m below meth c ls C hr hk w hl => w_same_0 C hr hk w hl h)

theorem dX13_pooled_0 : decode cX13_pooled 0 = .ok (.aload_n 0, 1) := by decide +kernel
theorem dX13_pooled_1 : decode cX13_pooled 1 = .ok (.iload_n 1, 1) := by decide +kernel
theorem dX13_pooled_2 : decode cX13_pooled 2 = .ok (.invokevirtual 732, 3) := by decide +kernel
theorem dX13_pooled_5 : decode cX13_pooled 5 = .ok (.istore_n 2, 1) := by decide +kernel
theorem dX13_pooled_6 : decode cX13_pooled 6 = .ok (.iload_n 2, 1) := by decide +kernel
theorem dX13_pooled_7 : decode cX13_pooled 7 = .ok (.ifCond .ge 5, 3) := by decide +kernel
theorem dX13_pooled_10 : decode cX13_pooled 10 = .ok (.iconst (-1), 1) := by decide +kernel
theorem dX13_pooled_11 : decode cX13_pooled 11 = .ok (.ireturn, 1) := by decide +kernel
theorem dX13_pooled_12 : decode cX13_pooled 12 = .ok (.iconst 0, 1) := by decide +kernel
theorem dX13_pooled_13 : decode cX13_pooled 13 = .ok (.istore_n 3, 1) := by decide +kernel
theorem dX13_pooled_14 : decode cX13_pooled 14 = .ok (.iconst 0, 1) := by decide +kernel
theorem dX13_pooled_15 : decode cX13_pooled 15 = .ok (.istore 4, 2) := by decide +kernel
theorem dX13_pooled_17 : decode cX13_pooled 17 = .ok (.iload 4, 2) := by decide +kernel
theorem dX13_pooled_19 : decode cX13_pooled 19 = .ok (.aload_n 0, 1) := by decide +kernel
theorem dX13_pooled_20 : decode cX13_pooled 20 = .ok (.getfield 410, 3) := by decide +kernel
theorem dX13_pooled_23 : decode cX13_pooled 23 = .ok (.if_icmp .ge 26, 3) := by decide +kernel
theorem dX13_pooled_26 : decode cX13_pooled 26 = .ok (.aload_n 0, 1) := by decide +kernel
theorem dX13_pooled_27 : decode cX13_pooled 27 = .ok (.getfield 196, 3) := by decide +kernel
theorem dX13_pooled_30 : decode cX13_pooled 30 = .ok (.iload 4, 2) := by decide +kernel
theorem dX13_pooled_32 : decode cX13_pooled 32 = .ok (.iaload, 1) := by decide +kernel
theorem dX13_pooled_33 : decode cX13_pooled 33 = .ok (.iload_n 2, 1) := by decide +kernel
theorem dX13_pooled_34 : decode cX13_pooled 34 = .ok (.if_icmp .ne 7, 3) := by decide +kernel
theorem dX13_pooled_37 : decode cX13_pooled 37 = .ok (.iconst 1, 1) := by decide +kernel
theorem dX13_pooled_38 : decode cX13_pooled 38 = .ok (.goto 4, 3) := by decide +kernel
theorem dX13_pooled_41 : decode cX13_pooled 41 = .ok (.iload_n 3, 1) := by decide +kernel
theorem dX13_pooled_42 : decode cX13_pooled 42 = .ok (.istore_n 3, 1) := by decide +kernel
theorem dX13_pooled_43 : decode cX13_pooled 43 = .ok (.iinc 4 1, 3) := by decide +kernel
theorem dX13_pooled_46 : decode cX13_pooled 46 = .ok (.goto (-29), 3) := by decide +kernel
theorem dX13_pooled_49 : decode cX13_pooled 49 = .ok (.iload_n 3, 1) := by decide +kernel
theorem dX13_pooled_50 : decode cX13_pooled 50 = .ok (.ireturn, 1) := by decide +kernel
def b_pooled_17 (g : Nat) (S : St) (k17 : Int32 → Int32 → Int32 → Option Int32) (x2 : Int32) (x3 : Int32) (x4 : Int32) : Option Int32 :=
if (gI S 0 41) ≤ x4 then (
  some x3
) else (
  (aI S 25 x4).bind fun v_2 =>
  if v_2 = x2 then (
    lt (x4 + (1 : Int32)) fun x4_4 =>
    k17 x2 (1 : Int32) x4_4
  ) else (
    lt (x4 + (1 : Int32)) fun x4_3 =>
    k17 x2 x3 x4_3
  )
)
def m_pooled_17 (g : Nat) (S : St) : Nat → Int32 → Int32 → Int32 → Option Int32
  | 0, _, _, _ => none
  | n + 1, x2, x3, x4 => b_pooled_17 g S (m_pooled_17 g S n) x2 x3 x4
def m_pooled (g : Nat) (S : St) (x1 : Int32) : Option Int32 :=
(m_textOf g S x1).bind fun v_1 =>
if 0 ≤ v_1 then (
  m_pooled_17 g S g v_1 (0 : Int32) (0 : Int32)
) else (
  some (-1 : Int32)
)
section S_pooled
variable {p : Program} {l : Launch} {e : Env} {s : State} {m : MethodId} {args : Array Value} {below : List Frame} {meth : Method} {c : Code} {H : Heap} {locs : List Loc} {ls : Array Slot} {D : va_G} {T : Cy} {ρ : Nat → Nat} {A : Nat → Prop}
set_option maxRecDepth 100000 in
set_option maxHeartbeats 4000000 in
theorem wb_pooled_17  {g : Nat} {S : St} {x2 : Int32} {x3 : Int32} {x4 : Int32} (C : CallFix p m c cX13_pooled 5 s args tb RX13) (hr : meth.sig.returnType = (some .int)) (hk : meth.locks = false) {r : Int32} {k17 : Int32 → Int32 → Int32 → Option Int32} (kk17 : ∀ (x2 : Int32) (x3 : Int32) (x4 : Int32) (H : Heap) (locs : List Loc) (ls : Array Slot), Wn Ym D T ρ S A s H locs → lv_has ls 5 [(0, .ref (ρ 0)), (2, .int x2), (3, .int x3), (4, .int x4)] → k17 x2 x3 x4 = some r → W p l e (rmN 2 46) s m args below meth c H locs 0 0 (MQ below (Qi Ym D T ρ A S r) args s 0 0 A) (F0 m 17 ls [])) (w : Wn Ym D T ρ S A s H locs) (hl : lv_has ls 5 [(0, .ref (ρ 0)), (2, .int x2), (3, .int x3), (4, .int x4)]) (h : b_pooled_17 g S k17 x2 x3 x4 = some r) : W p l e (rmN 2 46) s m args below meth c H locs 0 0 (MQ below (Qi Ym D T ρ A S r) args s 0 0 A) (F0 m 17 ls []) := by
  unfold b_pooled_17 at h
  refine lv_iload C.1 C.2.1 dX13_pooled_17 (lv_at hl 3 rfl) ?_
  refine lv_aload_n C.1 C.2.1 dX13_pooled_19 rfl (lv_at hl 0 rfl) ?_
  refine x_getI C w fM410 obM dX13_pooled_20 ?_
  refine lv_icmp_ge (tgt := 49) C.1 C.2.1 dX13_pooled_23 (by decide) (fun hc => ?_) (fun hc => ?_)
  · replace h := ift hc h
    refine lv_iload_n C.1 C.2.1 dX13_pooled_49 rfl (lv_at hl 2 rfl) ?_
    obtain rfl := som h
    exact x_iret C w hr hk dX13_pooled_50
  · replace h := iff0 hc h
    refine lv_aload_n C.1 C.2.1 dX13_pooled_26 rfl (lv_at hl 0 rfl) ?_
    refine x_getC C w 25 fM196 obM rfl dX13_pooled_27 ?_
    refine lv_iload C.1 C.2.1 dX13_pooled_30 (lv_at hl 3 rfl) ?_
    obtain ⟨v_2, hv_2, h⟩ := bnd h
    refine x_iald C w obM25 hv_2 dX13_pooled_32 ?_
    refine lv_iload_n C.1 C.2.1 dX13_pooled_33 rfl (lv_at hl 1 rfl) ?_
    refine lv_icmp_ne (tgt := 41) C.1 C.2.1 dX13_pooled_34 (by decide) (fun hc => ?_) (fun hc => ?_)
    · replace h := iff0 hc h
      refine lv_iload_n C.1 C.2.1 dX13_pooled_41 rfl (lv_at hl 2 rfl) ?_
      refine lv_istore_n (lv' := [(3, .int x3), (0, .ref (ρ 0)), (2, .int x2), (4, .int x4)]) C.1 C.2.1 dX13_pooled_42 rfl hl (by decide) rfl (fun ls hl => ?_)
      obtain ⟨x4_3, ex4_3, h⟩ := lt_e h
      refine lv_iinc (v := x4_3) (lv' := [(4, .int x4_3), (3, .int x3), (0, .ref (ρ 0)), (2, .int x2)]) C.1 C.2.1 dX13_pooled_43 hl (k := 3) rfl (by rw [ex4_3]; rfl) (by decide) rfl (fun ls hl => ?_)
      refine lv_goto (tgt := 17) C.1 C.2.1 dX13_pooled_46 (by decide) ?_
      exact kk17 _ _ _ _ _ _ w (lv_sub hl [2, 3, 1, 0] rfl) h
    · replace h := ift hc h
      refine lv_iconst (v := 1) C.1 C.2.1 dX13_pooled_37 (by decide) ?_
      refine lv_goto (tgt := 42) C.1 C.2.1 dX13_pooled_38 (by decide) ?_
      refine lv_istore_n (lv' := [(3, .int (1 : Int32)), (0, .ref (ρ 0)), (2, .int x2), (4, .int x4)]) C.1 C.2.1 dX13_pooled_42 rfl hl (by decide) rfl (fun ls hl => ?_)
      obtain ⟨x4_4, ex4_4, h⟩ := lt_e h
      refine lv_iinc (v := x4_4) (lv' := [(4, .int x4_4), (3, .int (1 : Int32)), (0, .ref (ρ 0)), (2, .int x2)]) C.1 C.2.1 dX13_pooled_43 hl (k := 3) rfl (by rw [ex4_4]; rfl) (by decide) rfl (fun ls hl => ?_)
      refine lv_goto (tgt := 17) C.1 C.2.1 dX13_pooled_46 (by decide) ?_
      exact kk17 _ _ _ _ _ _ w (lv_sub hl [2, 3, 1, 0] rfl) h
theorem w_pooled_17 {g : Nat} {S : St} (C : CallFix p m c cX13_pooled 5 s args tb RX13) (hr : meth.sig.returnType = (some .int)) (hk : meth.locks = false) {r : Int32} (n : Nat) : ∀ (x2 : Int32) (x3 : Int32) (x4 : Int32) (H : Heap) (locs : List Loc) (ls : Array Slot), Wn Ym D T ρ S A s H locs → lv_has ls 5 [(0, .ref (ρ 0)), (2, .int x2), (3, .int x3), (4, .int x4)] → m_pooled_17 g S n x2 x3 x4 = some r → W p l e (rmN 2 46) s m args below meth c H locs 0 0 (MQ below (Qi Ym D T ρ A S r) args s 0 0 A) (F0 m 17 ls []) := by
  induction n with
  | zero => intro x2 x3 x4 H locs ls w hl h; exact absurd h (fun q => by cases q)
  | succ n ih => intro x2 x3 x4 H locs ls w hl h; exact wb_pooled_17 C hr hk ih w hl h
set_option maxRecDepth 100000 in
set_option maxHeartbeats 4000000 in
theorem w_pooled_0  {g : Nat} {S : St} {x1 : Int32} (C : CallFix p m c cX13_pooled 5 s args tb RX13) (hr : meth.sig.returnType = (some .int)) (hk : meth.locks = false) {r : Int32} (w : Wn Ym D T ρ S A s H locs) (hl : lv_has ls 5 [(0, .ref (ρ 0)), (1, .int x1)]) (h : m_pooled g S x1 = some r) : W p l e (rmN 2 46) s m args below meth c H locs 0 0 (MQ below (Qi Ym D T ρ A S r) args s 0 0 A) (F0 m 0 ls []) := by
  unfold m_pooled at h
  refine lv_aload_n C.1 C.2.1 dX13_pooled_0 rfl (lv_at hl 0 rfl) ?_
  refine lv_iload_n C.1 C.2.1 dX13_pooled_1 rfl (lv_at hl 1 rfl) ?_
  obtain ⟨v_1, hv_1, h⟩ := bnd h
  refine x_callVi (q := (RX13, TX13, 68)) (As := [.int x1]) (rest := []) C w (k_textOf l D T ρ g H.size S hv_1) vM732 ⟨by decide, by decide⟩ obM (by decide) rfl rfl rfl hl.1 (Nat.le_of_ble_eq_true rfl) ⟨Nat.zero_le _, Nat.zero_le _⟩ dX13_pooled_2 (fun H locs w => ?_)
  refine lv_istore_n (lv' := [(2, .int v_1), (0, .ref (ρ 0)), (1, .int x1)]) C.1 C.2.1 dX13_pooled_5 rfl hl (by decide) rfl (fun ls hl => ?_)
  refine lv_iload_n C.1 C.2.1 dX13_pooled_6 rfl (lv_at hl 0 rfl) ?_
  refine lv_if_ge (tgt := 12) C.1 C.2.1 dX13_pooled_7 (by decide) (fun hc => ?_) (fun hc => ?_)
  · replace h := ift hc h
    refine lv_iconst (v := 0) C.1 C.2.1 dX13_pooled_12 (by decide) ?_
    refine lv_istore_n (lv' := [(3, .int (0 : Int32)), (2, .int v_1), (0, .ref (ρ 0)), (1, .int x1)]) C.1 C.2.1 dX13_pooled_13 rfl hl (by decide) rfl (fun ls hl => ?_)
    refine lv_iconst (v := 0) C.1 C.2.1 dX13_pooled_14 (by decide) ?_
    refine lv_istore (lv' := [(4, .int (0 : Int32)), (3, .int (0 : Int32)), (2, .int v_1), (0, .ref (ρ 0)), (1, .int x1)]) C.1 C.2.1 dX13_pooled_15 hl (by decide) rfl (fun ls hl => ?_)
    exact w_pooled_17 C hr hk g _ _ _ _ _ _ w (lv_sub hl [3, 2, 1, 0] rfl) h
  · replace h := iff0 hc h
    refine lv_iconst (v := (-1)) C.1 C.2.1 dX13_pooled_10 (by decide) ?_
    obtain rfl := som h
    exact x_iret C w hr hk dX13_pooled_11
end S_pooled
set_option maxRecDepth 100000 in
theorem k_pooled (l : Launch) (D : va_G) (T : Cy) (ρ : Nat → Nat) (g sz : Nat) (S : St) {x1 : Int32} {r : Int32} (h : m_pooled g S x1 = some r) : Mi l Ym D T ρ yX13_pooled cX13_pooled 5 (some .int) 2 46 S S r [.ref (ρ 0), .int x1] sz :=
  x_in (by decide) (Nat.le_of_ble_eq_true rfl) (fun p e s m below meth c ls C hr hk w hl => w_pooled_0 C hr hk w hl h)

theorem dX13_pool_0 : decode cX13_pool 0 = .ok (.aload_n 0, 1) := by decide +kernel
theorem dX13_pool_1 : decode cX13_pool 1 = .ok (.getfield 410, 3) := by decide +kernel
theorem dX13_pool_4 : decode cX13_pool 4 = .ok (.ireturn, 1) := by decide +kernel
def m_pool (g : Nat) (S : St) : Option Int32 :=
some (gI S 0 41)
section S_pool
variable {p : Program} {l : Launch} {e : Env} {s : State} {m : MethodId} {args : Array Value} {below : List Frame} {meth : Method} {c : Code} {H : Heap} {locs : List Loc} {ls : Array Slot} {D : va_G} {T : Cy} {ρ : Nat → Nat} {A : Nat → Prop}
set_option maxRecDepth 100000 in
set_option maxHeartbeats 4000000 in
theorem w_pool_0  {g : Nat} {S : St} (C : CallFix p m c cX13_pool 1 s args tb RX13) (hr : meth.sig.returnType = (some .int)) (hk : meth.locks = false) {r : Int32} (w : Wn Ym D T ρ S A s H locs) (hl : lv_has ls 1 [(0, .ref (ρ 0))]) (h : m_pool g S = some r) : W p l e (rmN 0 0) s m args below meth c H locs 0 0 (MQ below (Qi Ym D T ρ A S r) args s 0 0 A) (F0 m 0 ls []) := by
  unfold m_pool at h
  refine lv_aload_n C.1 C.2.1 dX13_pool_0 rfl (lv_at hl 0 rfl) ?_
  refine x_getI C w fM410 obM dX13_pool_1 ?_
  obtain rfl := som h
  exact x_iret C w hr hk dX13_pool_4
end S_pool
set_option maxRecDepth 100000 in
theorem k_pool (l : Launch) (D : va_G) (T : Cy) (ρ : Nat → Nat) (g sz : Nat) (S : St) {r : Int32} (h : m_pool g S = some r) : Mi l Ym D T ρ yX13_pool cX13_pool 1 (some .int) 0 0 S S r [.ref (ρ 0)] sz :=
  x_in (by decide) (Nat.le_of_ble_eq_true rfl) (fun p e s m below meth c ls C hr hk w hl => w_pool_0 C hr hk w hl h)

theorem dX13_whole_0 : decode cX13_whole 0 = .ok (.iload_n 1, 1) := by decide +kernel
theorem dX13_whole_1 : decode cX13_whole 1 = .ok (.i2l, 1) := by decide +kernel
theorem dX13_whole_2 : decode cX13_whole 2 = .ok (.lconst 0, 1) := by decide +kernel
theorem dX13_whole_3 : decode cX13_whole 3 = .ok (.ldc2_w 735, 3) := by decide +kernel
theorem dX13_whole_6 : decode cX13_whole 6 = .ok (.invokestatic 318, 3) := by decide +kernel
theorem dX13_whole_9 : decode cX13_whole 9 = .ok (.ifCond .eq 12, 3) := by decide +kernel
theorem dX13_whole_12 : decode cX13_whole 12 = .ok (.aload_n 0, 1) := by decide +kernel
theorem dX13_whole_13 : decode cX13_whole 13 = .ok (.getfield 217, 3) := by decide +kernel
theorem dX13_whole_16 : decode cX13_whole 16 = .ok (.iload_n 1, 1) := by decide +kernel
theorem dX13_whole_17 : decode cX13_whole 17 = .ok (.laload, 1) := by decide +kernel
theorem dX13_whole_18 : decode cX13_whole 18 = .ok (.goto 4, 3) := by decide +kernel
theorem dX13_whole_21 : decode cX13_whole 21 = .ok (.lconst 0, 1) := by decide +kernel
theorem dX13_whole_22 : decode cX13_whole 22 = .ok (.lreturn, 1) := by decide +kernel
def m_whole (g : Nat) (S : St) (x1 : Int32) : Option Int64 :=
(m_isIn g (x1.toInt64) (0 : Int64) (11 : Int64)).bind fun v_1 =>
if v_1 = 0 then (
  some (0 : Int64)
) else (
  (aJ S 32 x1).bind fun v_2 =>
  some v_2
)
section S_whole
variable {p : Program} {l : Launch} {e : Env} {s : State} {m : MethodId} {args : Array Value} {below : List Frame} {meth : Method} {c : Code} {H : Heap} {locs : List Loc} {ls : Array Slot} {D : va_G} {T : Cy} {ρ : Nat → Nat} {A : Nat → Prop}
set_option maxRecDepth 100000 in
set_option maxHeartbeats 4000000 in
theorem w_whole_0  {g : Nat} {S : St} {x1 : Int32} (C : CallFix p m c cX13_whole 2 s args tb RX13) (hr : meth.sig.returnType = (some .long)) (hk : meth.locks = false) {r : Int64} (w : Wn Ym D T ρ S A s H locs) (hl : lv_has ls 2 [(0, .ref (ρ 0)), (1, .int x1)]) (h : m_whole g S x1 = some r) : W p l e (rmN 1 25) s m args below meth c H locs 0 0 (MQ below (Qj Ym D T ρ A S r) args s 0 0 A) (F0 m 0 ls []) := by
  unfold m_whole at h
  refine lv_iload_n C.1 C.2.1 dX13_whole_0 rfl (lv_at hl 1 rfl) ?_
  refine lv_i2l C.1 C.2.1 dX13_whole_1 rfl ?_
  refine lv_lconst (v := 0) C.1 C.2.1 dX13_whole_2 (by decide) ?_
  refine lv_ldc2 C.1 C.2.1 C.2.2.2.1 (C.2.2.2.2 _ nM735) dX13_whole_3 ?_
  obtain ⟨v_1, hv_1, h⟩ := bnd h
  refine x_callSi (As := [.long (x1.toInt64), .long (0 : Int64), .long (11 : Int64)]) (rest := []) C w (k_isIn l D T ρ g H.size S hv_1) vM318 ⟨by decide, by decide⟩ rfl rfl hl.1 (Nat.le_of_ble_eq_true rfl) ⟨Nat.zero_le _, Nat.zero_le _⟩ dX13_whole_6 (fun H locs w => ?_)
  refine lv_if_eq (tgt := 21) C.1 C.2.1 dX13_whole_9 (by decide) (fun hc => ?_) (fun hc => ?_)
  · replace h := ift hc h
    refine lv_lconst (v := 0) C.1 C.2.1 dX13_whole_21 (by decide) ?_
    obtain rfl := som h
    exact x_lret C w hr hk dX13_whole_22
  · replace h := iff0 hc h
    refine lv_aload_n C.1 C.2.1 dX13_whole_12 rfl (lv_at hl 0 rfl) ?_
    refine x_getC C w 32 fM217 obM rfl dX13_whole_13 ?_
    refine lv_iload_n C.1 C.2.1 dX13_whole_16 rfl (lv_at hl 1 rfl) ?_
    obtain ⟨v_2, hv_2, h⟩ := bnd h
    refine x_lald C w obM32 hv_2 dX13_whole_17 ?_
    refine lv_goto (tgt := 22) C.1 C.2.1 dX13_whole_18 (by decide) ?_
    obtain rfl := som h
    exact x_lret C w hr hk dX13_whole_22
end S_whole
set_option maxRecDepth 100000 in
theorem k_whole (l : Launch) (D : va_G) (T : Cy) (ρ : Nat → Nat) (g sz : Nat) (S : St) {x1 : Int32} {r : Int64} (h : m_whole g S x1 = some r) : Mj l Ym D T ρ yX13_whole cX13_whole 2 (some .long) 1 25 S S r [.ref (ρ 0), .int x1] sz :=
  x_in (by decide) (Nat.le_of_ble_eq_true rfl) (fun p e s m below meth c ls C hr hk w hl => w_whole_0 C hr hk w hl h)

theorem dX13_builder_0 : decode cX13_builder 0 = .ok (.iload_n 1, 1) := by decide +kernel
theorem dX13_builder_1 : decode cX13_builder 1 = .ok (.i2l, 1) := by decide +kernel
theorem dX13_builder_2 : decode cX13_builder 2 = .ok (.lconst 0, 1) := by decide +kernel
theorem dX13_builder_3 : decode cX13_builder 3 = .ok (.ldc2_w 737, 3) := by decide +kernel
theorem dX13_builder_6 : decode cX13_builder 6 = .ok (.invokestatic 318, 3) := by decide +kernel
theorem dX13_builder_9 : decode cX13_builder 9 = .ok (.ifCond .eq 22, 3) := by decide +kernel
theorem dX13_builder_12 : decode cX13_builder 12 = .ok (.aload_n 0, 1) := by decide +kernel
theorem dX13_builder_13 : decode cX13_builder 13 = .ok (.getfield 205, 3) := by decide +kernel
theorem dX13_builder_16 : decode cX13_builder 16 = .ok (.iload_n 1, 1) := by decide +kernel
theorem dX13_builder_17 : decode cX13_builder 17 = .ok (.iaload, 1) := by decide +kernel
theorem dX13_builder_18 : decode cX13_builder 18 = .ok (.ifCond .lt 13, 3) := by decide +kernel
theorem dX13_builder_21 : decode cX13_builder 21 = .ok (.iload_n 2, 1) := by decide +kernel
theorem dX13_builder_22 : decode cX13_builder 22 = .ok (.i2l, 1) := by decide +kernel
theorem dX13_builder_23 : decode cX13_builder 23 = .ok (.lconst 0, 1) := by decide +kernel
theorem dX13_builder_24 : decode cX13_builder 24 = .ok (.lconst 1, 1) := by decide +kernel
theorem dX13_builder_25 : decode cX13_builder 25 = .ok (.invokestatic 318, 3) := by decide +kernel
theorem dX13_builder_28 : decode cX13_builder 28 = .ok (.ifCond .ne 5, 3) := by decide +kernel
theorem dX13_builder_31 : decode cX13_builder 31 = .ok (.iconst (-1), 1) := by decide +kernel
theorem dX13_builder_32 : decode cX13_builder 32 = .ok (.ireturn, 1) := by decide +kernel
theorem dX13_builder_33 : decode cX13_builder 33 = .ok (.iload_n 2, 1) := by decide +kernel
theorem dX13_builder_34 : decode cX13_builder 34 = .ok (.ifCond .ne 12, 3) := by decide +kernel
theorem dX13_builder_37 : decode cX13_builder 37 = .ok (.aload_n 0, 1) := by decide +kernel
theorem dX13_builder_38 : decode cX13_builder 38 = .ok (.getfield 205, 3) := by decide +kernel
theorem dX13_builder_41 : decode cX13_builder 41 = .ok (.iload_n 1, 1) := by decide +kernel
theorem dX13_builder_42 : decode cX13_builder 42 = .ok (.iaload, 1) := by decide +kernel
theorem dX13_builder_43 : decode cX13_builder 43 = .ok (.goto 9, 3) := by decide +kernel
theorem dX13_builder_46 : decode cX13_builder 46 = .ok (.aload_n 0, 1) := by decide +kernel
theorem dX13_builder_47 : decode cX13_builder 47 = .ok (.getfield 208, 3) := by decide +kernel
theorem dX13_builder_50 : decode cX13_builder 50 = .ok (.iload_n 1, 1) := by decide +kernel
theorem dX13_builder_51 : decode cX13_builder 51 = .ok (.iaload, 1) := by decide +kernel
theorem dX13_builder_52 : decode cX13_builder 52 = .ok (.ireturn, 1) := by decide +kernel
def m_builder (g : Nat) (S : St) (x1 : Int32) (x2 : Int32) : Option Int32 :=
(m_isIn g (x1.toInt64) (0 : Int64) (5 : Int64)).bind fun v_1 =>
if v_1 = 0 then (
  some (-1 : Int32)
) else (
  (aI S 28 x1).bind fun v_2 =>
  if v_2 < 0 then (
    some (-1 : Int32)
  ) else (
    (m_isIn g (x2.toInt64) (0 : Int64) (1 : Int64)).bind fun v_3 =>
    if v_3 = 0 then (
      some (-1 : Int32)
    ) else (
      if x2 = 0 then (
        (aI S 28 x1).bind fun v_5 =>
        some v_5
      ) else (
        (aI S 29 x1).bind fun v_4 =>
        some v_4
      )
    )
  )
)
section S_builder
variable {p : Program} {l : Launch} {e : Env} {s : State} {m : MethodId} {args : Array Value} {below : List Frame} {meth : Method} {c : Code} {H : Heap} {locs : List Loc} {ls : Array Slot} {D : va_G} {T : Cy} {ρ : Nat → Nat} {A : Nat → Prop}
set_option maxRecDepth 100000 in
set_option maxHeartbeats 4000000 in
theorem w_builder_0  {g : Nat} {S : St} {x1 : Int32} {x2 : Int32} (C : CallFix p m c cX13_builder 3 s args tb RX13) (hr : meth.sig.returnType = (some .int)) (hk : meth.locks = false) {r : Int32} (w : Wn Ym D T ρ S A s H locs) (hl : lv_has ls 3 [(0, .ref (ρ 0)), (1, .int x1), (2, .int x2)]) (h : m_builder g S x1 x2 = some r) : W p l e (rmN 1 25) s m args below meth c H locs 0 0 (MQ below (Qi Ym D T ρ A S r) args s 0 0 A) (F0 m 0 ls []) := by
  unfold m_builder at h
  refine lv_iload_n C.1 C.2.1 dX13_builder_0 rfl (lv_at hl 1 rfl) ?_
  refine lv_i2l C.1 C.2.1 dX13_builder_1 rfl ?_
  refine lv_lconst (v := 0) C.1 C.2.1 dX13_builder_2 (by decide) ?_
  refine lv_ldc2 C.1 C.2.1 C.2.2.2.1 (C.2.2.2.2 _ nM737) dX13_builder_3 ?_
  obtain ⟨v_1, hv_1, h⟩ := bnd h
  refine x_callSi (As := [.long (x1.toInt64), .long (0 : Int64), .long (5 : Int64)]) (rest := []) C w (k_isIn l D T ρ g H.size S hv_1) vM318 ⟨by decide, by decide⟩ rfl rfl hl.1 (Nat.le_of_ble_eq_true rfl) ⟨Nat.zero_le _, Nat.zero_le _⟩ dX13_builder_6 (fun H locs w => ?_)
  refine lv_if_eq (tgt := 31) C.1 C.2.1 dX13_builder_9 (by decide) (fun hc => ?_) (fun hc => ?_)
  · replace h := ift hc h
    refine lv_iconst (v := (-1)) C.1 C.2.1 dX13_builder_31 (by decide) ?_
    obtain rfl := som h
    exact x_iret C w hr hk dX13_builder_32
  · replace h := iff0 hc h
    refine lv_aload_n C.1 C.2.1 dX13_builder_12 rfl (lv_at hl 0 rfl) ?_
    refine x_getC C w 28 fM205 obM rfl dX13_builder_13 ?_
    refine lv_iload_n C.1 C.2.1 dX13_builder_16 rfl (lv_at hl 1 rfl) ?_
    obtain ⟨v_2, hv_2, h⟩ := bnd h
    refine x_iald C w obM28 hv_2 dX13_builder_17 ?_
    refine lv_if_lt (tgt := 31) C.1 C.2.1 dX13_builder_18 (by decide) (fun hc => ?_) (fun hc => ?_)
    · replace h := ift hc h
      refine lv_iconst (v := (-1)) C.1 C.2.1 dX13_builder_31 (by decide) ?_
      obtain rfl := som h
      exact x_iret C w hr hk dX13_builder_32
    · replace h := iff0 hc h
      refine lv_iload_n C.1 C.2.1 dX13_builder_21 rfl (lv_at hl 2 rfl) ?_
      refine lv_i2l C.1 C.2.1 dX13_builder_22 rfl ?_
      refine lv_lconst (v := 0) C.1 C.2.1 dX13_builder_23 (by decide) ?_
      refine lv_lconst (v := 1) C.1 C.2.1 dX13_builder_24 (by decide) ?_
      obtain ⟨v_3, hv_3, h⟩ := bnd h
      refine x_callSi (As := [.long (x2.toInt64), .long (0 : Int64), .long (1 : Int64)]) (rest := []) C w (k_isIn l D T ρ g H.size S hv_3) vM318 ⟨by decide, by decide⟩ rfl rfl hl.1 (Nat.le_of_ble_eq_true rfl) ⟨Nat.zero_le _, Nat.zero_le _⟩ dX13_builder_25 (fun H locs w => ?_)
      refine lv_if_ne (tgt := 33) C.1 C.2.1 dX13_builder_28 (by decide) (fun hc => ?_) (fun hc => ?_)
      · replace h := iff0 hc h
        refine lv_iload_n C.1 C.2.1 dX13_builder_33 rfl (lv_at hl 2 rfl) ?_
        refine lv_if_ne (tgt := 46) C.1 C.2.1 dX13_builder_34 (by decide) (fun hc => ?_) (fun hc => ?_)
        · replace h := iff0 hc h
          refine lv_aload_n C.1 C.2.1 dX13_builder_46 rfl (lv_at hl 0 rfl) ?_
          refine x_getC C w 29 fM208 obM rfl dX13_builder_47 ?_
          refine lv_iload_n C.1 C.2.1 dX13_builder_50 rfl (lv_at hl 1 rfl) ?_
          obtain ⟨v_4, hv_4, h⟩ := bnd h
          refine x_iald C w obM29 hv_4 dX13_builder_51 ?_
          obtain rfl := som h
          exact x_iret C w hr hk dX13_builder_52
        · replace h := ift hc h
          refine lv_aload_n C.1 C.2.1 dX13_builder_37 rfl (lv_at hl 0 rfl) ?_
          refine x_getC C w 28 fM205 obM rfl dX13_builder_38 ?_
          refine lv_iload_n C.1 C.2.1 dX13_builder_41 rfl (lv_at hl 1 rfl) ?_
          obtain ⟨v_5, hv_5, h⟩ := bnd h
          refine x_iald C w obM28 hv_5 dX13_builder_42 ?_
          refine lv_goto (tgt := 52) C.1 C.2.1 dX13_builder_43 (by decide) ?_
          obtain rfl := som h
          exact x_iret C w hr hk dX13_builder_52
      · replace h := ift hc h
        refine lv_iconst (v := (-1)) C.1 C.2.1 dX13_builder_31 (by decide) ?_
        obtain rfl := som h
        exact x_iret C w hr hk dX13_builder_32
end S_builder
set_option maxRecDepth 100000 in
theorem k_builder (l : Launch) (D : va_G) (T : Cy) (ρ : Nat → Nat) (g sz : Nat) (S : St) {x1 : Int32} {x2 : Int32} {r : Int32} (h : m_builder g S x1 x2 = some r) : Mi l Ym D T ρ yX13_builder cX13_builder 3 (some .int) 1 25 S S r [.ref (ρ 0), .int x1, .int x2] sz :=
  x_in (by decide) (Nat.le_of_ble_eq_true rfl) (fun p e s m below meth c ls C hr hk w hl => w_builder_0 C hr hk w hl h)

theorem dX13_builderUnit_0 : decode cX13_builderUnit 0 = .ok (.iload_n 1, 1) := by decide +kernel
theorem dX13_builderUnit_1 : decode cX13_builderUnit 1 = .ok (.i2l, 1) := by decide +kernel
theorem dX13_builderUnit_2 : decode cX13_builderUnit 2 = .ok (.lconst 0, 1) := by decide +kernel
theorem dX13_builderUnit_3 : decode cX13_builderUnit 3 = .ok (.ldc2_w 737, 3) := by decide +kernel
theorem dX13_builderUnit_6 : decode cX13_builderUnit 6 = .ok (.invokestatic 318, 3) := by decide +kernel
theorem dX13_builderUnit_9 : decode cX13_builderUnit 9 = .ok (.ifCond .eq 36, 3) := by decide +kernel
theorem dX13_builderUnit_12 : decode cX13_builderUnit 12 = .ok (.iload_n 2, 1) := by decide +kernel
theorem dX13_builderUnit_13 : decode cX13_builderUnit 13 = .ok (.i2l, 1) := by decide +kernel
theorem dX13_builderUnit_14 : decode cX13_builderUnit 14 = .ok (.lconst 0, 1) := by decide +kernel
theorem dX13_builderUnit_15 : decode cX13_builderUnit 15 = .ok (.aload_n 0, 1) := by decide +kernel
theorem dX13_builderUnit_16 : decode cX13_builderUnit 16 = .ok (.getfield 205, 3) := by decide +kernel
theorem dX13_builderUnit_19 : decode cX13_builderUnit 19 = .ok (.iload_n 1, 1) := by decide +kernel
theorem dX13_builderUnit_20 : decode cX13_builderUnit 20 = .ok (.iaload, 1) := by decide +kernel
theorem dX13_builderUnit_21 : decode cX13_builderUnit 21 = .ok (.iconst 1, 1) := by decide +kernel
theorem dX13_builderUnit_22 : decode cX13_builderUnit 22 = .ok (.isub, 1) := by decide +kernel
theorem dX13_builderUnit_23 : decode cX13_builderUnit 23 = .ok (.i2l, 1) := by decide +kernel
theorem dX13_builderUnit_24 : decode cX13_builderUnit 24 = .ok (.invokestatic 318, 3) := by decide +kernel
theorem dX13_builderUnit_27 : decode cX13_builderUnit 27 = .ok (.ifCond .eq 18, 3) := by decide +kernel
theorem dX13_builderUnit_30 : decode cX13_builderUnit 30 = .ok (.aload_n 0, 1) := by decide +kernel
theorem dX13_builderUnit_31 : decode cX13_builderUnit 31 = .ok (.getfield 211, 3) := by decide +kernel
theorem dX13_builderUnit_34 : decode cX13_builderUnit 34 = .ok (.sipush 400, 3) := by decide +kernel
theorem dX13_builderUnit_37 : decode cX13_builderUnit 37 = .ok (.iload_n 1, 1) := by decide +kernel
theorem dX13_builderUnit_38 : decode cX13_builderUnit 38 = .ok (.imul, 1) := by decide +kernel
theorem dX13_builderUnit_39 : decode cX13_builderUnit 39 = .ok (.iload_n 2, 1) := by decide +kernel
theorem dX13_builderUnit_40 : decode cX13_builderUnit 40 = .ok (.iadd, 1) := by decide +kernel
theorem dX13_builderUnit_41 : decode cX13_builderUnit 41 = .ok (.iaload, 1) := by decide +kernel
theorem dX13_builderUnit_42 : decode cX13_builderUnit 42 = .ok (.goto 4, 3) := by decide +kernel
theorem dX13_builderUnit_45 : decode cX13_builderUnit 45 = .ok (.iconst (-1), 1) := by decide +kernel
theorem dX13_builderUnit_46 : decode cX13_builderUnit 46 = .ok (.ireturn, 1) := by decide +kernel
def m_builderUnit (g : Nat) (S : St) (x1 : Int32) (x2 : Int32) : Option Int32 :=
(m_isIn g (x1.toInt64) (0 : Int64) (5 : Int64)).bind fun v_1 =>
if v_1 = 0 then (
  some (-1 : Int32)
) else (
  (aI S 28 x1).bind fun v_2 =>
  (m_isIn g (x2.toInt64) (0 : Int64) ((v_2 - (1 : Int32)).toInt64)).bind fun v_3 =>
  if v_3 = 0 then (
    some (-1 : Int32)
  ) else (
    (aI S 30 (((400 : Int32) * x1) + x2)).bind fun v_4 =>
    some v_4
  )
)
section S_builderUnit
variable {p : Program} {l : Launch} {e : Env} {s : State} {m : MethodId} {args : Array Value} {below : List Frame} {meth : Method} {c : Code} {H : Heap} {locs : List Loc} {ls : Array Slot} {D : va_G} {T : Cy} {ρ : Nat → Nat} {A : Nat → Prop}
set_option maxRecDepth 100000 in
set_option maxHeartbeats 4000000 in
theorem w_builderUnit_0  {g : Nat} {S : St} {x1 : Int32} {x2 : Int32} (C : CallFix p m c cX13_builderUnit 3 s args tb RX13) (hr : meth.sig.returnType = (some .int)) (hk : meth.locks = false) {r : Int32} (w : Wn Ym D T ρ S A s H locs) (hl : lv_has ls 3 [(0, .ref (ρ 0)), (1, .int x1), (2, .int x2)]) (h : m_builderUnit g S x1 x2 = some r) : W p l e (rmN 1 25) s m args below meth c H locs 0 0 (MQ below (Qi Ym D T ρ A S r) args s 0 0 A) (F0 m 0 ls []) := by
  unfold m_builderUnit at h
  refine lv_iload_n C.1 C.2.1 dX13_builderUnit_0 rfl (lv_at hl 1 rfl) ?_
  refine lv_i2l C.1 C.2.1 dX13_builderUnit_1 rfl ?_
  refine lv_lconst (v := 0) C.1 C.2.1 dX13_builderUnit_2 (by decide) ?_
  refine lv_ldc2 C.1 C.2.1 C.2.2.2.1 (C.2.2.2.2 _ nM737) dX13_builderUnit_3 ?_
  obtain ⟨v_1, hv_1, h⟩ := bnd h
  refine x_callSi (As := [.long (x1.toInt64), .long (0 : Int64), .long (5 : Int64)]) (rest := []) C w (k_isIn l D T ρ g H.size S hv_1) vM318 ⟨by decide, by decide⟩ rfl rfl hl.1 (Nat.le_of_ble_eq_true rfl) ⟨Nat.zero_le _, Nat.zero_le _⟩ dX13_builderUnit_6 (fun H locs w => ?_)
  refine lv_if_eq (tgt := 45) C.1 C.2.1 dX13_builderUnit_9 (by decide) (fun hc => ?_) (fun hc => ?_)
  · replace h := ift hc h
    refine lv_iconst (v := (-1)) C.1 C.2.1 dX13_builderUnit_45 (by decide) ?_
    obtain rfl := som h
    exact x_iret C w hr hk dX13_builderUnit_46
  · replace h := iff0 hc h
    refine lv_iload_n C.1 C.2.1 dX13_builderUnit_12 rfl (lv_at hl 2 rfl) ?_
    refine lv_i2l C.1 C.2.1 dX13_builderUnit_13 rfl ?_
    refine lv_lconst (v := 0) C.1 C.2.1 dX13_builderUnit_14 (by decide) ?_
    refine lv_aload_n C.1 C.2.1 dX13_builderUnit_15 rfl (lv_at hl 0 rfl) ?_
    refine x_getC C w 28 fM205 obM rfl dX13_builderUnit_16 ?_
    refine lv_iload_n C.1 C.2.1 dX13_builderUnit_19 rfl (lv_at hl 1 rfl) ?_
    obtain ⟨v_2, hv_2, h⟩ := bnd h
    refine x_iald C w obM28 hv_2 dX13_builderUnit_20 ?_
    refine lv_iconst (v := 1) C.1 C.2.1 dX13_builderUnit_21 (by decide) ?_
    refine lv_isub C.1 C.2.1 dX13_builderUnit_22 ?_
    refine lv_i2l C.1 C.2.1 dX13_builderUnit_23 rfl ?_
    obtain ⟨v_3, hv_3, h⟩ := bnd h
    refine x_callSi (As := [.long (x2.toInt64), .long (0 : Int64), .long ((v_2 - (1 : Int32)).toInt64)]) (rest := []) C w (k_isIn l D T ρ g H.size S hv_3) vM318 ⟨by decide, by decide⟩ rfl rfl hl.1 (Nat.le_of_ble_eq_true rfl) ⟨Nat.zero_le _, Nat.zero_le _⟩ dX13_builderUnit_24 (fun H locs w => ?_)
    refine lv_if_eq (tgt := 45) C.1 C.2.1 dX13_builderUnit_27 (by decide) (fun hc => ?_) (fun hc => ?_)
    · replace h := ift hc h
      refine lv_iconst (v := (-1)) C.1 C.2.1 dX13_builderUnit_45 (by decide) ?_
      obtain rfl := som h
      exact x_iret C w hr hk dX13_builderUnit_46
    · replace h := iff0 hc h
      refine lv_aload_n C.1 C.2.1 dX13_builderUnit_30 rfl (lv_at hl 0 rfl) ?_
      refine x_getC C w 30 fM211 obM rfl dX13_builderUnit_31 ?_
      refine lv_sipush (v := 400) C.1 C.2.1 dX13_builderUnit_34 (by decide) ?_
      refine lv_iload_n C.1 C.2.1 dX13_builderUnit_37 rfl (lv_at hl 1 rfl) ?_
      refine lv_imul C.1 C.2.1 dX13_builderUnit_38 ?_
      refine lv_iload_n C.1 C.2.1 dX13_builderUnit_39 rfl (lv_at hl 2 rfl) ?_
      refine lv_iadd C.1 C.2.1 dX13_builderUnit_40 ?_
      obtain ⟨v_4, hv_4, h⟩ := bnd h
      refine x_iald C w obM30 hv_4 dX13_builderUnit_41 ?_
      refine lv_goto (tgt := 46) C.1 C.2.1 dX13_builderUnit_42 (by decide) ?_
      obtain rfl := som h
      exact x_iret C w hr hk dX13_builderUnit_46
end S_builderUnit
set_option maxRecDepth 100000 in
theorem k_builderUnit (l : Launch) (D : va_G) (T : Cy) (ρ : Nat → Nat) (g sz : Nat) (S : St) {x1 : Int32} {x2 : Int32} {r : Int32} (h : m_builderUnit g S x1 x2 = some r) : Mi l Ym D T ρ yX13_builderUnit cX13_builderUnit 3 (some .int) 1 25 S S r [.ref (ρ 0), .int x1, .int x2] sz :=
  x_in (by decide) (Nat.le_of_ble_eq_true rfl) (fun p e s m below meth c ls C hr hk w hl => w_builderUnit_0 C hr hk w hl h)

theorem dX13_parts_0 : decode cX13_parts 0 = .ok (.aload_n 0, 1) := by decide +kernel
theorem dX13_parts_1 : decode cX13_parts 1 = .ok (.getfield 419, 3) := by decide +kernel
theorem dX13_parts_4 : decode cX13_parts 4 = .ok (.ireturn, 1) := by decide +kernel
def m_parts (g : Nat) (S : St) : Option Int32 :=
some (gI S 0 50)
section S_parts
variable {p : Program} {l : Launch} {e : Env} {s : State} {m : MethodId} {args : Array Value} {below : List Frame} {meth : Method} {c : Code} {H : Heap} {locs : List Loc} {ls : Array Slot} {D : va_G} {T : Cy} {ρ : Nat → Nat} {A : Nat → Prop}
set_option maxRecDepth 100000 in
set_option maxHeartbeats 4000000 in
theorem w_parts_0  {g : Nat} {S : St} (C : CallFix p m c cX13_parts 1 s args tb RX13) (hr : meth.sig.returnType = (some .int)) (hk : meth.locks = false) {r : Int32} (w : Wn Ym D T ρ S A s H locs) (hl : lv_has ls 1 [(0, .ref (ρ 0))]) (h : m_parts g S = some r) : W p l e (rmN 0 0) s m args below meth c H locs 0 0 (MQ below (Qi Ym D T ρ A S r) args s 0 0 A) (F0 m 0 ls []) := by
  unfold m_parts at h
  refine lv_aload_n C.1 C.2.1 dX13_parts_0 rfl (lv_at hl 0 rfl) ?_
  refine x_getI C w fM419 obM dX13_parts_1 ?_
  obtain rfl := som h
  exact x_iret C w hr hk dX13_parts_4
end S_parts
set_option maxRecDepth 100000 in
theorem k_parts (l : Launch) (D : va_G) (T : Cy) (ρ : Nat → Nat) (g sz : Nat) (S : St) {r : Int32} (h : m_parts g S = some r) : Mi l Ym D T ρ yX13_parts cX13_parts 1 (some .int) 0 0 S S r [.ref (ρ 0)] sz :=
  x_in (by decide) (Nat.le_of_ble_eq_true rfl) (fun p e s m below meth c ls C hr hk w hl => w_parts_0 C hr hk w hl h)
