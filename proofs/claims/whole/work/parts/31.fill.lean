/-! Arrays.fill and Row.add while objects are built -/
theorem ifu {N i : Nat} {v : Int32} {f : Nat → Int32} : upd (fun j => if j < i then v else f j) i v = fun j => if j < i + 1 then v else f j := by
  funext j
  unfold upd
  by_cases h : j = i
  · rw [if_pos h, if_pos (by omega)]
  · rw [if_neg h]
    show (if j < i then v else f j) = _
    by_cases h2 : j < i
    · rw [if_pos h2, if_pos (by omega)]
    · rw [if_neg h2, if_neg (by omega)]
set_option maxRecDepth 100000 in
theorem ci_fill (l : Launch) (D : va_G) (T : Cy) (a N : Nat) (f : Nat → Int32) (v : Int32) (hN : N < 100000) (sz : Nat) : Mu l D T yJ7_fill_53178 cJ7_fill_53178 4 0 0 0 0 [(a, .inl (T.1, N, .inl f))] (fun _ => [(a, .inl (T.1, N, .inl (fun j => if j < N then v else f j)))]) [.ref a, .int v] sz := by
  refine i_in (by decide) (Nat.le_of_ble_eq_true rfl) (fun p e s m below meth c ls C hr hk hin hj w hl => ?_)
  have hl : lv_has ls 4 [(0, .ref a), (1, .int v)] := hl
  refine lv_iconst (v := 0) C.1 C.2.1 dJ7_fill_53178_0 (by decide) ?_
  refine lv_istore_n (lv' := [(2, .int 0), (0, .ref a), (1, .int v)]) C.1 C.2.1 dJ7_fill_53178_1 rfl hl (by decide) rfl (fun ls hl => ?_)
  refine lv_aload_n C.1 C.2.1 dJ7_fill_53178_2 rfl (lv_at hl 1 rfl) ?_
  refine i_alen (q0 := 0) C w rfl dJ7_fill_53178_3 ?_
  refine lv_istore_n (lv' := [(3, .int (nI N)), (2, .int 0), (0, .ref a), (1, .int v)]) C.1 C.2.1 dJ7_fill_53178_4 rfl hl (by decide) rfl (fun ls hl => ?_)
  have key : ∀ (k i : Nat) (H : Heap) (locs : List Loc) (ls : Array Slot), i + k = N → Wg D T [(a, .inl (T.1, N, .inl (fun j => if j < i then v else f j)))] (va_A [(a, .inl (T.1, N, .inl f))] sz) s H locs → lv_has ls 4 [(3, .int (nI N)), (2, .int (nI i)), (0, .ref a), (1, .int v)] → W p l e (rmI 0 0 0 0) s m [Value.ref a, .int v].toArray below meth c H locs 0 0 (MQ below (QuW D T (va_A [(a, .inl (T.1, N, .inl f))] sz) (fun _ => [(a, .inl (T.1, N, .inl (fun j => if j < N then v else f j)))])) [Value.ref a, .int v].toArray s 0 0 (va_A [(a, .inl (T.1, N, .inl f))] sz)) (F0 m 5 ls []) := by
    intro k
    induction k with
    | zero =>
      intro i H locs ls hi w hl
      have hi : i = N := by omega
      subst hi
      refine lv_iload_n C.1 C.2.1 dJ7_fill_53178_5 rfl (lv_at hl 1 rfl) ?_
      refine lv_iload_n C.1 C.2.1 dJ7_fill_53178_6 rfl (lv_at hl 0 rfl) ?_
      refine lv_icmp_ge (tgt := 20) C.1 C.2.1 dJ7_fill_53178_7 (by decide) (fun hc => ?_) (fun hc => ?_)
      · exact i_ret C w hr hk (fun _ => 0) [0] rfl (by decide) rfl dJ7_fill_53178_20 (Nat.le_refl _) (Nat.le_refl _)
      · exact absurd (Int32.le_refl _) hc
    | succ k ih =>
      intro i H locs ls hi w hl
      refine lv_iload_n C.1 C.2.1 dJ7_fill_53178_5 rfl (lv_at hl 1 rfl) ?_
      refine lv_iload_n C.1 C.2.1 dJ7_fill_53178_6 rfl (lv_at hl 0 rfl) ?_
      refine lv_icmp_ge (tgt := 20) C.1 C.2.1 dJ7_fill_53178_7 (by decide) (fun hc => ?_) (fun hc => ?_)
      · exact absurd ((nI_leI (by omega) (by omega)).mp hc) (by omega)
      refine lv_aload_n C.1 C.2.1 dJ7_fill_53178_10 rfl (lv_at hl 2 rfl) ?_
      refine lv_iload_n C.1 C.2.1 dJ7_fill_53178_11 rfl (lv_at hl 1 rfl) ?_
      refine lv_iload_n C.1 C.2.1 dJ7_fill_53178_12 rfl (lv_at hl 3 rfl) ?_
      refine i_iast (q0 := 0) C w rfl (vp_in_nI (by omega) (by omega)) dJ7_fill_53178_13 (fun H locs w => ?_)
      rw [nI_clamp (by omega : i < 2 ^ 31), ifu (N := N)] at w
      refine lv_iinc (v := nI (i + 1)) (lv' := [(2, .int (nI (i + 1))), (3, .int (nI N)), (0, .ref a), (1, .int v)]) C.1 C.2.1 dJ7_fill_53178_14 hl (k := 1) rfl (by rw [nI_succ]; rfl) (by decide) rfl (fun ls hl => ?_)
      refine lv_goto (tgt := 5) C.1 C.2.1 dJ7_fill_53178_17 (by decide) ?_
      exact ih (i + 1) H locs ls (by omega) w (lv_sub hl [1, 0, 2, 3] rfl)
  refine key N 0 _ _ _ (by omega) ?_ hl
  have : (fun j => if j < 0 then v else f j) = f := by
    funext j
    rw [if_neg (by omega)]
  rw [this]
  exact w
set_option maxRecDepth 100000 in
theorem ci_add (l : Launch) (D : va_G) (T : Cy) (o c : Nat) (lim : Int32) (hlim : (0 : Int32) < lim) (sz : Nat) : Mu l D T yX6_add cX6_add 2 0 0 0 0 [(o, .inr (4, [.int lim, .ref c, .int (0 : Int32), .int (0 : Int32)])), (c, .inl (T.1, 16, .inl (fun _ => 0)))] (fun _ => [(o, .inr (4, [.int lim, .ref c, .int (1 : Int32), .int (0 : Int32)])), (c, .inl (T.1, 16, .inl (fun _ => 0)))]) [.ref o, .int (0 : Int32)] sz := by
  refine i_in (by decide) (Nat.le_of_ble_eq_true rfl) (fun p e s m below meth cd ls C hr hk hin hj w hl => ?_)
  have hl : lv_has ls 2 [(0, .ref o), (1, .int (0 : Int32))] := hl
  refine lv_aload_n C.1 C.2.1 dX6_add_0 rfl (lv_at hl 0 rfl) ?_
  refine i_get (q0 := 0) C w fX6_19 rfl rfl dX6_add_1 ?_
  refine lv_aload_n C.1 C.2.1 dX6_add_4 rfl (lv_at hl 0 rfl) ?_
  refine i_get (q0 := 0) C w fX6_9 rfl rfl dX6_add_5 ?_
  refine lv_icmp_lt (tgt := 17) C.1 C.2.1 dX6_add_8 (by decide) (fun hc => ?_) (fun hc => absurd hlim hc)
  refine lv_aload_n C.1 C.2.1 dX6_add_17 rfl (lv_at hl 0 rfl) ?_
  refine i_get (q0 := 0) C w fX6_19 rfl rfl dX6_add_18 ?_
  refine lv_aload_n C.1 C.2.1 dX6_add_21 rfl (lv_at hl 0 rfl) ?_
  refine i_get (q0 := 0) C w fX6_15 rfl rfl dX6_add_22 ?_
  refine i_alen (q0 := 1) C w rfl dX6_add_25 ?_
  refine lv_icmp_lt (tgt := 46) C.1 C.2.1 dX6_add_26 (by decide) (fun hc => ?_) (fun hc => absurd (by decide) hc)
  refine lv_aload_n C.1 C.2.1 dX6_add_46 rfl (lv_at hl 0 rfl) ?_
  refine i_get (q0 := 0) C w fX6_15 rfl rfl dX6_add_47 ?_
  refine lv_aload_n C.1 C.2.1 dX6_add_50 rfl (lv_at hl 0 rfl) ?_
  refine i_get (q0 := 0) C w fX6_19 rfl rfl dX6_add_51 ?_
  refine lv_iload_n C.1 C.2.1 dX6_add_54 rfl (lv_at hl 1 rfl) ?_
  refine i_iast (q0 := 1) C w rfl (vpi (by decide +kernel)) dX6_add_55 (fun H locs w => ?_)
  have e0 : upd (fun _ => (0 : Int32)) ((0 : Int32).toNatClampNeg) (0 : Int32) = fun _ => 0 := by
    funext j
    unfold upd
    split <;> rfl
  rw [e0] at w
  refine lv_aload_n C.1 C.2.1 dX6_add_56 rfl (lv_at hl 0 rfl) ?_
  refine lv_dup C.1 C.2.1 dX6_add_57 rfl ?_
  refine i_get (q0 := 0) C w fX6_19 rfl rfl dX6_add_58 ?_
  refine lv_iconst (v := 1) C.1 C.2.1 dX6_add_61 (by decide) ?_
  refine lv_iadd C.1 C.2.1 dX6_add_62 ?_
  refine i_put (q0 := 0) C w fX6_19 pX6_2 rfl rfl rfl (Nat.le_of_ble_eq_true rfl) dX6_add_63 (fun H locs w => ?_)
  exact i_ret C w hr hk (fun _ => 0) [0, 1] rfl (by decide) rfl dX6_add_66 (Nat.le_refl _) (Nat.le_refl _)
