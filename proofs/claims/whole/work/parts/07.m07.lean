theorem dX13_changes_0 : decode cX13_changes 0 = .ok (.aload_n 0, 1) := by decide +kernel
theorem dX13_changes_1 : decode cX13_changes 1 = .ok (.iload_n 2, 1) := by decide +kernel
theorem dX13_changes_2 : decode cX13_changes 2 = .ok (.iconst 1, 1) := by decide +kernel
theorem dX13_changes_3 : decode cX13_changes 3 = .ok (.iadd, 1) := by decide +kernel
theorem dX13_changes_4 : decode cX13_changes 4 = .ok (.invokevirtual 558, 3) := by decide +kernel
theorem dX13_changes_7 : decode cX13_changes 7 = .ok (.istore_n 3, 1) := by decide +kernel
theorem dX13_changes_8 : decode cX13_changes 8 = .ok (.iload_n 1, 1) := by decide +kernel
theorem dX13_changes_9 : decode cX13_changes 9 = .ok (.bipush 21, 2) := by decide +kernel
theorem dX13_changes_11 : decode cX13_changes 11 = .ok (.if_icmp .ne 13, 3) := by decide +kernel
theorem dX13_changes_14 : decode cX13_changes 14 = .ok (.aload_n 0, 1) := by decide +kernel
theorem dX13_changes_15 : decode cX13_changes 15 = .ok (.iload_n 2, 1) := by decide +kernel
theorem dX13_changes_16 : decode cX13_changes 16 = .ok (.iconst 2, 1) := by decide +kernel
theorem dX13_changes_17 : decode cX13_changes 17 = .ok (.iadd, 1) := by decide +kernel
theorem dX13_changes_18 : decode cX13_changes 18 = .ok (.invokevirtual 558, 3) := by decide +kernel
theorem dX13_changes_21 : decode cX13_changes 21 = .ok (.goto 4, 3) := by decide +kernel
theorem dX13_changes_24 : decode cX13_changes 24 = .ok (.iconst 0, 1) := by decide +kernel
theorem dX13_changes_25 : decode cX13_changes 25 = .ok (.istore 4, 2) := by decide +kernel
theorem dX13_changes_27 : decode cX13_changes 27 = .ok (.iload_n 1, 1) := by decide +kernel
theorem dX13_changes_28 : decode cX13_changes 28 = .ok (.bipush 21, 2) := by decide +kernel
theorem dX13_changes_30 : decode cX13_changes 30 = .ok (.if_icmp .ne 13, 3) := by decide +kernel
theorem dX13_changes_33 : decode cX13_changes 33 = .ok (.aload_n 0, 1) := by decide +kernel
theorem dX13_changes_34 : decode cX13_changes 34 = .ok (.iload_n 2, 1) := by decide +kernel
theorem dX13_changes_35 : decode cX13_changes 35 = .ok (.iconst 3, 1) := by decide +kernel
theorem dX13_changes_36 : decode cX13_changes 36 = .ok (.iadd, 1) := by decide +kernel
theorem dX13_changes_37 : decode cX13_changes 37 = .ok (.invokevirtual 558, 3) := by decide +kernel
theorem dX13_changes_40 : decode cX13_changes 40 = .ok (.goto 4, 3) := by decide +kernel
theorem dX13_changes_43 : decode cX13_changes 43 = .ok (.iconst 0, 1) := by decide +kernel
theorem dX13_changes_44 : decode cX13_changes 44 = .ok (.istore 5, 2) := by decide +kernel
theorem dX13_changes_46 : decode cX13_changes 46 = .ok (.aload_n 0, 1) := by decide +kernel
theorem dX13_changes_47 : decode cX13_changes 47 = .ok (.getfield 398, 3) := by decide +kernel
theorem dX13_changes_50 : decode cX13_changes 50 = .ok (.ifCond .eq 4, 3) := by decide +kernel
theorem dX13_changes_53 : decode cX13_changes 53 = .ok (.return_, 1) := by decide +kernel
theorem dX13_changes_54 : decode cX13_changes 54 = .ok (.iconst 0, 1) := by decide +kernel
theorem dX13_changes_55 : decode cX13_changes 55 = .ok (.istore 6, 2) := by decide +kernel
theorem dX13_changes_57 : decode cX13_changes 57 = .ok (.iload_n 1, 1) := by decide +kernel
theorem dX13_changes_58 : decode cX13_changes 58 = .ok (.bipush 18, 2) := by decide +kernel
theorem dX13_changes_60 : decode cX13_changes 60 = .ok (.if_icmp .gt 15, 3) := by decide +kernel
theorem dX13_changes_63 : decode cX13_changes 63 = .ok (.aload_n 0, 1) := by decide +kernel
theorem dX13_changes_64 : decode cX13_changes 64 = .ok (.iload_n 1, 1) := by decide +kernel
theorem dX13_changes_65 : decode cX13_changes 65 = .ok (.iload_n 2, 1) := by decide +kernel
theorem dX13_changes_66 : decode cX13_changes 66 = .ok (.iload_n 3, 1) := by decide +kernel
theorem dX13_changes_67 : decode cX13_changes 67 = .ok (.invokevirtual 598, 3) := by decide +kernel
theorem dX13_changes_70 : decode cX13_changes 70 = .ok (.istore 6, 2) := by decide +kernel
theorem dX13_changes_72 : decode cX13_changes 72 = .ok (.goto 65, 3) := by decide +kernel
theorem dX13_changes_75 : decode cX13_changes 75 = .ok (.iload_n 1, 1) := by decide +kernel
theorem dX13_changes_76 : decode cX13_changes 76 = .ok (.bipush 19, 2) := by decide +kernel
theorem dX13_changes_78 : decode cX13_changes 78 = .ok (.if_icmp .ne 14, 3) := by decide +kernel
theorem dX13_changes_81 : decode cX13_changes 81 = .ok (.aload_n 0, 1) := by decide +kernel
theorem dX13_changes_82 : decode cX13_changes 82 = .ok (.iload_n 2, 1) := by decide +kernel
theorem dX13_changes_83 : decode cX13_changes 83 = .ok (.iload_n 3, 1) := by decide +kernel
theorem dX13_changes_84 : decode cX13_changes 84 = .ok (.invokevirtual 602, 3) := by decide +kernel
theorem dX13_changes_87 : decode cX13_changes 87 = .ok (.istore 6, 2) := by decide +kernel
theorem dX13_changes_89 : decode cX13_changes 89 = .ok (.goto 48, 3) := by decide +kernel
theorem dX13_changes_92 : decode cX13_changes 92 = .ok (.iload_n 1, 1) := by decide +kernel
theorem dX13_changes_93 : decode cX13_changes 93 = .ok (.bipush 20, 2) := by decide +kernel
theorem dX13_changes_95 : decode cX13_changes 95 = .ok (.if_icmp .ne 14, 3) := by decide +kernel
theorem dX13_changes_98 : decode cX13_changes 98 = .ok (.aload_n 0, 1) := by decide +kernel
theorem dX13_changes_99 : decode cX13_changes 99 = .ok (.iload_n 2, 1) := by decide +kernel
theorem dX13_changes_100 : decode cX13_changes 100 = .ok (.iload_n 3, 1) := by decide +kernel
theorem dX13_changes_101 : decode cX13_changes 101 = .ok (.invokevirtual 605, 3) := by decide +kernel
theorem dX13_changes_104 : decode cX13_changes 104 = .ok (.istore 6, 2) := by decide +kernel
theorem dX13_changes_106 : decode cX13_changes 106 = .ok (.goto 31, 3) := by decide +kernel
theorem dX13_changes_109 : decode cX13_changes 109 = .ok (.iload_n 1, 1) := by decide +kernel
theorem dX13_changes_110 : decode cX13_changes 110 = .ok (.bipush 21, 2) := by decide +kernel
theorem dX13_changes_112 : decode cX13_changes 112 = .ok (.if_icmp .ne 17, 3) := by decide +kernel
theorem dX13_changes_115 : decode cX13_changes 115 = .ok (.aload_n 0, 1) := by decide +kernel
theorem dX13_changes_116 : decode cX13_changes 116 = .ok (.iload_n 3, 1) := by decide +kernel
theorem dX13_changes_117 : decode cX13_changes 117 = .ok (.iload 4, 2) := by decide +kernel
theorem dX13_changes_119 : decode cX13_changes 119 = .ok (.iload 5, 2) := by decide +kernel
theorem dX13_changes_121 : decode cX13_changes 121 = .ok (.invokevirtual 608, 3) := by decide +kernel
theorem dX13_changes_124 : decode cX13_changes 124 = .ok (.istore 6, 2) := by decide +kernel
theorem dX13_changes_126 : decode cX13_changes 126 = .ok (.goto 11, 3) := by decide +kernel
theorem dX13_changes_129 : decode cX13_changes 129 = .ok (.aload_n 0, 1) := by decide +kernel
theorem dX13_changes_130 : decode cX13_changes 130 = .ok (.iload_n 1, 1) := by decide +kernel
theorem dX13_changes_131 : decode cX13_changes 131 = .ok (.iload_n 3, 1) := by decide +kernel
theorem dX13_changes_132 : decode cX13_changes 132 = .ok (.invokevirtual 611, 3) := by decide +kernel
theorem dX13_changes_135 : decode cX13_changes 135 = .ok (.istore 6, 2) := by decide +kernel
theorem dX13_changes_137 : decode cX13_changes 137 = .ok (.aload_n 0, 1) := by decide +kernel
theorem dX13_changes_138 : decode cX13_changes 138 = .ok (.getfield 398, 3) := by decide +kernel
theorem dX13_changes_141 : decode cX13_changes 141 = .ok (.ifCond .eq 4, 3) := by decide +kernel
theorem dX13_changes_144 : decode cX13_changes 144 = .ok (.return_, 1) := by decide +kernel
theorem dX13_changes_145 : decode cX13_changes 145 = .ok (.iload 6, 2) := by decide +kernel
theorem dX13_changes_147 : decode cX13_changes 147 = .ok (.ifCond .eq 12, 3) := by decide +kernel
theorem dX13_changes_150 : decode cX13_changes 150 = .ok (.aload_n 0, 1) := by decide +kernel
theorem dX13_changes_151 : decode cX13_changes 151 = .ok (.iload_n 2, 1) := by decide +kernel
theorem dX13_changes_152 : decode cX13_changes 152 = .ok (.iload_n 3, 1) := by decide +kernel
theorem dX13_changes_153 : decode cX13_changes 153 = .ok (.invokevirtual 552, 3) := by decide +kernel
theorem dX13_changes_156 : decode cX13_changes 156 = .ok (.goto 8, 3) := by decide +kernel
theorem dX13_changes_159 : decode cX13_changes 159 = .ok (.aload_n 0, 1) := by decide +kernel
theorem dX13_changes_160 : decode cX13_changes 160 = .ok (.iload_n 2, 1) := by decide +kernel
theorem dX13_changes_161 : decode cX13_changes 161 = .ok (.invokevirtual 614, 3) := by decide +kernel
theorem dX13_changes_164 : decode cX13_changes 164 = .ok (.return_, 1) := by decide +kernel
def m_changes_137 (g : Nat) (S : St) (x2 : Int32) (x3 : Int32) (x6 : Int32) : Option St :=
if (gI S 0 58) = 0 then (
  if x6 = 0 then (
    (m_givesUnits g S x2).bind fun S_5 =>
    some S_5
  ) else (
    (m_givesText g S x2 x3).bind fun S_6 =>
    some S_6
  )
) else (
  some S
)
def m_changes_44 (g : Nat) (S : St) (x1 : Int32) (x2 : Int32) (x3 : Int32) (x4 : Int32) (y0 : Int32) : Option St :=
if (gI S 0 58) = 0 then (
  if (18 : Int32) < x1 then (
    if x1 = (19 : Int32) then (
      (m_repeats g S x2 x3).bind fun (S_9, v_10) =>
      m_changes_137 g S_9 x2 x3 v_10
    ) else (
      if x1 = (20 : Int32) then (
        (m_exchanges g S x2 x3).bind fun (S_7, v_8) =>
        m_changes_137 g S_7 x2 x3 v_8
      ) else (
        if x1 = (21 : Int32) then (
          (m_replaces g S x3 x4 y0).bind fun (S_5, v_6) =>
          m_changes_137 g S_5 x2 x3 v_6
        ) else (
          (m_cases g S x1 x3).bind fun (S_3, v_4) =>
          m_changes_137 g S_3 x2 x3 v_4
        )
      )
    )
  ) else (
    (m_cutOut g S x1 x2 x3).bind fun (S_11, v_12) =>
    m_changes_137 g S_11 x2 x3 v_12
  )
) else (
  some S
)
def m_changes_25 (g : Nat) (S : St) (x1 : Int32) (x2 : Int32) (x3 : Int32) (y0 : Int32) : Option St :=
if x1 = (21 : Int32) then (
  (m_textAt g S (x2 + (3 : Int32))).bind fun (S_3, v_4) =>
  m_changes_44 g S_3 x1 x2 x3 y0 v_4
) else (
  m_changes_44 g S x1 x2 x3 y0 (0 : Int32)
)
def m_changes (g : Nat) (S : St) (x1 : Int32) (x2 : Int32) : Option St :=
(m_textAt g S (x2 + (1 : Int32))).bind fun (S_1, v_2) =>
if x1 = (21 : Int32) then (
  (m_textAt g S_1 (x2 + (2 : Int32))).bind fun (S_3, v_4) =>
  m_changes_25 g S_3 x1 x2 v_2 v_4
) else (
  m_changes_25 g S_1 x1 x2 v_2 (0 : Int32)
)
section S_changes
variable {p : Program} {l : Launch} {e : Env} {s : State} {m : MethodId} {args : Array Value} {below : List Frame} {meth : Method} {c : Code} {H : Heap} {locs : List Loc} {ls : Array Slot} {D : va_G} {T : Cy} {ρ : Nat → Nat} {A : Nat → Prop}
set_option maxRecDepth 100000 in
set_option maxHeartbeats 4000000 in
theorem w_changes_137  {g : Nat} {S : St} {x2 : Int32} {x3 : Int32} {x6 : Int32} (C : CallFix p m c cX13_changes 7 s args tb RX13) (hr : meth.sig.returnType = none) (hk : meth.locks = false) {S' : St} (w : Wn Ym D T ρ S A s H locs) (hl : lv_has ls 7 [(0, .ref (ρ 0)), (2, .int x2), (3, .int x3), (6, .int x6)]) (h : m_changes_137 g S x2 x3 x6 = some S') : W p l e (rmN 3 76) s m args below meth c H locs 0 0 (MQ below (Qv Ym D T ρ A S') args s 0 0 A) (F0 m 137 ls []) := by
  unfold m_changes_137 at h
  refine lv_aload_n C.1 C.2.1 dX13_changes_137 rfl (lv_at hl 0 rfl) ?_
  refine x_getI C w fM398 obM dX13_changes_138 ?_
  refine lv_if_eq (tgt := 145) C.1 C.2.1 dX13_changes_141 (by decide) (fun hc => ?_) (fun hc => ?_)
  · replace h := ift hc h
    refine lv_iload C.1 C.2.1 dX13_changes_145 (lv_at hl 3 rfl) ?_
    refine lv_if_eq (tgt := 159) C.1 C.2.1 dX13_changes_147 (by decide) (fun hc => ?_) (fun hc => ?_)
    · replace h := ift hc h
      refine lv_aload_n C.1 C.2.1 dX13_changes_159 rfl (lv_at hl 0 rfl) ?_
      refine lv_iload_n C.1 C.2.1 dX13_changes_160 rfl (lv_at hl 1 rfl) ?_
      obtain ⟨S_5, hS_5, h⟩ := bnd h
      refine x_callVv (q := (RX13, TX13, 68)) (As := [.int x2]) (rest := []) C w (k_givesUnits l D T ρ g H.size S hS_5) vM614 ⟨by decide, by decide⟩ obM (by decide) rfl rfl rfl hl.1 (Nat.le_of_ble_eq_true rfl) ⟨Nat.zero_le _, Nat.zero_le _⟩ dX13_changes_161 (fun H locs w => ?_)
      obtain rfl := som h
      exact x_vret C w hr hk dX13_changes_164
    · replace h := iff0 hc h
      refine lv_aload_n C.1 C.2.1 dX13_changes_150 rfl (lv_at hl 0 rfl) ?_
      refine lv_iload_n C.1 C.2.1 dX13_changes_151 rfl (lv_at hl 1 rfl) ?_
      refine lv_iload_n C.1 C.2.1 dX13_changes_152 rfl (lv_at hl 2 rfl) ?_
      obtain ⟨S_6, hS_6, h⟩ := bnd h
      refine x_callVv (q := (RX13, TX13, 68)) (As := [.int x2, .int x3]) (rest := []) C w (k_givesText l D T ρ g H.size S hS_6) vM552 ⟨by decide, by decide⟩ obM (by decide) rfl rfl rfl hl.1 (Nat.le_of_ble_eq_true rfl) ⟨Nat.zero_le _, Nat.zero_le _⟩ dX13_changes_153 (fun H locs w => ?_)
      refine lv_goto (tgt := 164) C.1 C.2.1 dX13_changes_156 (by decide) ?_
      obtain rfl := som h
      exact x_vret C w hr hk dX13_changes_164
  · replace h := iff0 hc h
    obtain rfl := som h
    exact x_vret C w hr hk dX13_changes_144
set_option maxRecDepth 100000 in
set_option maxHeartbeats 4000000 in
theorem w_changes_44  {g : Nat} {S : St} {x1 : Int32} {x2 : Int32} {x3 : Int32} {x4 : Int32} {y0 : Int32} (C : CallFix p m c cX13_changes 7 s args tb RX13) (hr : meth.sig.returnType = none) (hk : meth.locks = false) {S' : St} (w : Wn Ym D T ρ S A s H locs) (hl : lv_has ls 7 [(0, .ref (ρ 0)), (1, .int x1), (2, .int x2), (3, .int x3), (4, .int x4)]) (h : m_changes_44 g S x1 x2 x3 x4 y0 = some S') : W p l e (rmN 3 76) s m args below meth c H locs 0 0 (MQ below (Qv Ym D T ρ A S') args s 0 0 A) (F0 m 44 ls [.int y0]) := by
  unfold m_changes_44 at h
  refine lv_istore (lv' := [(5, .int y0), (0, .ref (ρ 0)), (1, .int x1), (2, .int x2), (3, .int x3), (4, .int x4)]) C.1 C.2.1 dX13_changes_44 hl (by decide) rfl (fun ls hl => ?_)
  refine lv_aload_n C.1 C.2.1 dX13_changes_46 rfl (lv_at hl 1 rfl) ?_
  refine x_getI C w fM398 obM dX13_changes_47 ?_
  refine lv_if_eq (tgt := 54) C.1 C.2.1 dX13_changes_50 (by decide) (fun hc => ?_) (fun hc => ?_)
  · replace h := ift hc h
    refine lv_iconst (v := 0) C.1 C.2.1 dX13_changes_54 (by decide) ?_
    refine lv_istore (lv' := [(6, .int (0 : Int32)), (5, .int y0), (0, .ref (ρ 0)), (1, .int x1), (2, .int x2), (3, .int x3), (4, .int x4)]) C.1 C.2.1 dX13_changes_55 hl (by decide) rfl (fun ls hl => ?_)
    refine lv_iload_n C.1 C.2.1 dX13_changes_57 rfl (lv_at hl 3 rfl) ?_
    refine lv_bipush (v := 18) C.1 C.2.1 dX13_changes_58 (by decide) ?_
    refine lv_icmp_gt (tgt := 75) C.1 C.2.1 dX13_changes_60 (by decide) (fun hc => ?_) (fun hc => ?_)
    · replace h := ift hc h
      refine lv_iload_n C.1 C.2.1 dX13_changes_75 rfl (lv_at hl 3 rfl) ?_
      refine lv_bipush (v := 19) C.1 C.2.1 dX13_changes_76 (by decide) ?_
      refine lv_icmp_ne (tgt := 92) C.1 C.2.1 dX13_changes_78 (by decide) (fun hc => ?_) (fun hc => ?_)
      · replace h := iff0 hc h
        refine lv_iload_n C.1 C.2.1 dX13_changes_92 rfl (lv_at hl 3 rfl) ?_
        refine lv_bipush (v := 20) C.1 C.2.1 dX13_changes_93 (by decide) ?_
        refine lv_icmp_ne (tgt := 109) C.1 C.2.1 dX13_changes_95 (by decide) (fun hc => ?_) (fun hc => ?_)
        · replace h := iff0 hc h
          refine lv_iload_n C.1 C.2.1 dX13_changes_109 rfl (lv_at hl 3 rfl) ?_
          refine lv_bipush (v := 21) C.1 C.2.1 dX13_changes_110 (by decide) ?_
          refine lv_icmp_ne (tgt := 129) C.1 C.2.1 dX13_changes_112 (by decide) (fun hc => ?_) (fun hc => ?_)
          · replace h := iff0 hc h
            refine lv_aload_n C.1 C.2.1 dX13_changes_129 rfl (lv_at hl 2 rfl) ?_
            refine lv_iload_n C.1 C.2.1 dX13_changes_130 rfl (lv_at hl 3 rfl) ?_
            refine lv_iload_n C.1 C.2.1 dX13_changes_131 rfl (lv_at hl 5 rfl) ?_
            obtain ⟨⟨S_3, v_4⟩, hv_4, h⟩ := bnd h
            refine x_callVi (q := (RX13, TX13, 68)) (As := [.int x1, .int x3]) (rest := []) C w (k_cases l D T ρ g H.size S hv_4) vM611 ⟨by decide, by decide⟩ obM (by decide) rfl rfl rfl hl.1 (Nat.le_of_ble_eq_true rfl) ⟨Nat.zero_le _, Nat.zero_le _⟩ dX13_changes_132 (fun H locs w => ?_)
            refine lv_istore (lv' := [(6, .int v_4), (5, .int y0), (0, .ref (ρ 0)), (1, .int x1), (2, .int x2), (3, .int x3), (4, .int x4)]) C.1 C.2.1 dX13_changes_135 hl (by decide) rfl (fun ls hl => ?_)
            exact w_changes_137 C hr hk w (lv_sub hl [2, 4, 5, 0] rfl) h
          · replace h := ift hc h
            refine lv_aload_n C.1 C.2.1 dX13_changes_115 rfl (lv_at hl 2 rfl) ?_
            refine lv_iload_n C.1 C.2.1 dX13_changes_116 rfl (lv_at hl 5 rfl) ?_
            refine lv_iload C.1 C.2.1 dX13_changes_117 (lv_at hl 6 rfl) ?_
            refine lv_iload C.1 C.2.1 dX13_changes_119 (lv_at hl 1 rfl) ?_
            obtain ⟨⟨S_5, v_6⟩, hv_6, h⟩ := bnd h
            refine x_callVi (q := (RX13, TX13, 68)) (As := [.int x3, .int x4, .int y0]) (rest := []) C w (k_replaces l D T ρ g H.size S hv_6) vM608 ⟨by decide, by decide⟩ obM (by decide) rfl rfl rfl hl.1 (Nat.le_of_ble_eq_true rfl) ⟨Nat.zero_le _, Nat.zero_le _⟩ dX13_changes_121 (fun H locs w => ?_)
            refine lv_istore (lv' := [(6, .int v_6), (5, .int y0), (0, .ref (ρ 0)), (1, .int x1), (2, .int x2), (3, .int x3), (4, .int x4)]) C.1 C.2.1 dX13_changes_124 hl (by decide) rfl (fun ls hl => ?_)
            refine lv_goto (tgt := 137) C.1 C.2.1 dX13_changes_126 (by decide) ?_
            exact w_changes_137 C hr hk w (lv_sub hl [2, 4, 5, 0] rfl) h
        · replace h := ift hc h
          refine lv_aload_n C.1 C.2.1 dX13_changes_98 rfl (lv_at hl 2 rfl) ?_
          refine lv_iload_n C.1 C.2.1 dX13_changes_99 rfl (lv_at hl 4 rfl) ?_
          refine lv_iload_n C.1 C.2.1 dX13_changes_100 rfl (lv_at hl 5 rfl) ?_
          obtain ⟨⟨S_7, v_8⟩, hv_8, h⟩ := bnd h
          refine x_callVi (q := (RX13, TX13, 68)) (As := [.int x2, .int x3]) (rest := []) C w (k_exchanges l D T ρ g H.size S hv_8) vM605 ⟨by decide, by decide⟩ obM (by decide) rfl rfl rfl hl.1 (Nat.le_of_ble_eq_true rfl) ⟨Nat.zero_le _, Nat.zero_le _⟩ dX13_changes_101 (fun H locs w => ?_)
          refine lv_istore (lv' := [(6, .int v_8), (5, .int y0), (0, .ref (ρ 0)), (1, .int x1), (2, .int x2), (3, .int x3), (4, .int x4)]) C.1 C.2.1 dX13_changes_104 hl (by decide) rfl (fun ls hl => ?_)
          refine lv_goto (tgt := 137) C.1 C.2.1 dX13_changes_106 (by decide) ?_
          exact w_changes_137 C hr hk w (lv_sub hl [2, 4, 5, 0] rfl) h
      · replace h := ift hc h
        refine lv_aload_n C.1 C.2.1 dX13_changes_81 rfl (lv_at hl 2 rfl) ?_
        refine lv_iload_n C.1 C.2.1 dX13_changes_82 rfl (lv_at hl 4 rfl) ?_
        refine lv_iload_n C.1 C.2.1 dX13_changes_83 rfl (lv_at hl 5 rfl) ?_
        obtain ⟨⟨S_9, v_10⟩, hv_10, h⟩ := bnd h
        refine x_callVi (q := (RX13, TX13, 68)) (As := [.int x2, .int x3]) (rest := []) C w (k_repeats l D T ρ g H.size S hv_10) vM602 ⟨by decide, by decide⟩ obM (by decide) rfl rfl rfl hl.1 (Nat.le_of_ble_eq_true rfl) ⟨Nat.zero_le _, Nat.zero_le _⟩ dX13_changes_84 (fun H locs w => ?_)
        refine lv_istore (lv' := [(6, .int v_10), (5, .int y0), (0, .ref (ρ 0)), (1, .int x1), (2, .int x2), (3, .int x3), (4, .int x4)]) C.1 C.2.1 dX13_changes_87 hl (by decide) rfl (fun ls hl => ?_)
        refine lv_goto (tgt := 137) C.1 C.2.1 dX13_changes_89 (by decide) ?_
        exact w_changes_137 C hr hk w (lv_sub hl [2, 4, 5, 0] rfl) h
    · replace h := iff0 hc h
      refine lv_aload_n C.1 C.2.1 dX13_changes_63 rfl (lv_at hl 2 rfl) ?_
      refine lv_iload_n C.1 C.2.1 dX13_changes_64 rfl (lv_at hl 3 rfl) ?_
      refine lv_iload_n C.1 C.2.1 dX13_changes_65 rfl (lv_at hl 4 rfl) ?_
      refine lv_iload_n C.1 C.2.1 dX13_changes_66 rfl (lv_at hl 5 rfl) ?_
      obtain ⟨⟨S_11, v_12⟩, hv_12, h⟩ := bnd h
      refine x_callVi (q := (RX13, TX13, 68)) (As := [.int x1, .int x2, .int x3]) (rest := []) C w (k_cutOut l D T ρ g H.size S hv_12) vM598 ⟨by decide, by decide⟩ obM (by decide) rfl rfl rfl hl.1 (Nat.le_of_ble_eq_true rfl) ⟨Nat.zero_le _, Nat.zero_le _⟩ dX13_changes_67 (fun H locs w => ?_)
      refine lv_istore (lv' := [(6, .int v_12), (5, .int y0), (0, .ref (ρ 0)), (1, .int x1), (2, .int x2), (3, .int x3), (4, .int x4)]) C.1 C.2.1 dX13_changes_70 hl (by decide) rfl (fun ls hl => ?_)
      refine lv_goto (tgt := 137) C.1 C.2.1 dX13_changes_72 (by decide) ?_
      exact w_changes_137 C hr hk w (lv_sub hl [2, 4, 5, 0] rfl) h
  · replace h := iff0 hc h
    obtain rfl := som h
    exact x_vret C w hr hk dX13_changes_53
set_option maxRecDepth 100000 in
set_option maxHeartbeats 4000000 in
theorem w_changes_25  {g : Nat} {S : St} {x1 : Int32} {x2 : Int32} {x3 : Int32} {y0 : Int32} (C : CallFix p m c cX13_changes 7 s args tb RX13) (hr : meth.sig.returnType = none) (hk : meth.locks = false) {S' : St} (w : Wn Ym D T ρ S A s H locs) (hl : lv_has ls 7 [(0, .ref (ρ 0)), (1, .int x1), (2, .int x2), (3, .int x3)]) (h : m_changes_25 g S x1 x2 x3 y0 = some S') : W p l e (rmN 3 76) s m args below meth c H locs 0 0 (MQ below (Qv Ym D T ρ A S') args s 0 0 A) (F0 m 25 ls [.int y0]) := by
  unfold m_changes_25 at h
  refine lv_istore (lv' := [(4, .int y0), (0, .ref (ρ 0)), (1, .int x1), (2, .int x2), (3, .int x3)]) C.1 C.2.1 dX13_changes_25 hl (by decide) rfl (fun ls hl => ?_)
  refine lv_iload_n C.1 C.2.1 dX13_changes_27 rfl (lv_at hl 2 rfl) ?_
  refine lv_bipush (v := 21) C.1 C.2.1 dX13_changes_28 (by decide) ?_
  refine lv_icmp_ne (tgt := 43) C.1 C.2.1 dX13_changes_30 (by decide) (fun hc => ?_) (fun hc => ?_)
  · replace h := iff0 hc h
    refine lv_iconst (v := 0) C.1 C.2.1 dX13_changes_43 (by decide) ?_
    exact w_changes_44 C hr hk w (lv_sub hl [1, 2, 3, 4, 0] rfl) h
  · replace h := ift hc h
    refine lv_aload_n C.1 C.2.1 dX13_changes_33 rfl (lv_at hl 1 rfl) ?_
    refine lv_iload_n C.1 C.2.1 dX13_changes_34 rfl (lv_at hl 3 rfl) ?_
    refine lv_iconst (v := 3) C.1 C.2.1 dX13_changes_35 (by decide) ?_
    refine lv_iadd C.1 C.2.1 dX13_changes_36 ?_
    obtain ⟨⟨S_3, v_4⟩, hv_4, h⟩ := bnd h
    refine x_callVi (q := (RX13, TX13, 68)) (As := [.int (x2 + (3 : Int32))]) (rest := []) C w (k_textAt l D T ρ g H.size S hv_4) vM558 ⟨by decide, by decide⟩ obM (by decide) rfl rfl rfl hl.1 (Nat.le_of_ble_eq_true rfl) ⟨Nat.zero_le _, Nat.zero_le _⟩ dX13_changes_37 (fun H locs w => ?_)
    refine lv_goto (tgt := 44) C.1 C.2.1 dX13_changes_40 (by decide) ?_
    exact w_changes_44 C hr hk w (lv_sub hl [1, 2, 3, 4, 0] rfl) h
set_option maxRecDepth 100000 in
set_option maxHeartbeats 4000000 in
theorem w_changes_0  {g : Nat} {S : St} {x1 : Int32} {x2 : Int32} (C : CallFix p m c cX13_changes 7 s args tb RX13) (hr : meth.sig.returnType = none) (hk : meth.locks = false) {S' : St} (w : Wn Ym D T ρ S A s H locs) (hl : lv_has ls 7 [(0, .ref (ρ 0)), (1, .int x1), (2, .int x2)]) (h : m_changes g S x1 x2 = some S') : W p l e (rmN 3 76) s m args below meth c H locs 0 0 (MQ below (Qv Ym D T ρ A S') args s 0 0 A) (F0 m 0 ls []) := by
  unfold m_changes at h
  refine lv_aload_n C.1 C.2.1 dX13_changes_0 rfl (lv_at hl 0 rfl) ?_
  refine lv_iload_n C.1 C.2.1 dX13_changes_1 rfl (lv_at hl 2 rfl) ?_
  refine lv_iconst (v := 1) C.1 C.2.1 dX13_changes_2 (by decide) ?_
  refine lv_iadd C.1 C.2.1 dX13_changes_3 ?_
  obtain ⟨⟨S_1, v_2⟩, hv_2, h⟩ := bnd h
  refine x_callVi (q := (RX13, TX13, 68)) (As := [.int (x2 + (1 : Int32))]) (rest := []) C w (k_textAt l D T ρ g H.size S hv_2) vM558 ⟨by decide, by decide⟩ obM (by decide) rfl rfl rfl hl.1 (Nat.le_of_ble_eq_true rfl) ⟨Nat.zero_le _, Nat.zero_le _⟩ dX13_changes_4 (fun H locs w => ?_)
  refine lv_istore_n (lv' := [(3, .int v_2), (0, .ref (ρ 0)), (1, .int x1), (2, .int x2)]) C.1 C.2.1 dX13_changes_7 rfl hl (by decide) rfl (fun ls hl => ?_)
  refine lv_iload_n C.1 C.2.1 dX13_changes_8 rfl (lv_at hl 2 rfl) ?_
  refine lv_bipush (v := 21) C.1 C.2.1 dX13_changes_9 (by decide) ?_
  refine lv_icmp_ne (tgt := 24) C.1 C.2.1 dX13_changes_11 (by decide) (fun hc => ?_) (fun hc => ?_)
  · replace h := iff0 hc h
    refine lv_iconst (v := 0) C.1 C.2.1 dX13_changes_24 (by decide) ?_
    exact w_changes_25 C hr hk w (lv_sub hl [1, 2, 3, 0] rfl) h
  · replace h := ift hc h
    refine lv_aload_n C.1 C.2.1 dX13_changes_14 rfl (lv_at hl 1 rfl) ?_
    refine lv_iload_n C.1 C.2.1 dX13_changes_15 rfl (lv_at hl 3 rfl) ?_
    refine lv_iconst (v := 2) C.1 C.2.1 dX13_changes_16 (by decide) ?_
    refine lv_iadd C.1 C.2.1 dX13_changes_17 ?_
    obtain ⟨⟨S_3, v_4⟩, hv_4, h⟩ := bnd h
    refine x_callVi (q := (RX13, TX13, 68)) (As := [.int (x2 + (2 : Int32))]) (rest := []) C w (k_textAt l D T ρ g H.size S_1 hv_4) vM558 ⟨by decide, by decide⟩ obM (by decide) rfl rfl rfl hl.1 (Nat.le_of_ble_eq_true rfl) ⟨Nat.zero_le _, Nat.zero_le _⟩ dX13_changes_18 (fun H locs w => ?_)
    refine lv_goto (tgt := 25) C.1 C.2.1 dX13_changes_21 (by decide) ?_
    exact w_changes_25 C hr hk w (lv_sub hl [1, 2, 3, 0] rfl) h
end S_changes
set_option maxRecDepth 100000 in
theorem k_changes (l : Launch) (D : va_G) (T : Cy) (ρ : Nat → Nat) (g sz : Nat) (S : St) {x1 : Int32} {x2 : Int32} {S' : St} (h : m_changes g S x1 x2 = some S') : Mv l Ym D T ρ yX13_changes cX13_changes 7 none 3 76 S S' [.ref (ρ 0), .int x1, .int x2] sz :=
  x_in (by decide) (Nat.le_of_ble_eq_true rfl) (fun p e s m below meth c ls C hr hk w hl => w_changes_0 C hr hk w hl h)

theorem dX13_alikeUnits_0 : decode cX13_alikeUnits 0 = .ok (.iload_n 0, 1) := by decide +kernel
theorem dX13_alikeUnits_1 : decode cX13_alikeUnits 1 = .ok (.invokestatic 498, 3) := by decide +kernel
theorem dX13_alikeUnits_4 : decode cX13_alikeUnits 4 = .ok (.istore_n 2, 1) := by decide +kernel
theorem dX13_alikeUnits_5 : decode cX13_alikeUnits 5 = .ok (.iload_n 1, 1) := by decide +kernel
theorem dX13_alikeUnits_6 : decode cX13_alikeUnits 6 = .ok (.invokestatic 498, 3) := by decide +kernel
theorem dX13_alikeUnits_9 : decode cX13_alikeUnits 9 = .ok (.istore_n 3, 1) := by decide +kernel
theorem dX13_alikeUnits_10 : decode cX13_alikeUnits 10 = .ok (.iload_n 0, 1) := by decide +kernel
theorem dX13_alikeUnits_11 : decode cX13_alikeUnits 11 = .ok (.iload_n 1, 1) := by decide +kernel
theorem dX13_alikeUnits_12 : decode cX13_alikeUnits 12 = .ok (.if_icmp .eq 19, 3) := by decide +kernel
theorem dX13_alikeUnits_15 : decode cX13_alikeUnits 15 = .ok (.iload_n 2, 1) := by decide +kernel
theorem dX13_alikeUnits_16 : decode cX13_alikeUnits 16 = .ok (.iload_n 3, 1) := by decide +kernel
theorem dX13_alikeUnits_17 : decode cX13_alikeUnits 17 = .ok (.if_icmp .eq 14, 3) := by decide +kernel
theorem dX13_alikeUnits_20 : decode cX13_alikeUnits 20 = .ok (.iload_n 2, 1) := by decide +kernel
theorem dX13_alikeUnits_21 : decode cX13_alikeUnits 21 = .ok (.invokestatic 501, 3) := by decide +kernel
theorem dX13_alikeUnits_24 : decode cX13_alikeUnits 24 = .ok (.iload_n 3, 1) := by decide +kernel
theorem dX13_alikeUnits_25 : decode cX13_alikeUnits 25 = .ok (.invokestatic 501, 3) := by decide +kernel
theorem dX13_alikeUnits_28 : decode cX13_alikeUnits 28 = .ok (.if_icmp .ne 7, 3) := by decide +kernel
theorem dX13_alikeUnits_31 : decode cX13_alikeUnits 31 = .ok (.iconst 1, 1) := by decide +kernel
theorem dX13_alikeUnits_32 : decode cX13_alikeUnits 32 = .ok (.goto 4, 3) := by decide +kernel
theorem dX13_alikeUnits_35 : decode cX13_alikeUnits 35 = .ok (.iconst 0, 1) := by decide +kernel
theorem dX13_alikeUnits_36 : decode cX13_alikeUnits 36 = .ok (.ireturn, 1) := by decide +kernel
def m_alikeUnits (g : Nat) (x0 : Int32) (x1 : Int32) : Option Int32 :=
(m_upper g x0).bind fun v_1 =>
(m_upper g x1).bind fun v_2 =>
if x0 = x1 then (
  some (1 : Int32)
) else (
  if v_1 = v_2 then (
    some (1 : Int32)
  ) else (
    (m_lower g v_1).bind fun v_3 =>
    (m_lower g v_2).bind fun v_4 =>
    if v_3 = v_4 then (
      some (1 : Int32)
    ) else (
      some (0 : Int32)
    )
  )
)
section S_alikeUnits
variable {p : Program} {l : Launch} {e : Env} {s : State} {m : MethodId} {args : Array Value} {below : List Frame} {meth : Method} {c : Code} {H : Heap} {locs : List Loc} {ls : Array Slot} {D : va_G} {T : Cy} {ρ : Nat → Nat} {A : Nat → Prop}
set_option maxRecDepth 100000 in
set_option maxHeartbeats 4000000 in
theorem w_alikeUnits_0  {g : Nat} {S : St} {x0 : Int32} {x1 : Int32} (C : CallFix p m c cX13_alikeUnits 4 s args tb RX13) (hr : meth.sig.returnType = (some .boolean)) (hk : meth.locks = false) {r : Int32} (w : Wn Ym D T ρ S A s H locs) (hl : lv_has ls 4 [(0, .int x0), (1, .int x1)]) (h : m_alikeUnits g x0 x1 = some r) : W p l e (rmN 2 42) s m args below meth c H locs 0 0 (MQ below (Qi Ym D T ρ A S r) args s 0 0 A) (F0 m 0 ls []) := by
  unfold m_alikeUnits at h
  refine lv_iload_n C.1 C.2.1 dX13_alikeUnits_0 rfl (lv_at hl 0 rfl) ?_
  obtain ⟨v_1, hv_1, h⟩ := bnd h
  refine x_callSi (As := [.int x0]) (rest := []) C w (k_upper l D T ρ g H.size S hv_1) vM498 ⟨by decide, by decide⟩ rfl rfl hl.1 (Nat.le_of_ble_eq_true rfl) ⟨Nat.zero_le _, Nat.zero_le _⟩ dX13_alikeUnits_1 (fun H locs w => ?_)
  refine lv_istore_n (lv' := [(2, .int v_1), (0, .int x0), (1, .int x1)]) C.1 C.2.1 dX13_alikeUnits_4 rfl hl (by decide) rfl (fun ls hl => ?_)
  refine lv_iload_n C.1 C.2.1 dX13_alikeUnits_5 rfl (lv_at hl 2 rfl) ?_
  obtain ⟨v_2, hv_2, h⟩ := bnd h
  refine x_callSi (As := [.int x1]) (rest := []) C w (k_upper l D T ρ g H.size S hv_2) vM498 ⟨by decide, by decide⟩ rfl rfl hl.1 (Nat.le_of_ble_eq_true rfl) ⟨Nat.zero_le _, Nat.zero_le _⟩ dX13_alikeUnits_6 (fun H locs w => ?_)
  refine lv_istore_n (lv' := [(3, .int v_2), (2, .int v_1), (0, .int x0), (1, .int x1)]) C.1 C.2.1 dX13_alikeUnits_9 rfl hl (by decide) rfl (fun ls hl => ?_)
  refine lv_iload_n C.1 C.2.1 dX13_alikeUnits_10 rfl (lv_at hl 2 rfl) ?_
  refine lv_iload_n C.1 C.2.1 dX13_alikeUnits_11 rfl (lv_at hl 3 rfl) ?_
  refine lv_icmp_eq (tgt := 31) C.1 C.2.1 dX13_alikeUnits_12 (by decide) (fun hc => ?_) (fun hc => ?_)
  · replace h := ift hc h
    refine lv_iconst (v := 1) C.1 C.2.1 dX13_alikeUnits_31 (by decide) ?_
    refine lv_goto (tgt := 36) C.1 C.2.1 dX13_alikeUnits_32 (by decide) ?_
    obtain rfl := som h
    exact x_zret C w hr hk (by decide) dX13_alikeUnits_36
  · replace h := iff0 hc h
    refine lv_iload_n C.1 C.2.1 dX13_alikeUnits_15 rfl (lv_at hl 1 rfl) ?_
    refine lv_iload_n C.1 C.2.1 dX13_alikeUnits_16 rfl (lv_at hl 0 rfl) ?_
    refine lv_icmp_eq (tgt := 31) C.1 C.2.1 dX13_alikeUnits_17 (by decide) (fun hc => ?_) (fun hc => ?_)
    · replace h := ift hc h
      refine lv_iconst (v := 1) C.1 C.2.1 dX13_alikeUnits_31 (by decide) ?_
      refine lv_goto (tgt := 36) C.1 C.2.1 dX13_alikeUnits_32 (by decide) ?_
      obtain rfl := som h
      exact x_zret C w hr hk (by decide) dX13_alikeUnits_36
    · replace h := iff0 hc h
      refine lv_iload_n C.1 C.2.1 dX13_alikeUnits_20 rfl (lv_at hl 1 rfl) ?_
      obtain ⟨v_3, hv_3, h⟩ := bnd h
      refine x_callSi (As := [.int v_1]) (rest := []) C w (k_lower l D T ρ g H.size S hv_3) vM501 ⟨by decide, by decide⟩ rfl rfl hl.1 (Nat.le_of_ble_eq_true rfl) ⟨Nat.zero_le _, Nat.zero_le _⟩ dX13_alikeUnits_21 (fun H locs w => ?_)
      refine lv_iload_n C.1 C.2.1 dX13_alikeUnits_24 rfl (lv_at hl 0 rfl) ?_
      obtain ⟨v_4, hv_4, h⟩ := bnd h
      refine x_callSi (As := [.int v_2]) (rest := [.int v_3]) C w (k_lower l D T ρ g H.size S hv_4) vM501 ⟨by decide, by decide⟩ rfl rfl hl.1 (Nat.le_of_ble_eq_true rfl) ⟨Nat.zero_le _, Nat.zero_le _⟩ dX13_alikeUnits_25 (fun H locs w => ?_)
      refine lv_icmp_ne (tgt := 35) C.1 C.2.1 dX13_alikeUnits_28 (by decide) (fun hc => ?_) (fun hc => ?_)
      · replace h := iff0 hc h
        refine lv_iconst (v := 0) C.1 C.2.1 dX13_alikeUnits_35 (by decide) ?_
        obtain rfl := som h
        exact x_zret C w hr hk (by decide) dX13_alikeUnits_36
      · replace h := ift hc h
        refine lv_iconst (v := 1) C.1 C.2.1 dX13_alikeUnits_31 (by decide) ?_
        refine lv_goto (tgt := 36) C.1 C.2.1 dX13_alikeUnits_32 (by decide) ?_
        obtain rfl := som h
        exact x_zret C w hr hk (by decide) dX13_alikeUnits_36
end S_alikeUnits
set_option maxRecDepth 100000 in
theorem k_alikeUnits (l : Launch) (D : va_G) (T : Cy) (ρ : Nat → Nat) (g sz : Nat) (S : St) {x0 : Int32} {x1 : Int32} {r : Int32} (h : m_alikeUnits g x0 x1 = some r) : Mi l Ym D T ρ yX13_alikeUnits cX13_alikeUnits 4 (some .boolean) 2 42 S S r [.int x0, .int x1] sz :=
  x_in (by decide) (Nat.le_of_ble_eq_true rfl) (fun p e s m below meth c ls C hr hk w hl => w_alikeUnits_0 C hr hk w hl h)

theorem dX13_alike_0 : decode cX13_alike 0 = .ok (.aload_n 0, 1) := by decide +kernel
theorem dX13_alike_1 : decode cX13_alike 1 = .ok (.getfield 193, 3) := by decide +kernel
theorem dX13_alike_4 : decode cX13_alike 4 = .ok (.iload_n 1, 1) := by decide +kernel
theorem dX13_alike_5 : decode cX13_alike 5 = .ok (.iaload, 1) := by decide +kernel
theorem dX13_alike_6 : decode cX13_alike 6 = .ok (.aload_n 0, 1) := by decide +kernel
theorem dX13_alike_7 : decode cX13_alike 7 = .ok (.getfield 193, 3) := by decide +kernel
theorem dX13_alike_10 : decode cX13_alike 10 = .ok (.iload_n 2, 1) := by decide +kernel
theorem dX13_alike_11 : decode cX13_alike 11 = .ok (.iaload, 1) := by decide +kernel
theorem dX13_alike_12 : decode cX13_alike 12 = .ok (.if_icmp .ne 7, 3) := by decide +kernel
theorem dX13_alike_15 : decode cX13_alike 15 = .ok (.iconst 1, 1) := by decide +kernel
theorem dX13_alike_16 : decode cX13_alike 16 = .ok (.goto 4, 3) := by decide +kernel
theorem dX13_alike_19 : decode cX13_alike 19 = .ok (.iconst 0, 1) := by decide +kernel
theorem dX13_alike_20 : decode cX13_alike 20 = .ok (.istore_n 3, 1) := by decide +kernel
theorem dX13_alike_21 : decode cX13_alike 21 = .ok (.iconst 0, 1) := by decide +kernel
theorem dX13_alike_22 : decode cX13_alike 22 = .ok (.istore 4, 2) := by decide +kernel
theorem dX13_alike_24 : decode cX13_alike 24 = .ok (.iload_n 3, 1) := by decide +kernel
theorem dX13_alike_25 : decode cX13_alike 25 = .ok (.ifCond .eq 38, 3) := by decide +kernel
theorem dX13_alike_28 : decode cX13_alike 28 = .ok (.iload 4, 2) := by decide +kernel
theorem dX13_alike_30 : decode cX13_alike 30 = .ok (.aload_n 0, 1) := by decide +kernel
theorem dX13_alike_31 : decode cX13_alike 31 = .ok (.getfield 193, 3) := by decide +kernel
theorem dX13_alike_34 : decode cX13_alike 34 = .ok (.iload_n 1, 1) := by decide +kernel
theorem dX13_alike_35 : decode cX13_alike 35 = .ok (.iaload, 1) := by decide +kernel
theorem dX13_alike_36 : decode cX13_alike 36 = .ok (.if_icmp .ge 27, 3) := by decide +kernel
theorem dX13_alike_39 : decode cX13_alike 39 = .ok (.aload_n 0, 1) := by decide +kernel
theorem dX13_alike_40 : decode cX13_alike 40 = .ok (.iload_n 1, 1) := by decide +kernel
theorem dX13_alike_41 : decode cX13_alike 41 = .ok (.iload 4, 2) := by decide +kernel
theorem dX13_alike_43 : decode cX13_alike 43 = .ok (.invokevirtual 470, 3) := by decide +kernel
theorem dX13_alike_46 : decode cX13_alike 46 = .ok (.aload_n 0, 1) := by decide +kernel
theorem dX13_alike_47 : decode cX13_alike 47 = .ok (.iload_n 2, 1) := by decide +kernel
theorem dX13_alike_48 : decode cX13_alike 48 = .ok (.iload 4, 2) := by decide +kernel
theorem dX13_alike_50 : decode cX13_alike 50 = .ok (.invokevirtual 470, 3) := by decide +kernel
theorem dX13_alike_53 : decode cX13_alike 53 = .ok (.invokestatic 504, 3) := by decide +kernel
theorem dX13_alike_56 : decode cX13_alike 56 = .ok (.istore_n 3, 1) := by decide +kernel
theorem dX13_alike_57 : decode cX13_alike 57 = .ok (.iinc 4 1, 3) := by decide +kernel
theorem dX13_alike_60 : decode cX13_alike 60 = .ok (.goto (-36), 3) := by decide +kernel
theorem dX13_alike_63 : decode cX13_alike 63 = .ok (.iload_n 3, 1) := by decide +kernel
theorem dX13_alike_64 : decode cX13_alike 64 = .ok (.ireturn, 1) := by decide +kernel
def b_alike_24 (g : Nat) (S : St) (k24 : Int32 → Int32 → Int32 → Int32 → Option Int32) (x1 : Int32) (x2 : Int32) (x3 : Int32) (x4 : Int32) : Option Int32 :=
if x3 = 0 then (
  if x3 = 0 ∨ x3 = 1 then some x3 else none
) else (
  (aI S 24 x1).bind fun v_4 =>
  if v_4 ≤ x4 then (
    if x3 = 0 ∨ x3 = 1 then some x3 else none
  ) else (
    (m_unitAt g S x1 x4).bind fun v_6 =>
    (m_unitAt g S x2 x4).bind fun v_7 =>
    (m_alikeUnits g v_6 v_7).bind fun v_8 =>
    lt (x4 + (1 : Int32)) fun x4_9 =>
    k24 x1 x2 v_8 x4_9
  )
)
def m_alike_24 (g : Nat) (S : St) : Nat → Int32 → Int32 → Int32 → Int32 → Option Int32
  | 0, _, _, _, _ => none
  | n + 1, x1, x2, x3, x4 => b_alike_24 g S (m_alike_24 g S n) x1 x2 x3 x4
def m_alike (g : Nat) (S : St) (x1 : Int32) (x2 : Int32) : Option Int32 :=
(aI S 24 x1).bind fun v_1 =>
(aI S 24 x2).bind fun v_2 =>
if v_1 = v_2 then (
  m_alike_24 g S g x1 x2 (1 : Int32) (0 : Int32)
) else (
  m_alike_24 g S g x1 x2 (0 : Int32) (0 : Int32)
)
section S_alike
variable {p : Program} {l : Launch} {e : Env} {s : State} {m : MethodId} {args : Array Value} {below : List Frame} {meth : Method} {c : Code} {H : Heap} {locs : List Loc} {ls : Array Slot} {D : va_G} {T : Cy} {ρ : Nat → Nat} {A : Nat → Prop}
set_option maxRecDepth 100000 in
set_option maxHeartbeats 4000000 in
theorem wb_alike_24  {g : Nat} {S : St} {x1 : Int32} {x2 : Int32} {x3 : Int32} {x4 : Int32} (C : CallFix p m c cX13_alike 5 s args tb RX13) (hr : meth.sig.returnType = (some .boolean)) (hk : meth.locks = false) {r : Int32} {k24 : Int32 → Int32 → Int32 → Int32 → Option Int32} (kk24 : ∀ (x1 : Int32) (x2 : Int32) (x3 : Int32) (x4 : Int32) (H : Heap) (locs : List Loc) (ls : Array Slot), Wn Ym D T ρ S A s H locs → lv_has ls 5 [(0, .ref (ρ 0)), (1, .int x1), (2, .int x2), (3, .int x3), (4, .int x4)] → k24 x1 x2 x3 x4 = some r → W p l e (rmN 3 65) s m args below meth c H locs 0 0 (MQ below (Qi Ym D T ρ A S r) args s 0 0 A) (F0 m 24 ls [])) (w : Wn Ym D T ρ S A s H locs) (hl : lv_has ls 5 [(0, .ref (ρ 0)), (1, .int x1), (2, .int x2), (3, .int x3), (4, .int x4)]) (h : b_alike_24 g S k24 x1 x2 x3 x4 = some r) : W p l e (rmN 3 65) s m args below meth c H locs 0 0 (MQ below (Qi Ym D T ρ A S r) args s 0 0 A) (F0 m 24 ls []) := by
  unfold b_alike_24 at h
  refine lv_iload_n C.1 C.2.1 dX13_alike_24 rfl (lv_at hl 3 rfl) ?_
  refine lv_if_eq (tgt := 63) C.1 C.2.1 dX13_alike_25 (by decide) (fun hc => ?_) (fun hc => ?_)
  · replace h := ift hc h
    refine lv_iload_n C.1 C.2.1 dX13_alike_63 rfl (lv_at hl 3 rfl) ?_
    by_cases hz_3 : x3 = 0 ∨ x3 = 1
    case neg => exact absurd (iff0 hz_3 h) (fun q => by cases q)
    replace h := ift hz_3 h
    obtain rfl := som h
    exact x_zret C w hr hk hz_3 dX13_alike_64
  · replace h := iff0 hc h
    refine lv_iload C.1 C.2.1 dX13_alike_28 (lv_at hl 4 rfl) ?_
    refine lv_aload_n C.1 C.2.1 dX13_alike_30 rfl (lv_at hl 0 rfl) ?_
    refine x_getC C w 24 fM193 obM rfl dX13_alike_31 ?_
    refine lv_iload_n C.1 C.2.1 dX13_alike_34 rfl (lv_at hl 1 rfl) ?_
    obtain ⟨v_4, hv_4, h⟩ := bnd h
    refine x_iald C w obM24 hv_4 dX13_alike_35 ?_
    refine lv_icmp_ge (tgt := 63) C.1 C.2.1 dX13_alike_36 (by decide) (fun hc => ?_) (fun hc => ?_)
    · replace h := ift hc h
      refine lv_iload_n C.1 C.2.1 dX13_alike_63 rfl (lv_at hl 3 rfl) ?_
      by_cases hz_5 : x3 = 0 ∨ x3 = 1
      case neg => exact absurd (iff0 hz_5 h) (fun q => by cases q)
      replace h := ift hz_5 h
      obtain rfl := som h
      exact x_zret C w hr hk hz_5 dX13_alike_64
    · replace h := iff0 hc h
      refine lv_aload_n C.1 C.2.1 dX13_alike_39 rfl (lv_at hl 0 rfl) ?_
      refine lv_iload_n C.1 C.2.1 dX13_alike_40 rfl (lv_at hl 1 rfl) ?_
      refine lv_iload C.1 C.2.1 dX13_alike_41 (lv_at hl 4 rfl) ?_
      obtain ⟨v_6, hv_6, h⟩ := bnd h
      refine x_callVi (q := (RX13, TX13, 68)) (As := [.int x1, .int x4]) (rest := []) C w (k_unitAt l D T ρ g H.size S hv_6) vM470 ⟨by decide, by decide⟩ obM (by decide) rfl rfl rfl hl.1 (Nat.le_of_ble_eq_true rfl) ⟨Nat.zero_le _, Nat.zero_le _⟩ dX13_alike_43 (fun H locs w => ?_)
      refine lv_aload_n C.1 C.2.1 dX13_alike_46 rfl (lv_at hl 0 rfl) ?_
      refine lv_iload_n C.1 C.2.1 dX13_alike_47 rfl (lv_at hl 2 rfl) ?_
      refine lv_iload C.1 C.2.1 dX13_alike_48 (lv_at hl 4 rfl) ?_
      obtain ⟨v_7, hv_7, h⟩ := bnd h
      refine x_callVi (q := (RX13, TX13, 68)) (As := [.int x2, .int x4]) (rest := [.int v_6]) C w (k_unitAt l D T ρ g H.size S hv_7) vM470 ⟨by decide, by decide⟩ obM (by decide) rfl rfl rfl hl.1 (Nat.le_of_ble_eq_true rfl) ⟨Nat.zero_le _, Nat.zero_le _⟩ dX13_alike_50 (fun H locs w => ?_)
      obtain ⟨v_8, hv_8, h⟩ := bnd h
      refine x_callSi (As := [.int v_6, .int v_7]) (rest := []) C w (k_alikeUnits l D T ρ g H.size S hv_8) vM504 ⟨by decide, by decide⟩ rfl rfl hl.1 (Nat.le_of_ble_eq_true rfl) ⟨Nat.zero_le _, Nat.zero_le _⟩ dX13_alike_53 (fun H locs w => ?_)
      refine lv_istore_n (lv' := [(3, .int v_8), (0, .ref (ρ 0)), (1, .int x1), (2, .int x2), (4, .int x4)]) C.1 C.2.1 dX13_alike_56 rfl hl (by decide) rfl (fun ls hl => ?_)
      obtain ⟨x4_9, ex4_9, h⟩ := lt_e h
      refine lv_iinc (v := x4_9) (lv' := [(4, .int x4_9), (3, .int v_8), (0, .ref (ρ 0)), (1, .int x1), (2, .int x2)]) C.1 C.2.1 dX13_alike_57 hl (k := 4) rfl (by rw [ex4_9]; rfl) (by decide) rfl (fun ls hl => ?_)
      refine lv_goto (tgt := 24) C.1 C.2.1 dX13_alike_60 (by decide) ?_
      exact kk24 _ _ _ _ _ _ _ w (lv_sub hl [2, 3, 4, 1, 0] rfl) h
theorem w_alike_24 {g : Nat} {S : St} (C : CallFix p m c cX13_alike 5 s args tb RX13) (hr : meth.sig.returnType = (some .boolean)) (hk : meth.locks = false) {r : Int32} (n : Nat) : ∀ (x1 : Int32) (x2 : Int32) (x3 : Int32) (x4 : Int32) (H : Heap) (locs : List Loc) (ls : Array Slot), Wn Ym D T ρ S A s H locs → lv_has ls 5 [(0, .ref (ρ 0)), (1, .int x1), (2, .int x2), (3, .int x3), (4, .int x4)] → m_alike_24 g S n x1 x2 x3 x4 = some r → W p l e (rmN 3 65) s m args below meth c H locs 0 0 (MQ below (Qi Ym D T ρ A S r) args s 0 0 A) (F0 m 24 ls []) := by
  induction n with
  | zero => intro x1 x2 x3 x4 H locs ls w hl h; exact absurd h (fun q => by cases q)
  | succ n ih => intro x1 x2 x3 x4 H locs ls w hl h; exact wb_alike_24 C hr hk ih w hl h
set_option maxRecDepth 100000 in
set_option maxHeartbeats 4000000 in
theorem w_alike_0  {g : Nat} {S : St} {x1 : Int32} {x2 : Int32} (C : CallFix p m c cX13_alike 5 s args tb RX13) (hr : meth.sig.returnType = (some .boolean)) (hk : meth.locks = false) {r : Int32} (w : Wn Ym D T ρ S A s H locs) (hl : lv_has ls 5 [(0, .ref (ρ 0)), (1, .int x1), (2, .int x2)]) (h : m_alike g S x1 x2 = some r) : W p l e (rmN 3 65) s m args below meth c H locs 0 0 (MQ below (Qi Ym D T ρ A S r) args s 0 0 A) (F0 m 0 ls []) := by
  unfold m_alike at h
  refine lv_aload_n C.1 C.2.1 dX13_alike_0 rfl (lv_at hl 0 rfl) ?_
  refine x_getC C w 24 fM193 obM rfl dX13_alike_1 ?_
  refine lv_iload_n C.1 C.2.1 dX13_alike_4 rfl (lv_at hl 1 rfl) ?_
  obtain ⟨v_1, hv_1, h⟩ := bnd h
  refine x_iald C w obM24 hv_1 dX13_alike_5 ?_
  refine lv_aload_n C.1 C.2.1 dX13_alike_6 rfl (lv_at hl 0 rfl) ?_
  refine x_getC C w 24 fM193 obM rfl dX13_alike_7 ?_
  refine lv_iload_n C.1 C.2.1 dX13_alike_10 rfl (lv_at hl 2 rfl) ?_
  obtain ⟨v_2, hv_2, h⟩ := bnd h
  refine x_iald C w obM24 hv_2 dX13_alike_11 ?_
  refine lv_icmp_ne (tgt := 19) C.1 C.2.1 dX13_alike_12 (by decide) (fun hc => ?_) (fun hc => ?_)
  · replace h := iff0 hc h
    refine lv_iconst (v := 0) C.1 C.2.1 dX13_alike_19 (by decide) ?_
    refine lv_istore_n (lv' := [(3, .int (0 : Int32)), (0, .ref (ρ 0)), (1, .int x1), (2, .int x2)]) C.1 C.2.1 dX13_alike_20 rfl hl (by decide) rfl (fun ls hl => ?_)
    refine lv_iconst (v := 0) C.1 C.2.1 dX13_alike_21 (by decide) ?_
    refine lv_istore (lv' := [(4, .int (0 : Int32)), (3, .int (0 : Int32)), (0, .ref (ρ 0)), (1, .int x1), (2, .int x2)]) C.1 C.2.1 dX13_alike_22 hl (by decide) rfl (fun ls hl => ?_)
    exact w_alike_24 C hr hk g _ _ _ _ _ _ _ w (lv_sub hl [2, 3, 4, 1, 0] rfl) h
  · replace h := ift hc h
    refine lv_iconst (v := 1) C.1 C.2.1 dX13_alike_15 (by decide) ?_
    refine lv_goto (tgt := 20) C.1 C.2.1 dX13_alike_16 (by decide) ?_
    refine lv_istore_n (lv' := [(3, .int (1 : Int32)), (0, .ref (ρ 0)), (1, .int x1), (2, .int x2)]) C.1 C.2.1 dX13_alike_20 rfl hl (by decide) rfl (fun ls hl => ?_)
    refine lv_iconst (v := 0) C.1 C.2.1 dX13_alike_21 (by decide) ?_
    refine lv_istore (lv' := [(4, .int (0 : Int32)), (3, .int (1 : Int32)), (0, .ref (ρ 0)), (1, .int x1), (2, .int x2)]) C.1 C.2.1 dX13_alike_22 hl (by decide) rfl (fun ls hl => ?_)
    exact w_alike_24 C hr hk g _ _ _ _ _ _ _ w (lv_sub hl [2, 3, 4, 1, 0] rfl) h
end S_alike
set_option maxRecDepth 100000 in
theorem k_alike (l : Launch) (D : va_G) (T : Cy) (ρ : Nat → Nat) (g sz : Nat) (S : St) {x1 : Int32} {x2 : Int32} {r : Int32} (h : m_alike g S x1 x2 = some r) : Mi l Ym D T ρ yX13_alike cX13_alike 5 (some .boolean) 3 65 S S r [.ref (ρ 0), .int x1, .int x2] sz :=
  x_in (by decide) (Nat.le_of_ble_eq_true rfl) (fun p e s m below meth c ls C hr hk w hl => w_alike_0 C hr hk w hl h)

theorem dX13_equal_0 : decode cX13_equal 0 = .ok (.aload_n 0, 1) := by decide +kernel
theorem dX13_equal_1 : decode cX13_equal 1 = .ok (.getfield 193, 3) := by decide +kernel
theorem dX13_equal_4 : decode cX13_equal 4 = .ok (.iload_n 1, 1) := by decide +kernel
theorem dX13_equal_5 : decode cX13_equal 5 = .ok (.iaload, 1) := by decide +kernel
theorem dX13_equal_6 : decode cX13_equal 6 = .ok (.aload_n 0, 1) := by decide +kernel
theorem dX13_equal_7 : decode cX13_equal 7 = .ok (.getfield 193, 3) := by decide +kernel
theorem dX13_equal_10 : decode cX13_equal 10 = .ok (.iload_n 2, 1) := by decide +kernel
theorem dX13_equal_11 : decode cX13_equal 11 = .ok (.iaload, 1) := by decide +kernel
theorem dX13_equal_12 : decode cX13_equal 12 = .ok (.if_icmp .ne 7, 3) := by decide +kernel
theorem dX13_equal_15 : decode cX13_equal 15 = .ok (.iconst 1, 1) := by decide +kernel
theorem dX13_equal_16 : decode cX13_equal 16 = .ok (.goto 4, 3) := by decide +kernel
theorem dX13_equal_19 : decode cX13_equal 19 = .ok (.iconst 0, 1) := by decide +kernel
theorem dX13_equal_20 : decode cX13_equal 20 = .ok (.istore_n 3, 1) := by decide +kernel
theorem dX13_equal_21 : decode cX13_equal 21 = .ok (.iconst 0, 1) := by decide +kernel
theorem dX13_equal_22 : decode cX13_equal 22 = .ok (.istore 4, 2) := by decide +kernel
theorem dX13_equal_24 : decode cX13_equal 24 = .ok (.iload_n 3, 1) := by decide +kernel
theorem dX13_equal_25 : decode cX13_equal 25 = .ok (.ifCond .eq 43, 3) := by decide +kernel
theorem dX13_equal_28 : decode cX13_equal 28 = .ok (.iload 4, 2) := by decide +kernel
theorem dX13_equal_30 : decode cX13_equal 30 = .ok (.aload_n 0, 1) := by decide +kernel
theorem dX13_equal_31 : decode cX13_equal 31 = .ok (.getfield 193, 3) := by decide +kernel
theorem dX13_equal_34 : decode cX13_equal 34 = .ok (.iload_n 1, 1) := by decide +kernel
theorem dX13_equal_35 : decode cX13_equal 35 = .ok (.iaload, 1) := by decide +kernel
theorem dX13_equal_36 : decode cX13_equal 36 = .ok (.if_icmp .ge 32, 3) := by decide +kernel
theorem dX13_equal_39 : decode cX13_equal 39 = .ok (.aload_n 0, 1) := by decide +kernel
theorem dX13_equal_40 : decode cX13_equal 40 = .ok (.iload_n 1, 1) := by decide +kernel
theorem dX13_equal_41 : decode cX13_equal 41 = .ok (.iload 4, 2) := by decide +kernel
theorem dX13_equal_43 : decode cX13_equal 43 = .ok (.invokevirtual 470, 3) := by decide +kernel
theorem dX13_equal_46 : decode cX13_equal 46 = .ok (.aload_n 0, 1) := by decide +kernel
theorem dX13_equal_47 : decode cX13_equal 47 = .ok (.iload_n 2, 1) := by decide +kernel
theorem dX13_equal_48 : decode cX13_equal 48 = .ok (.iload 4, 2) := by decide +kernel
theorem dX13_equal_50 : decode cX13_equal 50 = .ok (.invokevirtual 470, 3) := by decide +kernel
theorem dX13_equal_53 : decode cX13_equal 53 = .ok (.if_icmp .ne 7, 3) := by decide +kernel
theorem dX13_equal_56 : decode cX13_equal 56 = .ok (.iconst 1, 1) := by decide +kernel
theorem dX13_equal_57 : decode cX13_equal 57 = .ok (.goto 4, 3) := by decide +kernel
theorem dX13_equal_60 : decode cX13_equal 60 = .ok (.iconst 0, 1) := by decide +kernel
theorem dX13_equal_61 : decode cX13_equal 61 = .ok (.istore_n 3, 1) := by decide +kernel
theorem dX13_equal_62 : decode cX13_equal 62 = .ok (.iinc 4 1, 3) := by decide +kernel
theorem dX13_equal_65 : decode cX13_equal 65 = .ok (.goto (-41), 3) := by decide +kernel
theorem dX13_equal_68 : decode cX13_equal 68 = .ok (.iload_n 3, 1) := by decide +kernel
theorem dX13_equal_69 : decode cX13_equal 69 = .ok (.ireturn, 1) := by decide +kernel
def b_equal_24 (g : Nat) (S : St) (k24 : Int32 → Int32 → Int32 → Int32 → Option Int32) (x1 : Int32) (x2 : Int32) (x3 : Int32) (x4 : Int32) : Option Int32 :=
if x3 = 0 then (
  if x3 = 0 ∨ x3 = 1 then some x3 else none
) else (
  (aI S 24 x1).bind fun v_4 =>
  if v_4 ≤ x4 then (
    if x3 = 0 ∨ x3 = 1 then some x3 else none
  ) else (
    (m_unitAt g S x1 x4).bind fun v_6 =>
    (m_unitAt g S x2 x4).bind fun v_7 =>
    if v_6 = v_7 then (
      lt (x4 + (1 : Int32)) fun x4_9 =>
      k24 x1 x2 (1 : Int32) x4_9
    ) else (
      lt (x4 + (1 : Int32)) fun x4_8 =>
      k24 x1 x2 (0 : Int32) x4_8
    )
  )
)
def m_equal_24 (g : Nat) (S : St) : Nat → Int32 → Int32 → Int32 → Int32 → Option Int32
  | 0, _, _, _, _ => none
  | n + 1, x1, x2, x3, x4 => b_equal_24 g S (m_equal_24 g S n) x1 x2 x3 x4
def m_equal (g : Nat) (S : St) (x1 : Int32) (x2 : Int32) : Option Int32 :=
(aI S 24 x1).bind fun v_1 =>
(aI S 24 x2).bind fun v_2 =>
if v_1 = v_2 then (
  m_equal_24 g S g x1 x2 (1 : Int32) (0 : Int32)
) else (
  m_equal_24 g S g x1 x2 (0 : Int32) (0 : Int32)
)
section S_equal
variable {p : Program} {l : Launch} {e : Env} {s : State} {m : MethodId} {args : Array Value} {below : List Frame} {meth : Method} {c : Code} {H : Heap} {locs : List Loc} {ls : Array Slot} {D : va_G} {T : Cy} {ρ : Nat → Nat} {A : Nat → Prop}
set_option maxRecDepth 100000 in
set_option maxHeartbeats 4000000 in
theorem wb_equal_24  {g : Nat} {S : St} {x1 : Int32} {x2 : Int32} {x3 : Int32} {x4 : Int32} (C : CallFix p m c cX13_equal 5 s args tb RX13) (hr : meth.sig.returnType = (some .boolean)) (hk : meth.locks = false) {r : Int32} {k24 : Int32 → Int32 → Int32 → Int32 → Option Int32} (kk24 : ∀ (x1 : Int32) (x2 : Int32) (x3 : Int32) (x4 : Int32) (H : Heap) (locs : List Loc) (ls : Array Slot), Wn Ym D T ρ S A s H locs → lv_has ls 5 [(0, .ref (ρ 0)), (1, .int x1), (2, .int x2), (3, .int x3), (4, .int x4)] → k24 x1 x2 x3 x4 = some r → W p l e (rmN 1 22) s m args below meth c H locs 0 0 (MQ below (Qi Ym D T ρ A S r) args s 0 0 A) (F0 m 24 ls [])) (w : Wn Ym D T ρ S A s H locs) (hl : lv_has ls 5 [(0, .ref (ρ 0)), (1, .int x1), (2, .int x2), (3, .int x3), (4, .int x4)]) (h : b_equal_24 g S k24 x1 x2 x3 x4 = some r) : W p l e (rmN 1 22) s m args below meth c H locs 0 0 (MQ below (Qi Ym D T ρ A S r) args s 0 0 A) (F0 m 24 ls []) := by
  unfold b_equal_24 at h
  refine lv_iload_n C.1 C.2.1 dX13_equal_24 rfl (lv_at hl 3 rfl) ?_
  refine lv_if_eq (tgt := 68) C.1 C.2.1 dX13_equal_25 (by decide) (fun hc => ?_) (fun hc => ?_)
  · replace h := ift hc h
    refine lv_iload_n C.1 C.2.1 dX13_equal_68 rfl (lv_at hl 3 rfl) ?_
    by_cases hz_3 : x3 = 0 ∨ x3 = 1
    case neg => exact absurd (iff0 hz_3 h) (fun q => by cases q)
    replace h := ift hz_3 h
    obtain rfl := som h
    exact x_zret C w hr hk hz_3 dX13_equal_69
  · replace h := iff0 hc h
    refine lv_iload C.1 C.2.1 dX13_equal_28 (lv_at hl 4 rfl) ?_
    refine lv_aload_n C.1 C.2.1 dX13_equal_30 rfl (lv_at hl 0 rfl) ?_
    refine x_getC C w 24 fM193 obM rfl dX13_equal_31 ?_
    refine lv_iload_n C.1 C.2.1 dX13_equal_34 rfl (lv_at hl 1 rfl) ?_
    obtain ⟨v_4, hv_4, h⟩ := bnd h
    refine x_iald C w obM24 hv_4 dX13_equal_35 ?_
    refine lv_icmp_ge (tgt := 68) C.1 C.2.1 dX13_equal_36 (by decide) (fun hc => ?_) (fun hc => ?_)
    · replace h := ift hc h
      refine lv_iload_n C.1 C.2.1 dX13_equal_68 rfl (lv_at hl 3 rfl) ?_
      by_cases hz_5 : x3 = 0 ∨ x3 = 1
      case neg => exact absurd (iff0 hz_5 h) (fun q => by cases q)
      replace h := ift hz_5 h
      obtain rfl := som h
      exact x_zret C w hr hk hz_5 dX13_equal_69
    · replace h := iff0 hc h
      refine lv_aload_n C.1 C.2.1 dX13_equal_39 rfl (lv_at hl 0 rfl) ?_
      refine lv_iload_n C.1 C.2.1 dX13_equal_40 rfl (lv_at hl 1 rfl) ?_
      refine lv_iload C.1 C.2.1 dX13_equal_41 (lv_at hl 4 rfl) ?_
      obtain ⟨v_6, hv_6, h⟩ := bnd h
      refine x_callVi (q := (RX13, TX13, 68)) (As := [.int x1, .int x4]) (rest := []) C w (k_unitAt l D T ρ g H.size S hv_6) vM470 ⟨by decide, by decide⟩ obM (by decide) rfl rfl rfl hl.1 (Nat.le_of_ble_eq_true rfl) ⟨Nat.zero_le _, Nat.zero_le _⟩ dX13_equal_43 (fun H locs w => ?_)
      refine lv_aload_n C.1 C.2.1 dX13_equal_46 rfl (lv_at hl 0 rfl) ?_
      refine lv_iload_n C.1 C.2.1 dX13_equal_47 rfl (lv_at hl 2 rfl) ?_
      refine lv_iload C.1 C.2.1 dX13_equal_48 (lv_at hl 4 rfl) ?_
      obtain ⟨v_7, hv_7, h⟩ := bnd h
      refine x_callVi (q := (RX13, TX13, 68)) (As := [.int x2, .int x4]) (rest := [.int v_6]) C w (k_unitAt l D T ρ g H.size S hv_7) vM470 ⟨by decide, by decide⟩ obM (by decide) rfl rfl rfl hl.1 (Nat.le_of_ble_eq_true rfl) ⟨Nat.zero_le _, Nat.zero_le _⟩ dX13_equal_50 (fun H locs w => ?_)
      refine lv_icmp_ne (tgt := 60) C.1 C.2.1 dX13_equal_53 (by decide) (fun hc => ?_) (fun hc => ?_)
      · replace h := iff0 hc h
        refine lv_iconst (v := 0) C.1 C.2.1 dX13_equal_60 (by decide) ?_
        refine lv_istore_n (lv' := [(3, .int (0 : Int32)), (0, .ref (ρ 0)), (1, .int x1), (2, .int x2), (4, .int x4)]) C.1 C.2.1 dX13_equal_61 rfl hl (by decide) rfl (fun ls hl => ?_)
        obtain ⟨x4_8, ex4_8, h⟩ := lt_e h
        refine lv_iinc (v := x4_8) (lv' := [(4, .int x4_8), (3, .int (0 : Int32)), (0, .ref (ρ 0)), (1, .int x1), (2, .int x2)]) C.1 C.2.1 dX13_equal_62 hl (k := 4) rfl (by rw [ex4_8]; rfl) (by decide) rfl (fun ls hl => ?_)
        refine lv_goto (tgt := 24) C.1 C.2.1 dX13_equal_65 (by decide) ?_
        exact kk24 _ _ _ _ _ _ _ w (lv_sub hl [2, 3, 4, 1, 0] rfl) h
      · replace h := ift hc h
        refine lv_iconst (v := 1) C.1 C.2.1 dX13_equal_56 (by decide) ?_
        refine lv_goto (tgt := 61) C.1 C.2.1 dX13_equal_57 (by decide) ?_
        refine lv_istore_n (lv' := [(3, .int (1 : Int32)), (0, .ref (ρ 0)), (1, .int x1), (2, .int x2), (4, .int x4)]) C.1 C.2.1 dX13_equal_61 rfl hl (by decide) rfl (fun ls hl => ?_)
        obtain ⟨x4_9, ex4_9, h⟩ := lt_e h
        refine lv_iinc (v := x4_9) (lv' := [(4, .int x4_9), (3, .int (1 : Int32)), (0, .ref (ρ 0)), (1, .int x1), (2, .int x2)]) C.1 C.2.1 dX13_equal_62 hl (k := 4) rfl (by rw [ex4_9]; rfl) (by decide) rfl (fun ls hl => ?_)
        refine lv_goto (tgt := 24) C.1 C.2.1 dX13_equal_65 (by decide) ?_
        exact kk24 _ _ _ _ _ _ _ w (lv_sub hl [2, 3, 4, 1, 0] rfl) h
theorem w_equal_24 {g : Nat} {S : St} (C : CallFix p m c cX13_equal 5 s args tb RX13) (hr : meth.sig.returnType = (some .boolean)) (hk : meth.locks = false) {r : Int32} (n : Nat) : ∀ (x1 : Int32) (x2 : Int32) (x3 : Int32) (x4 : Int32) (H : Heap) (locs : List Loc) (ls : Array Slot), Wn Ym D T ρ S A s H locs → lv_has ls 5 [(0, .ref (ρ 0)), (1, .int x1), (2, .int x2), (3, .int x3), (4, .int x4)] → m_equal_24 g S n x1 x2 x3 x4 = some r → W p l e (rmN 1 22) s m args below meth c H locs 0 0 (MQ below (Qi Ym D T ρ A S r) args s 0 0 A) (F0 m 24 ls []) := by
  induction n with
  | zero => intro x1 x2 x3 x4 H locs ls w hl h; exact absurd h (fun q => by cases q)
  | succ n ih => intro x1 x2 x3 x4 H locs ls w hl h; exact wb_equal_24 C hr hk ih w hl h
set_option maxRecDepth 100000 in
set_option maxHeartbeats 4000000 in
theorem w_equal_0  {g : Nat} {S : St} {x1 : Int32} {x2 : Int32} (C : CallFix p m c cX13_equal 5 s args tb RX13) (hr : meth.sig.returnType = (some .boolean)) (hk : meth.locks = false) {r : Int32} (w : Wn Ym D T ρ S A s H locs) (hl : lv_has ls 5 [(0, .ref (ρ 0)), (1, .int x1), (2, .int x2)]) (h : m_equal g S x1 x2 = some r) : W p l e (rmN 1 22) s m args below meth c H locs 0 0 (MQ below (Qi Ym D T ρ A S r) args s 0 0 A) (F0 m 0 ls []) := by
  unfold m_equal at h
  refine lv_aload_n C.1 C.2.1 dX13_equal_0 rfl (lv_at hl 0 rfl) ?_
  refine x_getC C w 24 fM193 obM rfl dX13_equal_1 ?_
  refine lv_iload_n C.1 C.2.1 dX13_equal_4 rfl (lv_at hl 1 rfl) ?_
  obtain ⟨v_1, hv_1, h⟩ := bnd h
  refine x_iald C w obM24 hv_1 dX13_equal_5 ?_
  refine lv_aload_n C.1 C.2.1 dX13_equal_6 rfl (lv_at hl 0 rfl) ?_
  refine x_getC C w 24 fM193 obM rfl dX13_equal_7 ?_
  refine lv_iload_n C.1 C.2.1 dX13_equal_10 rfl (lv_at hl 2 rfl) ?_
  obtain ⟨v_2, hv_2, h⟩ := bnd h
  refine x_iald C w obM24 hv_2 dX13_equal_11 ?_
  refine lv_icmp_ne (tgt := 19) C.1 C.2.1 dX13_equal_12 (by decide) (fun hc => ?_) (fun hc => ?_)
  · replace h := iff0 hc h
    refine lv_iconst (v := 0) C.1 C.2.1 dX13_equal_19 (by decide) ?_
    refine lv_istore_n (lv' := [(3, .int (0 : Int32)), (0, .ref (ρ 0)), (1, .int x1), (2, .int x2)]) C.1 C.2.1 dX13_equal_20 rfl hl (by decide) rfl (fun ls hl => ?_)
    refine lv_iconst (v := 0) C.1 C.2.1 dX13_equal_21 (by decide) ?_
    refine lv_istore (lv' := [(4, .int (0 : Int32)), (3, .int (0 : Int32)), (0, .ref (ρ 0)), (1, .int x1), (2, .int x2)]) C.1 C.2.1 dX13_equal_22 hl (by decide) rfl (fun ls hl => ?_)
    exact w_equal_24 C hr hk g _ _ _ _ _ _ _ w (lv_sub hl [2, 3, 4, 1, 0] rfl) h
  · replace h := ift hc h
    refine lv_iconst (v := 1) C.1 C.2.1 dX13_equal_15 (by decide) ?_
    refine lv_goto (tgt := 20) C.1 C.2.1 dX13_equal_16 (by decide) ?_
    refine lv_istore_n (lv' := [(3, .int (1 : Int32)), (0, .ref (ρ 0)), (1, .int x1), (2, .int x2)]) C.1 C.2.1 dX13_equal_20 rfl hl (by decide) rfl (fun ls hl => ?_)
    refine lv_iconst (v := 0) C.1 C.2.1 dX13_equal_21 (by decide) ?_
    refine lv_istore (lv' := [(4, .int (0 : Int32)), (3, .int (1 : Int32)), (0, .ref (ρ 0)), (1, .int x1), (2, .int x2)]) C.1 C.2.1 dX13_equal_22 hl (by decide) rfl (fun ls hl => ?_)
    exact w_equal_24 C hr hk g _ _ _ _ _ _ _ w (lv_sub hl [2, 3, 4, 1, 0] rfl) h
end S_equal
set_option maxRecDepth 100000 in
theorem k_equal (l : Launch) (D : va_G) (T : Cy) (ρ : Nat → Nat) (g sz : Nat) (S : St) {x1 : Int32} {x2 : Int32} {r : Int32} (h : m_equal g S x1 x2 = some r) : Mi l Ym D T ρ yX13_equal cX13_equal 5 (some .boolean) 1 22 S S r [.ref (ρ 0), .int x1, .int x2] sz :=
  x_in (by decide) (Nat.le_of_ble_eq_true rfl) (fun p e s m below meth c ls C hr hk w hl => w_equal_0 C hr hk w hl h)

theorem dX13_hashOf_0 : decode cX13_hashOf 0 = .ok (.iconst 0, 1) := by decide +kernel
theorem dX13_hashOf_1 : decode cX13_hashOf 1 = .ok (.istore_n 2, 1) := by decide +kernel
theorem dX13_hashOf_2 : decode cX13_hashOf 2 = .ok (.iconst 0, 1) := by decide +kernel
theorem dX13_hashOf_3 : decode cX13_hashOf 3 = .ok (.istore_n 3, 1) := by decide +kernel
theorem dX13_hashOf_4 : decode cX13_hashOf 4 = .ok (.iload_n 3, 1) := by decide +kernel
theorem dX13_hashOf_5 : decode cX13_hashOf 5 = .ok (.aload_n 0, 1) := by decide +kernel
theorem dX13_hashOf_6 : decode cX13_hashOf 6 = .ok (.getfield 193, 3) := by decide +kernel
theorem dX13_hashOf_9 : decode cX13_hashOf 9 = .ok (.iload_n 1, 1) := by decide +kernel
theorem dX13_hashOf_10 : decode cX13_hashOf 10 = .ok (.iaload, 1) := by decide +kernel
theorem dX13_hashOf_11 : decode cX13_hashOf 11 = .ok (.if_icmp .ge 21, 3) := by decide +kernel
theorem dX13_hashOf_14 : decode cX13_hashOf 14 = .ok (.bipush 31, 2) := by decide +kernel
theorem dX13_hashOf_16 : decode cX13_hashOf 16 = .ok (.iload_n 2, 1) := by decide +kernel
theorem dX13_hashOf_17 : decode cX13_hashOf 17 = .ok (.imul, 1) := by decide +kernel
theorem dX13_hashOf_18 : decode cX13_hashOf 18 = .ok (.aload_n 0, 1) := by decide +kernel
theorem dX13_hashOf_19 : decode cX13_hashOf 19 = .ok (.iload_n 1, 1) := by decide +kernel
theorem dX13_hashOf_20 : decode cX13_hashOf 20 = .ok (.iload_n 3, 1) := by decide +kernel
theorem dX13_hashOf_21 : decode cX13_hashOf 21 = .ok (.invokevirtual 470, 3) := by decide +kernel
theorem dX13_hashOf_24 : decode cX13_hashOf 24 = .ok (.iadd, 1) := by decide +kernel
theorem dX13_hashOf_25 : decode cX13_hashOf 25 = .ok (.istore_n 2, 1) := by decide +kernel
theorem dX13_hashOf_26 : decode cX13_hashOf 26 = .ok (.iinc 3 1, 3) := by decide +kernel
theorem dX13_hashOf_29 : decode cX13_hashOf 29 = .ok (.goto (-25), 3) := by decide +kernel
theorem dX13_hashOf_32 : decode cX13_hashOf 32 = .ok (.iload_n 2, 1) := by decide +kernel
theorem dX13_hashOf_33 : decode cX13_hashOf 33 = .ok (.ireturn, 1) := by decide +kernel
def b_hashOf_4 (g : Nat) (S : St) (k4 : Int32 → Int32 → Int32 → Option Int32) (x1 : Int32) (x2 : Int32) (x3 : Int32) : Option Int32 :=
(aI S 24 x1).bind fun v_1 =>
if v_1 ≤ x3 then (
  some x2
) else (
  (m_unitAt g S x1 x3).bind fun v_2 =>
  lt (((31 : Int32) * x2) + v_2) fun x2_3 =>
  lt (x3 + (1 : Int32)) fun x3_4 =>
  k4 x1 x2_3 x3_4
)
def m_hashOf_4 (g : Nat) (S : St) : Nat → Int32 → Int32 → Int32 → Option Int32
  | 0, _, _, _ => none
  | n + 1, x1, x2, x3 => b_hashOf_4 g S (m_hashOf_4 g S n) x1 x2 x3
def m_hashOf (g : Nat) (S : St) (x1 : Int32) : Option Int32 :=
m_hashOf_4 g S g x1 (0 : Int32) (0 : Int32)
section S_hashOf
variable {p : Program} {l : Launch} {e : Env} {s : State} {m : MethodId} {args : Array Value} {below : List Frame} {meth : Method} {c : Code} {H : Heap} {locs : List Loc} {ls : Array Slot} {D : va_G} {T : Cy} {ρ : Nat → Nat} {A : Nat → Prop}
set_option maxRecDepth 100000 in
set_option maxHeartbeats 4000000 in
theorem wb_hashOf_4  {g : Nat} {S : St} {x1 : Int32} {x2 : Int32} {x3 : Int32} (C : CallFix p m c cX13_hashOf 4 s args tb RX13) (hr : meth.sig.returnType = (some .int)) (hk : meth.locks = false) {r : Int32} {k4 : Int32 → Int32 → Int32 → Option Int32} (kk4 : ∀ (x1 : Int32) (x2 : Int32) (x3 : Int32) (H : Heap) (locs : List Loc) (ls : Array Slot), Wn Ym D T ρ S A s H locs → lv_has ls 4 [(0, .ref (ρ 0)), (1, .int x1), (2, .int x2), (3, .int x3)] → k4 x1 x2 x3 = some r → W p l e (rmN 1 22) s m args below meth c H locs 0 0 (MQ below (Qi Ym D T ρ A S r) args s 0 0 A) (F0 m 4 ls [])) (w : Wn Ym D T ρ S A s H locs) (hl : lv_has ls 4 [(0, .ref (ρ 0)), (1, .int x1), (2, .int x2), (3, .int x3)]) (h : b_hashOf_4 g S k4 x1 x2 x3 = some r) : W p l e (rmN 1 22) s m args below meth c H locs 0 0 (MQ below (Qi Ym D T ρ A S r) args s 0 0 A) (F0 m 4 ls []) := by
  unfold b_hashOf_4 at h
  refine lv_iload_n C.1 C.2.1 dX13_hashOf_4 rfl (lv_at hl 3 rfl) ?_
  refine lv_aload_n C.1 C.2.1 dX13_hashOf_5 rfl (lv_at hl 0 rfl) ?_
  refine x_getC C w 24 fM193 obM rfl dX13_hashOf_6 ?_
  refine lv_iload_n C.1 C.2.1 dX13_hashOf_9 rfl (lv_at hl 1 rfl) ?_
  obtain ⟨v_1, hv_1, h⟩ := bnd h
  refine x_iald C w obM24 hv_1 dX13_hashOf_10 ?_
  refine lv_icmp_ge (tgt := 32) C.1 C.2.1 dX13_hashOf_11 (by decide) (fun hc => ?_) (fun hc => ?_)
  · replace h := ift hc h
    refine lv_iload_n C.1 C.2.1 dX13_hashOf_32 rfl (lv_at hl 2 rfl) ?_
    obtain rfl := som h
    exact x_iret C w hr hk dX13_hashOf_33
  · replace h := iff0 hc h
    refine lv_bipush (v := 31) C.1 C.2.1 dX13_hashOf_14 (by decide) ?_
    refine lv_iload_n C.1 C.2.1 dX13_hashOf_16 rfl (lv_at hl 2 rfl) ?_
    refine lv_imul C.1 C.2.1 dX13_hashOf_17 ?_
    refine lv_aload_n C.1 C.2.1 dX13_hashOf_18 rfl (lv_at hl 0 rfl) ?_
    refine lv_iload_n C.1 C.2.1 dX13_hashOf_19 rfl (lv_at hl 1 rfl) ?_
    refine lv_iload_n C.1 C.2.1 dX13_hashOf_20 rfl (lv_at hl 3 rfl) ?_
    obtain ⟨v_2, hv_2, h⟩ := bnd h
    refine x_callVi (q := (RX13, TX13, 68)) (As := [.int x1, .int x3]) (rest := [.int ((31 : Int32) * x2)]) C w (k_unitAt l D T ρ g H.size S hv_2) vM470 ⟨by decide, by decide⟩ obM (by decide) rfl rfl rfl hl.1 (Nat.le_of_ble_eq_true rfl) ⟨Nat.zero_le _, Nat.zero_le _⟩ dX13_hashOf_21 (fun H locs w => ?_)
    refine lv_iadd C.1 C.2.1 dX13_hashOf_24 ?_
    obtain ⟨x2_3, ex2_3, h⟩ := lt_e h
    refine x_nm ex2_3 ?_
    refine lv_istore_n (lv' := [(2, .int x2_3), (0, .ref (ρ 0)), (1, .int x1), (3, .int x3)]) C.1 C.2.1 dX13_hashOf_25 rfl hl (by decide) rfl (fun ls hl => ?_)
    obtain ⟨x3_4, ex3_4, h⟩ := lt_e h
    refine lv_iinc (v := x3_4) (lv' := [(3, .int x3_4), (2, .int x2_3), (0, .ref (ρ 0)), (1, .int x1)]) C.1 C.2.1 dX13_hashOf_26 hl (k := 3) rfl (by rw [ex3_4]; rfl) (by decide) rfl (fun ls hl => ?_)
    refine lv_goto (tgt := 4) C.1 C.2.1 dX13_hashOf_29 (by decide) ?_
    exact kk4 _ _ _ _ _ _ w (lv_sub hl [2, 3, 1, 0] rfl) h
theorem w_hashOf_4 {g : Nat} {S : St} (C : CallFix p m c cX13_hashOf 4 s args tb RX13) (hr : meth.sig.returnType = (some .int)) (hk : meth.locks = false) {r : Int32} (n : Nat) : ∀ (x1 : Int32) (x2 : Int32) (x3 : Int32) (H : Heap) (locs : List Loc) (ls : Array Slot), Wn Ym D T ρ S A s H locs → lv_has ls 4 [(0, .ref (ρ 0)), (1, .int x1), (2, .int x2), (3, .int x3)] → m_hashOf_4 g S n x1 x2 x3 = some r → W p l e (rmN 1 22) s m args below meth c H locs 0 0 (MQ below (Qi Ym D T ρ A S r) args s 0 0 A) (F0 m 4 ls []) := by
  induction n with
  | zero => intro x1 x2 x3 H locs ls w hl h; exact absurd h (fun q => by cases q)
  | succ n ih => intro x1 x2 x3 H locs ls w hl h; exact wb_hashOf_4 C hr hk ih w hl h
set_option maxRecDepth 100000 in
set_option maxHeartbeats 4000000 in
theorem w_hashOf_0  {g : Nat} {S : St} {x1 : Int32} (C : CallFix p m c cX13_hashOf 4 s args tb RX13) (hr : meth.sig.returnType = (some .int)) (hk : meth.locks = false) {r : Int32} (w : Wn Ym D T ρ S A s H locs) (hl : lv_has ls 4 [(0, .ref (ρ 0)), (1, .int x1)]) (h : m_hashOf g S x1 = some r) : W p l e (rmN 1 22) s m args below meth c H locs 0 0 (MQ below (Qi Ym D T ρ A S r) args s 0 0 A) (F0 m 0 ls []) := by
  unfold m_hashOf at h
  refine lv_iconst (v := 0) C.1 C.2.1 dX13_hashOf_0 (by decide) ?_
  refine lv_istore_n (lv' := [(2, .int (0 : Int32)), (0, .ref (ρ 0)), (1, .int x1)]) C.1 C.2.1 dX13_hashOf_1 rfl hl (by decide) rfl (fun ls hl => ?_)
  refine lv_iconst (v := 0) C.1 C.2.1 dX13_hashOf_2 (by decide) ?_
  refine lv_istore_n (lv' := [(3, .int (0 : Int32)), (2, .int (0 : Int32)), (0, .ref (ρ 0)), (1, .int x1)]) C.1 C.2.1 dX13_hashOf_3 rfl hl (by decide) rfl (fun ls hl => ?_)
  exact w_hashOf_4 C hr hk g _ _ _ _ _ _ w (lv_sub hl [2, 3, 1, 0] rfl) h
end S_hashOf
set_option maxRecDepth 100000 in
theorem k_hashOf (l : Launch) (D : va_G) (T : Cy) (ρ : Nat → Nat) (g sz : Nat) (S : St) {x1 : Int32} {r : Int32} (h : m_hashOf g S x1 = some r) : Mi l Ym D T ρ yX13_hashOf cX13_hashOf 4 (some .int) 1 22 S S r [.ref (ρ 0), .int x1] sz :=
  x_in (by decide) (Nat.le_of_ble_eq_true rfl) (fun p e s m below meth c ls C hr hk w hl => w_hashOf_0 C hr hk w hl h)

theorem dX13_order_0 : decode cX13_order 0 = .ok (.iconst 0, 1) := by decide +kernel
theorem dX13_order_1 : decode cX13_order 1 = .ok (.istore_n 3, 1) := by decide +kernel
theorem dX13_order_2 : decode cX13_order 2 = .ok (.iload_n 3, 1) := by decide +kernel
theorem dX13_order_3 : decode cX13_order 3 = .ok (.aload_n 0, 1) := by decide +kernel
theorem dX13_order_4 : decode cX13_order 4 = .ok (.getfield 193, 3) := by decide +kernel
theorem dX13_order_7 : decode cX13_order 7 = .ok (.iload_n 1, 1) := by decide +kernel
theorem dX13_order_8 : decode cX13_order 8 = .ok (.iaload, 1) := by decide +kernel
theorem dX13_order_9 : decode cX13_order 9 = .ok (.if_icmp .ge 49, 3) := by decide +kernel
theorem dX13_order_12 : decode cX13_order 12 = .ok (.iload_n 3, 1) := by decide +kernel
theorem dX13_order_13 : decode cX13_order 13 = .ok (.aload_n 0, 1) := by decide +kernel
theorem dX13_order_14 : decode cX13_order 14 = .ok (.getfield 193, 3) := by decide +kernel
theorem dX13_order_17 : decode cX13_order 17 = .ok (.iload_n 2, 1) := by decide +kernel
theorem dX13_order_18 : decode cX13_order 18 = .ok (.iaload, 1) := by decide +kernel
theorem dX13_order_19 : decode cX13_order 19 = .ok (.if_icmp .ge 39, 3) := by decide +kernel
theorem dX13_order_22 : decode cX13_order 22 = .ok (.aload_n 0, 1) := by decide +kernel
theorem dX13_order_23 : decode cX13_order 23 = .ok (.iload_n 1, 1) := by decide +kernel
theorem dX13_order_24 : decode cX13_order 24 = .ok (.iload_n 3, 1) := by decide +kernel
theorem dX13_order_25 : decode cX13_order 25 = .ok (.invokevirtual 470, 3) := by decide +kernel
theorem dX13_order_28 : decode cX13_order 28 = .ok (.aload_n 0, 1) := by decide +kernel
theorem dX13_order_29 : decode cX13_order 29 = .ok (.iload_n 2, 1) := by decide +kernel
theorem dX13_order_30 : decode cX13_order 30 = .ok (.iload_n 3, 1) := by decide +kernel
theorem dX13_order_31 : decode cX13_order 31 = .ok (.invokevirtual 470, 3) := by decide +kernel
theorem dX13_order_34 : decode cX13_order 34 = .ok (.if_icmp .eq 18, 3) := by decide +kernel
theorem dX13_order_37 : decode cX13_order 37 = .ok (.aload_n 0, 1) := by decide +kernel
theorem dX13_order_38 : decode cX13_order 38 = .ok (.iload_n 1, 1) := by decide +kernel
theorem dX13_order_39 : decode cX13_order 39 = .ok (.iload_n 3, 1) := by decide +kernel
theorem dX13_order_40 : decode cX13_order 40 = .ok (.invokevirtual 470, 3) := by decide +kernel
theorem dX13_order_43 : decode cX13_order 43 = .ok (.aload_n 0, 1) := by decide +kernel
theorem dX13_order_44 : decode cX13_order 44 = .ok (.iload_n 2, 1) := by decide +kernel
theorem dX13_order_45 : decode cX13_order 45 = .ok (.iload_n 3, 1) := by decide +kernel
theorem dX13_order_46 : decode cX13_order 46 = .ok (.invokevirtual 470, 3) := by decide +kernel
theorem dX13_order_49 : decode cX13_order 49 = .ok (.isub, 1) := by decide +kernel
theorem dX13_order_50 : decode cX13_order 50 = .ok (.i2l, 1) := by decide +kernel
theorem dX13_order_51 : decode cX13_order 51 = .ok (.lreturn, 1) := by decide +kernel
theorem dX13_order_52 : decode cX13_order 52 = .ok (.iinc 3 1, 3) := by decide +kernel
theorem dX13_order_55 : decode cX13_order 55 = .ok (.goto (-53), 3) := by decide +kernel
theorem dX13_order_58 : decode cX13_order 58 = .ok (.aload_n 0, 1) := by decide +kernel
theorem dX13_order_59 : decode cX13_order 59 = .ok (.getfield 193, 3) := by decide +kernel
theorem dX13_order_62 : decode cX13_order 62 = .ok (.iload_n 1, 1) := by decide +kernel
theorem dX13_order_63 : decode cX13_order 63 = .ok (.iaload, 1) := by decide +kernel
theorem dX13_order_64 : decode cX13_order 64 = .ok (.aload_n 0, 1) := by decide +kernel
theorem dX13_order_65 : decode cX13_order 65 = .ok (.getfield 193, 3) := by decide +kernel
theorem dX13_order_68 : decode cX13_order 68 = .ok (.iload_n 2, 1) := by decide +kernel
theorem dX13_order_69 : decode cX13_order 69 = .ok (.iaload, 1) := by decide +kernel
theorem dX13_order_70 : decode cX13_order 70 = .ok (.isub, 1) := by decide +kernel
theorem dX13_order_71 : decode cX13_order 71 = .ok (.i2l, 1) := by decide +kernel
theorem dX13_order_72 : decode cX13_order 72 = .ok (.lreturn, 1) := by decide +kernel
def m_order_58 (g : Nat) (S : St) (x1 : Int32) (x2 : Int32) : Option Int64 :=
(aI S 24 x1).bind fun v_2 =>
(aI S 24 x2).bind fun v_3 =>
some ((v_2 - v_3).toInt64)
def b_order_2 (g : Nat) (S : St) (k2 : Int32 → Int32 → Int32 → Option Int64) (x1 : Int32) (x2 : Int32) (x3 : Int32) : Option Int64 :=
(aI S 24 x1).bind fun v_1 =>
if v_1 ≤ x3 then (
  m_order_58 g S x1 x2
) else (
  (aI S 24 x2).bind fun v_2 =>
  if v_2 ≤ x3 then (
    m_order_58 g S x1 x2
  ) else (
    (m_unitAt g S x1 x3).bind fun v_3 =>
    (m_unitAt g S x2 x3).bind fun v_4 =>
    if v_3 = v_4 then (
      lt (x3 + (1 : Int32)) fun x3_5 =>
      k2 x1 x2 x3_5
    ) else (
      (m_unitAt g S x1 x3).bind fun v_6 =>
      (m_unitAt g S x2 x3).bind fun v_7 =>
      some ((v_6 - v_7).toInt64)
    )
  )
)
def m_order_2 (g : Nat) (S : St) : Nat → Int32 → Int32 → Int32 → Option Int64
  | 0, _, _, _ => none
  | n + 1, x1, x2, x3 => b_order_2 g S (m_order_2 g S n) x1 x2 x3
def m_order (g : Nat) (S : St) (x1 : Int32) (x2 : Int32) : Option Int64 :=
m_order_2 g S g x1 x2 (0 : Int32)
section S_order
variable {p : Program} {l : Launch} {e : Env} {s : State} {m : MethodId} {args : Array Value} {below : List Frame} {meth : Method} {c : Code} {H : Heap} {locs : List Loc} {ls : Array Slot} {D : va_G} {T : Cy} {ρ : Nat → Nat} {A : Nat → Prop}
set_option maxRecDepth 100000 in
set_option maxHeartbeats 4000000 in
theorem w_order_58  {g : Nat} {S : St} {x1 : Int32} {x2 : Int32} (C : CallFix p m c cX13_order 4 s args tb RX13) (hr : meth.sig.returnType = (some .long)) (hk : meth.locks = false) {r : Int64} (w : Wn Ym D T ρ S A s H locs) (hl : lv_has ls 4 [(0, .ref (ρ 0)), (1, .int x1), (2, .int x2)]) (h : m_order_58 g S x1 x2 = some r) : W p l e (rmN 1 22) s m args below meth c H locs 0 0 (MQ below (Qj Ym D T ρ A S r) args s 0 0 A) (F0 m 58 ls []) := by
  unfold m_order_58 at h
  refine lv_aload_n C.1 C.2.1 dX13_order_58 rfl (lv_at hl 0 rfl) ?_
  refine x_getC C w 24 fM193 obM rfl dX13_order_59 ?_
  refine lv_iload_n C.1 C.2.1 dX13_order_62 rfl (lv_at hl 1 rfl) ?_
  obtain ⟨v_2, hv_2, h⟩ := bnd h
  refine x_iald C w obM24 hv_2 dX13_order_63 ?_
  refine lv_aload_n C.1 C.2.1 dX13_order_64 rfl (lv_at hl 0 rfl) ?_
  refine x_getC C w 24 fM193 obM rfl dX13_order_65 ?_
  refine lv_iload_n C.1 C.2.1 dX13_order_68 rfl (lv_at hl 2 rfl) ?_
  obtain ⟨v_3, hv_3, h⟩ := bnd h
  refine x_iald C w obM24 hv_3 dX13_order_69 ?_
  refine lv_isub C.1 C.2.1 dX13_order_70 ?_
  refine lv_i2l C.1 C.2.1 dX13_order_71 rfl ?_
  obtain rfl := som h
  exact x_lret C w hr hk dX13_order_72
set_option maxRecDepth 100000 in
set_option maxHeartbeats 4000000 in
theorem wb_order_2  {g : Nat} {S : St} {x1 : Int32} {x2 : Int32} {x3 : Int32} (C : CallFix p m c cX13_order 4 s args tb RX13) (hr : meth.sig.returnType = (some .long)) (hk : meth.locks = false) {r : Int64} {k2 : Int32 → Int32 → Int32 → Option Int64} (kk2 : ∀ (x1 : Int32) (x2 : Int32) (x3 : Int32) (H : Heap) (locs : List Loc) (ls : Array Slot), Wn Ym D T ρ S A s H locs → lv_has ls 4 [(0, .ref (ρ 0)), (1, .int x1), (2, .int x2), (3, .int x3)] → k2 x1 x2 x3 = some r → W p l e (rmN 1 22) s m args below meth c H locs 0 0 (MQ below (Qj Ym D T ρ A S r) args s 0 0 A) (F0 m 2 ls [])) (w : Wn Ym D T ρ S A s H locs) (hl : lv_has ls 4 [(0, .ref (ρ 0)), (1, .int x1), (2, .int x2), (3, .int x3)]) (h : b_order_2 g S k2 x1 x2 x3 = some r) : W p l e (rmN 1 22) s m args below meth c H locs 0 0 (MQ below (Qj Ym D T ρ A S r) args s 0 0 A) (F0 m 2 ls []) := by
  unfold b_order_2 at h
  refine lv_iload_n C.1 C.2.1 dX13_order_2 rfl (lv_at hl 3 rfl) ?_
  refine lv_aload_n C.1 C.2.1 dX13_order_3 rfl (lv_at hl 0 rfl) ?_
  refine x_getC C w 24 fM193 obM rfl dX13_order_4 ?_
  refine lv_iload_n C.1 C.2.1 dX13_order_7 rfl (lv_at hl 1 rfl) ?_
  obtain ⟨v_1, hv_1, h⟩ := bnd h
  refine x_iald C w obM24 hv_1 dX13_order_8 ?_
  refine lv_icmp_ge (tgt := 58) C.1 C.2.1 dX13_order_9 (by decide) (fun hc => ?_) (fun hc => ?_)
  · replace h := ift hc h
    exact w_order_58 C hr hk w (lv_sub hl [0, 1, 2] rfl) h
  · replace h := iff0 hc h
    refine lv_iload_n C.1 C.2.1 dX13_order_12 rfl (lv_at hl 3 rfl) ?_
    refine lv_aload_n C.1 C.2.1 dX13_order_13 rfl (lv_at hl 0 rfl) ?_
    refine x_getC C w 24 fM193 obM rfl dX13_order_14 ?_
    refine lv_iload_n C.1 C.2.1 dX13_order_17 rfl (lv_at hl 2 rfl) ?_
    obtain ⟨v_2, hv_2, h⟩ := bnd h
    refine x_iald C w obM24 hv_2 dX13_order_18 ?_
    refine lv_icmp_ge (tgt := 58) C.1 C.2.1 dX13_order_19 (by decide) (fun hc => ?_) (fun hc => ?_)
    · replace h := ift hc h
      exact w_order_58 C hr hk w (lv_sub hl [0, 1, 2] rfl) h
    · replace h := iff0 hc h
      refine lv_aload_n C.1 C.2.1 dX13_order_22 rfl (lv_at hl 0 rfl) ?_
      refine lv_iload_n C.1 C.2.1 dX13_order_23 rfl (lv_at hl 1 rfl) ?_
      refine lv_iload_n C.1 C.2.1 dX13_order_24 rfl (lv_at hl 3 rfl) ?_
      obtain ⟨v_3, hv_3, h⟩ := bnd h
      refine x_callVi (q := (RX13, TX13, 68)) (As := [.int x1, .int x3]) (rest := []) C w (k_unitAt l D T ρ g H.size S hv_3) vM470 ⟨by decide, by decide⟩ obM (by decide) rfl rfl rfl hl.1 (Nat.le_of_ble_eq_true rfl) ⟨Nat.zero_le _, Nat.zero_le _⟩ dX13_order_25 (fun H locs w => ?_)
      refine lv_aload_n C.1 C.2.1 dX13_order_28 rfl (lv_at hl 0 rfl) ?_
      refine lv_iload_n C.1 C.2.1 dX13_order_29 rfl (lv_at hl 2 rfl) ?_
      refine lv_iload_n C.1 C.2.1 dX13_order_30 rfl (lv_at hl 3 rfl) ?_
      obtain ⟨v_4, hv_4, h⟩ := bnd h
      refine x_callVi (q := (RX13, TX13, 68)) (As := [.int x2, .int x3]) (rest := [.int v_3]) C w (k_unitAt l D T ρ g H.size S hv_4) vM470 ⟨by decide, by decide⟩ obM (by decide) rfl rfl rfl hl.1 (Nat.le_of_ble_eq_true rfl) ⟨Nat.zero_le _, Nat.zero_le _⟩ dX13_order_31 (fun H locs w => ?_)
      refine lv_icmp_eq (tgt := 52) C.1 C.2.1 dX13_order_34 (by decide) (fun hc => ?_) (fun hc => ?_)
      · replace h := ift hc h
        obtain ⟨x3_5, ex3_5, h⟩ := lt_e h
        refine lv_iinc (v := x3_5) (lv' := [(3, .int x3_5), (0, .ref (ρ 0)), (1, .int x1), (2, .int x2)]) C.1 C.2.1 dX13_order_52 hl (k := 3) rfl (by rw [ex3_5]; rfl) (by decide) rfl (fun ls hl => ?_)
        refine lv_goto (tgt := 2) C.1 C.2.1 dX13_order_55 (by decide) ?_
        exact kk2 _ _ _ _ _ _ w (lv_sub hl [1, 2, 3, 0] rfl) h
      · replace h := iff0 hc h
        refine lv_aload_n C.1 C.2.1 dX13_order_37 rfl (lv_at hl 0 rfl) ?_
        refine lv_iload_n C.1 C.2.1 dX13_order_38 rfl (lv_at hl 1 rfl) ?_
        refine lv_iload_n C.1 C.2.1 dX13_order_39 rfl (lv_at hl 3 rfl) ?_
        obtain ⟨v_6, hv_6, h⟩ := bnd h
        refine x_callVi (q := (RX13, TX13, 68)) (As := [.int x1, .int x3]) (rest := []) C w (k_unitAt l D T ρ g H.size S hv_6) vM470 ⟨by decide, by decide⟩ obM (by decide) rfl rfl rfl hl.1 (Nat.le_of_ble_eq_true rfl) ⟨Nat.zero_le _, Nat.zero_le _⟩ dX13_order_40 (fun H locs w => ?_)
        refine lv_aload_n C.1 C.2.1 dX13_order_43 rfl (lv_at hl 0 rfl) ?_
        refine lv_iload_n C.1 C.2.1 dX13_order_44 rfl (lv_at hl 2 rfl) ?_
        refine lv_iload_n C.1 C.2.1 dX13_order_45 rfl (lv_at hl 3 rfl) ?_
        obtain ⟨v_7, hv_7, h⟩ := bnd h
        refine x_callVi (q := (RX13, TX13, 68)) (As := [.int x2, .int x3]) (rest := [.int v_6]) C w (k_unitAt l D T ρ g H.size S hv_7) vM470 ⟨by decide, by decide⟩ obM (by decide) rfl rfl rfl hl.1 (Nat.le_of_ble_eq_true rfl) ⟨Nat.zero_le _, Nat.zero_le _⟩ dX13_order_46 (fun H locs w => ?_)
        refine lv_isub C.1 C.2.1 dX13_order_49 ?_
        refine lv_i2l C.1 C.2.1 dX13_order_50 rfl ?_
        obtain rfl := som h
        exact x_lret C w hr hk dX13_order_51
theorem w_order_2 {g : Nat} {S : St} (C : CallFix p m c cX13_order 4 s args tb RX13) (hr : meth.sig.returnType = (some .long)) (hk : meth.locks = false) {r : Int64} (n : Nat) : ∀ (x1 : Int32) (x2 : Int32) (x3 : Int32) (H : Heap) (locs : List Loc) (ls : Array Slot), Wn Ym D T ρ S A s H locs → lv_has ls 4 [(0, .ref (ρ 0)), (1, .int x1), (2, .int x2), (3, .int x3)] → m_order_2 g S n x1 x2 x3 = some r → W p l e (rmN 1 22) s m args below meth c H locs 0 0 (MQ below (Qj Ym D T ρ A S r) args s 0 0 A) (F0 m 2 ls []) := by
  induction n with
  | zero => intro x1 x2 x3 H locs ls w hl h; exact absurd h (fun q => by cases q)
  | succ n ih => intro x1 x2 x3 H locs ls w hl h; exact wb_order_2 C hr hk ih w hl h
set_option maxRecDepth 100000 in
set_option maxHeartbeats 4000000 in
theorem w_order_0  {g : Nat} {S : St} {x1 : Int32} {x2 : Int32} (C : CallFix p m c cX13_order 4 s args tb RX13) (hr : meth.sig.returnType = (some .long)) (hk : meth.locks = false) {r : Int64} (w : Wn Ym D T ρ S A s H locs) (hl : lv_has ls 4 [(0, .ref (ρ 0)), (1, .int x1), (2, .int x2)]) (h : m_order g S x1 x2 = some r) : W p l e (rmN 1 22) s m args below meth c H locs 0 0 (MQ below (Qj Ym D T ρ A S r) args s 0 0 A) (F0 m 0 ls []) := by
  unfold m_order at h
  refine lv_iconst (v := 0) C.1 C.2.1 dX13_order_0 (by decide) ?_
  refine lv_istore_n (lv' := [(3, .int (0 : Int32)), (0, .ref (ρ 0)), (1, .int x1), (2, .int x2)]) C.1 C.2.1 dX13_order_1 rfl hl (by decide) rfl (fun ls hl => ?_)
  exact w_order_2 C hr hk g _ _ _ _ _ _ w (lv_sub hl [1, 2, 3, 0] rfl) h
end S_order
set_option maxRecDepth 100000 in
theorem k_order (l : Launch) (D : va_G) (T : Cy) (ρ : Nat → Nat) (g sz : Nat) (S : St) {x1 : Int32} {x2 : Int32} {r : Int64} (h : m_order g S x1 x2 = some r) : Mj l Ym D T ρ yX13_order cX13_order 4 (some .long) 1 22 S S r [.ref (ρ 0), .int x1, .int x2] sz :=
  x_in (by decide) (Nat.le_of_ble_eq_true rfl) (fun p e s m below meth c ls C hr hk w hl => w_order_0 C hr hk w hl h)

theorem dX13_compares_0 : decode cX13_compares 0 = .ok (.iload_n 1, 1) := by decide +kernel
theorem dX13_compares_1 : decode cX13_compares 1 = .ok (.iconst 5, 1) := by decide +kernel
theorem dX13_compares_2 : decode cX13_compares 2 = .ok (.if_icmp .ne 31, 3) := by decide +kernel
theorem dX13_compares_5 : decode cX13_compares 5 = .ok (.aload_n 0, 1) := by decide +kernel
theorem dX13_compares_6 : decode cX13_compares 6 = .ok (.iload_n 2, 1) := by decide +kernel
theorem dX13_compares_7 : decode cX13_compares 7 = .ok (.aload_n 0, 1) := by decide +kernel
theorem dX13_compares_8 : decode cX13_compares 8 = .ok (.iload_n 2, 1) := by decide +kernel
theorem dX13_compares_9 : decode cX13_compares 9 = .ok (.iconst 1, 1) := by decide +kernel
theorem dX13_compares_10 : decode cX13_compares 10 = .ok (.iadd, 1) := by decide +kernel
theorem dX13_compares_11 : decode cX13_compares 11 = .ok (.invokevirtual 463, 3) := by decide +kernel
theorem dX13_compares_14 : decode cX13_compares 14 = .ok (.aload_n 0, 1) := by decide +kernel
theorem dX13_compares_15 : decode cX13_compares 15 = .ok (.iload_n 2, 1) := by decide +kernel
theorem dX13_compares_16 : decode cX13_compares 16 = .ok (.iconst 2, 1) := by decide +kernel
theorem dX13_compares_17 : decode cX13_compares 17 = .ok (.iadd, 1) := by decide +kernel
theorem dX13_compares_18 : decode cX13_compares 18 = .ok (.invokevirtual 463, 3) := by decide +kernel
theorem dX13_compares_21 : decode cX13_compares 21 = .ok (.if_icmp .ne 7, 3) := by decide +kernel
theorem dX13_compares_24 : decode cX13_compares 24 = .ok (.lconst 1, 1) := by decide +kernel
theorem dX13_compares_25 : decode cX13_compares 25 = .ok (.goto 4, 3) := by decide +kernel
theorem dX13_compares_28 : decode cX13_compares 28 = .ok (.lconst 0, 1) := by decide +kernel
theorem dX13_compares_29 : decode cX13_compares 29 = .ok (.invokevirtual 567, 3) := by decide +kernel
theorem dX13_compares_32 : decode cX13_compares 32 = .ok (.return_, 1) := by decide +kernel
theorem dX13_compares_33 : decode cX13_compares 33 = .ok (.aload_n 0, 1) := by decide +kernel
theorem dX13_compares_34 : decode cX13_compares 34 = .ok (.iload_n 2, 1) := by decide +kernel
theorem dX13_compares_35 : decode cX13_compares 35 = .ok (.iconst 1, 1) := by decide +kernel
theorem dX13_compares_36 : decode cX13_compares 36 = .ok (.iadd, 1) := by decide +kernel
theorem dX13_compares_37 : decode cX13_compares 37 = .ok (.invokevirtual 558, 3) := by decide +kernel
theorem dX13_compares_40 : decode cX13_compares 40 = .ok (.istore_n 3, 1) := by decide +kernel
theorem dX13_compares_41 : decode cX13_compares 41 = .ok (.iload_n 1, 1) := by decide +kernel
theorem dX13_compares_42 : decode cX13_compares 42 = .ok (.bipush 8, 2) := by decide +kernel
theorem dX13_compares_44 : decode cX13_compares 44 = .ok (.if_icmp .le 7, 3) := by decide +kernel
theorem dX13_compares_47 : decode cX13_compares 47 = .ok (.iconst 0, 1) := by decide +kernel
theorem dX13_compares_48 : decode cX13_compares 48 = .ok (.goto 26, 3) := by decide +kernel
theorem dX13_compares_51 : decode cX13_compares 51 = .ok (.iload_n 1, 1) := by decide +kernel
theorem dX13_compares_52 : decode cX13_compares 52 = .ok (.bipush 8, 2) := by decide +kernel
theorem dX13_compares_54 : decode cX13_compares 54 = .ok (.if_icmp .ne 13, 3) := by decide +kernel
theorem dX13_compares_57 : decode cX13_compares 57 = .ok (.aload_n 0, 1) := by decide +kernel
theorem dX13_compares_58 : decode cX13_compares 58 = .ok (.iload_n 2, 1) := by decide +kernel
theorem dX13_compares_59 : decode cX13_compares 59 = .ok (.iconst 2, 1) := by decide +kernel
theorem dX13_compares_60 : decode cX13_compares 60 = .ok (.iadd, 1) := by decide +kernel
theorem dX13_compares_61 : decode cX13_compares 61 = .ok (.invokevirtual 558, 3) := by decide +kernel
theorem dX13_compares_64 : decode cX13_compares 64 = .ok (.goto 10, 3) := by decide +kernel
theorem dX13_compares_67 : decode cX13_compares 67 = .ok (.aload_n 0, 1) := by decide +kernel
theorem dX13_compares_68 : decode cX13_compares 68 = .ok (.iload_n 2, 1) := by decide +kernel
theorem dX13_compares_69 : decode cX13_compares 69 = .ok (.iconst 2, 1) := by decide +kernel
theorem dX13_compares_70 : decode cX13_compares 70 = .ok (.iadd, 1) := by decide +kernel
theorem dX13_compares_71 : decode cX13_compares 71 = .ok (.invokevirtual 463, 3) := by decide +kernel
theorem dX13_compares_74 : decode cX13_compares 74 = .ok (.istore 4, 2) := by decide +kernel
theorem dX13_compares_76 : decode cX13_compares 76 = .ok (.aload_n 0, 1) := by decide +kernel
theorem dX13_compares_77 : decode cX13_compares 77 = .ok (.getfield 398, 3) := by decide +kernel
theorem dX13_compares_80 : decode cX13_compares 80 = .ok (.ifCond .eq 4, 3) := by decide +kernel
theorem dX13_compares_83 : decode cX13_compares 83 = .ok (.return_, 1) := by decide +kernel
theorem dX13_compares_84 : decode cX13_compares 84 = .ok (.aload_n 0, 1) := by decide +kernel
theorem dX13_compares_85 : decode cX13_compares 85 = .ok (.getfield 193, 3) := by decide +kernel
theorem dX13_compares_88 : decode cX13_compares 88 = .ok (.iload_n 3, 1) := by decide +kernel
theorem dX13_compares_89 : decode cX13_compares 89 = .ok (.iaload, 1) := by decide +kernel
theorem dX13_compares_90 : decode cX13_compares 90 = .ok (.i2l, 1) := by decide +kernel
theorem dX13_compares_91 : decode cX13_compares 91 = .ok (.lstore 5, 2) := by decide +kernel
theorem dX13_compares_93 : decode cX13_compares 93 = .ok (.iload_n 1, 1) := by decide +kernel
theorem dX13_compares_94 : decode cX13_compares 94 = .ok (.bipush 6, 2) := by decide +kernel
theorem dX13_compares_96 : decode cX13_compares 96 = .ok (.if_icmp .ne 25, 3) := by decide +kernel
theorem dX13_compares_99 : decode cX13_compares 99 = .ok (.iload 4, 2) := by decide +kernel
theorem dX13_compares_101 : decode cX13_compares 101 = .ok (.ifCond .lt 17, 3) := by decide +kernel
theorem dX13_compares_104 : decode cX13_compares 104 = .ok (.aload_n 0, 1) := by decide +kernel
theorem dX13_compares_105 : decode cX13_compares 105 = .ok (.iload_n 3, 1) := by decide +kernel
theorem dX13_compares_106 : decode cX13_compares 106 = .ok (.iload 4, 2) := by decide +kernel
theorem dX13_compares_108 : decode cX13_compares 108 = .ok (.invokevirtual 519, 3) := by decide +kernel
theorem dX13_compares_111 : decode cX13_compares 111 = .ok (.ifCond .eq 7, 3) := by decide +kernel
theorem dX13_compares_114 : decode cX13_compares 114 = .ok (.lconst 1, 1) := by decide +kernel
theorem dX13_compares_115 : decode cX13_compares 115 = .ok (.goto 4, 3) := by decide +kernel
theorem dX13_compares_118 : decode cX13_compares 118 = .ok (.lconst 0, 1) := by decide +kernel
theorem dX13_compares_119 : decode cX13_compares 119 = .ok (.lstore 5, 2) := by decide +kernel
theorem dX13_compares_121 : decode cX13_compares 121 = .ok (.iload_n 1, 1) := by decide +kernel
theorem dX13_compares_122 : decode cX13_compares 122 = .ok (.bipush 7, 2) := by decide +kernel
theorem dX13_compares_124 : decode cX13_compares 124 = .ok (.if_icmp .ne 25, 3) := by decide +kernel
theorem dX13_compares_127 : decode cX13_compares 127 = .ok (.iload 4, 2) := by decide +kernel
theorem dX13_compares_129 : decode cX13_compares 129 = .ok (.ifCond .lt 17, 3) := by decide +kernel
theorem dX13_compares_132 : decode cX13_compares 132 = .ok (.aload_n 0, 1) := by decide +kernel
theorem dX13_compares_133 : decode cX13_compares 133 = .ok (.iload_n 3, 1) := by decide +kernel
theorem dX13_compares_134 : decode cX13_compares 134 = .ok (.iload 4, 2) := by decide +kernel
theorem dX13_compares_136 : decode cX13_compares 136 = .ok (.invokevirtual 571, 3) := by decide +kernel
theorem dX13_compares_139 : decode cX13_compares 139 = .ok (.ifCond .eq 7, 3) := by decide +kernel
theorem dX13_compares_142 : decode cX13_compares 142 = .ok (.lconst 1, 1) := by decide +kernel
theorem dX13_compares_143 : decode cX13_compares 143 = .ok (.goto 4, 3) := by decide +kernel
theorem dX13_compares_146 : decode cX13_compares 146 = .ok (.lconst 0, 1) := by decide +kernel
theorem dX13_compares_147 : decode cX13_compares 147 = .ok (.lstore 5, 2) := by decide +kernel
theorem dX13_compares_149 : decode cX13_compares 149 = .ok (.iload_n 1, 1) := by decide +kernel
theorem dX13_compares_150 : decode cX13_compares 150 = .ok (.bipush 8, 2) := by decide +kernel
theorem dX13_compares_152 : decode cX13_compares 152 = .ok (.if_icmp .ne 12, 3) := by decide +kernel
theorem dX13_compares_155 : decode cX13_compares 155 = .ok (.aload_n 0, 1) := by decide +kernel
theorem dX13_compares_156 : decode cX13_compares 156 = .ok (.iload_n 3, 1) := by decide +kernel
theorem dX13_compares_157 : decode cX13_compares 157 = .ok (.iload 4, 2) := by decide +kernel
theorem dX13_compares_159 : decode cX13_compares 159 = .ok (.invokevirtual 574, 3) := by decide +kernel
theorem dX13_compares_162 : decode cX13_compares 162 = .ok (.lstore 5, 2) := by decide +kernel
theorem dX13_compares_164 : decode cX13_compares 164 = .ok (.iload_n 1, 1) := by decide +kernel
theorem dX13_compares_165 : decode cX13_compares 165 = .ok (.bipush 9, 2) := by decide +kernel
theorem dX13_compares_167 : decode cX13_compares 167 = .ok (.if_icmp .ne 11, 3) := by decide +kernel
theorem dX13_compares_170 : decode cX13_compares 170 = .ok (.aload_n 0, 1) := by decide +kernel
theorem dX13_compares_171 : decode cX13_compares 171 = .ok (.iload_n 3, 1) := by decide +kernel
theorem dX13_compares_172 : decode cX13_compares 172 = .ok (.invokevirtual 578, 3) := by decide +kernel
theorem dX13_compares_175 : decode cX13_compares 175 = .ok (.i2l, 1) := by decide +kernel
theorem dX13_compares_176 : decode cX13_compares 176 = .ok (.lstore 5, 2) := by decide +kernel
theorem dX13_compares_178 : decode cX13_compares 178 = .ok (.aload_n 0, 1) := by decide +kernel
theorem dX13_compares_179 : decode cX13_compares 179 = .ok (.iload_n 2, 1) := by decide +kernel
theorem dX13_compares_180 : decode cX13_compares 180 = .ok (.lload 5, 2) := by decide +kernel
theorem dX13_compares_182 : decode cX13_compares 182 = .ok (.invokevirtual 567, 3) := by decide +kernel
theorem dX13_compares_185 : decode cX13_compares 185 = .ok (.return_, 1) := by decide +kernel
def m_compares_178 (g : Nat) (S : St) (x2 : Int32) (x5 : Int64) : Option St :=
(m_givesWhole g S x2 x5).bind fun S_6 =>
some S_6
def m_compares_164 (g : Nat) (S : St) (x1 : Int32) (x2 : Int32) (x3 : Int32) (x5 : Int64) : Option St :=
if x1 = (9 : Int32) then (
  (m_hashOf g S x3).bind fun v_6 =>
  lt (v_6.toInt64) fun x5_7 =>
  m_compares_178 g S x2 x5_7
) else (
  m_compares_178 g S x2 x5
)
def m_compares_149 (g : Nat) (S : St) (x1 : Int32) (x2 : Int32) (x3 : Int32) (x4 : Int32) (x5 : Int64) : Option St :=
if x1 = (8 : Int32) then (
  (m_order g S x3 x4).bind fun v_6 =>
  m_compares_164 g S x1 x2 x3 v_6
) else (
  m_compares_164 g S x1 x2 x3 x5
)
def m_compares_147 (g : Nat) (S : St) (x1 : Int32) (x2 : Int32) (x3 : Int32) (x4 : Int32) (y0 : Int64) : Option St :=
m_compares_149 g S x1 x2 x3 x4 y0
def m_compares_146 (g : Nat) (S : St) (x1 : Int32) (x2 : Int32) (x3 : Int32) (x4 : Int32) : Option St :=
m_compares_147 g S x1 x2 x3 x4 (0 : Int64)
def m_compares_121 (g : Nat) (S : St) (x1 : Int32) (x2 : Int32) (x3 : Int32) (x4 : Int32) (x5 : Int64) : Option St :=
if x1 = (7 : Int32) then (
  if x4 < 0 then (
    m_compares_146 g S x1 x2 x3 x4
  ) else (
    (m_alike g S x3 x4).bind fun v_6 =>
    if v_6 = 0 then (
      m_compares_146 g S x1 x2 x3 x4
    ) else (
      m_compares_147 g S x1 x2 x3 x4 (1 : Int64)
    )
  )
) else (
  m_compares_149 g S x1 x2 x3 x4 x5
)
def m_compares_119 (g : Nat) (S : St) (x1 : Int32) (x2 : Int32) (x3 : Int32) (x4 : Int32) (y0 : Int64) : Option St :=
m_compares_121 g S x1 x2 x3 x4 y0
def m_compares_118 (g : Nat) (S : St) (x1 : Int32) (x2 : Int32) (x3 : Int32) (x4 : Int32) : Option St :=
m_compares_119 g S x1 x2 x3 x4 (0 : Int64)
def m_compares_74 (g : Nat) (S : St) (x1 : Int32) (x2 : Int32) (x3 : Int32) (y0 : Int32) : Option St :=
if (gI S 0 58) = 0 then (
  (aI S 24 x3).bind fun v_4 =>
  lt (v_4.toInt64) fun x5_5 =>
  if x1 = (6 : Int32) then (
    if y0 < 0 then (
      m_compares_118 g S x1 x2 x3 y0
    ) else (
      (m_equal g S x3 y0).bind fun v_6 =>
      if v_6 = 0 then (
        m_compares_118 g S x1 x2 x3 y0
      ) else (
        m_compares_119 g S x1 x2 x3 y0 (1 : Int64)
      )
    )
  ) else (
    m_compares_121 g S x1 x2 x3 y0 x5_5
  )
) else (
  some S
)
def m_compares_29 (g : Nat) (S : St) (y1 : Int32) (y2 : Int64) : Option St :=
(m_givesWhole g S y1 y2).bind fun S_8 =>
some S_8
def m_compares (g : Nat) (S : St) (x1 : Int32) (x2 : Int32) : Option St :=
if x1 = (5 : Int32) then (
  (m_text g S (x2 + (1 : Int32))).bind fun v_6 =>
  (m_text g S (x2 + (2 : Int32))).bind fun v_7 =>
  if v_6 = v_7 then (
    m_compares_29 g S x2 (1 : Int64)
  ) else (
    m_compares_29 g S x2 (0 : Int64)
  )
) else (
  (m_textAt g S (x2 + (1 : Int32))).bind fun (S_1, v_2) =>
  if x1 ≤ (8 : Int32) then (
    if x1 = (8 : Int32) then (
      (m_textAt g S_1 (x2 + (2 : Int32))).bind fun (S_4, v_5) =>
      m_compares_74 g S_4 x1 x2 v_2 v_5
    ) else (
      (m_text g S_1 (x2 + (2 : Int32))).bind fun v_3 =>
      m_compares_74 g S_1 x1 x2 v_2 v_3
    )
  ) else (
    m_compares_74 g S_1 x1 x2 v_2 (0 : Int32)
  )
)
section S_compares
variable {p : Program} {l : Launch} {e : Env} {s : State} {m : MethodId} {args : Array Value} {below : List Frame} {meth : Method} {c : Code} {H : Heap} {locs : List Loc} {ls : Array Slot} {D : va_G} {T : Cy} {ρ : Nat → Nat} {A : Nat → Prop}
set_option maxRecDepth 100000 in
set_option maxHeartbeats 4000000 in
theorem w_compares_178  {g : Nat} {S : St} {x2 : Int32} {x5 : Int64} (C : CallFix p m c cX13_compares 7 s args tb RX13) (hr : meth.sig.returnType = none) (hk : meth.locks = false) {S' : St} (w : Wn Ym D T ρ S A s H locs) (hl : lv_has ls 7 [(0, .ref (ρ 0)), (2, .int x2), (5, .long x5)]) (h : m_compares_178 g S x2 x5 = some S') : W p l e (rmN 4 89) s m args below meth c H locs 0 0 (MQ below (Qv Ym D T ρ A S') args s 0 0 A) (F0 m 178 ls []) := by
  unfold m_compares_178 at h
  refine lv_aload_n C.1 C.2.1 dX13_compares_178 rfl (lv_at hl 0 rfl) ?_
  refine lv_iload_n C.1 C.2.1 dX13_compares_179 rfl (lv_at hl 1 rfl) ?_
  refine lv_lload C.1 C.2.1 dX13_compares_180 (lv_at hl 2 rfl) ?_
  obtain ⟨S_6, hS_6, h⟩ := bnd h
  refine x_callVv (q := (RX13, TX13, 68)) (As := [.int x2, .long x5]) (rest := []) C w (k_givesWhole l D T ρ g H.size S hS_6) vM567 ⟨by decide, by decide⟩ obM (by decide) rfl rfl rfl hl.1 (Nat.le_of_ble_eq_true rfl) ⟨Nat.zero_le _, Nat.zero_le _⟩ dX13_compares_182 (fun H locs w => ?_)
  obtain rfl := som h
  exact x_vret C w hr hk dX13_compares_185
set_option maxRecDepth 100000 in
set_option maxHeartbeats 4000000 in
theorem w_compares_164  {g : Nat} {S : St} {x1 : Int32} {x2 : Int32} {x3 : Int32} {x5 : Int64} (C : CallFix p m c cX13_compares 7 s args tb RX13) (hr : meth.sig.returnType = none) (hk : meth.locks = false) {S' : St} (w : Wn Ym D T ρ S A s H locs) (hl : lv_has ls 7 [(0, .ref (ρ 0)), (1, .int x1), (2, .int x2), (3, .int x3), (5, .long x5)]) (h : m_compares_164 g S x1 x2 x3 x5 = some S') : W p l e (rmN 4 89) s m args below meth c H locs 0 0 (MQ below (Qv Ym D T ρ A S') args s 0 0 A) (F0 m 164 ls []) := by
  unfold m_compares_164 at h
  refine lv_iload_n C.1 C.2.1 dX13_compares_164 rfl (lv_at hl 1 rfl) ?_
  refine lv_bipush (v := 9) C.1 C.2.1 dX13_compares_165 (by decide) ?_
  refine lv_icmp_ne (tgt := 178) C.1 C.2.1 dX13_compares_167 (by decide) (fun hc => ?_) (fun hc => ?_)
  · replace h := iff0 hc h
    exact w_compares_178 C hr hk w (lv_sub hl [0, 2, 4] rfl) h
  · replace h := ift hc h
    refine lv_aload_n C.1 C.2.1 dX13_compares_170 rfl (lv_at hl 0 rfl) ?_
    refine lv_iload_n C.1 C.2.1 dX13_compares_171 rfl (lv_at hl 3 rfl) ?_
    obtain ⟨v_6, hv_6, h⟩ := bnd h
    refine x_callVi (q := (RX13, TX13, 68)) (As := [.int x3]) (rest := []) C w (k_hashOf l D T ρ g H.size S hv_6) vM578 ⟨by decide, by decide⟩ obM (by decide) rfl rfl rfl hl.1 (Nat.le_of_ble_eq_true rfl) ⟨Nat.zero_le _, Nat.zero_le _⟩ dX13_compares_172 (fun H locs w => ?_)
    refine lv_i2l C.1 C.2.1 dX13_compares_175 rfl ?_
    obtain ⟨x5_7, ex5_7, h⟩ := lt_e h
    refine x_nmL ex5_7 ?_
    refine lv_lstore (lv' := [(5, .long x5_7), (0, .ref (ρ 0)), (1, .int x1), (2, .int x2), (3, .int x3)]) C.1 C.2.1 dX13_compares_176 hl (by decide) rfl (fun ls hl => ?_)
    exact w_compares_178 C hr hk w (lv_sub hl [1, 3, 0] rfl) h
set_option maxRecDepth 100000 in
set_option maxHeartbeats 4000000 in
theorem w_compares_149  {g : Nat} {S : St} {x1 : Int32} {x2 : Int32} {x3 : Int32} {x4 : Int32} {x5 : Int64} (C : CallFix p m c cX13_compares 7 s args tb RX13) (hr : meth.sig.returnType = none) (hk : meth.locks = false) {S' : St} (w : Wn Ym D T ρ S A s H locs) (hl : lv_has ls 7 [(0, .ref (ρ 0)), (1, .int x1), (2, .int x2), (3, .int x3), (4, .int x4), (5, .long x5)]) (h : m_compares_149 g S x1 x2 x3 x4 x5 = some S') : W p l e (rmN 4 89) s m args below meth c H locs 0 0 (MQ below (Qv Ym D T ρ A S') args s 0 0 A) (F0 m 149 ls []) := by
  unfold m_compares_149 at h
  refine lv_iload_n C.1 C.2.1 dX13_compares_149 rfl (lv_at hl 1 rfl) ?_
  refine lv_bipush (v := 8) C.1 C.2.1 dX13_compares_150 (by decide) ?_
  refine lv_icmp_ne (tgt := 164) C.1 C.2.1 dX13_compares_152 (by decide) (fun hc => ?_) (fun hc => ?_)
  · replace h := iff0 hc h
    exact w_compares_164 C hr hk w (lv_sub hl [0, 1, 2, 3, 5] rfl) h
  · replace h := ift hc h
    refine lv_aload_n C.1 C.2.1 dX13_compares_155 rfl (lv_at hl 0 rfl) ?_
    refine lv_iload_n C.1 C.2.1 dX13_compares_156 rfl (lv_at hl 3 rfl) ?_
    refine lv_iload C.1 C.2.1 dX13_compares_157 (lv_at hl 4 rfl) ?_
    obtain ⟨v_6, hv_6, h⟩ := bnd h
    refine x_callVj (q := (RX13, TX13, 68)) (As := [.int x3, .int x4]) (rest := []) C w (k_order l D T ρ g H.size S hv_6) vM574 ⟨by decide, by decide⟩ obM (by decide) rfl rfl rfl hl.1 (Nat.le_of_ble_eq_true rfl) ⟨Nat.zero_le _, Nat.zero_le _⟩ dX13_compares_159 (fun H locs w => ?_)
    refine lv_lstore (lv' := [(5, .long v_6), (0, .ref (ρ 0)), (1, .int x1), (2, .int x2), (3, .int x3), (4, .int x4)]) C.1 C.2.1 dX13_compares_162 hl (by decide) rfl (fun ls hl => ?_)
    exact w_compares_164 C hr hk w (lv_sub hl [1, 2, 3, 4, 0] rfl) h
set_option maxRecDepth 100000 in
set_option maxHeartbeats 4000000 in
theorem w_compares_147  {g : Nat} {S : St} {x1 : Int32} {x2 : Int32} {x3 : Int32} {x4 : Int32} {y0 : Int64} (C : CallFix p m c cX13_compares 7 s args tb RX13) (hr : meth.sig.returnType = none) (hk : meth.locks = false) {S' : St} (w : Wn Ym D T ρ S A s H locs) (hl : lv_has ls 7 [(0, .ref (ρ 0)), (1, .int x1), (2, .int x2), (3, .int x3), (4, .int x4)]) (h : m_compares_147 g S x1 x2 x3 x4 y0 = some S') : W p l e (rmN 4 89) s m args below meth c H locs 0 0 (MQ below (Qv Ym D T ρ A S') args s 0 0 A) (F0 m 147 ls [.long y0]) := by
  unfold m_compares_147 at h
  refine lv_lstore (lv' := [(5, .long y0), (0, .ref (ρ 0)), (1, .int x1), (2, .int x2), (3, .int x3), (4, .int x4)]) C.1 C.2.1 dX13_compares_147 hl (by decide) rfl (fun ls hl => ?_)
  exact w_compares_149 C hr hk w (lv_sub hl [1, 2, 3, 4, 5, 0] rfl) h
set_option maxRecDepth 100000 in
set_option maxHeartbeats 4000000 in
theorem w_compares_146  {g : Nat} {S : St} {x1 : Int32} {x2 : Int32} {x3 : Int32} {x4 : Int32} (C : CallFix p m c cX13_compares 7 s args tb RX13) (hr : meth.sig.returnType = none) (hk : meth.locks = false) {S' : St} (w : Wn Ym D T ρ S A s H locs) (hl : lv_has ls 7 [(0, .ref (ρ 0)), (1, .int x1), (2, .int x2), (3, .int x3), (4, .int x4)]) (h : m_compares_146 g S x1 x2 x3 x4 = some S') : W p l e (rmN 4 89) s m args below meth c H locs 0 0 (MQ below (Qv Ym D T ρ A S') args s 0 0 A) (F0 m 146 ls []) := by
  unfold m_compares_146 at h
  refine lv_lconst (v := 0) C.1 C.2.1 dX13_compares_146 (by decide) ?_
  exact w_compares_147 C hr hk w (lv_sub hl [0, 1, 2, 3, 4] rfl) h
set_option maxRecDepth 100000 in
set_option maxHeartbeats 4000000 in
theorem w_compares_121  {g : Nat} {S : St} {x1 : Int32} {x2 : Int32} {x3 : Int32} {x4 : Int32} {x5 : Int64} (C : CallFix p m c cX13_compares 7 s args tb RX13) (hr : meth.sig.returnType = none) (hk : meth.locks = false) {S' : St} (w : Wn Ym D T ρ S A s H locs) (hl : lv_has ls 7 [(0, .ref (ρ 0)), (1, .int x1), (2, .int x2), (3, .int x3), (4, .int x4), (5, .long x5)]) (h : m_compares_121 g S x1 x2 x3 x4 x5 = some S') : W p l e (rmN 4 89) s m args below meth c H locs 0 0 (MQ below (Qv Ym D T ρ A S') args s 0 0 A) (F0 m 121 ls []) := by
  unfold m_compares_121 at h
  refine lv_iload_n C.1 C.2.1 dX13_compares_121 rfl (lv_at hl 1 rfl) ?_
  refine lv_bipush (v := 7) C.1 C.2.1 dX13_compares_122 (by decide) ?_
  refine lv_icmp_ne (tgt := 149) C.1 C.2.1 dX13_compares_124 (by decide) (fun hc => ?_) (fun hc => ?_)
  · replace h := iff0 hc h
    exact w_compares_149 C hr hk w (lv_sub hl [0, 1, 2, 3, 4, 5] rfl) h
  · replace h := ift hc h
    refine lv_iload C.1 C.2.1 dX13_compares_127 (lv_at hl 4 rfl) ?_
    refine lv_if_lt (tgt := 146) C.1 C.2.1 dX13_compares_129 (by decide) (fun hc => ?_) (fun hc => ?_)
    · replace h := ift hc h
      exact w_compares_146 C hr hk w (lv_sub hl [0, 1, 2, 3, 4] rfl) h
    · replace h := iff0 hc h
      refine lv_aload_n C.1 C.2.1 dX13_compares_132 rfl (lv_at hl 0 rfl) ?_
      refine lv_iload_n C.1 C.2.1 dX13_compares_133 rfl (lv_at hl 3 rfl) ?_
      refine lv_iload C.1 C.2.1 dX13_compares_134 (lv_at hl 4 rfl) ?_
      obtain ⟨v_6, hv_6, h⟩ := bnd h
      refine x_callVi (q := (RX13, TX13, 68)) (As := [.int x3, .int x4]) (rest := []) C w (k_alike l D T ρ g H.size S hv_6) vM571 ⟨by decide, by decide⟩ obM (by decide) rfl rfl rfl hl.1 (Nat.le_of_ble_eq_true rfl) ⟨Nat.zero_le _, Nat.zero_le _⟩ dX13_compares_136 (fun H locs w => ?_)
      refine lv_if_eq (tgt := 146) C.1 C.2.1 dX13_compares_139 (by decide) (fun hc => ?_) (fun hc => ?_)
      · replace h := ift hc h
        exact w_compares_146 C hr hk w (lv_sub hl [0, 1, 2, 3, 4] rfl) h
      · replace h := iff0 hc h
        refine lv_lconst (v := 1) C.1 C.2.1 dX13_compares_142 (by decide) ?_
        refine lv_goto (tgt := 147) C.1 C.2.1 dX13_compares_143 (by decide) ?_
        exact w_compares_147 C hr hk w (lv_sub hl [0, 1, 2, 3, 4] rfl) h
set_option maxRecDepth 100000 in
set_option maxHeartbeats 4000000 in
theorem w_compares_119  {g : Nat} {S : St} {x1 : Int32} {x2 : Int32} {x3 : Int32} {x4 : Int32} {y0 : Int64} (C : CallFix p m c cX13_compares 7 s args tb RX13) (hr : meth.sig.returnType = none) (hk : meth.locks = false) {S' : St} (w : Wn Ym D T ρ S A s H locs) (hl : lv_has ls 7 [(0, .ref (ρ 0)), (1, .int x1), (2, .int x2), (3, .int x3), (4, .int x4)]) (h : m_compares_119 g S x1 x2 x3 x4 y0 = some S') : W p l e (rmN 4 89) s m args below meth c H locs 0 0 (MQ below (Qv Ym D T ρ A S') args s 0 0 A) (F0 m 119 ls [.long y0]) := by
  unfold m_compares_119 at h
  refine lv_lstore (lv' := [(5, .long y0), (0, .ref (ρ 0)), (1, .int x1), (2, .int x2), (3, .int x3), (4, .int x4)]) C.1 C.2.1 dX13_compares_119 hl (by decide) rfl (fun ls hl => ?_)
  exact w_compares_121 C hr hk w (lv_sub hl [1, 2, 3, 4, 5, 0] rfl) h
set_option maxRecDepth 100000 in
set_option maxHeartbeats 4000000 in
theorem w_compares_118  {g : Nat} {S : St} {x1 : Int32} {x2 : Int32} {x3 : Int32} {x4 : Int32} (C : CallFix p m c cX13_compares 7 s args tb RX13) (hr : meth.sig.returnType = none) (hk : meth.locks = false) {S' : St} (w : Wn Ym D T ρ S A s H locs) (hl : lv_has ls 7 [(0, .ref (ρ 0)), (1, .int x1), (2, .int x2), (3, .int x3), (4, .int x4)]) (h : m_compares_118 g S x1 x2 x3 x4 = some S') : W p l e (rmN 4 89) s m args below meth c H locs 0 0 (MQ below (Qv Ym D T ρ A S') args s 0 0 A) (F0 m 118 ls []) := by
  unfold m_compares_118 at h
  refine lv_lconst (v := 0) C.1 C.2.1 dX13_compares_118 (by decide) ?_
  exact w_compares_119 C hr hk w (lv_sub hl [0, 1, 2, 3, 4] rfl) h
set_option maxRecDepth 100000 in
set_option maxHeartbeats 4000000 in
theorem w_compares_74  {g : Nat} {S : St} {x1 : Int32} {x2 : Int32} {x3 : Int32} {y0 : Int32} (C : CallFix p m c cX13_compares 7 s args tb RX13) (hr : meth.sig.returnType = none) (hk : meth.locks = false) {S' : St} (w : Wn Ym D T ρ S A s H locs) (hl : lv_has ls 7 [(0, .ref (ρ 0)), (1, .int x1), (2, .int x2), (3, .int x3)]) (h : m_compares_74 g S x1 x2 x3 y0 = some S') : W p l e (rmN 4 89) s m args below meth c H locs 0 0 (MQ below (Qv Ym D T ρ A S') args s 0 0 A) (F0 m 74 ls [.int y0]) := by
  unfold m_compares_74 at h
  refine lv_istore (lv' := [(4, .int y0), (0, .ref (ρ 0)), (1, .int x1), (2, .int x2), (3, .int x3)]) C.1 C.2.1 dX13_compares_74 hl (by decide) rfl (fun ls hl => ?_)
  refine lv_aload_n C.1 C.2.1 dX13_compares_76 rfl (lv_at hl 1 rfl) ?_
  refine x_getI C w fM398 obM dX13_compares_77 ?_
  refine lv_if_eq (tgt := 84) C.1 C.2.1 dX13_compares_80 (by decide) (fun hc => ?_) (fun hc => ?_)
  · replace h := ift hc h
    refine lv_aload_n C.1 C.2.1 dX13_compares_84 rfl (lv_at hl 1 rfl) ?_
    refine x_getC C w 24 fM193 obM rfl dX13_compares_85 ?_
    refine lv_iload_n C.1 C.2.1 dX13_compares_88 rfl (lv_at hl 4 rfl) ?_
    obtain ⟨v_4, hv_4, h⟩ := bnd h
    refine x_iald C w obM24 hv_4 dX13_compares_89 ?_
    refine lv_i2l C.1 C.2.1 dX13_compares_90 rfl ?_
    obtain ⟨x5_5, ex5_5, h⟩ := lt_e h
    refine x_nmL ex5_5 ?_
    refine lv_lstore (lv' := [(5, .long x5_5), (4, .int y0), (0, .ref (ρ 0)), (1, .int x1), (2, .int x2), (3, .int x3)]) C.1 C.2.1 dX13_compares_91 hl (by decide) rfl (fun ls hl => ?_)
    refine lv_iload_n C.1 C.2.1 dX13_compares_93 rfl (lv_at hl 3 rfl) ?_
    refine lv_bipush (v := 6) C.1 C.2.1 dX13_compares_94 (by decide) ?_
    refine lv_icmp_ne (tgt := 121) C.1 C.2.1 dX13_compares_96 (by decide) (fun hc => ?_) (fun hc => ?_)
    · replace h := iff0 hc h
      exact w_compares_121 C hr hk w (lv_sub hl [2, 3, 4, 5, 1, 0] rfl) h
    · replace h := ift hc h
      refine lv_iload C.1 C.2.1 dX13_compares_99 (lv_at hl 1 rfl) ?_
      refine lv_if_lt (tgt := 118) C.1 C.2.1 dX13_compares_101 (by decide) (fun hc => ?_) (fun hc => ?_)
      · replace h := ift hc h
        exact w_compares_118 C hr hk w (lv_sub hl [2, 3, 4, 5, 1] rfl) h
      · replace h := iff0 hc h
        refine lv_aload_n C.1 C.2.1 dX13_compares_104 rfl (lv_at hl 2 rfl) ?_
        refine lv_iload_n C.1 C.2.1 dX13_compares_105 rfl (lv_at hl 5 rfl) ?_
        refine lv_iload C.1 C.2.1 dX13_compares_106 (lv_at hl 1 rfl) ?_
        obtain ⟨v_6, hv_6, h⟩ := bnd h
        refine x_callVi (q := (RX13, TX13, 68)) (As := [.int x3, .int y0]) (rest := []) C w (k_equal l D T ρ g H.size S hv_6) vM519 ⟨by decide, by decide⟩ obM (by decide) rfl rfl rfl hl.1 (Nat.le_of_ble_eq_true rfl) ⟨Nat.zero_le _, Nat.zero_le _⟩ dX13_compares_108 (fun H locs w => ?_)
        refine lv_if_eq (tgt := 118) C.1 C.2.1 dX13_compares_111 (by decide) (fun hc => ?_) (fun hc => ?_)
        · replace h := ift hc h
          exact w_compares_118 C hr hk w (lv_sub hl [2, 3, 4, 5, 1] rfl) h
        · replace h := iff0 hc h
          refine lv_lconst (v := 1) C.1 C.2.1 dX13_compares_114 (by decide) ?_
          refine lv_goto (tgt := 119) C.1 C.2.1 dX13_compares_115 (by decide) ?_
          exact w_compares_119 C hr hk w (lv_sub hl [2, 3, 4, 5, 1] rfl) h
  · replace h := iff0 hc h
    obtain rfl := som h
    exact x_vret C w hr hk dX13_compares_83
set_option maxRecDepth 100000 in
set_option maxHeartbeats 4000000 in
theorem w_compares_29  {g : Nat} {S : St} {y1 : Int32} {y2 : Int64} (C : CallFix p m c cX13_compares 7 s args tb RX13) (hr : meth.sig.returnType = none) (hk : meth.locks = false) {S' : St} (w : Wn Ym D T ρ S A s H locs) (hl : lv_has ls 7 []) (h : m_compares_29 g S y1 y2 = some S') : W p l e (rmN 4 89) s m args below meth c H locs 0 0 (MQ below (Qv Ym D T ρ A S') args s 0 0 A) (F0 m 29 ls [.long y2, .int y1, .ref (ρ 0)]) := by
  unfold m_compares_29 at h
  obtain ⟨S_8, hS_8, h⟩ := bnd h
  refine x_callVv (q := (RX13, TX13, 68)) (As := [.int y1, .long y2]) (rest := []) C w (k_givesWhole l D T ρ g H.size S hS_8) vM567 ⟨by decide, by decide⟩ obM (by decide) rfl rfl rfl hl.1 (Nat.le_of_ble_eq_true rfl) ⟨Nat.zero_le _, Nat.zero_le _⟩ dX13_compares_29 (fun H locs w => ?_)
  obtain rfl := som h
  exact x_vret C w hr hk dX13_compares_32
set_option maxRecDepth 100000 in
set_option maxHeartbeats 4000000 in
theorem w_compares_0  {g : Nat} {S : St} {x1 : Int32} {x2 : Int32} (C : CallFix p m c cX13_compares 7 s args tb RX13) (hr : meth.sig.returnType = none) (hk : meth.locks = false) {S' : St} (w : Wn Ym D T ρ S A s H locs) (hl : lv_has ls 7 [(0, .ref (ρ 0)), (1, .int x1), (2, .int x2)]) (h : m_compares g S x1 x2 = some S') : W p l e (rmN 4 89) s m args below meth c H locs 0 0 (MQ below (Qv Ym D T ρ A S') args s 0 0 A) (F0 m 0 ls []) := by
  unfold m_compares at h
  refine lv_iload_n C.1 C.2.1 dX13_compares_0 rfl (lv_at hl 1 rfl) ?_
  refine lv_iconst (v := 5) C.1 C.2.1 dX13_compares_1 (by decide) ?_
  refine lv_icmp_ne (tgt := 33) C.1 C.2.1 dX13_compares_2 (by decide) (fun hc => ?_) (fun hc => ?_)
  · replace h := iff0 hc h
    refine lv_aload_n C.1 C.2.1 dX13_compares_33 rfl (lv_at hl 0 rfl) ?_
    refine lv_iload_n C.1 C.2.1 dX13_compares_34 rfl (lv_at hl 2 rfl) ?_
    refine lv_iconst (v := 1) C.1 C.2.1 dX13_compares_35 (by decide) ?_
    refine lv_iadd C.1 C.2.1 dX13_compares_36 ?_
    obtain ⟨⟨S_1, v_2⟩, hv_2, h⟩ := bnd h
    refine x_callVi (q := (RX13, TX13, 68)) (As := [.int (x2 + (1 : Int32))]) (rest := []) C w (k_textAt l D T ρ g H.size S hv_2) vM558 ⟨by decide, by decide⟩ obM (by decide) rfl rfl rfl hl.1 (Nat.le_of_ble_eq_true rfl) ⟨Nat.zero_le _, Nat.zero_le _⟩ dX13_compares_37 (fun H locs w => ?_)
    refine lv_istore_n (lv' := [(3, .int v_2), (0, .ref (ρ 0)), (1, .int x1), (2, .int x2)]) C.1 C.2.1 dX13_compares_40 rfl hl (by decide) rfl (fun ls hl => ?_)
    refine lv_iload_n C.1 C.2.1 dX13_compares_41 rfl (lv_at hl 2 rfl) ?_
    refine lv_bipush (v := 8) C.1 C.2.1 dX13_compares_42 (by decide) ?_
    refine lv_icmp_le (tgt := 51) C.1 C.2.1 dX13_compares_44 (by decide) (fun hc => ?_) (fun hc => ?_)
    · replace h := ift hc h
      refine lv_iload_n C.1 C.2.1 dX13_compares_51 rfl (lv_at hl 2 rfl) ?_
      refine lv_bipush (v := 8) C.1 C.2.1 dX13_compares_52 (by decide) ?_
      refine lv_icmp_ne (tgt := 67) C.1 C.2.1 dX13_compares_54 (by decide) (fun hc => ?_) (fun hc => ?_)
      · replace h := iff0 hc h
        refine lv_aload_n C.1 C.2.1 dX13_compares_67 rfl (lv_at hl 1 rfl) ?_
        refine lv_iload_n C.1 C.2.1 dX13_compares_68 rfl (lv_at hl 3 rfl) ?_
        refine lv_iconst (v := 2) C.1 C.2.1 dX13_compares_69 (by decide) ?_
        refine lv_iadd C.1 C.2.1 dX13_compares_70 ?_
        obtain ⟨v_3, hv_3, h⟩ := bnd h
        refine x_callVi (q := (RX13, TX13, 68)) (As := [.int (x2 + (2 : Int32))]) (rest := []) C w (k_text l D T ρ g H.size S_1 hv_3) vM463 ⟨by decide, by decide⟩ obM (by decide) rfl rfl rfl hl.1 (Nat.le_of_ble_eq_true rfl) ⟨Nat.zero_le _, Nat.zero_le _⟩ dX13_compares_71 (fun H locs w => ?_)
        exact w_compares_74 C hr hk w (lv_sub hl [1, 2, 3, 0] rfl) h
      · replace h := ift hc h
        refine lv_aload_n C.1 C.2.1 dX13_compares_57 rfl (lv_at hl 1 rfl) ?_
        refine lv_iload_n C.1 C.2.1 dX13_compares_58 rfl (lv_at hl 3 rfl) ?_
        refine lv_iconst (v := 2) C.1 C.2.1 dX13_compares_59 (by decide) ?_
        refine lv_iadd C.1 C.2.1 dX13_compares_60 ?_
        obtain ⟨⟨S_4, v_5⟩, hv_5, h⟩ := bnd h
        refine x_callVi (q := (RX13, TX13, 68)) (As := [.int (x2 + (2 : Int32))]) (rest := []) C w (k_textAt l D T ρ g H.size S_1 hv_5) vM558 ⟨by decide, by decide⟩ obM (by decide) rfl rfl rfl hl.1 (Nat.le_of_ble_eq_true rfl) ⟨Nat.zero_le _, Nat.zero_le _⟩ dX13_compares_61 (fun H locs w => ?_)
        refine lv_goto (tgt := 74) C.1 C.2.1 dX13_compares_64 (by decide) ?_
        exact w_compares_74 C hr hk w (lv_sub hl [1, 2, 3, 0] rfl) h
    · replace h := iff0 hc h
      refine lv_iconst (v := 0) C.1 C.2.1 dX13_compares_47 (by decide) ?_
      refine lv_goto (tgt := 74) C.1 C.2.1 dX13_compares_48 (by decide) ?_
      exact w_compares_74 C hr hk w (lv_sub hl [1, 2, 3, 0] rfl) h
  · replace h := ift hc h
    refine lv_aload_n C.1 C.2.1 dX13_compares_5 rfl (lv_at hl 0 rfl) ?_
    refine lv_iload_n C.1 C.2.1 dX13_compares_6 rfl (lv_at hl 2 rfl) ?_
    refine lv_aload_n C.1 C.2.1 dX13_compares_7 rfl (lv_at hl 0 rfl) ?_
    refine lv_iload_n C.1 C.2.1 dX13_compares_8 rfl (lv_at hl 2 rfl) ?_
    refine lv_iconst (v := 1) C.1 C.2.1 dX13_compares_9 (by decide) ?_
    refine lv_iadd C.1 C.2.1 dX13_compares_10 ?_
    obtain ⟨v_6, hv_6, h⟩ := bnd h
    refine x_callVi (q := (RX13, TX13, 68)) (As := [.int (x2 + (1 : Int32))]) (rest := [.int x2, .ref (ρ 0)]) C w (k_text l D T ρ g H.size S hv_6) vM463 ⟨by decide, by decide⟩ obM (by decide) rfl rfl rfl hl.1 (Nat.le_of_ble_eq_true rfl) ⟨Nat.zero_le _, Nat.zero_le _⟩ dX13_compares_11 (fun H locs w => ?_)
    refine lv_aload_n C.1 C.2.1 dX13_compares_14 rfl (lv_at hl 0 rfl) ?_
    refine lv_iload_n C.1 C.2.1 dX13_compares_15 rfl (lv_at hl 2 rfl) ?_
    refine lv_iconst (v := 2) C.1 C.2.1 dX13_compares_16 (by decide) ?_
    refine lv_iadd C.1 C.2.1 dX13_compares_17 ?_
    obtain ⟨v_7, hv_7, h⟩ := bnd h
    refine x_callVi (q := (RX13, TX13, 68)) (As := [.int (x2 + (2 : Int32))]) (rest := [.int v_6, .int x2, .ref (ρ 0)]) C w (k_text l D T ρ g H.size S hv_7) vM463 ⟨by decide, by decide⟩ obM (by decide) rfl rfl rfl hl.1 (Nat.le_of_ble_eq_true rfl) ⟨Nat.zero_le _, Nat.zero_le _⟩ dX13_compares_18 (fun H locs w => ?_)
    refine lv_icmp_ne (tgt := 28) C.1 C.2.1 dX13_compares_21 (by decide) (fun hc => ?_) (fun hc => ?_)
    · replace h := iff0 hc h
      refine lv_lconst (v := 0) C.1 C.2.1 dX13_compares_28 (by decide) ?_
      exact w_compares_29 C hr hk w (lv_sub hl [] rfl) h
    · replace h := ift hc h
      refine lv_lconst (v := 1) C.1 C.2.1 dX13_compares_24 (by decide) ?_
      refine lv_goto (tgt := 29) C.1 C.2.1 dX13_compares_25 (by decide) ?_
      exact w_compares_29 C hr hk w (lv_sub hl [] rfl) h
end S_compares
set_option maxRecDepth 100000 in
theorem k_compares (l : Launch) (D : va_G) (T : Cy) (ρ : Nat → Nat) (g sz : Nat) (S : St) {x1 : Int32} {x2 : Int32} {S' : St} (h : m_compares g S x1 x2 = some S') : Mv l Ym D T ρ yX13_compares cX13_compares 7 none 4 89 S S' [.ref (ρ 0), .int x1, .int x2] sz :=
  x_in (by decide) (Nat.le_of_ble_eq_true rfl) (fun p e s m below meth c ls C hr hk w hl => w_compares_0 C hr hk w hl h)

theorem dX13_slice_0 : decode cX13_slice 0 = .ok (.aload_n 0, 1) := by decide +kernel
theorem dX13_slice_1 : decode cX13_slice 1 = .ok (.getfield 235, 3) := by decide +kernel
theorem dX13_slice_4 : decode cX13_slice 4 = .ok (.aload_n 0, 1) := by decide +kernel
theorem dX13_slice_5 : decode cX13_slice 5 = .ok (.getfield 637, 3) := by decide +kernel
theorem dX13_slice_8 : decode cX13_slice 8 = .ok (.iload_n 1, 1) := by decide +kernel
theorem dX13_slice_9 : decode cX13_slice 9 = .ok (.iastore, 1) := by decide +kernel
theorem dX13_slice_10 : decode cX13_slice 10 = .ok (.aload_n 0, 1) := by decide +kernel
theorem dX13_slice_11 : decode cX13_slice 11 = .ok (.getfield 238, 3) := by decide +kernel
theorem dX13_slice_14 : decode cX13_slice 14 = .ok (.aload_n 0, 1) := by decide +kernel
theorem dX13_slice_15 : decode cX13_slice 15 = .ok (.getfield 637, 3) := by decide +kernel
theorem dX13_slice_18 : decode cX13_slice 18 = .ok (.iload_n 2, 1) := by decide +kernel
theorem dX13_slice_19 : decode cX13_slice 19 = .ok (.iastore, 1) := by decide +kernel
theorem dX13_slice_20 : decode cX13_slice 20 = .ok (.aload_n 0, 1) := by decide +kernel
theorem dX13_slice_21 : decode cX13_slice 21 = .ok (.dup, 1) := by decide +kernel
theorem dX13_slice_22 : decode cX13_slice 22 = .ok (.getfield 637, 3) := by decide +kernel
theorem dX13_slice_25 : decode cX13_slice 25 = .ok (.iconst 1, 1) := by decide +kernel
theorem dX13_slice_26 : decode cX13_slice 26 = .ok (.iadd, 1) := by decide +kernel
theorem dX13_slice_27 : decode cX13_slice 27 = .ok (.putfield 637, 3) := by decide +kernel
theorem dX13_slice_30 : decode cX13_slice 30 = .ok (.return_, 1) := by decide +kernel
def m_slice (g : Nat) (S : St) (x1 : Int32) (x2 : Int32) : Option St :=
(tI S 38 (gI S 0 65) x1).bind fun S_1 =>
(tI S_1 39 (gI S_1 0 65) x2).bind fun S_2 =>
lt (sI S_2 0 65 ((gI S_2 0 65) + (1 : Int32))) fun S_3 =>
some S_3
section S_slice
variable {p : Program} {l : Launch} {e : Env} {s : State} {m : MethodId} {args : Array Value} {below : List Frame} {meth : Method} {c : Code} {H : Heap} {locs : List Loc} {ls : Array Slot} {D : va_G} {T : Cy} {ρ : Nat → Nat} {A : Nat → Prop}
set_option maxRecDepth 100000 in
set_option maxHeartbeats 4000000 in
theorem w_slice_0  {g : Nat} {S : St} {x1 : Int32} {x2 : Int32} (C : CallFix p m c cX13_slice 3 s args tb RX13) (hr : meth.sig.returnType = none) (hk : meth.locks = false) {S' : St} (w : Wn Ym D T ρ S A s H locs) (hl : lv_has ls 3 [(0, .ref (ρ 0)), (1, .int x1), (2, .int x2)]) (h : m_slice g S x1 x2 = some S') : W p l e (rmN 0 0) s m args below meth c H locs 0 0 (MQ below (Qv Ym D T ρ A S') args s 0 0 A) (F0 m 0 ls []) := by
  unfold m_slice at h
  refine lv_aload_n C.1 C.2.1 dX13_slice_0 rfl (lv_at hl 0 rfl) ?_
  refine x_getC C w 38 fM235 obM rfl dX13_slice_1 ?_
  refine lv_aload_n C.1 C.2.1 dX13_slice_4 rfl (lv_at hl 0 rfl) ?_
  refine x_getI C w fM637 obM dX13_slice_5 ?_
  refine lv_iload_n C.1 C.2.1 dX13_slice_8 rfl (lv_at hl 1 rfl) ?_
  obtain ⟨S_1, hS_1, h⟩ := bnd h
  refine x_iast C w obM38 hS_1 dX13_slice_9 (fun H locs w => ?_)
  refine lv_aload_n C.1 C.2.1 dX13_slice_10 rfl (lv_at hl 0 rfl) ?_
  refine x_getC C w 39 fM238 obM rfl dX13_slice_11 ?_
  refine lv_aload_n C.1 C.2.1 dX13_slice_14 rfl (lv_at hl 0 rfl) ?_
  refine x_getI C w fM637 obM dX13_slice_15 ?_
  refine lv_iload_n C.1 C.2.1 dX13_slice_18 rfl (lv_at hl 2 rfl) ?_
  obtain ⟨S_2, hS_2, h⟩ := bnd h
  refine x_iast C w obM39 hS_2 dX13_slice_19 (fun H locs w => ?_)
  refine lv_aload_n C.1 C.2.1 dX13_slice_20 rfl (lv_at hl 0 rfl) ?_
  refine lv_dup C.1 C.2.1 dX13_slice_21 rfl ?_
  refine x_getI C w fM637 obM dX13_slice_22 ?_
  refine lv_iconst (v := 1) C.1 C.2.1 dX13_slice_25 (by decide) ?_
  refine lv_iadd C.1 C.2.1 dX13_slice_26 ?_
  obtain ⟨S_3, eS_3, h⟩ := lt_e h
  refine y_putI C w eS_3 fM637 pM65 obM dX13_slice_27 (fun H locs w => ?_)
  obtain rfl := som h
  exact x_vret C w hr hk dX13_slice_30
end S_slice
set_option maxRecDepth 100000 in
theorem k_slice (l : Launch) (D : va_G) (T : Cy) (ρ : Nat → Nat) (g sz : Nat) (S : St) {x1 : Int32} {x2 : Int32} {S' : St} (h : m_slice g S x1 x2 = some S') : Mv l Ym D T ρ yX13_slice cX13_slice 3 none 0 0 S S' [.ref (ρ 0), .int x1, .int x2] sz :=
  x_in (by decide) (Nat.le_of_ble_eq_true rfl) (fun p e s m below meth c ls C hr hk w hl => w_slice_0 C hr hk w hl h)

theorem dX13_linesOf_0 : decode cX13_linesOf 0 = .ok (.iconst 0, 1) := by decide +kernel
theorem dX13_linesOf_1 : decode cX13_linesOf 1 = .ok (.istore_n 2, 1) := by decide +kernel
theorem dX13_linesOf_2 : decode cX13_linesOf 2 = .ok (.iconst 0, 1) := by decide +kernel
theorem dX13_linesOf_3 : decode cX13_linesOf 3 = .ok (.istore_n 3, 1) := by decide +kernel
theorem dX13_linesOf_4 : decode cX13_linesOf 4 = .ok (.iload_n 3, 1) := by decide +kernel
theorem dX13_linesOf_5 : decode cX13_linesOf 5 = .ok (.aload_n 0, 1) := by decide +kernel
theorem dX13_linesOf_6 : decode cX13_linesOf 6 = .ok (.getfield 193, 3) := by decide +kernel
theorem dX13_linesOf_9 : decode cX13_linesOf 9 = .ok (.iload_n 1, 1) := by decide +kernel
theorem dX13_linesOf_10 : decode cX13_linesOf 10 = .ok (.iaload, 1) := by decide +kernel
theorem dX13_linesOf_11 : decode cX13_linesOf 11 = .ok (.if_icmp .ge 101, 3) := by decide +kernel
theorem dX13_linesOf_14 : decode cX13_linesOf 14 = .ok (.aload_n 0, 1) := by decide +kernel
theorem dX13_linesOf_15 : decode cX13_linesOf 15 = .ok (.iload_n 1, 1) := by decide +kernel
theorem dX13_linesOf_16 : decode cX13_linesOf 16 = .ok (.iload_n 3, 1) := by decide +kernel
theorem dX13_linesOf_17 : decode cX13_linesOf 17 = .ok (.invokevirtual 470, 3) := by decide +kernel
theorem dX13_linesOf_20 : decode cX13_linesOf 20 = .ok (.istore 4, 2) := by decide +kernel
theorem dX13_linesOf_22 : decode cX13_linesOf 22 = .ok (.iload 4, 2) := by decide +kernel
theorem dX13_linesOf_24 : decode cX13_linesOf 24 = .ok (.bipush 13, 2) := by decide +kernel
theorem dX13_linesOf_26 : decode cX13_linesOf 26 = .ok (.if_icmp .ne 32, 3) := by decide +kernel
theorem dX13_linesOf_29 : decode cX13_linesOf 29 = .ok (.iload_n 3, 1) := by decide +kernel
theorem dX13_linesOf_30 : decode cX13_linesOf 30 = .ok (.iconst 1, 1) := by decide +kernel
theorem dX13_linesOf_31 : decode cX13_linesOf 31 = .ok (.iadd, 1) := by decide +kernel
theorem dX13_linesOf_32 : decode cX13_linesOf 32 = .ok (.aload_n 0, 1) := by decide +kernel
theorem dX13_linesOf_33 : decode cX13_linesOf 33 = .ok (.getfield 193, 3) := by decide +kernel
theorem dX13_linesOf_36 : decode cX13_linesOf 36 = .ok (.iload_n 1, 1) := by decide +kernel
theorem dX13_linesOf_37 : decode cX13_linesOf 37 = .ok (.iaload, 1) := by decide +kernel
theorem dX13_linesOf_38 : decode cX13_linesOf 38 = .ok (.if_icmp .ge 20, 3) := by decide +kernel
theorem dX13_linesOf_41 : decode cX13_linesOf 41 = .ok (.aload_n 0, 1) := by decide +kernel
theorem dX13_linesOf_42 : decode cX13_linesOf 42 = .ok (.iload_n 1, 1) := by decide +kernel
theorem dX13_linesOf_43 : decode cX13_linesOf 43 = .ok (.iload_n 3, 1) := by decide +kernel
theorem dX13_linesOf_44 : decode cX13_linesOf 44 = .ok (.iconst 1, 1) := by decide +kernel
theorem dX13_linesOf_45 : decode cX13_linesOf 45 = .ok (.iadd, 1) := by decide +kernel
theorem dX13_linesOf_46 : decode cX13_linesOf 46 = .ok (.invokevirtual 470, 3) := by decide +kernel
theorem dX13_linesOf_49 : decode cX13_linesOf 49 = .ok (.bipush 10, 2) := by decide +kernel
theorem dX13_linesOf_51 : decode cX13_linesOf 51 = .ok (.if_icmp .ne 7, 3) := by decide +kernel
theorem dX13_linesOf_54 : decode cX13_linesOf 54 = .ok (.iconst 1, 1) := by decide +kernel
theorem dX13_linesOf_55 : decode cX13_linesOf 55 = .ok (.goto 4, 3) := by decide +kernel
theorem dX13_linesOf_58 : decode cX13_linesOf 58 = .ok (.iconst 0, 1) := by decide +kernel
theorem dX13_linesOf_59 : decode cX13_linesOf 59 = .ok (.istore 5, 2) := by decide +kernel
theorem dX13_linesOf_61 : decode cX13_linesOf 61 = .ok (.iload 4, 2) := by decide +kernel
theorem dX13_linesOf_63 : decode cX13_linesOf 63 = .ok (.bipush 10, 2) := by decide +kernel
theorem dX13_linesOf_65 : decode cX13_linesOf 65 = .ok (.if_icmp .eq 10, 3) := by decide +kernel
theorem dX13_linesOf_68 : decode cX13_linesOf 68 = .ok (.iload 4, 2) := by decide +kernel
theorem dX13_linesOf_70 : decode cX13_linesOf 70 = .ok (.bipush 13, 2) := by decide +kernel
theorem dX13_linesOf_72 : decode cX13_linesOf 72 = .ok (.if_icmp .ne 24, 3) := by decide +kernel
theorem dX13_linesOf_75 : decode cX13_linesOf 75 = .ok (.aload_n 0, 1) := by decide +kernel
theorem dX13_linesOf_76 : decode cX13_linesOf 76 = .ok (.iload_n 2, 1) := by decide +kernel
theorem dX13_linesOf_77 : decode cX13_linesOf 77 = .ok (.iload_n 3, 1) := by decide +kernel
theorem dX13_linesOf_78 : decode cX13_linesOf 78 = .ok (.invokevirtual 650, 3) := by decide +kernel
theorem dX13_linesOf_81 : decode cX13_linesOf 81 = .ok (.iload 5, 2) := by decide +kernel
theorem dX13_linesOf_83 : decode cX13_linesOf 83 = .ok (.ifCond .eq 9, 3) := by decide +kernel
theorem dX13_linesOf_86 : decode cX13_linesOf 86 = .ok (.iload_n 3, 1) := by decide +kernel
theorem dX13_linesOf_87 : decode cX13_linesOf 87 = .ok (.iconst 2, 1) := by decide +kernel
theorem dX13_linesOf_88 : decode cX13_linesOf 88 = .ok (.iadd, 1) := by decide +kernel
theorem dX13_linesOf_89 : decode cX13_linesOf 89 = .ok (.goto 6, 3) := by decide +kernel
theorem dX13_linesOf_92 : decode cX13_linesOf 92 = .ok (.iload_n 3, 1) := by decide +kernel
theorem dX13_linesOf_93 : decode cX13_linesOf 93 = .ok (.iconst 1, 1) := by decide +kernel
theorem dX13_linesOf_94 : decode cX13_linesOf 94 = .ok (.iadd, 1) := by decide +kernel
theorem dX13_linesOf_95 : decode cX13_linesOf 95 = .ok (.istore_n 2, 1) := by decide +kernel
theorem dX13_linesOf_96 : decode cX13_linesOf 96 = .ok (.iload_n 3, 1) := by decide +kernel
theorem dX13_linesOf_97 : decode cX13_linesOf 97 = .ok (.iload 5, 2) := by decide +kernel
theorem dX13_linesOf_99 : decode cX13_linesOf 99 = .ok (.ifCond .eq 7, 3) := by decide +kernel
theorem dX13_linesOf_102 : decode cX13_linesOf 102 = .ok (.iconst 2, 1) := by decide +kernel
theorem dX13_linesOf_103 : decode cX13_linesOf 103 = .ok (.goto 4, 3) := by decide +kernel
theorem dX13_linesOf_106 : decode cX13_linesOf 106 = .ok (.iconst 1, 1) := by decide +kernel
theorem dX13_linesOf_107 : decode cX13_linesOf 107 = .ok (.iadd, 1) := by decide +kernel
theorem dX13_linesOf_108 : decode cX13_linesOf 108 = .ok (.istore_n 3, 1) := by decide +kernel
theorem dX13_linesOf_109 : decode cX13_linesOf 109 = .ok (.goto (-105), 3) := by decide +kernel
theorem dX13_linesOf_112 : decode cX13_linesOf 112 = .ok (.iload_n 2, 1) := by decide +kernel
theorem dX13_linesOf_113 : decode cX13_linesOf 113 = .ok (.aload_n 0, 1) := by decide +kernel
theorem dX13_linesOf_114 : decode cX13_linesOf 114 = .ok (.getfield 193, 3) := by decide +kernel
theorem dX13_linesOf_117 : decode cX13_linesOf 117 = .ok (.iload_n 1, 1) := by decide +kernel
theorem dX13_linesOf_118 : decode cX13_linesOf 118 = .ok (.iaload, 1) := by decide +kernel
theorem dX13_linesOf_119 : decode cX13_linesOf 119 = .ok (.if_icmp .ge 14, 3) := by decide +kernel
theorem dX13_linesOf_122 : decode cX13_linesOf 122 = .ok (.aload_n 0, 1) := by decide +kernel
theorem dX13_linesOf_123 : decode cX13_linesOf 123 = .ok (.iload_n 2, 1) := by decide +kernel
theorem dX13_linesOf_124 : decode cX13_linesOf 124 = .ok (.aload_n 0, 1) := by decide +kernel
theorem dX13_linesOf_125 : decode cX13_linesOf 125 = .ok (.getfield 193, 3) := by decide +kernel
theorem dX13_linesOf_128 : decode cX13_linesOf 128 = .ok (.iload_n 1, 1) := by decide +kernel
theorem dX13_linesOf_129 : decode cX13_linesOf 129 = .ok (.iaload, 1) := by decide +kernel
theorem dX13_linesOf_130 : decode cX13_linesOf 130 = .ok (.invokevirtual 650, 3) := by decide +kernel
theorem dX13_linesOf_133 : decode cX13_linesOf 133 = .ok (.return_, 1) := by decide +kernel
def m_linesOf_96 (g : Nat) (k4 : St → Int32 → Int32 → Int32 → Option St) (S : St) (x1 : Int32) (x2 : Int32) (x3 : Int32) (x5 : Int32) : Option St :=
if x5 = 0 then (
  lt (x3 + (1 : Int32)) fun x3_7 =>
  k4 S x1 x2 x3_7
) else (
  lt (x3 + (2 : Int32)) fun x3_8 =>
  k4 S x1 x2 x3_8
)
def m_linesOf_95 (g : Nat) (k4 : St → Int32 → Int32 → Int32 → Option St) (S : St) (x1 : Int32) (x3 : Int32) (x5 : Int32) (y0 : Int32) : Option St :=
m_linesOf_96 g k4 S x1 y0 x3 x5
def m_linesOf_75 (g : Nat) (k4 : St → Int32 → Int32 → Int32 → Option St) (S : St) (x1 : Int32) (x2 : Int32) (x3 : Int32) (x5 : Int32) : Option St :=
(m_slice g S x2 x3).bind fun S_6 =>
if x5 = 0 then (
  m_linesOf_95 g k4 S_6 x1 x3 x5 (x3 + (1 : Int32))
) else (
  m_linesOf_95 g k4 S_6 x1 x3 x5 (x3 + (2 : Int32))
)
def m_linesOf_59 (g : Nat) (k4 : St → Int32 → Int32 → Int32 → Option St) (S : St) (x1 : Int32) (x2 : Int32) (x3 : Int32) (x4 : Int32) (y0 : Int32) : Option St :=
if x4 = (10 : Int32) then (
  m_linesOf_75 g k4 S x1 x2 x3 y0
) else (
  if x4 = (13 : Int32) then (
    m_linesOf_75 g k4 S x1 x2 x3 y0
  ) else (
    m_linesOf_96 g k4 S x1 x2 x3 y0
  )
)
def m_linesOf_58 (g : Nat) (k4 : St → Int32 → Int32 → Int32 → Option St) (S : St) (x1 : Int32) (x2 : Int32) (x3 : Int32) (x4 : Int32) : Option St :=
m_linesOf_59 g k4 S x1 x2 x3 x4 (0 : Int32)
def b_linesOf_4 (g : Nat) (k4 : St → Int32 → Int32 → Int32 → Option St) (S : St) (x1 : Int32) (x2 : Int32) (x3 : Int32) : Option St :=
(aI S 24 x1).bind fun v_1 =>
if v_1 ≤ x3 then (
  (aI S 24 x1).bind fun v_2 =>
  if v_2 ≤ x2 then (
    some S
  ) else (
    (aI S 24 x1).bind fun v_3 =>
    (m_slice g S x2 v_3).bind fun S_4 =>
    some S_4
  )
) else (
  (m_unitAt g S x1 x3).bind fun v_5 =>
  if v_5 = (13 : Int32) then (
    (aI S 24 x1).bind fun v_6 =>
    if v_6 ≤ (x3 + (1 : Int32)) then (
      m_linesOf_58 g k4 S x1 x2 x3 v_5
    ) else (
      (m_unitAt g S x1 (x3 + (1 : Int32))).bind fun v_7 =>
      if v_7 = (10 : Int32) then (
        m_linesOf_59 g k4 S x1 x2 x3 v_5 (1 : Int32)
      ) else (
        m_linesOf_58 g k4 S x1 x2 x3 v_5
      )
    )
  ) else (
    m_linesOf_58 g k4 S x1 x2 x3 v_5
  )
)
def m_linesOf_4 (g : Nat) : Nat → St → Int32 → Int32 → Int32 → Option St
  | 0, _, _, _, _ => none
  | n + 1, S, x1, x2, x3 => b_linesOf_4 g (m_linesOf_4 g n) S x1 x2 x3
def m_linesOf (g : Nat) (S : St) (x1 : Int32) : Option St :=
m_linesOf_4 g g S x1 (0 : Int32) (0 : Int32)
section S_linesOf
variable {p : Program} {l : Launch} {e : Env} {s : State} {m : MethodId} {args : Array Value} {below : List Frame} {meth : Method} {c : Code} {H : Heap} {locs : List Loc} {ls : Array Slot} {D : va_G} {T : Cy} {ρ : Nat → Nat} {A : Nat → Prop}
set_option maxRecDepth 100000 in
set_option maxHeartbeats 4000000 in
theorem w_linesOf_96  {g : Nat} {S : St} {x1 : Int32} {x2 : Int32} {x3 : Int32} {x5 : Int32} (C : CallFix p m c cX13_linesOf 6 s args tb RX13) (hr : meth.sig.returnType = none) (hk : meth.locks = false) {S' : St} {k4 : St → Int32 → Int32 → Int32 → Option St} (kk4 : ∀ (S : St) (x1 : Int32) (x2 : Int32) (x3 : Int32) (H : Heap) (locs : List Loc) (ls : Array Slot), Wn Ym D T ρ S A s H locs → lv_has ls 6 [(0, .ref (ρ 0)), (1, .int x1), (2, .int x2), (3, .int x3)] → k4 S x1 x2 x3 = some S' → W p l e (rmN 1 22) s m args below meth c H locs 0 0 (MQ below (Qv Ym D T ρ A S') args s 0 0 A) (F0 m 4 ls [])) (w : Wn Ym D T ρ S A s H locs) (hl : lv_has ls 6 [(0, .ref (ρ 0)), (1, .int x1), (2, .int x2), (3, .int x3), (5, .int x5)]) (h : m_linesOf_96 g k4 S x1 x2 x3 x5 = some S') : W p l e (rmN 1 22) s m args below meth c H locs 0 0 (MQ below (Qv Ym D T ρ A S') args s 0 0 A) (F0 m 96 ls []) := by
  unfold m_linesOf_96 at h
  refine lv_iload_n C.1 C.2.1 dX13_linesOf_96 rfl (lv_at hl 3 rfl) ?_
  refine lv_iload C.1 C.2.1 dX13_linesOf_97 (lv_at hl 4 rfl) ?_
  refine lv_if_eq (tgt := 106) C.1 C.2.1 dX13_linesOf_99 (by decide) (fun hc => ?_) (fun hc => ?_)
  · replace h := ift hc h
    refine lv_iconst (v := 1) C.1 C.2.1 dX13_linesOf_106 (by decide) ?_
    refine lv_iadd C.1 C.2.1 dX13_linesOf_107 ?_
    obtain ⟨x3_7, ex3_7, h⟩ := lt_e h
    refine x_nm ex3_7 ?_
    refine lv_istore_n (lv' := [(3, .int x3_7), (0, .ref (ρ 0)), (1, .int x1), (2, .int x2), (5, .int x5)]) C.1 C.2.1 dX13_linesOf_108 rfl hl (by decide) rfl (fun ls hl => ?_)
    refine lv_goto (tgt := 4) C.1 C.2.1 dX13_linesOf_109 (by decide) ?_
    exact kk4 _ _ _ _ _ _ _ w (lv_sub hl [1, 2, 3, 0] rfl) h
  · replace h := iff0 hc h
    refine lv_iconst (v := 2) C.1 C.2.1 dX13_linesOf_102 (by decide) ?_
    refine lv_goto (tgt := 107) C.1 C.2.1 dX13_linesOf_103 (by decide) ?_
    refine lv_iadd C.1 C.2.1 dX13_linesOf_107 ?_
    obtain ⟨x3_8, ex3_8, h⟩ := lt_e h
    refine x_nm ex3_8 ?_
    refine lv_istore_n (lv' := [(3, .int x3_8), (0, .ref (ρ 0)), (1, .int x1), (2, .int x2), (5, .int x5)]) C.1 C.2.1 dX13_linesOf_108 rfl hl (by decide) rfl (fun ls hl => ?_)
    refine lv_goto (tgt := 4) C.1 C.2.1 dX13_linesOf_109 (by decide) ?_
    exact kk4 _ _ _ _ _ _ _ w (lv_sub hl [1, 2, 3, 0] rfl) h
set_option maxRecDepth 100000 in
set_option maxHeartbeats 4000000 in
theorem w_linesOf_95  {g : Nat} {S : St} {x1 : Int32} {x3 : Int32} {x5 : Int32} {y0 : Int32} (C : CallFix p m c cX13_linesOf 6 s args tb RX13) (hr : meth.sig.returnType = none) (hk : meth.locks = false) {S' : St} {k4 : St → Int32 → Int32 → Int32 → Option St} (kk4 : ∀ (S : St) (x1 : Int32) (x2 : Int32) (x3 : Int32) (H : Heap) (locs : List Loc) (ls : Array Slot), Wn Ym D T ρ S A s H locs → lv_has ls 6 [(0, .ref (ρ 0)), (1, .int x1), (2, .int x2), (3, .int x3)] → k4 S x1 x2 x3 = some S' → W p l e (rmN 1 22) s m args below meth c H locs 0 0 (MQ below (Qv Ym D T ρ A S') args s 0 0 A) (F0 m 4 ls [])) (w : Wn Ym D T ρ S A s H locs) (hl : lv_has ls 6 [(0, .ref (ρ 0)), (1, .int x1), (3, .int x3), (5, .int x5)]) (h : m_linesOf_95 g k4 S x1 x3 x5 y0 = some S') : W p l e (rmN 1 22) s m args below meth c H locs 0 0 (MQ below (Qv Ym D T ρ A S') args s 0 0 A) (F0 m 95 ls [.int y0]) := by
  unfold m_linesOf_95 at h
  refine lv_istore_n (lv' := [(2, .int y0), (0, .ref (ρ 0)), (1, .int x1), (3, .int x3), (5, .int x5)]) C.1 C.2.1 dX13_linesOf_95 rfl hl (by decide) rfl (fun ls hl => ?_)
  exact w_linesOf_96 C hr hk kk4 w (lv_sub hl [1, 2, 0, 3, 4] rfl) h
set_option maxRecDepth 100000 in
set_option maxHeartbeats 4000000 in
theorem w_linesOf_75  {g : Nat} {S : St} {x1 : Int32} {x2 : Int32} {x3 : Int32} {x5 : Int32} (C : CallFix p m c cX13_linesOf 6 s args tb RX13) (hr : meth.sig.returnType = none) (hk : meth.locks = false) {S' : St} {k4 : St → Int32 → Int32 → Int32 → Option St} (kk4 : ∀ (S : St) (x1 : Int32) (x2 : Int32) (x3 : Int32) (H : Heap) (locs : List Loc) (ls : Array Slot), Wn Ym D T ρ S A s H locs → lv_has ls 6 [(0, .ref (ρ 0)), (1, .int x1), (2, .int x2), (3, .int x3)] → k4 S x1 x2 x3 = some S' → W p l e (rmN 1 22) s m args below meth c H locs 0 0 (MQ below (Qv Ym D T ρ A S') args s 0 0 A) (F0 m 4 ls [])) (w : Wn Ym D T ρ S A s H locs) (hl : lv_has ls 6 [(0, .ref (ρ 0)), (1, .int x1), (2, .int x2), (3, .int x3), (5, .int x5)]) (h : m_linesOf_75 g k4 S x1 x2 x3 x5 = some S') : W p l e (rmN 1 22) s m args below meth c H locs 0 0 (MQ below (Qv Ym D T ρ A S') args s 0 0 A) (F0 m 75 ls []) := by
  unfold m_linesOf_75 at h
  refine lv_aload_n C.1 C.2.1 dX13_linesOf_75 rfl (lv_at hl 0 rfl) ?_
  refine lv_iload_n C.1 C.2.1 dX13_linesOf_76 rfl (lv_at hl 2 rfl) ?_
  refine lv_iload_n C.1 C.2.1 dX13_linesOf_77 rfl (lv_at hl 3 rfl) ?_
  obtain ⟨S_6, hS_6, h⟩ := bnd h
  refine x_callVv (q := (RX13, TX13, 68)) (As := [.int x2, .int x3]) (rest := []) C w (k_slice l D T ρ g H.size S hS_6) vM650 ⟨by decide, by decide⟩ obM (by decide) rfl rfl rfl hl.1 (Nat.le_of_ble_eq_true rfl) ⟨Nat.zero_le _, Nat.zero_le _⟩ dX13_linesOf_78 (fun H locs w => ?_)
  refine lv_iload C.1 C.2.1 dX13_linesOf_81 (lv_at hl 4 rfl) ?_
  refine lv_if_eq (tgt := 92) C.1 C.2.1 dX13_linesOf_83 (by decide) (fun hc => ?_) (fun hc => ?_)
  · replace h := ift hc h
    refine lv_iload_n C.1 C.2.1 dX13_linesOf_92 rfl (lv_at hl 3 rfl) ?_
    refine lv_iconst (v := 1) C.1 C.2.1 dX13_linesOf_93 (by decide) ?_
    refine lv_iadd C.1 C.2.1 dX13_linesOf_94 ?_
    exact w_linesOf_95 C hr hk kk4 w (lv_sub hl [0, 1, 3, 4] rfl) h
  · replace h := iff0 hc h
    refine lv_iload_n C.1 C.2.1 dX13_linesOf_86 rfl (lv_at hl 3 rfl) ?_
    refine lv_iconst (v := 2) C.1 C.2.1 dX13_linesOf_87 (by decide) ?_
    refine lv_iadd C.1 C.2.1 dX13_linesOf_88 ?_
    refine lv_goto (tgt := 95) C.1 C.2.1 dX13_linesOf_89 (by decide) ?_
    exact w_linesOf_95 C hr hk kk4 w (lv_sub hl [0, 1, 3, 4] rfl) h
set_option maxRecDepth 100000 in
set_option maxHeartbeats 4000000 in
theorem w_linesOf_59  {g : Nat} {S : St} {x1 : Int32} {x2 : Int32} {x3 : Int32} {x4 : Int32} {y0 : Int32} (C : CallFix p m c cX13_linesOf 6 s args tb RX13) (hr : meth.sig.returnType = none) (hk : meth.locks = false) {S' : St} {k4 : St → Int32 → Int32 → Int32 → Option St} (kk4 : ∀ (S : St) (x1 : Int32) (x2 : Int32) (x3 : Int32) (H : Heap) (locs : List Loc) (ls : Array Slot), Wn Ym D T ρ S A s H locs → lv_has ls 6 [(0, .ref (ρ 0)), (1, .int x1), (2, .int x2), (3, .int x3)] → k4 S x1 x2 x3 = some S' → W p l e (rmN 1 22) s m args below meth c H locs 0 0 (MQ below (Qv Ym D T ρ A S') args s 0 0 A) (F0 m 4 ls [])) (w : Wn Ym D T ρ S A s H locs) (hl : lv_has ls 6 [(0, .ref (ρ 0)), (1, .int x1), (2, .int x2), (3, .int x3), (4, .int x4)]) (h : m_linesOf_59 g k4 S x1 x2 x3 x4 y0 = some S') : W p l e (rmN 1 22) s m args below meth c H locs 0 0 (MQ below (Qv Ym D T ρ A S') args s 0 0 A) (F0 m 59 ls [.int y0]) := by
  unfold m_linesOf_59 at h
  refine lv_istore (lv' := [(5, .int y0), (0, .ref (ρ 0)), (1, .int x1), (2, .int x2), (3, .int x3), (4, .int x4)]) C.1 C.2.1 dX13_linesOf_59 hl (by decide) rfl (fun ls hl => ?_)
  refine lv_iload C.1 C.2.1 dX13_linesOf_61 (lv_at hl 5 rfl) ?_
  refine lv_bipush (v := 10) C.1 C.2.1 dX13_linesOf_63 (by decide) ?_
  refine lv_icmp_eq (tgt := 75) C.1 C.2.1 dX13_linesOf_65 (by decide) (fun hc => ?_) (fun hc => ?_)
  · replace h := ift hc h
    exact w_linesOf_75 C hr hk kk4 w (lv_sub hl [1, 2, 3, 4, 0] rfl) h
  · replace h := iff0 hc h
    refine lv_iload C.1 C.2.1 dX13_linesOf_68 (lv_at hl 5 rfl) ?_
    refine lv_bipush (v := 13) C.1 C.2.1 dX13_linesOf_70 (by decide) ?_
    refine lv_icmp_ne (tgt := 96) C.1 C.2.1 dX13_linesOf_72 (by decide) (fun hc => ?_) (fun hc => ?_)
    · replace h := iff0 hc h
      exact w_linesOf_96 C hr hk kk4 w (lv_sub hl [1, 2, 3, 4, 0] rfl) h
    · replace h := ift hc h
      exact w_linesOf_75 C hr hk kk4 w (lv_sub hl [1, 2, 3, 4, 0] rfl) h
set_option maxRecDepth 100000 in
set_option maxHeartbeats 4000000 in
theorem w_linesOf_58  {g : Nat} {S : St} {x1 : Int32} {x2 : Int32} {x3 : Int32} {x4 : Int32} (C : CallFix p m c cX13_linesOf 6 s args tb RX13) (hr : meth.sig.returnType = none) (hk : meth.locks = false) {S' : St} {k4 : St → Int32 → Int32 → Int32 → Option St} (kk4 : ∀ (S : St) (x1 : Int32) (x2 : Int32) (x3 : Int32) (H : Heap) (locs : List Loc) (ls : Array Slot), Wn Ym D T ρ S A s H locs → lv_has ls 6 [(0, .ref (ρ 0)), (1, .int x1), (2, .int x2), (3, .int x3)] → k4 S x1 x2 x3 = some S' → W p l e (rmN 1 22) s m args below meth c H locs 0 0 (MQ below (Qv Ym D T ρ A S') args s 0 0 A) (F0 m 4 ls [])) (w : Wn Ym D T ρ S A s H locs) (hl : lv_has ls 6 [(0, .ref (ρ 0)), (1, .int x1), (2, .int x2), (3, .int x3), (4, .int x4)]) (h : m_linesOf_58 g k4 S x1 x2 x3 x4 = some S') : W p l e (rmN 1 22) s m args below meth c H locs 0 0 (MQ below (Qv Ym D T ρ A S') args s 0 0 A) (F0 m 58 ls []) := by
  unfold m_linesOf_58 at h
  refine lv_iconst (v := 0) C.1 C.2.1 dX13_linesOf_58 (by decide) ?_
  exact w_linesOf_59 C hr hk kk4 w (lv_sub hl [0, 1, 2, 3, 4] rfl) h
set_option maxRecDepth 100000 in
set_option maxHeartbeats 4000000 in
theorem wb_linesOf_4  {g : Nat} {S : St} {x1 : Int32} {x2 : Int32} {x3 : Int32} (C : CallFix p m c cX13_linesOf 6 s args tb RX13) (hr : meth.sig.returnType = none) (hk : meth.locks = false) {S' : St} {k4 : St → Int32 → Int32 → Int32 → Option St} (kk4 : ∀ (S : St) (x1 : Int32) (x2 : Int32) (x3 : Int32) (H : Heap) (locs : List Loc) (ls : Array Slot), Wn Ym D T ρ S A s H locs → lv_has ls 6 [(0, .ref (ρ 0)), (1, .int x1), (2, .int x2), (3, .int x3)] → k4 S x1 x2 x3 = some S' → W p l e (rmN 1 22) s m args below meth c H locs 0 0 (MQ below (Qv Ym D T ρ A S') args s 0 0 A) (F0 m 4 ls [])) (w : Wn Ym D T ρ S A s H locs) (hl : lv_has ls 6 [(0, .ref (ρ 0)), (1, .int x1), (2, .int x2), (3, .int x3)]) (h : b_linesOf_4 g k4 S x1 x2 x3 = some S') : W p l e (rmN 1 22) s m args below meth c H locs 0 0 (MQ below (Qv Ym D T ρ A S') args s 0 0 A) (F0 m 4 ls []) := by
  unfold b_linesOf_4 at h
  refine lv_iload_n C.1 C.2.1 dX13_linesOf_4 rfl (lv_at hl 3 rfl) ?_
  refine lv_aload_n C.1 C.2.1 dX13_linesOf_5 rfl (lv_at hl 0 rfl) ?_
  refine x_getC C w 24 fM193 obM rfl dX13_linesOf_6 ?_
  refine lv_iload_n C.1 C.2.1 dX13_linesOf_9 rfl (lv_at hl 1 rfl) ?_
  obtain ⟨v_1, hv_1, h⟩ := bnd h
  refine x_iald C w obM24 hv_1 dX13_linesOf_10 ?_
  refine lv_icmp_ge (tgt := 112) C.1 C.2.1 dX13_linesOf_11 (by decide) (fun hc => ?_) (fun hc => ?_)
  · replace h := ift hc h
    refine lv_iload_n C.1 C.2.1 dX13_linesOf_112 rfl (lv_at hl 2 rfl) ?_
    refine lv_aload_n C.1 C.2.1 dX13_linesOf_113 rfl (lv_at hl 0 rfl) ?_
    refine x_getC C w 24 fM193 obM rfl dX13_linesOf_114 ?_
    refine lv_iload_n C.1 C.2.1 dX13_linesOf_117 rfl (lv_at hl 1 rfl) ?_
    obtain ⟨v_2, hv_2, h⟩ := bnd h
    refine x_iald C w obM24 hv_2 dX13_linesOf_118 ?_
    refine lv_icmp_ge (tgt := 133) C.1 C.2.1 dX13_linesOf_119 (by decide) (fun hc => ?_) (fun hc => ?_)
    · replace h := ift hc h
      obtain rfl := som h
      exact x_vret C w hr hk dX13_linesOf_133
    · replace h := iff0 hc h
      refine lv_aload_n C.1 C.2.1 dX13_linesOf_122 rfl (lv_at hl 0 rfl) ?_
      refine lv_iload_n C.1 C.2.1 dX13_linesOf_123 rfl (lv_at hl 2 rfl) ?_
      refine lv_aload_n C.1 C.2.1 dX13_linesOf_124 rfl (lv_at hl 0 rfl) ?_
      refine x_getC C w 24 fM193 obM rfl dX13_linesOf_125 ?_
      refine lv_iload_n C.1 C.2.1 dX13_linesOf_128 rfl (lv_at hl 1 rfl) ?_
      obtain ⟨v_3, hv_3, h⟩ := bnd h
      refine x_iald C w obM24 hv_3 dX13_linesOf_129 ?_
      obtain ⟨S_4, hS_4, h⟩ := bnd h
      refine x_callVv (q := (RX13, TX13, 68)) (As := [.int x2, .int v_3]) (rest := []) C w (k_slice l D T ρ g H.size S hS_4) vM650 ⟨by decide, by decide⟩ obM (by decide) rfl rfl rfl hl.1 (Nat.le_of_ble_eq_true rfl) ⟨Nat.zero_le _, Nat.zero_le _⟩ dX13_linesOf_130 (fun H locs w => ?_)
      obtain rfl := som h
      exact x_vret C w hr hk dX13_linesOf_133
  · replace h := iff0 hc h
    refine lv_aload_n C.1 C.2.1 dX13_linesOf_14 rfl (lv_at hl 0 rfl) ?_
    refine lv_iload_n C.1 C.2.1 dX13_linesOf_15 rfl (lv_at hl 1 rfl) ?_
    refine lv_iload_n C.1 C.2.1 dX13_linesOf_16 rfl (lv_at hl 3 rfl) ?_
    obtain ⟨v_5, hv_5, h⟩ := bnd h
    refine x_callVi (q := (RX13, TX13, 68)) (As := [.int x1, .int x3]) (rest := []) C w (k_unitAt l D T ρ g H.size S hv_5) vM470 ⟨by decide, by decide⟩ obM (by decide) rfl rfl rfl hl.1 (Nat.le_of_ble_eq_true rfl) ⟨Nat.zero_le _, Nat.zero_le _⟩ dX13_linesOf_17 (fun H locs w => ?_)
    refine lv_istore (lv' := [(4, .int v_5), (0, .ref (ρ 0)), (1, .int x1), (2, .int x2), (3, .int x3)]) C.1 C.2.1 dX13_linesOf_20 hl (by decide) rfl (fun ls hl => ?_)
    refine lv_iload C.1 C.2.1 dX13_linesOf_22 (lv_at hl 0 rfl) ?_
    refine lv_bipush (v := 13) C.1 C.2.1 dX13_linesOf_24 (by decide) ?_
    refine lv_icmp_ne (tgt := 58) C.1 C.2.1 dX13_linesOf_26 (by decide) (fun hc => ?_) (fun hc => ?_)
    · replace h := iff0 hc h
      exact w_linesOf_58 C hr hk kk4 w (lv_sub hl [1, 2, 3, 4, 0] rfl) h
    · replace h := ift hc h
      refine lv_iload_n C.1 C.2.1 dX13_linesOf_29 rfl (lv_at hl 4 rfl) ?_
      refine lv_iconst (v := 1) C.1 C.2.1 dX13_linesOf_30 (by decide) ?_
      refine lv_iadd C.1 C.2.1 dX13_linesOf_31 ?_
      refine lv_aload_n C.1 C.2.1 dX13_linesOf_32 rfl (lv_at hl 1 rfl) ?_
      refine x_getC C w 24 fM193 obM rfl dX13_linesOf_33 ?_
      refine lv_iload_n C.1 C.2.1 dX13_linesOf_36 rfl (lv_at hl 2 rfl) ?_
      obtain ⟨v_6, hv_6, h⟩ := bnd h
      refine x_iald C w obM24 hv_6 dX13_linesOf_37 ?_
      refine lv_icmp_ge (tgt := 58) C.1 C.2.1 dX13_linesOf_38 (by decide) (fun hc => ?_) (fun hc => ?_)
      · replace h := ift hc h
        exact w_linesOf_58 C hr hk kk4 w (lv_sub hl [1, 2, 3, 4, 0] rfl) h
      · replace h := iff0 hc h
        refine lv_aload_n C.1 C.2.1 dX13_linesOf_41 rfl (lv_at hl 1 rfl) ?_
        refine lv_iload_n C.1 C.2.1 dX13_linesOf_42 rfl (lv_at hl 2 rfl) ?_
        refine lv_iload_n C.1 C.2.1 dX13_linesOf_43 rfl (lv_at hl 4 rfl) ?_
        refine lv_iconst (v := 1) C.1 C.2.1 dX13_linesOf_44 (by decide) ?_
        refine lv_iadd C.1 C.2.1 dX13_linesOf_45 ?_
        obtain ⟨v_7, hv_7, h⟩ := bnd h
        refine x_callVi (q := (RX13, TX13, 68)) (As := [.int x1, .int (x3 + (1 : Int32))]) (rest := []) C w (k_unitAt l D T ρ g H.size S hv_7) vM470 ⟨by decide, by decide⟩ obM (by decide) rfl rfl rfl hl.1 (Nat.le_of_ble_eq_true rfl) ⟨Nat.zero_le _, Nat.zero_le _⟩ dX13_linesOf_46 (fun H locs w => ?_)
        refine lv_bipush (v := 10) C.1 C.2.1 dX13_linesOf_49 (by decide) ?_
        refine lv_icmp_ne (tgt := 58) C.1 C.2.1 dX13_linesOf_51 (by decide) (fun hc => ?_) (fun hc => ?_)
        · replace h := iff0 hc h
          exact w_linesOf_58 C hr hk kk4 w (lv_sub hl [1, 2, 3, 4, 0] rfl) h
        · replace h := ift hc h
          refine lv_iconst (v := 1) C.1 C.2.1 dX13_linesOf_54 (by decide) ?_
          refine lv_goto (tgt := 59) C.1 C.2.1 dX13_linesOf_55 (by decide) ?_
          exact w_linesOf_59 C hr hk kk4 w (lv_sub hl [1, 2, 3, 4, 0] rfl) h
theorem w_linesOf_4 {g : Nat} (C : CallFix p m c cX13_linesOf 6 s args tb RX13) (hr : meth.sig.returnType = none) (hk : meth.locks = false) {S' : St} (n : Nat) : ∀ (S : St) (x1 : Int32) (x2 : Int32) (x3 : Int32) (H : Heap) (locs : List Loc) (ls : Array Slot), Wn Ym D T ρ S A s H locs → lv_has ls 6 [(0, .ref (ρ 0)), (1, .int x1), (2, .int x2), (3, .int x3)] → m_linesOf_4 g n S x1 x2 x3 = some S' → W p l e (rmN 1 22) s m args below meth c H locs 0 0 (MQ below (Qv Ym D T ρ A S') args s 0 0 A) (F0 m 4 ls []) := by
  induction n with
  | zero => intro S x1 x2 x3 H locs ls w hl h; exact absurd h (fun q => by cases q)
  | succ n ih => intro S x1 x2 x3 H locs ls w hl h; exact wb_linesOf_4 C hr hk ih w hl h
set_option maxRecDepth 100000 in
set_option maxHeartbeats 4000000 in
theorem w_linesOf_0  {g : Nat} {S : St} {x1 : Int32} (C : CallFix p m c cX13_linesOf 6 s args tb RX13) (hr : meth.sig.returnType = none) (hk : meth.locks = false) {S' : St} (w : Wn Ym D T ρ S A s H locs) (hl : lv_has ls 6 [(0, .ref (ρ 0)), (1, .int x1)]) (h : m_linesOf g S x1 = some S') : W p l e (rmN 1 22) s m args below meth c H locs 0 0 (MQ below (Qv Ym D T ρ A S') args s 0 0 A) (F0 m 0 ls []) := by
  unfold m_linesOf at h
  refine lv_iconst (v := 0) C.1 C.2.1 dX13_linesOf_0 (by decide) ?_
  refine lv_istore_n (lv' := [(2, .int (0 : Int32)), (0, .ref (ρ 0)), (1, .int x1)]) C.1 C.2.1 dX13_linesOf_1 rfl hl (by decide) rfl (fun ls hl => ?_)
  refine lv_iconst (v := 0) C.1 C.2.1 dX13_linesOf_2 (by decide) ?_
  refine lv_istore_n (lv' := [(3, .int (0 : Int32)), (2, .int (0 : Int32)), (0, .ref (ρ 0)), (1, .int x1)]) C.1 C.2.1 dX13_linesOf_3 rfl hl (by decide) rfl (fun ls hl => ?_)
  exact w_linesOf_4 C hr hk g _ _ _ _ _ _ _ w (lv_sub hl [2, 3, 1, 0] rfl) h
end S_linesOf
set_option maxRecDepth 100000 in
theorem k_linesOf (l : Launch) (D : va_G) (T : Cy) (ρ : Nat → Nat) (g sz : Nat) (S : St) {x1 : Int32} {S' : St} (h : m_linesOf g S x1 = some S') : Mv l Ym D T ρ yX13_linesOf cX13_linesOf 6 none 1 22 S S' [.ref (ρ 0), .int x1] sz :=
  x_in (by decide) (Nat.le_of_ble_eq_true rfl) (fun p e s m below meth c ls C hr hk w hl => w_linesOf_0 C hr hk w hl h)

theorem dX13_parted_0 : decode cX13_parted 0 = .ok (.iconst 0, 1) := by decide +kernel
theorem dX13_parted_1 : decode cX13_parted 1 = .ok (.istore_n 2, 1) := by decide +kernel
theorem dX13_parted_2 : decode cX13_parted 2 = .ok (.iload_n 2, 1) := by decide +kernel
theorem dX13_parted_3 : decode cX13_parted 3 = .ok (.aload_n 0, 1) := by decide +kernel
theorem dX13_parted_4 : decode cX13_parted 4 = .ok (.getfield 637, 3) := by decide +kernel
theorem dX13_parted_7 : decode cX13_parted 7 = .ok (.if_icmp .ge 58, 3) := by decide +kernel
theorem dX13_parted_10 : decode cX13_parted 10 = .ok (.aload_n 0, 1) := by decide +kernel
theorem dX13_parted_11 : decode cX13_parted 11 = .ok (.iconst 0, 1) := by decide +kernel
theorem dX13_parted_12 : decode cX13_parted 12 = .ok (.putfield 395, 3) := by decide +kernel
theorem dX13_parted_15 : decode cX13_parted 15 = .ok (.aload_n 0, 1) := by decide +kernel
theorem dX13_parted_16 : decode cX13_parted 16 = .ok (.iload_n 1, 1) := by decide +kernel
theorem dX13_parted_17 : decode cX13_parted 17 = .ok (.aload_n 0, 1) := by decide +kernel
theorem dX13_parted_18 : decode cX13_parted 18 = .ok (.getfield 235, 3) := by decide +kernel
theorem dX13_parted_21 : decode cX13_parted 21 = .ok (.iload_n 2, 1) := by decide +kernel
theorem dX13_parted_22 : decode cX13_parted 22 = .ok (.iaload, 1) := by decide +kernel
theorem dX13_parted_23 : decode cX13_parted 23 = .ok (.aload_n 0, 1) := by decide +kernel
theorem dX13_parted_24 : decode cX13_parted 24 = .ok (.getfield 238, 3) := by decide +kernel
theorem dX13_parted_27 : decode cX13_parted 27 = .ok (.iload_n 2, 1) := by decide +kernel
theorem dX13_parted_28 : decode cX13_parted 28 = .ok (.iaload, 1) := by decide +kernel
theorem dX13_parted_29 : decode cX13_parted 29 = .ok (.invokevirtual 478, 3) := by decide +kernel
theorem dX13_parted_32 : decode cX13_parted 32 = .ok (.aload_n 0, 1) := by decide +kernel
theorem dX13_parted_33 : decode cX13_parted 33 = .ok (.getfield 202, 3) := by decide +kernel
theorem dX13_parted_36 : decode cX13_parted 36 = .ok (.iload_n 2, 1) := by decide +kernel
theorem dX13_parted_37 : decode cX13_parted 37 = .ok (.aload_n 0, 1) := by decide +kernel
theorem dX13_parted_38 : decode cX13_parted 38 = .ok (.getfield 395, 3) := by decide +kernel
theorem dX13_parted_41 : decode cX13_parted 41 = .ok (.aload_n 0, 1) := by decide +kernel
theorem dX13_parted_42 : decode cX13_parted 42 = .ok (.getfield 193, 3) := by decide +kernel
theorem dX13_parted_45 : decode cX13_parted 45 = .ok (.iload_n 1, 1) := by decide +kernel
theorem dX13_parted_46 : decode cX13_parted 46 = .ok (.iaload, 1) := by decide +kernel
theorem dX13_parted_47 : decode cX13_parted 47 = .ok (.if_icmp .ne 7, 3) := by decide +kernel
theorem dX13_parted_50 : decode cX13_parted 50 = .ok (.iload_n 1, 1) := by decide +kernel
theorem dX13_parted_51 : decode cX13_parted 51 = .ok (.goto 7, 3) := by decide +kernel
theorem dX13_parted_54 : decode cX13_parted 54 = .ok (.aload_n 0, 1) := by decide +kernel
theorem dX13_parted_55 : decode cX13_parted 55 = .ok (.invokevirtual 440, 3) := by decide +kernel
theorem dX13_parted_58 : decode cX13_parted 58 = .ok (.iastore, 1) := by decide +kernel
theorem dX13_parted_59 : decode cX13_parted 59 = .ok (.iinc 2 1, 3) := by decide +kernel
theorem dX13_parted_62 : decode cX13_parted 62 = .ok (.goto (-60), 3) := by decide +kernel
theorem dX13_parted_65 : decode cX13_parted 65 = .ok (.aload_n 0, 1) := by decide +kernel
theorem dX13_parted_66 : decode cX13_parted 66 = .ok (.aload_n 0, 1) := by decide +kernel
theorem dX13_parted_67 : decode cX13_parted 67 = .ok (.getfield 637, 3) := by decide +kernel
theorem dX13_parted_70 : decode cX13_parted 70 = .ok (.putfield 419, 3) := by decide +kernel
theorem dX13_parted_73 : decode cX13_parted 73 = .ok (.return_, 1) := by decide +kernel
def b_parted_2 (g : Nat) (k2 : St → Int32 → Int32 → Option St) (S : St) (x1 : Int32) (x2 : Int32) : Option St :=
if (gI S 0 65) ≤ x2 then (
  lt (sI S 0 50 (gI S 0 65)) fun S_1 =>
  some S_1
) else (
  lt (sI S 0 57 (0 : Int32)) fun S_2 =>
  (aI S_2 38 x2).bind fun v_3 =>
  (aI S_2 39 x2).bind fun v_4 =>
  (m_emitText g S_2 x1 v_3 v_4).bind fun S_5 =>
  (aI S_5 24 x1).bind fun v_6 =>
  if (gI S_5 0 57) = v_6 then (
    (tI S_5 27 x2 x1).bind fun S_11 =>
    lt (x2 + (1 : Int32)) fun x2_12 =>
    k2 S_11 x1 x2_12
  ) else (
    (m_became g S_5).bind fun (S_7, v_8) =>
    (tI S_7 27 x2 v_8).bind fun S_9 =>
    lt (x2 + (1 : Int32)) fun x2_10 =>
    k2 S_9 x1 x2_10
  )
)
def m_parted_2 (g : Nat) : Nat → St → Int32 → Int32 → Option St
  | 0, _, _, _ => none
  | n + 1, S, x1, x2 => b_parted_2 g (m_parted_2 g n) S x1 x2
def m_parted (g : Nat) (S : St) (x1 : Int32) : Option St :=
m_parted_2 g g S x1 (0 : Int32)
section S_parted
variable {p : Program} {l : Launch} {e : Env} {s : State} {m : MethodId} {args : Array Value} {below : List Frame} {meth : Method} {c : Code} {H : Heap} {locs : List Loc} {ls : Array Slot} {D : va_G} {T : Cy} {ρ : Nat → Nat} {A : Nat → Prop}
set_option maxRecDepth 100000 in
set_option maxHeartbeats 4000000 in
theorem wb_parted_2  {g : Nat} {S : St} {x1 : Int32} {x2 : Int32} (C : CallFix p m c cX13_parted 3 s args tb RX13) (hr : meth.sig.returnType = none) (hk : meth.locks = false) {S' : St} {k2 : St → Int32 → Int32 → Option St} (kk2 : ∀ (S : St) (x1 : Int32) (x2 : Int32) (H : Heap) (locs : List Loc) (ls : Array Slot), Wn Ym D T ρ S A s H locs → lv_has ls 3 [(0, .ref (ρ 0)), (1, .int x1), (2, .int x2)] → k2 S x1 x2 = some S' → W p l e (rmN 2 46) s m args below meth c H locs 0 0 (MQ below (Qv Ym D T ρ A S') args s 0 0 A) (F0 m 2 ls [])) (w : Wn Ym D T ρ S A s H locs) (hl : lv_has ls 3 [(0, .ref (ρ 0)), (1, .int x1), (2, .int x2)]) (h : b_parted_2 g k2 S x1 x2 = some S') : W p l e (rmN 2 46) s m args below meth c H locs 0 0 (MQ below (Qv Ym D T ρ A S') args s 0 0 A) (F0 m 2 ls []) := by
  unfold b_parted_2 at h
  refine lv_iload_n C.1 C.2.1 dX13_parted_2 rfl (lv_at hl 2 rfl) ?_
  refine lv_aload_n C.1 C.2.1 dX13_parted_3 rfl (lv_at hl 0 rfl) ?_
  refine x_getI C w fM637 obM dX13_parted_4 ?_
  refine lv_icmp_ge (tgt := 65) C.1 C.2.1 dX13_parted_7 (by decide) (fun hc => ?_) (fun hc => ?_)
  · replace h := ift hc h
    refine lv_aload_n C.1 C.2.1 dX13_parted_65 rfl (lv_at hl 0 rfl) ?_
    refine lv_aload_n C.1 C.2.1 dX13_parted_66 rfl (lv_at hl 0 rfl) ?_
    refine x_getI C w fM637 obM dX13_parted_67 ?_
    obtain ⟨S_1, eS_1, h⟩ := lt_e h
    refine y_putI C w eS_1 fM419 pM50 obM dX13_parted_70 (fun H locs w => ?_)
    obtain rfl := som h
    exact x_vret C w hr hk dX13_parted_73
  · replace h := iff0 hc h
    refine lv_aload_n C.1 C.2.1 dX13_parted_10 rfl (lv_at hl 0 rfl) ?_
    refine lv_iconst (v := 0) C.1 C.2.1 dX13_parted_11 (by decide) ?_
    obtain ⟨S_2, eS_2, h⟩ := lt_e h
    refine y_putI C w eS_2 fM395 pM57 obM dX13_parted_12 (fun H locs w => ?_)
    refine lv_aload_n C.1 C.2.1 dX13_parted_15 rfl (lv_at hl 0 rfl) ?_
    refine lv_iload_n C.1 C.2.1 dX13_parted_16 rfl (lv_at hl 1 rfl) ?_
    refine lv_aload_n C.1 C.2.1 dX13_parted_17 rfl (lv_at hl 0 rfl) ?_
    refine x_getC C w 38 fM235 obM rfl dX13_parted_18 ?_
    refine lv_iload_n C.1 C.2.1 dX13_parted_21 rfl (lv_at hl 2 rfl) ?_
    obtain ⟨v_3, hv_3, h⟩ := bnd h
    refine x_iald C w obM38 hv_3 dX13_parted_22 ?_
    refine lv_aload_n C.1 C.2.1 dX13_parted_23 rfl (lv_at hl 0 rfl) ?_
    refine x_getC C w 39 fM238 obM rfl dX13_parted_24 ?_
    refine lv_iload_n C.1 C.2.1 dX13_parted_27 rfl (lv_at hl 2 rfl) ?_
    obtain ⟨v_4, hv_4, h⟩ := bnd h
    refine x_iald C w obM39 hv_4 dX13_parted_28 ?_
    obtain ⟨S_5, hS_5, h⟩ := bnd h
    refine x_callVv (q := (RX13, TX13, 68)) (As := [.int x1, .int v_3, .int v_4]) (rest := []) C w (k_emitText l D T ρ g H.size S_2 hS_5) vM478 ⟨by decide, by decide⟩ obM (by decide) rfl rfl rfl hl.1 (Nat.le_of_ble_eq_true rfl) ⟨Nat.zero_le _, Nat.zero_le _⟩ dX13_parted_29 (fun H locs w => ?_)
    refine lv_aload_n C.1 C.2.1 dX13_parted_32 rfl (lv_at hl 0 rfl) ?_
    refine x_getC C w 27 fM202 obM rfl dX13_parted_33 ?_
    refine lv_iload_n C.1 C.2.1 dX13_parted_36 rfl (lv_at hl 2 rfl) ?_
    refine lv_aload_n C.1 C.2.1 dX13_parted_37 rfl (lv_at hl 0 rfl) ?_
    refine x_getI C w fM395 obM dX13_parted_38 ?_
    refine lv_aload_n C.1 C.2.1 dX13_parted_41 rfl (lv_at hl 0 rfl) ?_
    refine x_getC C w 24 fM193 obM rfl dX13_parted_42 ?_
    refine lv_iload_n C.1 C.2.1 dX13_parted_45 rfl (lv_at hl 1 rfl) ?_
    obtain ⟨v_6, hv_6, h⟩ := bnd h
    refine x_iald C w obM24 hv_6 dX13_parted_46 ?_
    refine lv_icmp_ne (tgt := 54) C.1 C.2.1 dX13_parted_47 (by decide) (fun hc => ?_) (fun hc => ?_)
    · replace h := iff0 hc h
      refine lv_aload_n C.1 C.2.1 dX13_parted_54 rfl (lv_at hl 0 rfl) ?_
      obtain ⟨⟨S_7, v_8⟩, hv_8, h⟩ := bnd h
      refine x_callVi (q := (RX13, TX13, 68)) (As := []) (rest := [.int x2, .ref (ρ 27)]) C w (k_became l D T ρ g H.size S_5 hv_8) vM440 ⟨by decide, by decide⟩ obM (by decide) rfl rfl rfl hl.1 (Nat.le_of_ble_eq_true rfl) ⟨Nat.zero_le _, Nat.zero_le _⟩ dX13_parted_55 (fun H locs w => ?_)
      obtain ⟨S_9, hS_9, h⟩ := bnd h
      refine x_iast C w obM27 hS_9 dX13_parted_58 (fun H locs w => ?_)
      obtain ⟨x2_10, ex2_10, h⟩ := lt_e h
      refine lv_iinc (v := x2_10) (lv' := [(2, .int x2_10), (0, .ref (ρ 0)), (1, .int x1)]) C.1 C.2.1 dX13_parted_59 hl (k := 2) rfl (by rw [ex2_10]; rfl) (by decide) rfl (fun ls hl => ?_)
      refine lv_goto (tgt := 2) C.1 C.2.1 dX13_parted_62 (by decide) ?_
      exact kk2 _ _ _ _ _ _ w (lv_sub hl [1, 2, 0] rfl) h
    · replace h := ift hc h
      refine lv_iload_n C.1 C.2.1 dX13_parted_50 rfl (lv_at hl 1 rfl) ?_
      refine lv_goto (tgt := 58) C.1 C.2.1 dX13_parted_51 (by decide) ?_
      obtain ⟨S_11, hS_11, h⟩ := bnd h
      refine x_iast C w obM27 hS_11 dX13_parted_58 (fun H locs w => ?_)
      obtain ⟨x2_12, ex2_12, h⟩ := lt_e h
      refine lv_iinc (v := x2_12) (lv' := [(2, .int x2_12), (0, .ref (ρ 0)), (1, .int x1)]) C.1 C.2.1 dX13_parted_59 hl (k := 2) rfl (by rw [ex2_12]; rfl) (by decide) rfl (fun ls hl => ?_)
      refine lv_goto (tgt := 2) C.1 C.2.1 dX13_parted_62 (by decide) ?_
      exact kk2 _ _ _ _ _ _ w (lv_sub hl [1, 2, 0] rfl) h
theorem w_parted_2 {g : Nat} (C : CallFix p m c cX13_parted 3 s args tb RX13) (hr : meth.sig.returnType = none) (hk : meth.locks = false) {S' : St} (n : Nat) : ∀ (S : St) (x1 : Int32) (x2 : Int32) (H : Heap) (locs : List Loc) (ls : Array Slot), Wn Ym D T ρ S A s H locs → lv_has ls 3 [(0, .ref (ρ 0)), (1, .int x1), (2, .int x2)] → m_parted_2 g n S x1 x2 = some S' → W p l e (rmN 2 46) s m args below meth c H locs 0 0 (MQ below (Qv Ym D T ρ A S') args s 0 0 A) (F0 m 2 ls []) := by
  induction n with
  | zero => intro S x1 x2 H locs ls w hl h; exact absurd h (fun q => by cases q)
  | succ n ih => intro S x1 x2 H locs ls w hl h; exact wb_parted_2 C hr hk ih w hl h
set_option maxRecDepth 100000 in
set_option maxHeartbeats 4000000 in
theorem w_parted_0  {g : Nat} {S : St} {x1 : Int32} (C : CallFix p m c cX13_parted 3 s args tb RX13) (hr : meth.sig.returnType = none) (hk : meth.locks = false) {S' : St} (w : Wn Ym D T ρ S A s H locs) (hl : lv_has ls 3 [(0, .ref (ρ 0)), (1, .int x1)]) (h : m_parted g S x1 = some S') : W p l e (rmN 2 46) s m args below meth c H locs 0 0 (MQ below (Qv Ym D T ρ A S') args s 0 0 A) (F0 m 0 ls []) := by
  unfold m_parted at h
  refine lv_iconst (v := 0) C.1 C.2.1 dX13_parted_0 (by decide) ?_
  refine lv_istore_n (lv' := [(2, .int (0 : Int32)), (0, .ref (ρ 0)), (1, .int x1)]) C.1 C.2.1 dX13_parted_1 rfl hl (by decide) rfl (fun ls hl => ?_)
  exact w_parted_2 C hr hk g _ _ _ _ _ _ w (lv_sub hl [1, 2, 0] rfl) h
end S_parted
set_option maxRecDepth 100000 in
theorem k_parted (l : Launch) (D : va_G) (T : Cy) (ρ : Nat → Nat) (g sz : Nat) (S : St) {x1 : Int32} {S' : St} (h : m_parted g S x1 = some S') : Mv l Ym D T ρ yX13_parted cX13_parted 3 none 2 46 S S' [.ref (ρ 0), .int x1] sz :=
  x_in (by decide) (Nat.le_of_ble_eq_true rfl) (fun p e s m below meth c ls C hr hk w hl => w_parted_0 C hr hk w hl h)

theorem dX13_splits_0 : decode cX13_splits 0 = .ok (.aload_n 0, 1) := by decide +kernel
theorem dX13_splits_1 : decode cX13_splits 1 = .ok (.lload_n 2, 1) := by decide +kernel
theorem dX13_splits_2 : decode cX13_splits 2 = .ok (.lconst 0, 1) := by decide +kernel
theorem dX13_splits_3 : decode cX13_splits 3 = .ok (.ldc2_w 623, 3) := by decide +kernel
theorem dX13_splits_6 : decode cX13_splits 6 = .ok (.invokestatic 318, 3) := by decide +kernel
theorem dX13_splits_9 : decode cX13_splits 9 = .ok (.ifCond .ne 7, 3) := by decide +kernel
theorem dX13_splits_12 : decode cX13_splits 12 = .ok (.iconst 1, 1) := by decide +kernel
theorem dX13_splits_13 : decode cX13_splits 13 = .ok (.goto 4, 3) := by decide +kernel
theorem dX13_splits_16 : decode cX13_splits 16 = .ok (.iconst 0, 1) := by decide +kernel
theorem dX13_splits_17 : decode cX13_splits 17 = .ok (.iconst 3, 1) := by decide +kernel
theorem dX13_splits_18 : decode cX13_splits 18 = .ok (.invokevirtual 466, 3) := by decide +kernel
theorem dX13_splits_21 : decode cX13_splits 21 = .ok (.aload_n 0, 1) := by decide +kernel
theorem dX13_splits_22 : decode cX13_splits 22 = .ok (.getfield 398, 3) := by decide +kernel
theorem dX13_splits_25 : decode cX13_splits 25 = .ok (.ifCond .eq 4, 3) := by decide +kernel
theorem dX13_splits_28 : decode cX13_splits 28 = .ok (.return_, 1) := by decide +kernel
theorem dX13_splits_29 : decode cX13_splits 29 = .ok (.iconst 0, 1) := by decide +kernel
theorem dX13_splits_30 : decode cX13_splits 30 = .ok (.istore 6, 2) := by decide +kernel
theorem dX13_splits_32 : decode cX13_splits 32 = .ok (.iconst 0, 1) := by decide +kernel
theorem dX13_splits_33 : decode cX13_splits 33 = .ok (.istore 7, 2) := by decide +kernel
theorem dX13_splits_35 : decode cX13_splits 35 = .ok (.iload 7, 2) := by decide +kernel
theorem dX13_splits_37 : decode cX13_splits 37 = .ok (.aload_n 0, 1) := by decide +kernel
theorem dX13_splits_38 : decode cX13_splits 38 = .ok (.getfield 193, 3) := by decide +kernel
theorem dX13_splits_41 : decode cX13_splits 41 = .ok (.iload_n 1, 1) := by decide +kernel
theorem dX13_splits_42 : decode cX13_splits 42 = .ok (.iaload, 1) := by decide +kernel
theorem dX13_splits_43 : decode cX13_splits 43 = .ok (.if_icmp .ge 59, 3) := by decide +kernel
theorem dX13_splits_46 : decode cX13_splits 46 = .ok (.aload_n 0, 1) := by decide +kernel
theorem dX13_splits_47 : decode cX13_splits 47 = .ok (.iload_n 1, 1) := by decide +kernel
theorem dX13_splits_48 : decode cX13_splits 48 = .ok (.iload 7, 2) := by decide +kernel
theorem dX13_splits_50 : decode cX13_splits 50 = .ok (.invokevirtual 470, 3) := by decide +kernel
theorem dX13_splits_53 : decode cX13_splits 53 = .ok (.i2l, 1) := by decide +kernel
theorem dX13_splits_54 : decode cX13_splits 54 = .ok (.lload_n 2, 1) := by decide +kernel
theorem dX13_splits_55 : decode cX13_splits 55 = .ok (.lcmp, 1) := by decide +kernel
theorem dX13_splits_56 : decode cX13_splits 56 = .ok (.ifCond .ne 40, 3) := by decide +kernel
theorem dX13_splits_59 : decode cX13_splits 59 = .ok (.lload 4, 2) := by decide +kernel
theorem dX13_splits_61 : decode cX13_splits 61 = .ok (.lconst 0, 1) := by decide +kernel
theorem dX13_splits_62 : decode cX13_splits 62 = .ok (.lcmp, 1) := by decide +kernel
theorem dX13_splits_63 : decode cX13_splits 63 = .ok (.ifCond .le 19, 3) := by decide +kernel
theorem dX13_splits_66 : decode cX13_splits 66 = .ok (.aload_n 0, 1) := by decide +kernel
theorem dX13_splits_67 : decode cX13_splits 67 = .ok (.getfield 637, 3) := by decide +kernel
theorem dX13_splits_70 : decode cX13_splits 70 = .ok (.i2l, 1) := by decide +kernel
theorem dX13_splits_71 : decode cX13_splits 71 = .ok (.lload 4, 2) := by decide +kernel
theorem dX13_splits_73 : decode cX13_splits 73 = .ok (.lconst 1, 1) := by decide +kernel
theorem dX13_splits_74 : decode cX13_splits 74 = .ok (.lsub, 1) := by decide +kernel
theorem dX13_splits_75 : decode cX13_splits 75 = .ok (.lcmp, 1) := by decide +kernel
theorem dX13_splits_76 : decode cX13_splits 76 = .ok (.ifCond .ne 6, 3) := by decide +kernel
theorem dX13_splits_79 : decode cX13_splits 79 = .ok (.goto 17, 3) := by decide +kernel
theorem dX13_splits_82 : decode cX13_splits 82 = .ok (.aload_n 0, 1) := by decide +kernel
theorem dX13_splits_83 : decode cX13_splits 83 = .ok (.iload 6, 2) := by decide +kernel
theorem dX13_splits_85 : decode cX13_splits 85 = .ok (.iload 7, 2) := by decide +kernel
theorem dX13_splits_87 : decode cX13_splits 87 = .ok (.invokevirtual 650, 3) := by decide +kernel
theorem dX13_splits_90 : decode cX13_splits 90 = .ok (.iload 7, 2) := by decide +kernel
theorem dX13_splits_92 : decode cX13_splits 92 = .ok (.iconst 1, 1) := by decide +kernel
theorem dX13_splits_93 : decode cX13_splits 93 = .ok (.iadd, 1) := by decide +kernel
theorem dX13_splits_94 : decode cX13_splits 94 = .ok (.istore 6, 2) := by decide +kernel
theorem dX13_splits_96 : decode cX13_splits 96 = .ok (.iinc 7 1, 3) := by decide +kernel
theorem dX13_splits_99 : decode cX13_splits 99 = .ok (.goto (-64), 3) := by decide +kernel
theorem dX13_splits_102 : decode cX13_splits 102 = .ok (.aload_n 0, 1) := by decide +kernel
theorem dX13_splits_103 : decode cX13_splits 103 = .ok (.getfield 637, 3) := by decide +kernel
theorem dX13_splits_106 : decode cX13_splits 106 = .ok (.ifCond .le 7, 3) := by decide +kernel
theorem dX13_splits_109 : decode cX13_splits 109 = .ok (.iconst 1, 1) := by decide +kernel
theorem dX13_splits_110 : decode cX13_splits 110 = .ok (.goto 4, 3) := by decide +kernel
theorem dX13_splits_113 : decode cX13_splits 113 = .ok (.iconst 0, 1) := by decide +kernel
theorem dX13_splits_114 : decode cX13_splits 114 = .ok (.istore 7, 2) := by decide +kernel
theorem dX13_splits_116 : decode cX13_splits 116 = .ok (.aload_n 0, 1) := by decide +kernel
theorem dX13_splits_117 : decode cX13_splits 117 = .ok (.iload 6, 2) := by decide +kernel
theorem dX13_splits_119 : decode cX13_splits 119 = .ok (.aload_n 0, 1) := by decide +kernel
theorem dX13_splits_120 : decode cX13_splits 120 = .ok (.getfield 193, 3) := by decide +kernel
theorem dX13_splits_123 : decode cX13_splits 123 = .ok (.iload_n 1, 1) := by decide +kernel
theorem dX13_splits_124 : decode cX13_splits 124 = .ok (.iaload, 1) := by decide +kernel
theorem dX13_splits_125 : decode cX13_splits 125 = .ok (.invokevirtual 650, 3) := by decide +kernel
theorem dX13_splits_128 : decode cX13_splits 128 = .ok (.lload 4, 2) := by decide +kernel
theorem dX13_splits_130 : decode cX13_splits 130 = .ok (.lconst 0, 1) := by decide +kernel
theorem dX13_splits_131 : decode cX13_splits 131 = .ok (.lcmp, 1) := by decide +kernel
theorem dX13_splits_132 : decode cX13_splits 132 = .ok (.ifCond .ne 53, 3) := by decide +kernel
theorem dX13_splits_135 : decode cX13_splits 135 = .ok (.iload 7, 2) := by decide +kernel
theorem dX13_splits_137 : decode cX13_splits 137 = .ok (.ifCond .eq 48, 3) := by decide +kernel
theorem dX13_splits_140 : decode cX13_splits 140 = .ok (.aload_n 0, 1) := by decide +kernel
theorem dX13_splits_141 : decode cX13_splits 141 = .ok (.getfield 637, 3) := by decide +kernel
theorem dX13_splits_144 : decode cX13_splits 144 = .ok (.ifCond .le 41, 3) := by decide +kernel
theorem dX13_splits_147 : decode cX13_splits 147 = .ok (.aload_n 0, 1) := by decide +kernel
theorem dX13_splits_148 : decode cX13_splits 148 = .ok (.getfield 235, 3) := by decide +kernel
theorem dX13_splits_151 : decode cX13_splits 151 = .ok (.aload_n 0, 1) := by decide +kernel
theorem dX13_splits_152 : decode cX13_splits 152 = .ok (.getfield 637, 3) := by decide +kernel
theorem dX13_splits_155 : decode cX13_splits 155 = .ok (.iconst 1, 1) := by decide +kernel
theorem dX13_splits_156 : decode cX13_splits 156 = .ok (.isub, 1) := by decide +kernel
theorem dX13_splits_157 : decode cX13_splits 157 = .ok (.iaload, 1) := by decide +kernel
theorem dX13_splits_158 : decode cX13_splits 158 = .ok (.aload_n 0, 1) := by decide +kernel
theorem dX13_splits_159 : decode cX13_splits 159 = .ok (.getfield 238, 3) := by decide +kernel
theorem dX13_splits_162 : decode cX13_splits 162 = .ok (.aload_n 0, 1) := by decide +kernel
theorem dX13_splits_163 : decode cX13_splits 163 = .ok (.getfield 637, 3) := by decide +kernel
theorem dX13_splits_166 : decode cX13_splits 166 = .ok (.iconst 1, 1) := by decide +kernel
theorem dX13_splits_167 : decode cX13_splits 167 = .ok (.isub, 1) := by decide +kernel
theorem dX13_splits_168 : decode cX13_splits 168 = .ok (.iaload, 1) := by decide +kernel
theorem dX13_splits_169 : decode cX13_splits 169 = .ok (.if_icmp .ne 16, 3) := by decide +kernel
theorem dX13_splits_172 : decode cX13_splits 172 = .ok (.aload_n 0, 1) := by decide +kernel
theorem dX13_splits_173 : decode cX13_splits 173 = .ok (.dup, 1) := by decide +kernel
theorem dX13_splits_174 : decode cX13_splits 174 = .ok (.getfield 637, 3) := by decide +kernel
theorem dX13_splits_177 : decode cX13_splits 177 = .ok (.iconst 1, 1) := by decide +kernel
theorem dX13_splits_178 : decode cX13_splits 178 = .ok (.isub, 1) := by decide +kernel
theorem dX13_splits_179 : decode cX13_splits 179 = .ok (.putfield 637, 3) := by decide +kernel
theorem dX13_splits_182 : decode cX13_splits 182 = .ok (.goto (-54), 3) := by decide +kernel
theorem dX13_splits_185 : decode cX13_splits 185 = .ok (.return_, 1) := by decide +kernel
def b_splits_128 (g : Nat) (k128 : St → Int64 → Int32 → Option St) (S : St) (x4 : Int64) (x7 : Int32) : Option St :=
if x4 = (0 : Int64) then (
  if x7 = 0 then (
    some S
  ) else (
    if (gI S 0 65) ≤ 0 then (
      some S
    ) else (
      (aI S 38 ((gI S 0 65) - (1 : Int32))).bind fun v_6 =>
      (aI S 39 ((gI S 0 65) - (1 : Int32))).bind fun v_7 =>
      if v_6 = v_7 then (
        lt (sI S 0 65 ((gI S 0 65) - (1 : Int32))) fun S_8 =>
        k128 S_8 x4 x7
      ) else (
        some S
      )
    )
  )
) else (
  some S
)
def m_splits_128 (g : Nat) : Nat → St → Int64 → Int32 → Option St
  | 0, _, _, _ => none
  | n + 1, S, x4, x7 => b_splits_128 g (m_splits_128 g n) S x4 x7
def m_splits_114 (g : Nat) (S : St) (x1 : Int32) (x4 : Int64) (x6 : Int32) (y0 : Int32) : Option St :=
(aI S 24 x1).bind fun v_4 =>
(m_slice g S x6 v_4).bind fun S_5 =>
m_splits_128 g g S_5 x4 y0
def m_splits_82 (g : Nat) (k35 : St → Int32 → Int64 → Int64 → Int32 → Int32 → Option St) (S : St) (x1 : Int32) (x2 : Int64) (x4 : Int64) (x6 : Int32) (x7 : Int32) : Option St :=
(m_slice g S x6 x7).bind fun S_6 =>
lt (x7 + (1 : Int32)) fun x6_7 =>
lt (x7 + (1 : Int32)) fun x7_8 =>
k35 S_6 x1 x2 x4 x6_7 x7_8
def b_splits_35 (g : Nat) (k35 : St → Int32 → Int64 → Int64 → Int32 → Int32 → Option St) (S : St) (x1 : Int32) (x2 : Int64) (x4 : Int64) (x6 : Int32) (x7 : Int32) : Option St :=
(aI S 24 x1).bind fun v_3 =>
if v_3 ≤ x7 then (
  if (gI S 0 65) ≤ 0 then (
    m_splits_114 g S x1 x4 x6 (0 : Int32)
  ) else (
    m_splits_114 g S x1 x4 x6 (1 : Int32)
  )
) else (
  (m_unitAt g S x1 x7).bind fun v_4 =>
  if (v_4.toInt64) = x2 then (
    if (0 : Int64) < x4 then (
      if ((gI S 0 65).toInt64) = (x4 - (1 : Int64)) then (
        lt (x7 + (1 : Int32)) fun x7_6 =>
        k35 S x1 x2 x4 x6 x7_6
      ) else (
        m_splits_82 g k35 S x1 x2 x4 x6 x7
      )
    ) else (
      m_splits_82 g k35 S x1 x2 x4 x6 x7
    )
  ) else (
    lt (x7 + (1 : Int32)) fun x7_5 =>
    k35 S x1 x2 x4 x6 x7_5
  )
)
def m_splits_35 (g : Nat) : Nat → St → Int32 → Int64 → Int64 → Int32 → Int32 → Option St
  | 0, _, _, _, _, _, _ => none
  | n + 1, S, x1, x2, x4, x6, x7 => b_splits_35 g (m_splits_35 g n) S x1 x2 x4 x6 x7
def m_splits_17 (g : Nat) (S : St) (x1 : Int32) (x2 : Int64) (x4 : Int64) (y1 : Int32) : Option St :=
(m_refuse g S y1 (3 : Int32)).bind fun S_2 =>
if (gI S_2 0 58) = 0 then (
  m_splits_35 g g S_2 x1 x2 x4 (0 : Int32) (0 : Int32)
) else (
  some S_2
)
def m_splits (g : Nat) (S : St) (x1 : Int32) (x2 : Int64) (x4 : Int64) : Option St :=
(m_isIn g x2 (0 : Int64) (65535 : Int64)).bind fun v_1 =>
if v_1 = 0 then (
  m_splits_17 g S x1 x2 x4 (1 : Int32)
) else (
  m_splits_17 g S x1 x2 x4 (0 : Int32)
)
section S_splits
variable {p : Program} {l : Launch} {e : Env} {s : State} {m : MethodId} {args : Array Value} {below : List Frame} {meth : Method} {c : Code} {H : Heap} {locs : List Loc} {ls : Array Slot} {D : va_G} {T : Cy} {ρ : Nat → Nat} {A : Nat → Prop}
set_option maxRecDepth 100000 in
set_option maxHeartbeats 4000000 in
theorem wb_splits_128  {g : Nat} {S : St} {x4 : Int64} {x7 : Int32} (C : CallFix p m c cX13_splits 8 s args tb RX13) (hr : meth.sig.returnType = none) (hk : meth.locks = false) {S' : St} {k128 : St → Int64 → Int32 → Option St} (kk128 : ∀ (S : St) (x4 : Int64) (x7 : Int32) (H : Heap) (locs : List Loc) (ls : Array Slot), Wn Ym D T ρ S A s H locs → lv_has ls 8 [(0, .ref (ρ 0)), (4, .long x4), (7, .int x7)] → k128 S x4 x7 = some S' → W p l e (rmN 1 25) s m args below meth c H locs 0 0 (MQ below (Qv Ym D T ρ A S') args s 0 0 A) (F0 m 128 ls [])) (w : Wn Ym D T ρ S A s H locs) (hl : lv_has ls 8 [(0, .ref (ρ 0)), (4, .long x4), (7, .int x7)]) (h : b_splits_128 g k128 S x4 x7 = some S') : W p l e (rmN 1 25) s m args below meth c H locs 0 0 (MQ below (Qv Ym D T ρ A S') args s 0 0 A) (F0 m 128 ls []) := by
  unfold b_splits_128 at h
  refine lv_lload C.1 C.2.1 dX13_splits_128 (lv_at hl 1 rfl) ?_
  refine lv_lconst (v := 0) C.1 C.2.1 dX13_splits_130 (by decide) ?_
  refine x_l_ne (tgt := 185) C dX13_splits_131 dX13_splits_132 (by decide) (fun hc => ?_) (fun hc => ?_)
  · replace h := iff0 hc h
    obtain rfl := som h
    exact x_vret C w hr hk dX13_splits_185
  · replace h := ift hc h
    refine lv_iload C.1 C.2.1 dX13_splits_135 (lv_at hl 2 rfl) ?_
    refine lv_if_eq (tgt := 185) C.1 C.2.1 dX13_splits_137 (by decide) (fun hc => ?_) (fun hc => ?_)
    · replace h := ift hc h
      obtain rfl := som h
      exact x_vret C w hr hk dX13_splits_185
    · replace h := iff0 hc h
      refine lv_aload_n C.1 C.2.1 dX13_splits_140 rfl (lv_at hl 0 rfl) ?_
      refine x_getI C w fM637 obM dX13_splits_141 ?_
      refine lv_if_le (tgt := 185) C.1 C.2.1 dX13_splits_144 (by decide) (fun hc => ?_) (fun hc => ?_)
      · replace h := ift hc h
        obtain rfl := som h
        exact x_vret C w hr hk dX13_splits_185
      · replace h := iff0 hc h
        refine lv_aload_n C.1 C.2.1 dX13_splits_147 rfl (lv_at hl 0 rfl) ?_
        refine x_getC C w 38 fM235 obM rfl dX13_splits_148 ?_
        refine lv_aload_n C.1 C.2.1 dX13_splits_151 rfl (lv_at hl 0 rfl) ?_
        refine x_getI C w fM637 obM dX13_splits_152 ?_
        refine lv_iconst (v := 1) C.1 C.2.1 dX13_splits_155 (by decide) ?_
        refine lv_isub C.1 C.2.1 dX13_splits_156 ?_
        obtain ⟨v_6, hv_6, h⟩ := bnd h
        refine x_iald C w obM38 hv_6 dX13_splits_157 ?_
        refine lv_aload_n C.1 C.2.1 dX13_splits_158 rfl (lv_at hl 0 rfl) ?_
        refine x_getC C w 39 fM238 obM rfl dX13_splits_159 ?_
        refine lv_aload_n C.1 C.2.1 dX13_splits_162 rfl (lv_at hl 0 rfl) ?_
        refine x_getI C w fM637 obM dX13_splits_163 ?_
        refine lv_iconst (v := 1) C.1 C.2.1 dX13_splits_166 (by decide) ?_
        refine lv_isub C.1 C.2.1 dX13_splits_167 ?_
        obtain ⟨v_7, hv_7, h⟩ := bnd h
        refine x_iald C w obM39 hv_7 dX13_splits_168 ?_
        refine lv_icmp_ne (tgt := 185) C.1 C.2.1 dX13_splits_169 (by decide) (fun hc => ?_) (fun hc => ?_)
        · replace h := iff0 hc h
          obtain rfl := som h
          exact x_vret C w hr hk dX13_splits_185
        · replace h := ift hc h
          refine lv_aload_n C.1 C.2.1 dX13_splits_172 rfl (lv_at hl 0 rfl) ?_
          refine lv_dup C.1 C.2.1 dX13_splits_173 rfl ?_
          refine x_getI C w fM637 obM dX13_splits_174 ?_
          refine lv_iconst (v := 1) C.1 C.2.1 dX13_splits_177 (by decide) ?_
          refine lv_isub C.1 C.2.1 dX13_splits_178 ?_
          obtain ⟨S_8, eS_8, h⟩ := lt_e h
          refine y_putI C w eS_8 fM637 pM65 obM dX13_splits_179 (fun H locs w => ?_)
          refine lv_goto (tgt := 128) C.1 C.2.1 dX13_splits_182 (by decide) ?_
          exact kk128 _ _ _ _ _ _ w (lv_sub hl [0, 1, 2] rfl) h
theorem w_splits_128 {g : Nat} (C : CallFix p m c cX13_splits 8 s args tb RX13) (hr : meth.sig.returnType = none) (hk : meth.locks = false) {S' : St} (n : Nat) : ∀ (S : St) (x4 : Int64) (x7 : Int32) (H : Heap) (locs : List Loc) (ls : Array Slot), Wn Ym D T ρ S A s H locs → lv_has ls 8 [(0, .ref (ρ 0)), (4, .long x4), (7, .int x7)] → m_splits_128 g n S x4 x7 = some S' → W p l e (rmN 1 25) s m args below meth c H locs 0 0 (MQ below (Qv Ym D T ρ A S') args s 0 0 A) (F0 m 128 ls []) := by
  induction n with
  | zero => intro S x4 x7 H locs ls w hl h; exact absurd h (fun q => by cases q)
  | succ n ih => intro S x4 x7 H locs ls w hl h; exact wb_splits_128 C hr hk ih w hl h
set_option maxRecDepth 100000 in
set_option maxHeartbeats 4000000 in
theorem w_splits_114  {g : Nat} {S : St} {x1 : Int32} {x4 : Int64} {x6 : Int32} {y0 : Int32} (C : CallFix p m c cX13_splits 8 s args tb RX13) (hr : meth.sig.returnType = none) (hk : meth.locks = false) {S' : St} (w : Wn Ym D T ρ S A s H locs) (hl : lv_has ls 8 [(0, .ref (ρ 0)), (1, .int x1), (4, .long x4), (6, .int x6)]) (h : m_splits_114 g S x1 x4 x6 y0 = some S') : W p l e (rmN 1 25) s m args below meth c H locs 0 0 (MQ below (Qv Ym D T ρ A S') args s 0 0 A) (F0 m 114 ls [.int y0]) := by
  unfold m_splits_114 at h
  refine lv_istore (lv' := [(7, .int y0), (0, .ref (ρ 0)), (1, .int x1), (4, .long x4), (6, .int x6)]) C.1 C.2.1 dX13_splits_114 hl (by decide) rfl (fun ls hl => ?_)
  refine lv_aload_n C.1 C.2.1 dX13_splits_116 rfl (lv_at hl 1 rfl) ?_
  refine lv_iload C.1 C.2.1 dX13_splits_117 (lv_at hl 4 rfl) ?_
  refine lv_aload_n C.1 C.2.1 dX13_splits_119 rfl (lv_at hl 1 rfl) ?_
  refine x_getC C w 24 fM193 obM rfl dX13_splits_120 ?_
  refine lv_iload_n C.1 C.2.1 dX13_splits_123 rfl (lv_at hl 2 rfl) ?_
  obtain ⟨v_4, hv_4, h⟩ := bnd h
  refine x_iald C w obM24 hv_4 dX13_splits_124 ?_
  obtain ⟨S_5, hS_5, h⟩ := bnd h
  refine x_callVv (q := (RX13, TX13, 68)) (As := [.int x6, .int v_4]) (rest := []) C w (k_slice l D T ρ g H.size S hS_5) vM650 ⟨by decide, by decide⟩ obM (by decide) rfl rfl rfl hl.1 (Nat.le_of_ble_eq_true rfl) ⟨Nat.zero_le _, Nat.zero_le _⟩ dX13_splits_125 (fun H locs w => ?_)
  exact w_splits_128 C hr hk g _ _ _ _ _ _ w (lv_sub hl [1, 3, 0] rfl) h
set_option maxRecDepth 100000 in
set_option maxHeartbeats 4000000 in
theorem w_splits_82  {g : Nat} {S : St} {x1 : Int32} {x2 : Int64} {x4 : Int64} {x6 : Int32} {x7 : Int32} (C : CallFix p m c cX13_splits 8 s args tb RX13) (hr : meth.sig.returnType = none) (hk : meth.locks = false) {S' : St} {k35 : St → Int32 → Int64 → Int64 → Int32 → Int32 → Option St} (kk35 : ∀ (S : St) (x1 : Int32) (x2 : Int64) (x4 : Int64) (x6 : Int32) (x7 : Int32) (H : Heap) (locs : List Loc) (ls : Array Slot), Wn Ym D T ρ S A s H locs → lv_has ls 8 [(0, .ref (ρ 0)), (1, .int x1), (2, .long x2), (4, .long x4), (6, .int x6), (7, .int x7)] → k35 S x1 x2 x4 x6 x7 = some S' → W p l e (rmN 1 25) s m args below meth c H locs 0 0 (MQ below (Qv Ym D T ρ A S') args s 0 0 A) (F0 m 35 ls [])) (w : Wn Ym D T ρ S A s H locs) (hl : lv_has ls 8 [(0, .ref (ρ 0)), (1, .int x1), (2, .long x2), (4, .long x4), (6, .int x6), (7, .int x7)]) (h : m_splits_82 g k35 S x1 x2 x4 x6 x7 = some S') : W p l e (rmN 1 25) s m args below meth c H locs 0 0 (MQ below (Qv Ym D T ρ A S') args s 0 0 A) (F0 m 82 ls []) := by
  unfold m_splits_82 at h
  refine lv_aload_n C.1 C.2.1 dX13_splits_82 rfl (lv_at hl 0 rfl) ?_
  refine lv_iload C.1 C.2.1 dX13_splits_83 (lv_at hl 4 rfl) ?_
  refine lv_iload C.1 C.2.1 dX13_splits_85 (lv_at hl 5 rfl) ?_
  obtain ⟨S_6, hS_6, h⟩ := bnd h
  refine x_callVv (q := (RX13, TX13, 68)) (As := [.int x6, .int x7]) (rest := []) C w (k_slice l D T ρ g H.size S hS_6) vM650 ⟨by decide, by decide⟩ obM (by decide) rfl rfl rfl hl.1 (Nat.le_of_ble_eq_true rfl) ⟨Nat.zero_le _, Nat.zero_le _⟩ dX13_splits_87 (fun H locs w => ?_)
  refine lv_iload C.1 C.2.1 dX13_splits_90 (lv_at hl 5 rfl) ?_
  refine lv_iconst (v := 1) C.1 C.2.1 dX13_splits_92 (by decide) ?_
  refine lv_iadd C.1 C.2.1 dX13_splits_93 ?_
  obtain ⟨x6_7, ex6_7, h⟩ := lt_e h
  refine x_nm ex6_7 ?_
  refine lv_istore (lv' := [(6, .int x6_7), (0, .ref (ρ 0)), (1, .int x1), (2, .long x2), (4, .long x4), (7, .int x7)]) C.1 C.2.1 dX13_splits_94 hl (by decide) rfl (fun ls hl => ?_)
  obtain ⟨x7_8, ex7_8, h⟩ := lt_e h
  refine lv_iinc (v := x7_8) (lv' := [(7, .int x7_8), (6, .int x6_7), (0, .ref (ρ 0)), (1, .int x1), (2, .long x2), (4, .long x4)]) C.1 C.2.1 dX13_splits_96 hl (k := 5) rfl (by rw [ex7_8]; rfl) (by decide) rfl (fun ls hl => ?_)
  refine lv_goto (tgt := 35) C.1 C.2.1 dX13_splits_99 (by decide) ?_
  exact kk35 _ _ _ _ _ _ _ _ _ w (lv_sub hl [2, 3, 4, 5, 1, 0] rfl) h
set_option maxRecDepth 100000 in
set_option maxHeartbeats 4000000 in
theorem wb_splits_35  {g : Nat} {S : St} {x1 : Int32} {x2 : Int64} {x4 : Int64} {x6 : Int32} {x7 : Int32} (C : CallFix p m c cX13_splits 8 s args tb RX13) (hr : meth.sig.returnType = none) (hk : meth.locks = false) {S' : St} {k35 : St → Int32 → Int64 → Int64 → Int32 → Int32 → Option St} (kk35 : ∀ (S : St) (x1 : Int32) (x2 : Int64) (x4 : Int64) (x6 : Int32) (x7 : Int32) (H : Heap) (locs : List Loc) (ls : Array Slot), Wn Ym D T ρ S A s H locs → lv_has ls 8 [(0, .ref (ρ 0)), (1, .int x1), (2, .long x2), (4, .long x4), (6, .int x6), (7, .int x7)] → k35 S x1 x2 x4 x6 x7 = some S' → W p l e (rmN 1 25) s m args below meth c H locs 0 0 (MQ below (Qv Ym D T ρ A S') args s 0 0 A) (F0 m 35 ls [])) (w : Wn Ym D T ρ S A s H locs) (hl : lv_has ls 8 [(0, .ref (ρ 0)), (1, .int x1), (2, .long x2), (4, .long x4), (6, .int x6), (7, .int x7)]) (h : b_splits_35 g k35 S x1 x2 x4 x6 x7 = some S') : W p l e (rmN 1 25) s m args below meth c H locs 0 0 (MQ below (Qv Ym D T ρ A S') args s 0 0 A) (F0 m 35 ls []) := by
  unfold b_splits_35 at h
  refine lv_iload C.1 C.2.1 dX13_splits_35 (lv_at hl 5 rfl) ?_
  refine lv_aload_n C.1 C.2.1 dX13_splits_37 rfl (lv_at hl 0 rfl) ?_
  refine x_getC C w 24 fM193 obM rfl dX13_splits_38 ?_
  refine lv_iload_n C.1 C.2.1 dX13_splits_41 rfl (lv_at hl 1 rfl) ?_
  obtain ⟨v_3, hv_3, h⟩ := bnd h
  refine x_iald C w obM24 hv_3 dX13_splits_42 ?_
  refine lv_icmp_ge (tgt := 102) C.1 C.2.1 dX13_splits_43 (by decide) (fun hc => ?_) (fun hc => ?_)
  · replace h := ift hc h
    refine lv_aload_n C.1 C.2.1 dX13_splits_102 rfl (lv_at hl 0 rfl) ?_
    refine x_getI C w fM637 obM dX13_splits_103 ?_
    refine lv_if_le (tgt := 113) C.1 C.2.1 dX13_splits_106 (by decide) (fun hc => ?_) (fun hc => ?_)
    · replace h := ift hc h
      refine lv_iconst (v := 0) C.1 C.2.1 dX13_splits_113 (by decide) ?_
      exact w_splits_114 C hr hk w (lv_sub hl [0, 1, 3, 4] rfl) h
    · replace h := iff0 hc h
      refine lv_iconst (v := 1) C.1 C.2.1 dX13_splits_109 (by decide) ?_
      refine lv_goto (tgt := 114) C.1 C.2.1 dX13_splits_110 (by decide) ?_
      exact w_splits_114 C hr hk w (lv_sub hl [0, 1, 3, 4] rfl) h
  · replace h := iff0 hc h
    refine lv_aload_n C.1 C.2.1 dX13_splits_46 rfl (lv_at hl 0 rfl) ?_
    refine lv_iload_n C.1 C.2.1 dX13_splits_47 rfl (lv_at hl 1 rfl) ?_
    refine lv_iload C.1 C.2.1 dX13_splits_48 (lv_at hl 5 rfl) ?_
    obtain ⟨v_4, hv_4, h⟩ := bnd h
    refine x_callVi (q := (RX13, TX13, 68)) (As := [.int x1, .int x7]) (rest := []) C w (k_unitAt l D T ρ g H.size S hv_4) vM470 ⟨by decide, by decide⟩ obM (by decide) rfl rfl rfl hl.1 (Nat.le_of_ble_eq_true rfl) ⟨Nat.zero_le _, Nat.zero_le _⟩ dX13_splits_50 (fun H locs w => ?_)
    refine lv_i2l C.1 C.2.1 dX13_splits_53 rfl ?_
    refine lv_lload_n C.1 C.2.1 dX13_splits_54 rfl (lv_at hl 2 rfl) ?_
    refine x_l_ne (tgt := 96) C dX13_splits_55 dX13_splits_56 (by decide) (fun hc => ?_) (fun hc => ?_)
    · replace h := iff0 hc h
      obtain ⟨x7_5, ex7_5, h⟩ := lt_e h
      refine lv_iinc (v := x7_5) (lv' := [(7, .int x7_5), (0, .ref (ρ 0)), (1, .int x1), (2, .long x2), (4, .long x4), (6, .int x6)]) C.1 C.2.1 dX13_splits_96 hl (k := 5) rfl (by rw [ex7_5]; rfl) (by decide) rfl (fun ls hl => ?_)
      refine lv_goto (tgt := 35) C.1 C.2.1 dX13_splits_99 (by decide) ?_
      exact kk35 _ _ _ _ _ _ _ _ _ w (lv_sub hl [1, 2, 3, 4, 5, 0] rfl) h
    · replace h := ift hc h
      refine lv_lload C.1 C.2.1 dX13_splits_59 (lv_at hl 3 rfl) ?_
      refine lv_lconst (v := 0) C.1 C.2.1 dX13_splits_61 (by decide) ?_
      refine x_l_le (tgt := 82) C dX13_splits_62 dX13_splits_63 (by decide) (fun hc => ?_) (fun hc => ?_)
      · replace h := iff0 hc h
        exact w_splits_82 C hr hk kk35 w (lv_sub hl [0, 1, 2, 3, 4, 5] rfl) h
      · replace h := ift hc h
        refine lv_aload_n C.1 C.2.1 dX13_splits_66 rfl (lv_at hl 0 rfl) ?_
        refine x_getI C w fM637 obM dX13_splits_67 ?_
        refine lv_i2l C.1 C.2.1 dX13_splits_70 rfl ?_
        refine lv_lload C.1 C.2.1 dX13_splits_71 (lv_at hl 3 rfl) ?_
        refine lv_lconst (v := 1) C.1 C.2.1 dX13_splits_73 (by decide) ?_
        refine lv_lsub C.1 C.2.1 dX13_splits_74 ?_
        refine x_l_ne (tgt := 82) C dX13_splits_75 dX13_splits_76 (by decide) (fun hc => ?_) (fun hc => ?_)
        · replace h := iff0 hc h
          exact w_splits_82 C hr hk kk35 w (lv_sub hl [0, 1, 2, 3, 4, 5] rfl) h
        · replace h := ift hc h
          refine lv_goto (tgt := 96) C.1 C.2.1 dX13_splits_79 (by decide) ?_
          obtain ⟨x7_6, ex7_6, h⟩ := lt_e h
          refine lv_iinc (v := x7_6) (lv' := [(7, .int x7_6), (0, .ref (ρ 0)), (1, .int x1), (2, .long x2), (4, .long x4), (6, .int x6)]) C.1 C.2.1 dX13_splits_96 hl (k := 5) rfl (by rw [ex7_6]; rfl) (by decide) rfl (fun ls hl => ?_)
          refine lv_goto (tgt := 35) C.1 C.2.1 dX13_splits_99 (by decide) ?_
          exact kk35 _ _ _ _ _ _ _ _ _ w (lv_sub hl [1, 2, 3, 4, 5, 0] rfl) h
theorem w_splits_35 {g : Nat} (C : CallFix p m c cX13_splits 8 s args tb RX13) (hr : meth.sig.returnType = none) (hk : meth.locks = false) {S' : St} (n : Nat) : ∀ (S : St) (x1 : Int32) (x2 : Int64) (x4 : Int64) (x6 : Int32) (x7 : Int32) (H : Heap) (locs : List Loc) (ls : Array Slot), Wn Ym D T ρ S A s H locs → lv_has ls 8 [(0, .ref (ρ 0)), (1, .int x1), (2, .long x2), (4, .long x4), (6, .int x6), (7, .int x7)] → m_splits_35 g n S x1 x2 x4 x6 x7 = some S' → W p l e (rmN 1 25) s m args below meth c H locs 0 0 (MQ below (Qv Ym D T ρ A S') args s 0 0 A) (F0 m 35 ls []) := by
  induction n with
  | zero => intro S x1 x2 x4 x6 x7 H locs ls w hl h; exact absurd h (fun q => by cases q)
  | succ n ih => intro S x1 x2 x4 x6 x7 H locs ls w hl h; exact wb_splits_35 C hr hk ih w hl h
set_option maxRecDepth 100000 in
set_option maxHeartbeats 4000000 in
theorem w_splits_17  {g : Nat} {S : St} {x1 : Int32} {x2 : Int64} {x4 : Int64} {y1 : Int32} (C : CallFix p m c cX13_splits 8 s args tb RX13) (hr : meth.sig.returnType = none) (hk : meth.locks = false) {S' : St} (w : Wn Ym D T ρ S A s H locs) (hl : lv_has ls 8 [(0, .ref (ρ 0)), (1, .int x1), (2, .long x2), (4, .long x4)]) (h : m_splits_17 g S x1 x2 x4 y1 = some S') : W p l e (rmN 1 25) s m args below meth c H locs 0 0 (MQ below (Qv Ym D T ρ A S') args s 0 0 A) (F0 m 17 ls [.int y1, .ref (ρ 0)]) := by
  unfold m_splits_17 at h
  refine lv_iconst (v := 3) C.1 C.2.1 dX13_splits_17 (by decide) ?_
  obtain ⟨S_2, hS_2, h⟩ := bnd h
  refine x_callVv (q := (RX13, TX13, 68)) (As := [.int y1, .int (3 : Int32)]) (rest := []) C w (k_refuse l D T ρ g H.size S hS_2) vM466 ⟨by decide, by decide⟩ obM (by decide) rfl rfl rfl hl.1 (Nat.le_of_ble_eq_true rfl) ⟨Nat.zero_le _, Nat.zero_le _⟩ dX13_splits_18 (fun H locs w => ?_)
  refine lv_aload_n C.1 C.2.1 dX13_splits_21 rfl (lv_at hl 0 rfl) ?_
  refine x_getI C w fM398 obM dX13_splits_22 ?_
  refine lv_if_eq (tgt := 29) C.1 C.2.1 dX13_splits_25 (by decide) (fun hc => ?_) (fun hc => ?_)
  · replace h := ift hc h
    refine lv_iconst (v := 0) C.1 C.2.1 dX13_splits_29 (by decide) ?_
    refine lv_istore (lv' := [(6, .int (0 : Int32)), (0, .ref (ρ 0)), (1, .int x1), (2, .long x2), (4, .long x4)]) C.1 C.2.1 dX13_splits_30 hl (by decide) rfl (fun ls hl => ?_)
    refine lv_iconst (v := 0) C.1 C.2.1 dX13_splits_32 (by decide) ?_
    refine lv_istore (lv' := [(7, .int (0 : Int32)), (6, .int (0 : Int32)), (0, .ref (ρ 0)), (1, .int x1), (2, .long x2), (4, .long x4)]) C.1 C.2.1 dX13_splits_33 hl (by decide) rfl (fun ls hl => ?_)
    exact w_splits_35 C hr hk g _ _ _ _ _ _ _ _ _ w (lv_sub hl [2, 3, 4, 5, 1, 0] rfl) h
  · replace h := iff0 hc h
    obtain rfl := som h
    exact x_vret C w hr hk dX13_splits_28
set_option maxRecDepth 100000 in
set_option maxHeartbeats 4000000 in
theorem w_splits_0  {g : Nat} {S : St} {x1 : Int32} {x2 : Int64} {x4 : Int64} (C : CallFix p m c cX13_splits 8 s args tb RX13) (hr : meth.sig.returnType = none) (hk : meth.locks = false) {S' : St} (w : Wn Ym D T ρ S A s H locs) (hl : lv_has ls 8 [(0, .ref (ρ 0)), (1, .int x1), (2, .long x2), (4, .long x4)]) (h : m_splits g S x1 x2 x4 = some S') : W p l e (rmN 1 25) s m args below meth c H locs 0 0 (MQ below (Qv Ym D T ρ A S') args s 0 0 A) (F0 m 0 ls []) := by
  unfold m_splits at h
  refine lv_aload_n C.1 C.2.1 dX13_splits_0 rfl (lv_at hl 0 rfl) ?_
  refine lv_lload_n C.1 C.2.1 dX13_splits_1 rfl (lv_at hl 2 rfl) ?_
  refine lv_lconst (v := 0) C.1 C.2.1 dX13_splits_2 (by decide) ?_
  refine lv_ldc2 C.1 C.2.1 C.2.2.2.1 (C.2.2.2.2 _ nM623) dX13_splits_3 ?_
  obtain ⟨v_1, hv_1, h⟩ := bnd h
  refine x_callSi (As := [.long x2, .long (0 : Int64), .long (65535 : Int64)]) (rest := [.ref (ρ 0)]) C w (k_isIn l D T ρ g H.size S hv_1) vM318 ⟨by decide, by decide⟩ rfl rfl hl.1 (Nat.le_of_ble_eq_true rfl) ⟨Nat.zero_le _, Nat.zero_le _⟩ dX13_splits_6 (fun H locs w => ?_)
  refine lv_if_ne (tgt := 16) C.1 C.2.1 dX13_splits_9 (by decide) (fun hc => ?_) (fun hc => ?_)
  · replace h := iff0 hc h
    refine lv_iconst (v := 0) C.1 C.2.1 dX13_splits_16 (by decide) ?_
    exact w_splits_17 C hr hk w (lv_sub hl [0, 1, 2, 3] rfl) h
  · replace h := ift hc h
    refine lv_iconst (v := 1) C.1 C.2.1 dX13_splits_12 (by decide) ?_
    refine lv_goto (tgt := 17) C.1 C.2.1 dX13_splits_13 (by decide) ?_
    exact w_splits_17 C hr hk w (lv_sub hl [0, 1, 2, 3] rfl) h
end S_splits
set_option maxRecDepth 100000 in
theorem k_splits (l : Launch) (D : va_G) (T : Cy) (ρ : Nat → Nat) (g sz : Nat) (S : St) {x1 : Int32} {x2 : Int64} {x4 : Int64} {S' : St} (h : m_splits g S x1 x2 x4 = some S') : Mv l Ym D T ρ yX13_splits cX13_splits 8 none 1 25 S S' [.ref (ρ 0), .int x1, .long x2, .long x4] sz :=
  x_in (by decide) (Nat.le_of_ble_eq_true rfl) (fun p e s m below meth c ls C hr hk w hl => w_splits_0 C hr hk w hl h)

theorem dX13_cuts_0 : decode cX13_cuts 0 = .ok (.iload_n 1, 1) := by decide +kernel
theorem dX13_cuts_1 : decode cX13_cuts 1 = .ok (.bipush 30, 2) := by decide +kernel
theorem dX13_cuts_3 : decode cX13_cuts 3 = .ok (.if_icmp .ne 16, 3) := by decide +kernel
theorem dX13_cuts_6 : decode cX13_cuts 6 = .ok (.aload_n 0, 1) := by decide +kernel
theorem dX13_cuts_7 : decode cX13_cuts 7 = .ok (.iload_n 2, 1) := by decide +kernel
theorem dX13_cuts_8 : decode cX13_cuts 8 = .ok (.aload_n 0, 1) := by decide +kernel
theorem dX13_cuts_9 : decode cX13_cuts 9 = .ok (.getfield 419, 3) := by decide +kernel
theorem dX13_cuts_12 : decode cX13_cuts 12 = .ok (.i2l, 1) := by decide +kernel
theorem dX13_cuts_13 : decode cX13_cuts 13 = .ok (.invokevirtual 567, 3) := by decide +kernel
theorem dX13_cuts_16 : decode cX13_cuts 16 = .ok (.goto 228, 3) := by decide +kernel
theorem dX13_cuts_19 : decode cX13_cuts 19 = .ok (.iload_n 1, 1) := by decide +kernel
theorem dX13_cuts_20 : decode cX13_cuts 20 = .ok (.bipush 29, 2) := by decide +kernel
theorem dX13_cuts_22 : decode cX13_cuts 22 = .ok (.if_icmp .ne 58, 3) := by decide +kernel
theorem dX13_cuts_25 : decode cX13_cuts 25 = .ok (.aload_n 0, 1) := by decide +kernel
theorem dX13_cuts_26 : decode cX13_cuts 26 = .ok (.iload_n 2, 1) := by decide +kernel
theorem dX13_cuts_27 : decode cX13_cuts 27 = .ok (.iconst 1, 1) := by decide +kernel
theorem dX13_cuts_28 : decode cX13_cuts 28 = .ok (.iadd, 1) := by decide +kernel
theorem dX13_cuts_29 : decode cX13_cuts 29 = .ok (.invokevirtual 459, 3) := by decide +kernel
theorem dX13_cuts_32 : decode cX13_cuts 32 = .ok (.lstore_n 3, 1) := by decide +kernel
theorem dX13_cuts_33 : decode cX13_cuts 33 = .ok (.aload_n 0, 1) := by decide +kernel
theorem dX13_cuts_34 : decode cX13_cuts 34 = .ok (.lload_n 3, 1) := by decide +kernel
theorem dX13_cuts_35 : decode cX13_cuts 35 = .ok (.lconst 0, 1) := by decide +kernel
theorem dX13_cuts_36 : decode cX13_cuts 36 = .ok (.aload_n 0, 1) := by decide +kernel
theorem dX13_cuts_37 : decode cX13_cuts 37 = .ok (.getfield 419, 3) := by decide +kernel
theorem dX13_cuts_40 : decode cX13_cuts 40 = .ok (.iconst 1, 1) := by decide +kernel
theorem dX13_cuts_41 : decode cX13_cuts 41 = .ok (.isub, 1) := by decide +kernel
theorem dX13_cuts_42 : decode cX13_cuts 42 = .ok (.i2l, 1) := by decide +kernel
theorem dX13_cuts_43 : decode cX13_cuts 43 = .ok (.invokestatic 318, 3) := by decide +kernel
theorem dX13_cuts_46 : decode cX13_cuts 46 = .ok (.ifCond .ne 7, 3) := by decide +kernel
theorem dX13_cuts_49 : decode cX13_cuts 49 = .ok (.iconst 1, 1) := by decide +kernel
theorem dX13_cuts_50 : decode cX13_cuts 50 = .ok (.goto 4, 3) := by decide +kernel
theorem dX13_cuts_53 : decode cX13_cuts 53 = .ok (.iconst 0, 1) := by decide +kernel
theorem dX13_cuts_54 : decode cX13_cuts 54 = .ok (.iconst 1, 1) := by decide +kernel
theorem dX13_cuts_55 : decode cX13_cuts 55 = .ok (.invokevirtual 466, 3) := by decide +kernel
theorem dX13_cuts_58 : decode cX13_cuts 58 = .ok (.aload_n 0, 1) := by decide +kernel
theorem dX13_cuts_59 : decode cX13_cuts 59 = .ok (.getfield 398, 3) := by decide +kernel
theorem dX13_cuts_62 : decode cX13_cuts 62 = .ok (.ifCond .ne 15, 3) := by decide +kernel
theorem dX13_cuts_65 : decode cX13_cuts 65 = .ok (.aload_n 0, 1) := by decide +kernel
theorem dX13_cuts_66 : decode cX13_cuts 66 = .ok (.iload_n 2, 1) := by decide +kernel
theorem dX13_cuts_67 : decode cX13_cuts 67 = .ok (.aload_n 0, 1) := by decide +kernel
theorem dX13_cuts_68 : decode cX13_cuts 68 = .ok (.getfield 202, 3) := by decide +kernel
theorem dX13_cuts_71 : decode cX13_cuts 71 = .ok (.lload_n 3, 1) := by decide +kernel
theorem dX13_cuts_72 : decode cX13_cuts 72 = .ok (.l2i, 1) := by decide +kernel
theorem dX13_cuts_73 : decode cX13_cuts 73 = .ok (.iaload, 1) := by decide +kernel
theorem dX13_cuts_74 : decode cX13_cuts 74 = .ok (.invokevirtual 552, 3) := by decide +kernel
theorem dX13_cuts_77 : decode cX13_cuts 77 = .ok (.goto 167, 3) := by decide +kernel
theorem dX13_cuts_80 : decode cX13_cuts 80 = .ok (.iload_n 1, 1) := by decide +kernel
theorem dX13_cuts_81 : decode cX13_cuts 81 = .ok (.bipush 31, 2) := by decide +kernel
theorem dX13_cuts_83 : decode cX13_cuts 83 = .ok (.if_icmp .ne 86, 3) := by decide +kernel
theorem dX13_cuts_86 : decode cX13_cuts 86 = .ok (.aload_n 0, 1) := by decide +kernel
theorem dX13_cuts_87 : decode cX13_cuts 87 = .ok (.iload_n 2, 1) := by decide +kernel
theorem dX13_cuts_88 : decode cX13_cuts 88 = .ok (.iconst 1, 1) := by decide +kernel
theorem dX13_cuts_89 : decode cX13_cuts 89 = .ok (.iadd, 1) := by decide +kernel
theorem dX13_cuts_90 : decode cX13_cuts 90 = .ok (.invokevirtual 558, 3) := by decide +kernel
theorem dX13_cuts_93 : decode cX13_cuts 93 = .ok (.istore_n 3, 1) := by decide +kernel
theorem dX13_cuts_94 : decode cX13_cuts 94 = .ok (.aload_n 0, 1) := by decide +kernel
theorem dX13_cuts_95 : decode cX13_cuts 95 = .ok (.getfield 398, 3) := by decide +kernel
theorem dX13_cuts_98 : decode cX13_cuts 98 = .ok (.ifCond .eq 4, 3) := by decide +kernel
theorem dX13_cuts_101 : decode cX13_cuts 101 = .ok (.return_, 1) := by decide +kernel
theorem dX13_cuts_102 : decode cX13_cuts 102 = .ok (.iconst 0, 1) := by decide +kernel
theorem dX13_cuts_103 : decode cX13_cuts 103 = .ok (.istore 4, 2) := by decide +kernel
theorem dX13_cuts_105 : decode cX13_cuts 105 = .ok (.iload 4, 2) := by decide +kernel
theorem dX13_cuts_107 : decode cX13_cuts 107 = .ok (.aload_n 0, 1) := by decide +kernel
theorem dX13_cuts_108 : decode cX13_cuts 108 = .ok (.getfield 419, 3) := by decide +kernel
theorem dX13_cuts_111 : decode cX13_cuts 111 = .ok (.if_icmp .ge 50, 3) := by decide +kernel
theorem dX13_cuts_114 : decode cX13_cuts 114 = .ok (.iload 4, 2) := by decide +kernel
theorem dX13_cuts_116 : decode cX13_cuts 116 = .ok (.ifCond .le 15, 3) := by decide +kernel
theorem dX13_cuts_119 : decode cX13_cuts 119 = .ok (.aload_n 0, 1) := by decide +kernel
theorem dX13_cuts_120 : decode cX13_cuts 120 = .ok (.iload_n 3, 1) := by decide +kernel
theorem dX13_cuts_121 : decode cX13_cuts 121 = .ok (.iconst 0, 1) := by decide +kernel
theorem dX13_cuts_122 : decode cX13_cuts 122 = .ok (.aload_n 0, 1) := by decide +kernel
theorem dX13_cuts_123 : decode cX13_cuts 123 = .ok (.getfield 193, 3) := by decide +kernel
theorem dX13_cuts_126 : decode cX13_cuts 126 = .ok (.iload_n 3, 1) := by decide +kernel
theorem dX13_cuts_127 : decode cX13_cuts 127 = .ok (.iaload, 1) := by decide +kernel
theorem dX13_cuts_128 : decode cX13_cuts 128 = .ok (.invokevirtual 478, 3) := by decide +kernel
theorem dX13_cuts_131 : decode cX13_cuts 131 = .ok (.aload_n 0, 1) := by decide +kernel
theorem dX13_cuts_132 : decode cX13_cuts 132 = .ok (.aload_n 0, 1) := by decide +kernel
theorem dX13_cuts_133 : decode cX13_cuts 133 = .ok (.getfield 202, 3) := by decide +kernel
theorem dX13_cuts_136 : decode cX13_cuts 136 = .ok (.iload 4, 2) := by decide +kernel
theorem dX13_cuts_138 : decode cX13_cuts 138 = .ok (.iaload, 1) := by decide +kernel
theorem dX13_cuts_139 : decode cX13_cuts 139 = .ok (.iconst 0, 1) := by decide +kernel
theorem dX13_cuts_140 : decode cX13_cuts 140 = .ok (.aload_n 0, 1) := by decide +kernel
theorem dX13_cuts_141 : decode cX13_cuts 141 = .ok (.getfield 193, 3) := by decide +kernel
theorem dX13_cuts_144 : decode cX13_cuts 144 = .ok (.aload_n 0, 1) := by decide +kernel
theorem dX13_cuts_145 : decode cX13_cuts 145 = .ok (.getfield 202, 3) := by decide +kernel
theorem dX13_cuts_148 : decode cX13_cuts 148 = .ok (.iload 4, 2) := by decide +kernel
theorem dX13_cuts_150 : decode cX13_cuts 150 = .ok (.iaload, 1) := by decide +kernel
theorem dX13_cuts_151 : decode cX13_cuts 151 = .ok (.iaload, 1) := by decide +kernel
theorem dX13_cuts_152 : decode cX13_cuts 152 = .ok (.invokevirtual 478, 3) := by decide +kernel
theorem dX13_cuts_155 : decode cX13_cuts 155 = .ok (.iinc 4 1, 3) := by decide +kernel
theorem dX13_cuts_158 : decode cX13_cuts 158 = .ok (.goto (-53), 3) := by decide +kernel
theorem dX13_cuts_161 : decode cX13_cuts 161 = .ok (.aload_n 0, 1) := by decide +kernel
theorem dX13_cuts_162 : decode cX13_cuts 162 = .ok (.iload_n 2, 1) := by decide +kernel
theorem dX13_cuts_163 : decode cX13_cuts 163 = .ok (.invokevirtual 614, 3) := by decide +kernel
theorem dX13_cuts_166 : decode cX13_cuts 166 = .ok (.goto 78, 3) := by decide +kernel
theorem dX13_cuts_169 : decode cX13_cuts 169 = .ok (.aload_n 0, 1) := by decide +kernel
theorem dX13_cuts_170 : decode cX13_cuts 170 = .ok (.iload_n 2, 1) := by decide +kernel
theorem dX13_cuts_171 : decode cX13_cuts 171 = .ok (.invokevirtual 558, 3) := by decide +kernel
theorem dX13_cuts_174 : decode cX13_cuts 174 = .ok (.istore_n 3, 1) := by decide +kernel
theorem dX13_cuts_175 : decode cX13_cuts 175 = .ok (.aload_n 0, 1) := by decide +kernel
theorem dX13_cuts_176 : decode cX13_cuts 176 = .ok (.iconst 0, 1) := by decide +kernel
theorem dX13_cuts_177 : decode cX13_cuts 177 = .ok (.putfield 637, 3) := by decide +kernel
theorem dX13_cuts_180 : decode cX13_cuts 180 = .ok (.iload_n 1, 1) := by decide +kernel
theorem dX13_cuts_181 : decode cX13_cuts 181 = .ok (.bipush 27, 2) := by decide +kernel
theorem dX13_cuts_183 : decode cX13_cuts 183 = .ok (.if_icmp .ne 25, 3) := by decide +kernel
theorem dX13_cuts_186 : decode cX13_cuts 186 = .ok (.aload_n 0, 1) := by decide +kernel
theorem dX13_cuts_187 : decode cX13_cuts 187 = .ok (.iload_n 3, 1) := by decide +kernel
theorem dX13_cuts_188 : decode cX13_cuts 188 = .ok (.aload_n 0, 1) := by decide +kernel
theorem dX13_cuts_189 : decode cX13_cuts 189 = .ok (.iload_n 2, 1) := by decide +kernel
theorem dX13_cuts_190 : decode cX13_cuts 190 = .ok (.iconst 1, 1) := by decide +kernel
theorem dX13_cuts_191 : decode cX13_cuts 191 = .ok (.iadd, 1) := by decide +kernel
theorem dX13_cuts_192 : decode cX13_cuts 192 = .ok (.invokevirtual 459, 3) := by decide +kernel
theorem dX13_cuts_195 : decode cX13_cuts 195 = .ok (.aload_n 0, 1) := by decide +kernel
theorem dX13_cuts_196 : decode cX13_cuts 196 = .ok (.iload_n 2, 1) := by decide +kernel
theorem dX13_cuts_197 : decode cX13_cuts 197 = .ok (.iconst 2, 1) := by decide +kernel
theorem dX13_cuts_198 : decode cX13_cuts 198 = .ok (.iadd, 1) := by decide +kernel
theorem dX13_cuts_199 : decode cX13_cuts 199 = .ok (.invokevirtual 459, 3) := by decide +kernel
theorem dX13_cuts_202 : decode cX13_cuts 202 = .ok (.invokevirtual 640, 3) := by decide +kernel
theorem dX13_cuts_205 : decode cX13_cuts 205 = .ok (.goto 8, 3) := by decide +kernel
theorem dX13_cuts_208 : decode cX13_cuts 208 = .ok (.aload_n 0, 1) := by decide +kernel
theorem dX13_cuts_209 : decode cX13_cuts 209 = .ok (.iload_n 3, 1) := by decide +kernel
theorem dX13_cuts_210 : decode cX13_cuts 210 = .ok (.invokevirtual 644, 3) := by decide +kernel
theorem dX13_cuts_213 : decode cX13_cuts 213 = .ok (.aload_n 0, 1) := by decide +kernel
theorem dX13_cuts_214 : decode cX13_cuts 214 = .ok (.aload_n 0, 1) := by decide +kernel
theorem dX13_cuts_215 : decode cX13_cuts 215 = .ok (.getfield 637, 3) := by decide +kernel
theorem dX13_cuts_218 : decode cX13_cuts 218 = .ok (.bipush 24, 2) := by decide +kernel
theorem dX13_cuts_220 : decode cX13_cuts 220 = .ok (.if_icmp .le 7, 3) := by decide +kernel
theorem dX13_cuts_223 : decode cX13_cuts 223 = .ok (.iconst 1, 1) := by decide +kernel
theorem dX13_cuts_224 : decode cX13_cuts 224 = .ok (.goto 4, 3) := by decide +kernel
theorem dX13_cuts_227 : decode cX13_cuts 227 = .ok (.iconst 0, 1) := by decide +kernel
theorem dX13_cuts_228 : decode cX13_cuts 228 = .ok (.iconst 5, 1) := by decide +kernel
theorem dX13_cuts_229 : decode cX13_cuts 229 = .ok (.invokevirtual 466, 3) := by decide +kernel
theorem dX13_cuts_232 : decode cX13_cuts 232 = .ok (.aload_n 0, 1) := by decide +kernel
theorem dX13_cuts_233 : decode cX13_cuts 233 = .ok (.getfield 398, 3) := by decide +kernel
theorem dX13_cuts_236 : decode cX13_cuts 236 = .ok (.ifCond .ne 8, 3) := by decide +kernel
theorem dX13_cuts_239 : decode cX13_cuts 239 = .ok (.aload_n 0, 1) := by decide +kernel
theorem dX13_cuts_240 : decode cX13_cuts 240 = .ok (.iload_n 3, 1) := by decide +kernel
theorem dX13_cuts_241 : decode cX13_cuts 241 = .ok (.invokevirtual 647, 3) := by decide +kernel
theorem dX13_cuts_244 : decode cX13_cuts 244 = .ok (.return_, 1) := by decide +kernel
def m_cuts_228 (g : Nat) (S : St) (x3 : Int32) (y1 : Int32) : Option St :=
(m_refuse g S y1 (5 : Int32)).bind fun S_5 =>
if (gI S_5 0 58) = 0 then (
  (m_parted g S_5 x3).bind fun S_6 =>
  some S_6
) else (
  some S_5
)
def m_cuts_213 (g : Nat) (S : St) (x3 : Int32) : Option St :=
if (gI S 0 65) ≤ (24 : Int32) then (
  m_cuts_228 g S x3 (0 : Int32)
) else (
  m_cuts_228 g S x3 (1 : Int32)
)
def m_cuts_131 (g : Nat) (k105 : St → Int32 → Int32 → Int32 → Option St) (S : St) (x2 : Int32) (x3 : Int32) (x4 : Int32) : Option St :=
(aI S 27 x4).bind fun v_11 =>
(aI S 27 x4).bind fun v_12 =>
(aI S 24 v_12).bind fun v_13 =>
(m_emitText g S v_11 (0 : Int32) v_13).bind fun S_14 =>
lt (x4 + (1 : Int32)) fun x4_15 =>
k105 S_14 x2 x3 x4_15
def b_cuts_105 (g : Nat) (k105 : St → Int32 → Int32 → Int32 → Option St) (S : St) (x2 : Int32) (x3 : Int32) (x4 : Int32) : Option St :=
if (gI S 0 50) ≤ x4 then (
  (m_givesUnits g S x2).bind fun S_10 =>
  some S_10
) else (
  if x4 ≤ 0 then (
    m_cuts_131 g k105 S x2 x3 x4
  ) else (
    (aI S 24 x3).bind fun v_11 =>
    (m_emitText g S x3 (0 : Int32) v_11).bind fun S_12 =>
    m_cuts_131 g k105 S_12 x2 x3 x4
  )
)
def m_cuts_105 (g : Nat) : Nat → St → Int32 → Int32 → Int32 → Option St
  | 0, _, _, _, _ => none
  | n + 1, S, x2, x3, x4 => b_cuts_105 g (m_cuts_105 g n) S x2 x3 x4
def m_cuts_54 (g : Nat) (S : St) (x2 : Int32) (x3 : Int64) (y1 : Int32) : Option St :=
(m_refuse g S y1 (1 : Int32)).bind fun S_12 =>
if (gI S_12 0 58) = 0 then (
  (aI S_12 27 (x3.toInt32)).bind fun v_13 =>
  (m_givesText g S_12 x2 v_13).bind fun S_14 =>
  some S_14
) else (
  some S_12
)
def m_cuts (g : Nat) (S : St) (x1 : Int32) (x2 : Int32) : Option St :=
if x1 = (30 : Int32) then (
  (m_givesWhole g S x2 ((gI S 0 50).toInt64)).bind fun S_12 =>
  some S_12
) else (
  if x1 = (29 : Int32) then (
    (m_value g S (x2 + (1 : Int32))).bind fun v_10 =>
    (m_isIn g v_10 (0 : Int64) (((gI S 0 50) - (1 : Int32)).toInt64)).bind fun v_11 =>
    if v_11 = 0 then (
      m_cuts_54 g S x2 v_10 (1 : Int32)
    ) else (
      m_cuts_54 g S x2 v_10 (0 : Int32)
    )
  ) else (
    if x1 = (31 : Int32) then (
      (m_textAt g S (x2 + (1 : Int32))).bind fun (S_8, v_9) =>
      if (gI S_8 0 58) = 0 then (
        m_cuts_105 g g S_8 x2 v_9 (0 : Int32)
      ) else (
        some S_8
      )
    ) else (
      (m_textAt g S x2).bind fun (S_1, v_2) =>
      lt (sI S_1 0 65 (0 : Int32)) fun S_3 =>
      if x1 = (27 : Int32) then (
        (m_value g S_3 (x2 + (1 : Int32))).bind fun v_5 =>
        (m_value g S_3 (x2 + (2 : Int32))).bind fun v_6 =>
        (m_splits g S_3 v_2 v_5 v_6).bind fun S_7 =>
        m_cuts_213 g S_7 v_2
      ) else (
        (m_linesOf g S_3 v_2).bind fun S_4 =>
        m_cuts_213 g S_4 v_2
      )
    )
  )
)
section S_cuts
variable {p : Program} {l : Launch} {e : Env} {s : State} {m : MethodId} {args : Array Value} {below : List Frame} {meth : Method} {c : Code} {H : Heap} {locs : List Loc} {ls : Array Slot} {D : va_G} {T : Cy} {ρ : Nat → Nat} {A : Nat → Prop}
set_option maxRecDepth 100000 in
set_option maxHeartbeats 4000000 in
theorem w_cuts_228  {g : Nat} {S : St} {x3 : Int32} {y1 : Int32} (C : CallFix p m c cX13_cuts 5 s args tb RX13) (hr : meth.sig.returnType = none) (hk : meth.locks = false) {S' : St} (w : Wn Ym D T ρ S A s H locs) (hl : lv_has ls 5 [(0, .ref (ρ 0)), (3, .int x3)]) (h : m_cuts_228 g S x3 y1 = some S') : W p l e (rmN 3 68) s m args below meth c H locs 0 0 (MQ below (Qv Ym D T ρ A S') args s 0 0 A) (F0 m 228 ls [.int y1, .ref (ρ 0)]) := by
  unfold m_cuts_228 at h
  refine lv_iconst (v := 5) C.1 C.2.1 dX13_cuts_228 (by decide) ?_
  obtain ⟨S_5, hS_5, h⟩ := bnd h
  refine x_callVv (q := (RX13, TX13, 68)) (As := [.int y1, .int (5 : Int32)]) (rest := []) C w (k_refuse l D T ρ g H.size S hS_5) vM466 ⟨by decide, by decide⟩ obM (by decide) rfl rfl rfl hl.1 (Nat.le_of_ble_eq_true rfl) ⟨Nat.zero_le _, Nat.zero_le _⟩ dX13_cuts_229 (fun H locs w => ?_)
  refine lv_aload_n C.1 C.2.1 dX13_cuts_232 rfl (lv_at hl 0 rfl) ?_
  refine x_getI C w fM398 obM dX13_cuts_233 ?_
  refine lv_if_ne (tgt := 244) C.1 C.2.1 dX13_cuts_236 (by decide) (fun hc => ?_) (fun hc => ?_)
  · replace h := iff0 hc h
    obtain rfl := som h
    exact x_vret C w hr hk dX13_cuts_244
  · replace h := ift hc h
    refine lv_aload_n C.1 C.2.1 dX13_cuts_239 rfl (lv_at hl 0 rfl) ?_
    refine lv_iload_n C.1 C.2.1 dX13_cuts_240 rfl (lv_at hl 1 rfl) ?_
    obtain ⟨S_6, hS_6, h⟩ := bnd h
    refine x_callVv (q := (RX13, TX13, 68)) (As := [.int x3]) (rest := []) C w (k_parted l D T ρ g H.size S_5 hS_6) vM647 ⟨by decide, by decide⟩ obM (by decide) rfl rfl rfl hl.1 (Nat.le_of_ble_eq_true rfl) ⟨Nat.zero_le _, Nat.zero_le _⟩ dX13_cuts_241 (fun H locs w => ?_)
    obtain rfl := som h
    exact x_vret C w hr hk dX13_cuts_244
set_option maxRecDepth 100000 in
set_option maxHeartbeats 4000000 in
theorem w_cuts_213  {g : Nat} {S : St} {x3 : Int32} (C : CallFix p m c cX13_cuts 5 s args tb RX13) (hr : meth.sig.returnType = none) (hk : meth.locks = false) {S' : St} (w : Wn Ym D T ρ S A s H locs) (hl : lv_has ls 5 [(0, .ref (ρ 0)), (3, .int x3)]) (h : m_cuts_213 g S x3 = some S') : W p l e (rmN 3 68) s m args below meth c H locs 0 0 (MQ below (Qv Ym D T ρ A S') args s 0 0 A) (F0 m 213 ls []) := by
  unfold m_cuts_213 at h
  refine lv_aload_n C.1 C.2.1 dX13_cuts_213 rfl (lv_at hl 0 rfl) ?_
  refine lv_aload_n C.1 C.2.1 dX13_cuts_214 rfl (lv_at hl 0 rfl) ?_
  refine x_getI C w fM637 obM dX13_cuts_215 ?_
  refine lv_bipush (v := 24) C.1 C.2.1 dX13_cuts_218 (by decide) ?_
  refine lv_icmp_le (tgt := 227) C.1 C.2.1 dX13_cuts_220 (by decide) (fun hc => ?_) (fun hc => ?_)
  · replace h := ift hc h
    refine lv_iconst (v := 0) C.1 C.2.1 dX13_cuts_227 (by decide) ?_
    exact w_cuts_228 C hr hk w (lv_sub hl [0, 1] rfl) h
  · replace h := iff0 hc h
    refine lv_iconst (v := 1) C.1 C.2.1 dX13_cuts_223 (by decide) ?_
    refine lv_goto (tgt := 228) C.1 C.2.1 dX13_cuts_224 (by decide) ?_
    exact w_cuts_228 C hr hk w (lv_sub hl [0, 1] rfl) h
set_option maxRecDepth 100000 in
set_option maxHeartbeats 4000000 in
theorem w_cuts_131  {g : Nat} {S : St} {x2 : Int32} {x3 : Int32} {x4 : Int32} (C : CallFix p m c cX13_cuts 5 s args tb RX13) (hr : meth.sig.returnType = none) (hk : meth.locks = false) {S' : St} {k105 : St → Int32 → Int32 → Int32 → Option St} (kk105 : ∀ (S : St) (x2 : Int32) (x3 : Int32) (x4 : Int32) (H : Heap) (locs : List Loc) (ls : Array Slot), Wn Ym D T ρ S A s H locs → lv_has ls 5 [(0, .ref (ρ 0)), (2, .int x2), (3, .int x3), (4, .int x4)] → k105 S x2 x3 x4 = some S' → W p l e (rmN 3 68) s m args below meth c H locs 0 0 (MQ below (Qv Ym D T ρ A S') args s 0 0 A) (F0 m 105 ls [])) (w : Wn Ym D T ρ S A s H locs) (hl : lv_has ls 5 [(0, .ref (ρ 0)), (2, .int x2), (3, .int x3), (4, .int x4)]) (h : m_cuts_131 g k105 S x2 x3 x4 = some S') : W p l e (rmN 3 68) s m args below meth c H locs 0 0 (MQ below (Qv Ym D T ρ A S') args s 0 0 A) (F0 m 131 ls []) := by
  unfold m_cuts_131 at h
  refine lv_aload_n C.1 C.2.1 dX13_cuts_131 rfl (lv_at hl 0 rfl) ?_
  refine lv_aload_n C.1 C.2.1 dX13_cuts_132 rfl (lv_at hl 0 rfl) ?_
  refine x_getC C w 27 fM202 obM rfl dX13_cuts_133 ?_
  refine lv_iload C.1 C.2.1 dX13_cuts_136 (lv_at hl 3 rfl) ?_
  obtain ⟨v_11, hv_11, h⟩ := bnd h
  refine x_iald C w obM27 hv_11 dX13_cuts_138 ?_
  refine lv_iconst (v := 0) C.1 C.2.1 dX13_cuts_139 (by decide) ?_
  refine lv_aload_n C.1 C.2.1 dX13_cuts_140 rfl (lv_at hl 0 rfl) ?_
  refine x_getC C w 24 fM193 obM rfl dX13_cuts_141 ?_
  refine lv_aload_n C.1 C.2.1 dX13_cuts_144 rfl (lv_at hl 0 rfl) ?_
  refine x_getC C w 27 fM202 obM rfl dX13_cuts_145 ?_
  refine lv_iload C.1 C.2.1 dX13_cuts_148 (lv_at hl 3 rfl) ?_
  obtain ⟨v_12, hv_12, h⟩ := bnd h
  refine x_iald C w obM27 hv_12 dX13_cuts_150 ?_
  obtain ⟨v_13, hv_13, h⟩ := bnd h
  refine x_iald C w obM24 hv_13 dX13_cuts_151 ?_
  obtain ⟨S_14, hS_14, h⟩ := bnd h
  refine x_callVv (q := (RX13, TX13, 68)) (As := [.int v_11, .int (0 : Int32), .int v_13]) (rest := []) C w (k_emitText l D T ρ g H.size S hS_14) vM478 ⟨by decide, by decide⟩ obM (by decide) rfl rfl rfl hl.1 (Nat.le_of_ble_eq_true rfl) ⟨Nat.zero_le _, Nat.zero_le _⟩ dX13_cuts_152 (fun H locs w => ?_)
  obtain ⟨x4_15, ex4_15, h⟩ := lt_e h
  refine lv_iinc (v := x4_15) (lv' := [(4, .int x4_15), (0, .ref (ρ 0)), (2, .int x2), (3, .int x3)]) C.1 C.2.1 dX13_cuts_155 hl (k := 3) rfl (by rw [ex4_15]; rfl) (by decide) rfl (fun ls hl => ?_)
  refine lv_goto (tgt := 105) C.1 C.2.1 dX13_cuts_158 (by decide) ?_
  exact kk105 _ _ _ _ _ _ _ w (lv_sub hl [1, 2, 3, 0] rfl) h
set_option maxRecDepth 100000 in
set_option maxHeartbeats 4000000 in
theorem wb_cuts_105  {g : Nat} {S : St} {x2 : Int32} {x3 : Int32} {x4 : Int32} (C : CallFix p m c cX13_cuts 5 s args tb RX13) (hr : meth.sig.returnType = none) (hk : meth.locks = false) {S' : St} {k105 : St → Int32 → Int32 → Int32 → Option St} (kk105 : ∀ (S : St) (x2 : Int32) (x3 : Int32) (x4 : Int32) (H : Heap) (locs : List Loc) (ls : Array Slot), Wn Ym D T ρ S A s H locs → lv_has ls 5 [(0, .ref (ρ 0)), (2, .int x2), (3, .int x3), (4, .int x4)] → k105 S x2 x3 x4 = some S' → W p l e (rmN 3 68) s m args below meth c H locs 0 0 (MQ below (Qv Ym D T ρ A S') args s 0 0 A) (F0 m 105 ls [])) (w : Wn Ym D T ρ S A s H locs) (hl : lv_has ls 5 [(0, .ref (ρ 0)), (2, .int x2), (3, .int x3), (4, .int x4)]) (h : b_cuts_105 g k105 S x2 x3 x4 = some S') : W p l e (rmN 3 68) s m args below meth c H locs 0 0 (MQ below (Qv Ym D T ρ A S') args s 0 0 A) (F0 m 105 ls []) := by
  unfold b_cuts_105 at h
  refine lv_iload C.1 C.2.1 dX13_cuts_105 (lv_at hl 3 rfl) ?_
  refine lv_aload_n C.1 C.2.1 dX13_cuts_107 rfl (lv_at hl 0 rfl) ?_
  refine x_getI C w fM419 obM dX13_cuts_108 ?_
  refine lv_icmp_ge (tgt := 161) C.1 C.2.1 dX13_cuts_111 (by decide) (fun hc => ?_) (fun hc => ?_)
  · replace h := ift hc h
    refine lv_aload_n C.1 C.2.1 dX13_cuts_161 rfl (lv_at hl 0 rfl) ?_
    refine lv_iload_n C.1 C.2.1 dX13_cuts_162 rfl (lv_at hl 1 rfl) ?_
    obtain ⟨S_10, hS_10, h⟩ := bnd h
    refine x_callVv (q := (RX13, TX13, 68)) (As := [.int x2]) (rest := []) C w (k_givesUnits l D T ρ g H.size S hS_10) vM614 ⟨by decide, by decide⟩ obM (by decide) rfl rfl rfl hl.1 (Nat.le_of_ble_eq_true rfl) ⟨Nat.zero_le _, Nat.zero_le _⟩ dX13_cuts_163 (fun H locs w => ?_)
    refine lv_goto (tgt := 244) C.1 C.2.1 dX13_cuts_166 (by decide) ?_
    obtain rfl := som h
    exact x_vret C w hr hk dX13_cuts_244
  · replace h := iff0 hc h
    refine lv_iload C.1 C.2.1 dX13_cuts_114 (lv_at hl 3 rfl) ?_
    refine lv_if_le (tgt := 131) C.1 C.2.1 dX13_cuts_116 (by decide) (fun hc => ?_) (fun hc => ?_)
    · replace h := ift hc h
      exact w_cuts_131 C hr hk kk105 w (lv_sub hl [0, 1, 2, 3] rfl) h
    · replace h := iff0 hc h
      refine lv_aload_n C.1 C.2.1 dX13_cuts_119 rfl (lv_at hl 0 rfl) ?_
      refine lv_iload_n C.1 C.2.1 dX13_cuts_120 rfl (lv_at hl 2 rfl) ?_
      refine lv_iconst (v := 0) C.1 C.2.1 dX13_cuts_121 (by decide) ?_
      refine lv_aload_n C.1 C.2.1 dX13_cuts_122 rfl (lv_at hl 0 rfl) ?_
      refine x_getC C w 24 fM193 obM rfl dX13_cuts_123 ?_
      refine lv_iload_n C.1 C.2.1 dX13_cuts_126 rfl (lv_at hl 2 rfl) ?_
      obtain ⟨v_11, hv_11, h⟩ := bnd h
      refine x_iald C w obM24 hv_11 dX13_cuts_127 ?_
      obtain ⟨S_12, hS_12, h⟩ := bnd h
      refine x_callVv (q := (RX13, TX13, 68)) (As := [.int x3, .int (0 : Int32), .int v_11]) (rest := []) C w (k_emitText l D T ρ g H.size S hS_12) vM478 ⟨by decide, by decide⟩ obM (by decide) rfl rfl rfl hl.1 (Nat.le_of_ble_eq_true rfl) ⟨Nat.zero_le _, Nat.zero_le _⟩ dX13_cuts_128 (fun H locs w => ?_)
      exact w_cuts_131 C hr hk kk105 w (lv_sub hl [0, 1, 2, 3] rfl) h
theorem w_cuts_105 {g : Nat} (C : CallFix p m c cX13_cuts 5 s args tb RX13) (hr : meth.sig.returnType = none) (hk : meth.locks = false) {S' : St} (n : Nat) : ∀ (S : St) (x2 : Int32) (x3 : Int32) (x4 : Int32) (H : Heap) (locs : List Loc) (ls : Array Slot), Wn Ym D T ρ S A s H locs → lv_has ls 5 [(0, .ref (ρ 0)), (2, .int x2), (3, .int x3), (4, .int x4)] → m_cuts_105 g n S x2 x3 x4 = some S' → W p l e (rmN 3 68) s m args below meth c H locs 0 0 (MQ below (Qv Ym D T ρ A S') args s 0 0 A) (F0 m 105 ls []) := by
  induction n with
  | zero => intro S x2 x3 x4 H locs ls w hl h; exact absurd h (fun q => by cases q)
  | succ n ih => intro S x2 x3 x4 H locs ls w hl h; exact wb_cuts_105 C hr hk ih w hl h
set_option maxRecDepth 100000 in
set_option maxHeartbeats 4000000 in
theorem w_cuts_54  {g : Nat} {S : St} {x2 : Int32} {x3 : Int64} {y1 : Int32} (C : CallFix p m c cX13_cuts 5 s args tb RX13) (hr : meth.sig.returnType = none) (hk : meth.locks = false) {S' : St} (w : Wn Ym D T ρ S A s H locs) (hl : lv_has ls 5 [(0, .ref (ρ 0)), (2, .int x2), (3, .long x3)]) (h : m_cuts_54 g S x2 x3 y1 = some S') : W p l e (rmN 3 68) s m args below meth c H locs 0 0 (MQ below (Qv Ym D T ρ A S') args s 0 0 A) (F0 m 54 ls [.int y1, .ref (ρ 0)]) := by
  unfold m_cuts_54 at h
  refine lv_iconst (v := 1) C.1 C.2.1 dX13_cuts_54 (by decide) ?_
  obtain ⟨S_12, hS_12, h⟩ := bnd h
  refine x_callVv (q := (RX13, TX13, 68)) (As := [.int y1, .int (1 : Int32)]) (rest := []) C w (k_refuse l D T ρ g H.size S hS_12) vM466 ⟨by decide, by decide⟩ obM (by decide) rfl rfl rfl hl.1 (Nat.le_of_ble_eq_true rfl) ⟨Nat.zero_le _, Nat.zero_le _⟩ dX13_cuts_55 (fun H locs w => ?_)
  refine lv_aload_n C.1 C.2.1 dX13_cuts_58 rfl (lv_at hl 0 rfl) ?_
  refine x_getI C w fM398 obM dX13_cuts_59 ?_
  refine lv_if_ne (tgt := 77) C.1 C.2.1 dX13_cuts_62 (by decide) (fun hc => ?_) (fun hc => ?_)
  · replace h := iff0 hc h
    refine lv_goto (tgt := 244) C.1 C.2.1 dX13_cuts_77 (by decide) ?_
    obtain rfl := som h
    exact x_vret C w hr hk dX13_cuts_244
  · replace h := ift hc h
    refine lv_aload_n C.1 C.2.1 dX13_cuts_65 rfl (lv_at hl 0 rfl) ?_
    refine lv_iload_n C.1 C.2.1 dX13_cuts_66 rfl (lv_at hl 1 rfl) ?_
    refine lv_aload_n C.1 C.2.1 dX13_cuts_67 rfl (lv_at hl 0 rfl) ?_
    refine x_getC C w 27 fM202 obM rfl dX13_cuts_68 ?_
    refine lv_lload_n C.1 C.2.1 dX13_cuts_71 rfl (lv_at hl 2 rfl) ?_
    refine lv_l2i C.1 C.2.1 dX13_cuts_72 rfl ?_
    obtain ⟨v_13, hv_13, h⟩ := bnd h
    refine x_iald C w obM27 hv_13 dX13_cuts_73 ?_
    obtain ⟨S_14, hS_14, h⟩ := bnd h
    refine x_callVv (q := (RX13, TX13, 68)) (As := [.int x2, .int v_13]) (rest := []) C w (k_givesText l D T ρ g H.size S_12 hS_14) vM552 ⟨by decide, by decide⟩ obM (by decide) rfl rfl rfl hl.1 (Nat.le_of_ble_eq_true rfl) ⟨Nat.zero_le _, Nat.zero_le _⟩ dX13_cuts_74 (fun H locs w => ?_)
    refine lv_goto (tgt := 244) C.1 C.2.1 dX13_cuts_77 (by decide) ?_
    obtain rfl := som h
    exact x_vret C w hr hk dX13_cuts_244
set_option maxRecDepth 100000 in
set_option maxHeartbeats 4000000 in
theorem w_cuts_0  {g : Nat} {S : St} {x1 : Int32} {x2 : Int32} (C : CallFix p m c cX13_cuts 5 s args tb RX13) (hr : meth.sig.returnType = none) (hk : meth.locks = false) {S' : St} (w : Wn Ym D T ρ S A s H locs) (hl : lv_has ls 5 [(0, .ref (ρ 0)), (1, .int x1), (2, .int x2)]) (h : m_cuts g S x1 x2 = some S') : W p l e (rmN 3 68) s m args below meth c H locs 0 0 (MQ below (Qv Ym D T ρ A S') args s 0 0 A) (F0 m 0 ls []) := by
  unfold m_cuts at h
  refine lv_iload_n C.1 C.2.1 dX13_cuts_0 rfl (lv_at hl 1 rfl) ?_
  refine lv_bipush (v := 30) C.1 C.2.1 dX13_cuts_1 (by decide) ?_
  refine lv_icmp_ne (tgt := 19) C.1 C.2.1 dX13_cuts_3 (by decide) (fun hc => ?_) (fun hc => ?_)
  · replace h := iff0 hc h
    refine lv_iload_n C.1 C.2.1 dX13_cuts_19 rfl (lv_at hl 1 rfl) ?_
    refine lv_bipush (v := 29) C.1 C.2.1 dX13_cuts_20 (by decide) ?_
    refine lv_icmp_ne (tgt := 80) C.1 C.2.1 dX13_cuts_22 (by decide) (fun hc => ?_) (fun hc => ?_)
    · replace h := iff0 hc h
      refine lv_iload_n C.1 C.2.1 dX13_cuts_80 rfl (lv_at hl 1 rfl) ?_
      refine lv_bipush (v := 31) C.1 C.2.1 dX13_cuts_81 (by decide) ?_
      refine lv_icmp_ne (tgt := 169) C.1 C.2.1 dX13_cuts_83 (by decide) (fun hc => ?_) (fun hc => ?_)
      · replace h := iff0 hc h
        refine lv_aload_n C.1 C.2.1 dX13_cuts_169 rfl (lv_at hl 0 rfl) ?_
        refine lv_iload_n C.1 C.2.1 dX13_cuts_170 rfl (lv_at hl 2 rfl) ?_
        obtain ⟨⟨S_1, v_2⟩, hv_2, h⟩ := bnd h
        refine x_callVi (q := (RX13, TX13, 68)) (As := [.int x2]) (rest := []) C w (k_textAt l D T ρ g H.size S hv_2) vM558 ⟨by decide, by decide⟩ obM (by decide) rfl rfl rfl hl.1 (Nat.le_of_ble_eq_true rfl) ⟨Nat.zero_le _, Nat.zero_le _⟩ dX13_cuts_171 (fun H locs w => ?_)
        refine lv_istore_n (lv' := [(3, .int v_2), (0, .ref (ρ 0)), (1, .int x1), (2, .int x2)]) C.1 C.2.1 dX13_cuts_174 rfl hl (by decide) rfl (fun ls hl => ?_)
        refine lv_aload_n C.1 C.2.1 dX13_cuts_175 rfl (lv_at hl 1 rfl) ?_
        refine lv_iconst (v := 0) C.1 C.2.1 dX13_cuts_176 (by decide) ?_
        obtain ⟨S_3, eS_3, h⟩ := lt_e h
        refine y_putI C w eS_3 fM637 pM65 obM dX13_cuts_177 (fun H locs w => ?_)
        refine lv_iload_n C.1 C.2.1 dX13_cuts_180 rfl (lv_at hl 2 rfl) ?_
        refine lv_bipush (v := 27) C.1 C.2.1 dX13_cuts_181 (by decide) ?_
        refine lv_icmp_ne (tgt := 208) C.1 C.2.1 dX13_cuts_183 (by decide) (fun hc => ?_) (fun hc => ?_)
        · replace h := iff0 hc h
          refine lv_aload_n C.1 C.2.1 dX13_cuts_208 rfl (lv_at hl 1 rfl) ?_
          refine lv_iload_n C.1 C.2.1 dX13_cuts_209 rfl (lv_at hl 0 rfl) ?_
          obtain ⟨S_4, hS_4, h⟩ := bnd h
          refine x_callVv (q := (RX13, TX13, 68)) (As := [.int v_2]) (rest := []) C w (k_linesOf l D T ρ g H.size S_3 hS_4) vM644 ⟨by decide, by decide⟩ obM (by decide) rfl rfl rfl hl.1 (Nat.le_of_ble_eq_true rfl) ⟨Nat.zero_le _, Nat.zero_le _⟩ dX13_cuts_210 (fun H locs w => ?_)
          exact w_cuts_213 C hr hk w (lv_sub hl [1, 0] rfl) h
        · replace h := ift hc h
          refine lv_aload_n C.1 C.2.1 dX13_cuts_186 rfl (lv_at hl 1 rfl) ?_
          refine lv_iload_n C.1 C.2.1 dX13_cuts_187 rfl (lv_at hl 0 rfl) ?_
          refine lv_aload_n C.1 C.2.1 dX13_cuts_188 rfl (lv_at hl 1 rfl) ?_
          refine lv_iload_n C.1 C.2.1 dX13_cuts_189 rfl (lv_at hl 3 rfl) ?_
          refine lv_iconst (v := 1) C.1 C.2.1 dX13_cuts_190 (by decide) ?_
          refine lv_iadd C.1 C.2.1 dX13_cuts_191 ?_
          obtain ⟨v_5, hv_5, h⟩ := bnd h
          refine x_callVj (q := (RX13, TX13, 68)) (As := [.int (x2 + (1 : Int32))]) (rest := [.int v_2, .ref (ρ 0)]) C w (k_value l D T ρ g H.size S_3 hv_5) vM459 ⟨by decide, by decide⟩ obM (by decide) rfl rfl rfl hl.1 (Nat.le_of_ble_eq_true rfl) ⟨Nat.zero_le _, Nat.zero_le _⟩ dX13_cuts_192 (fun H locs w => ?_)
          refine lv_aload_n C.1 C.2.1 dX13_cuts_195 rfl (lv_at hl 1 rfl) ?_
          refine lv_iload_n C.1 C.2.1 dX13_cuts_196 rfl (lv_at hl 3 rfl) ?_
          refine lv_iconst (v := 2) C.1 C.2.1 dX13_cuts_197 (by decide) ?_
          refine lv_iadd C.1 C.2.1 dX13_cuts_198 ?_
          obtain ⟨v_6, hv_6, h⟩ := bnd h
          refine x_callVj (q := (RX13, TX13, 68)) (As := [.int (x2 + (2 : Int32))]) (rest := [.long v_5, .int v_2, .ref (ρ 0)]) C w (k_value l D T ρ g H.size S_3 hv_6) vM459 ⟨by decide, by decide⟩ obM (by decide) rfl rfl rfl hl.1 (Nat.le_of_ble_eq_true rfl) ⟨Nat.zero_le _, Nat.zero_le _⟩ dX13_cuts_199 (fun H locs w => ?_)
          obtain ⟨S_7, hS_7, h⟩ := bnd h
          refine x_callVv (q := (RX13, TX13, 68)) (As := [.int v_2, .long v_5, .long v_6]) (rest := []) C w (k_splits l D T ρ g H.size S_3 hS_7) vM640 ⟨by decide, by decide⟩ obM (by decide) rfl rfl rfl hl.1 (Nat.le_of_ble_eq_true rfl) ⟨Nat.zero_le _, Nat.zero_le _⟩ dX13_cuts_202 (fun H locs w => ?_)
          refine lv_goto (tgt := 213) C.1 C.2.1 dX13_cuts_205 (by decide) ?_
          exact w_cuts_213 C hr hk w (lv_sub hl [1, 0] rfl) h
      · replace h := ift hc h
        refine lv_aload_n C.1 C.2.1 dX13_cuts_86 rfl (lv_at hl 0 rfl) ?_
        refine lv_iload_n C.1 C.2.1 dX13_cuts_87 rfl (lv_at hl 2 rfl) ?_
        refine lv_iconst (v := 1) C.1 C.2.1 dX13_cuts_88 (by decide) ?_
        refine lv_iadd C.1 C.2.1 dX13_cuts_89 ?_
        obtain ⟨⟨S_8, v_9⟩, hv_9, h⟩ := bnd h
        refine x_callVi (q := (RX13, TX13, 68)) (As := [.int (x2 + (1 : Int32))]) (rest := []) C w (k_textAt l D T ρ g H.size S hv_9) vM558 ⟨by decide, by decide⟩ obM (by decide) rfl rfl rfl hl.1 (Nat.le_of_ble_eq_true rfl) ⟨Nat.zero_le _, Nat.zero_le _⟩ dX13_cuts_90 (fun H locs w => ?_)
        refine lv_istore_n (lv' := [(3, .int v_9), (0, .ref (ρ 0)), (1, .int x1), (2, .int x2)]) C.1 C.2.1 dX13_cuts_93 rfl hl (by decide) rfl (fun ls hl => ?_)
        refine lv_aload_n C.1 C.2.1 dX13_cuts_94 rfl (lv_at hl 1 rfl) ?_
        refine x_getI C w fM398 obM dX13_cuts_95 ?_
        refine lv_if_eq (tgt := 102) C.1 C.2.1 dX13_cuts_98 (by decide) (fun hc => ?_) (fun hc => ?_)
        · replace h := ift hc h
          refine lv_iconst (v := 0) C.1 C.2.1 dX13_cuts_102 (by decide) ?_
          refine lv_istore (lv' := [(4, .int (0 : Int32)), (3, .int v_9), (0, .ref (ρ 0)), (1, .int x1), (2, .int x2)]) C.1 C.2.1 dX13_cuts_103 hl (by decide) rfl (fun ls hl => ?_)
          exact w_cuts_105 C hr hk g _ _ _ _ _ _ _ w (lv_sub hl [2, 4, 1, 0] rfl) h
        · replace h := iff0 hc h
          obtain rfl := som h
          exact x_vret C w hr hk dX13_cuts_101
    · replace h := ift hc h
      refine lv_aload_n C.1 C.2.1 dX13_cuts_25 rfl (lv_at hl 0 rfl) ?_
      refine lv_iload_n C.1 C.2.1 dX13_cuts_26 rfl (lv_at hl 2 rfl) ?_
      refine lv_iconst (v := 1) C.1 C.2.1 dX13_cuts_27 (by decide) ?_
      refine lv_iadd C.1 C.2.1 dX13_cuts_28 ?_
      obtain ⟨v_10, hv_10, h⟩ := bnd h
      refine x_callVj (q := (RX13, TX13, 68)) (As := [.int (x2 + (1 : Int32))]) (rest := []) C w (k_value l D T ρ g H.size S hv_10) vM459 ⟨by decide, by decide⟩ obM (by decide) rfl rfl rfl hl.1 (Nat.le_of_ble_eq_true rfl) ⟨Nat.zero_le _, Nat.zero_le _⟩ dX13_cuts_29 (fun H locs w => ?_)
      refine lv_lstore_n (lv' := [(3, .long v_10), (0, .ref (ρ 0)), (1, .int x1), (2, .int x2)]) C.1 C.2.1 dX13_cuts_32 rfl hl (by decide) rfl (fun ls hl => ?_)
      refine lv_aload_n C.1 C.2.1 dX13_cuts_33 rfl (lv_at hl 1 rfl) ?_
      refine lv_lload_n C.1 C.2.1 dX13_cuts_34 rfl (lv_at hl 0 rfl) ?_
      refine lv_lconst (v := 0) C.1 C.2.1 dX13_cuts_35 (by decide) ?_
      refine lv_aload_n C.1 C.2.1 dX13_cuts_36 rfl (lv_at hl 1 rfl) ?_
      refine x_getI C w fM419 obM dX13_cuts_37 ?_
      refine lv_iconst (v := 1) C.1 C.2.1 dX13_cuts_40 (by decide) ?_
      refine lv_isub C.1 C.2.1 dX13_cuts_41 ?_
      refine lv_i2l C.1 C.2.1 dX13_cuts_42 rfl ?_
      obtain ⟨v_11, hv_11, h⟩ := bnd h
      refine x_callSi (As := [.long v_10, .long (0 : Int64), .long (((gI S 0 50) - (1 : Int32)).toInt64)]) (rest := [.ref (ρ 0)]) C w (k_isIn l D T ρ g H.size S hv_11) vM318 ⟨by decide, by decide⟩ rfl rfl hl.1 (Nat.le_of_ble_eq_true rfl) ⟨Nat.zero_le _, Nat.zero_le _⟩ dX13_cuts_43 (fun H locs w => ?_)
      refine lv_if_ne (tgt := 53) C.1 C.2.1 dX13_cuts_46 (by decide) (fun hc => ?_) (fun hc => ?_)
      · replace h := iff0 hc h
        refine lv_iconst (v := 0) C.1 C.2.1 dX13_cuts_53 (by decide) ?_
        exact w_cuts_54 C hr hk w (lv_sub hl [1, 3, 0] rfl) h
      · replace h := ift hc h
        refine lv_iconst (v := 1) C.1 C.2.1 dX13_cuts_49 (by decide) ?_
        refine lv_goto (tgt := 54) C.1 C.2.1 dX13_cuts_50 (by decide) ?_
        exact w_cuts_54 C hr hk w (lv_sub hl [1, 3, 0] rfl) h
  · replace h := ift hc h
    refine lv_aload_n C.1 C.2.1 dX13_cuts_6 rfl (lv_at hl 0 rfl) ?_
    refine lv_iload_n C.1 C.2.1 dX13_cuts_7 rfl (lv_at hl 2 rfl) ?_
    refine lv_aload_n C.1 C.2.1 dX13_cuts_8 rfl (lv_at hl 0 rfl) ?_
    refine x_getI C w fM419 obM dX13_cuts_9 ?_
    refine lv_i2l C.1 C.2.1 dX13_cuts_12 rfl ?_
    obtain ⟨S_12, hS_12, h⟩ := bnd h
    refine x_callVv (q := (RX13, TX13, 68)) (As := [.int x2, .long ((gI S 0 50).toInt64)]) (rest := []) C w (k_givesWhole l D T ρ g H.size S hS_12) vM567 ⟨by decide, by decide⟩ obM (by decide) rfl rfl rfl hl.1 (Nat.le_of_ble_eq_true rfl) ⟨Nat.zero_le _, Nat.zero_le _⟩ dX13_cuts_13 (fun H locs w => ?_)
    refine lv_goto (tgt := 244) C.1 C.2.1 dX13_cuts_16 (by decide) ?_
    obtain rfl := som h
    exact x_vret C w hr hk dX13_cuts_244
end S_cuts
set_option maxRecDepth 100000 in
theorem k_cuts (l : Launch) (D : va_G) (T : Cy) (ρ : Nat → Nat) (g sz : Nat) (S : St) {x1 : Int32} {x2 : Int32} {S' : St} (h : m_cuts g S x1 x2 = some S') : Mv l Ym D T ρ yX13_cuts cX13_cuts 5 none 3 68 S S' [.ref (ρ 0), .int x1, .int x2] sz :=
  x_in (by decide) (Nat.le_of_ble_eq_true rfl) (fun p e s m below meth c ls C hr hk w hl => w_cuts_0 C hr hk w hl h)
