theorem dX13_odd_0 : decode cX13_odd 0 = .ok (.iload_n 0, 1) := by decide +kernel
theorem dX13_odd_1 : decode cX13_odd 1 = .ok (.iconst 1, 1) := by decide +kernel
theorem dX13_odd_2 : decode cX13_odd 2 = .ok (.iand, 1) := by decide +kernel
theorem dX13_odd_3 : decode cX13_odd 3 = .ok (.iconst 1, 1) := by decide +kernel
theorem dX13_odd_4 : decode cX13_odd 4 = .ok (.if_icmp .ne 7, 3) := by decide +kernel
theorem dX13_odd_7 : decode cX13_odd 7 = .ok (.iconst 1, 1) := by decide +kernel
theorem dX13_odd_8 : decode cX13_odd 8 = .ok (.goto 4, 3) := by decide +kernel
theorem dX13_odd_11 : decode cX13_odd 11 = .ok (.iconst 0, 1) := by decide +kernel
theorem dX13_odd_12 : decode cX13_odd 12 = .ok (.ireturn, 1) := by decide +kernel
def m_odd (g : Nat) (x0 : Int32) : Option Int32 :=
if (x0 &&& (1 : Int32)) = (1 : Int32) then (
  some (1 : Int32)
) else (
  some (0 : Int32)
)
section S_odd
variable {p : Program} {l : Launch} {e : Env} {s : State} {m : MethodId} {args : Array Value} {below : List Frame} {meth : Method} {c : Code} {H : Heap} {locs : List Loc} {ls : Array Slot} {D : va_G} {T : Cy} {ρ : Nat → Nat} {A : Nat → Prop}
set_option maxRecDepth 100000 in
set_option maxHeartbeats 4000000 in
theorem w_odd_0  {g : Nat} {S : St} {x0 : Int32} (C : CallFix p m c cX13_odd 1 s args tb RX13) (hr : meth.sig.returnType = (some .boolean)) (hk : meth.locks = false) {r : Int32} (w : Wn Ym D T ρ S A s H locs) (hl : lv_has ls 1 [(0, .int x0)]) (h : m_odd g x0 = some r) : W p l e (rmN 0 0) s m args below meth c H locs 0 0 (MQ below (Qi Ym D T ρ A S r) args s 0 0 A) (F0 m 0 ls []) := by
  unfold m_odd at h
  refine lv_iload_n C.1 C.2.1 dX13_odd_0 rfl (lv_at hl 0 rfl) ?_
  refine lv_iconst (v := 1) C.1 C.2.1 dX13_odd_1 (by decide) ?_
  refine lv_iand C.1 C.2.1 dX13_odd_2 ?_
  refine lv_iconst (v := 1) C.1 C.2.1 dX13_odd_3 (by decide) ?_
  refine lv_icmp_ne (tgt := 11) C.1 C.2.1 dX13_odd_4 (by decide) (fun hc => ?_) (fun hc => ?_)
  · replace h := iff0 hc h
    refine lv_iconst (v := 0) C.1 C.2.1 dX13_odd_11 (by decide) ?_
    obtain rfl := som h
    exact x_zret C w hr hk (by decide) dX13_odd_12
  · replace h := ift hc h
    refine lv_iconst (v := 1) C.1 C.2.1 dX13_odd_7 (by decide) ?_
    refine lv_goto (tgt := 12) C.1 C.2.1 dX13_odd_8 (by decide) ?_
    obtain rfl := som h
    exact x_zret C w hr hk (by decide) dX13_odd_12
end S_odd
set_option maxRecDepth 100000 in
theorem k_odd (l : Launch) (D : va_G) (T : Cy) (ρ : Nat → Nat) (g sz : Nat) (S : St) {x0 : Int32} {r : Int32} (h : m_odd g x0 = some r) : Mi l Ym D T ρ yX13_odd cX13_odd 1 (some .boolean) 0 0 S S r [.int x0] sz :=
  x_in (by decide) (Nat.le_of_ble_eq_true rfl) (fun p e s m below meth c ls C hr hk w hl => w_odd_0 C hr hk w hl h)

theorem dX13_lower_0 : decode cX13_lower 0 = .ok (.iload_n 0, 1) := by decide +kernel
theorem dX13_lower_1 : decode cX13_lower 1 = .ok (.bipush 65, 2) := by decide +kernel
theorem dX13_lower_3 : decode cX13_lower 3 = .ok (.if_icmp .lt 9, 3) := by decide +kernel
theorem dX13_lower_6 : decode cX13_lower 6 = .ok (.iload_n 0, 1) := by decide +kernel
theorem dX13_lower_7 : decode cX13_lower 7 = .ok (.bipush 90, 2) := by decide +kernel
theorem dX13_lower_9 : decode cX13_lower 9 = .ok (.if_icmp .le 24, 3) := by decide +kernel
theorem dX13_lower_12 : decode cX13_lower 12 = .ok (.iload_n 0, 1) := by decide +kernel
theorem dX13_lower_13 : decode cX13_lower 13 = .ok (.sipush 192, 3) := by decide +kernel
theorem dX13_lower_16 : decode cX13_lower 16 = .ok (.if_icmp .lt 22, 3) := by decide +kernel
theorem dX13_lower_19 : decode cX13_lower 19 = .ok (.iload_n 0, 1) := by decide +kernel
theorem dX13_lower_20 : decode cX13_lower 20 = .ok (.sipush 222, 3) := by decide +kernel
theorem dX13_lower_23 : decode cX13_lower 23 = .ok (.if_icmp .gt 15, 3) := by decide +kernel
theorem dX13_lower_26 : decode cX13_lower 26 = .ok (.iload_n 0, 1) := by decide +kernel
theorem dX13_lower_27 : decode cX13_lower 27 = .ok (.sipush 215, 3) := by decide +kernel
theorem dX13_lower_30 : decode cX13_lower 30 = .ok (.if_icmp .eq 8, 3) := by decide +kernel
theorem dX13_lower_33 : decode cX13_lower 33 = .ok (.iload_n 0, 1) := by decide +kernel
theorem dX13_lower_34 : decode cX13_lower 34 = .ok (.bipush 32, 2) := by decide +kernel
theorem dX13_lower_36 : decode cX13_lower 36 = .ok (.iadd, 1) := by decide +kernel
theorem dX13_lower_37 : decode cX13_lower 37 = .ok (.ireturn, 1) := by decide +kernel
theorem dX13_lower_38 : decode cX13_lower 38 = .ok (.iload_n 0, 1) := by decide +kernel
theorem dX13_lower_39 : decode cX13_lower 39 = .ok (.sipush 256, 3) := by decide +kernel
theorem dX13_lower_42 : decode cX13_lower 42 = .ok (.if_icmp .lt 10, 3) := by decide +kernel
theorem dX13_lower_45 : decode cX13_lower 45 = .ok (.iload_n 0, 1) := by decide +kernel
theorem dX13_lower_46 : decode cX13_lower 46 = .ok (.sipush 302, 3) := by decide +kernel
theorem dX13_lower_49 : decode cX13_lower 49 = .ok (.if_icmp .le 31, 3) := by decide +kernel
theorem dX13_lower_52 : decode cX13_lower 52 = .ok (.iload_n 0, 1) := by decide +kernel
theorem dX13_lower_53 : decode cX13_lower 53 = .ok (.sipush 306, 3) := by decide +kernel
theorem dX13_lower_56 : decode cX13_lower 56 = .ok (.if_icmp .lt 10, 3) := by decide +kernel
theorem dX13_lower_59 : decode cX13_lower 59 = .ok (.iload_n 0, 1) := by decide +kernel
theorem dX13_lower_60 : decode cX13_lower 60 = .ok (.sipush 310, 3) := by decide +kernel
theorem dX13_lower_63 : decode cX13_lower 63 = .ok (.if_icmp .le 17, 3) := by decide +kernel
theorem dX13_lower_66 : decode cX13_lower 66 = .ok (.iload_n 0, 1) := by decide +kernel
theorem dX13_lower_67 : decode cX13_lower 67 = .ok (.sipush 330, 3) := by decide +kernel
theorem dX13_lower_70 : decode cX13_lower 70 = .ok (.if_icmp .lt 14, 3) := by decide +kernel
theorem dX13_lower_73 : decode cX13_lower 73 = .ok (.iload_n 0, 1) := by decide +kernel
theorem dX13_lower_74 : decode cX13_lower 74 = .ok (.sipush 374, 3) := by decide +kernel
theorem dX13_lower_77 : decode cX13_lower 77 = .ok (.if_icmp .gt 7, 3) := by decide +kernel
theorem dX13_lower_80 : decode cX13_lower 80 = .ok (.iconst 1, 1) := by decide +kernel
theorem dX13_lower_81 : decode cX13_lower 81 = .ok (.goto 4, 3) := by decide +kernel
theorem dX13_lower_84 : decode cX13_lower 84 = .ok (.iconst 0, 1) := by decide +kernel
theorem dX13_lower_85 : decode cX13_lower 85 = .ok (.istore_n 1, 1) := by decide +kernel
theorem dX13_lower_86 : decode cX13_lower 86 = .ok (.iload_n 0, 1) := by decide +kernel
theorem dX13_lower_87 : decode cX13_lower 87 = .ok (.sipush 313, 3) := by decide +kernel
theorem dX13_lower_90 : decode cX13_lower 90 = .ok (.if_icmp .lt 10, 3) := by decide +kernel
theorem dX13_lower_93 : decode cX13_lower 93 = .ok (.iload_n 0, 1) := by decide +kernel
theorem dX13_lower_94 : decode cX13_lower 94 = .ok (.sipush 327, 3) := by decide +kernel
theorem dX13_lower_97 : decode cX13_lower 97 = .ok (.if_icmp .le 17, 3) := by decide +kernel
theorem dX13_lower_100 : decode cX13_lower 100 = .ok (.iload_n 0, 1) := by decide +kernel
theorem dX13_lower_101 : decode cX13_lower 101 = .ok (.sipush 377, 3) := by decide +kernel
theorem dX13_lower_104 : decode cX13_lower 104 = .ok (.if_icmp .lt 14, 3) := by decide +kernel
theorem dX13_lower_107 : decode cX13_lower 107 = .ok (.iload_n 0, 1) := by decide +kernel
theorem dX13_lower_108 : decode cX13_lower 108 = .ok (.sipush 381, 3) := by decide +kernel
theorem dX13_lower_111 : decode cX13_lower 111 = .ok (.if_icmp .gt 7, 3) := by decide +kernel
theorem dX13_lower_114 : decode cX13_lower 114 = .ok (.iconst 1, 1) := by decide +kernel
theorem dX13_lower_115 : decode cX13_lower 115 = .ok (.goto 4, 3) := by decide +kernel
theorem dX13_lower_118 : decode cX13_lower 118 = .ok (.iconst 0, 1) := by decide +kernel
theorem dX13_lower_119 : decode cX13_lower 119 = .ok (.istore_n 2, 1) := by decide +kernel
theorem dX13_lower_120 : decode cX13_lower 120 = .ok (.iload_n 1, 1) := by decide +kernel
theorem dX13_lower_121 : decode cX13_lower 121 = .ok (.ifCond .eq 10, 3) := by decide +kernel
theorem dX13_lower_124 : decode cX13_lower 124 = .ok (.iload_n 0, 1) := by decide +kernel
theorem dX13_lower_125 : decode cX13_lower 125 = .ok (.invokestatic 495, 3) := by decide +kernel
theorem dX13_lower_128 : decode cX13_lower 128 = .ok (.ifCond .eq 14, 3) := by decide +kernel
theorem dX13_lower_131 : decode cX13_lower 131 = .ok (.iload_n 2, 1) := by decide +kernel
theorem dX13_lower_132 : decode cX13_lower 132 = .ok (.ifCond .eq 14, 3) := by decide +kernel
theorem dX13_lower_135 : decode cX13_lower 135 = .ok (.iload_n 0, 1) := by decide +kernel
theorem dX13_lower_136 : decode cX13_lower 136 = .ok (.invokestatic 495, 3) := by decide +kernel
theorem dX13_lower_139 : decode cX13_lower 139 = .ok (.ifCond .eq 7, 3) := by decide +kernel
theorem dX13_lower_142 : decode cX13_lower 142 = .ok (.iload_n 0, 1) := by decide +kernel
theorem dX13_lower_143 : decode cX13_lower 143 = .ok (.iconst 1, 1) := by decide +kernel
theorem dX13_lower_144 : decode cX13_lower 144 = .ok (.iadd, 1) := by decide +kernel
theorem dX13_lower_145 : decode cX13_lower 145 = .ok (.ireturn, 1) := by decide +kernel
theorem dX13_lower_146 : decode cX13_lower 146 = .ok (.iload_n 0, 1) := by decide +kernel
theorem dX13_lower_147 : decode cX13_lower 147 = .ok (.sipush 376, 3) := by decide +kernel
theorem dX13_lower_150 : decode cX13_lower 150 = .ok (.if_icmp .ne 9, 3) := by decide +kernel
theorem dX13_lower_153 : decode cX13_lower 153 = .ok (.sipush 255, 3) := by decide +kernel
theorem dX13_lower_156 : decode cX13_lower 156 = .ok (.goto 16, 3) := by decide +kernel
theorem dX13_lower_159 : decode cX13_lower 159 = .ok (.iload_n 0, 1) := by decide +kernel
theorem dX13_lower_160 : decode cX13_lower 160 = .ok (.sipush 304, 3) := by decide +kernel
theorem dX13_lower_163 : decode cX13_lower 163 = .ok (.if_icmp .ne 8, 3) := by decide +kernel
theorem dX13_lower_166 : decode cX13_lower 166 = .ok (.bipush 105, 2) := by decide +kernel
theorem dX13_lower_168 : decode cX13_lower 168 = .ok (.goto 4, 3) := by decide +kernel
theorem dX13_lower_171 : decode cX13_lower 171 = .ok (.iload_n 0, 1) := by decide +kernel
theorem dX13_lower_172 : decode cX13_lower 172 = .ok (.ireturn, 1) := by decide +kernel
def m_lower_146 (g : Nat) (x0 : Int32) : Option Int32 :=
if x0 = (376 : Int32) then (
  some (255 : Int32)
) else (
  if x0 = (304 : Int32) then (
    some (105 : Int32)
  ) else (
    some x0
  )
)
def m_lower_131 (g : Nat) (x0 : Int32) (x2 : Int32) : Option Int32 :=
if x2 = 0 then (
  m_lower_146 g x0
) else (
  (m_odd g x0).bind fun v_1 =>
  if v_1 = 0 then (
    m_lower_146 g x0
  ) else (
    some (x0 + (1 : Int32))
  )
)
def m_lower_119 (g : Nat) (x0 : Int32) (x1 : Int32) (y0 : Int32) : Option Int32 :=
if x1 = 0 then (
  m_lower_131 g x0 y0
) else (
  (m_odd g x0).bind fun v_1 =>
  if v_1 = 0 then (
    some (x0 + (1 : Int32))
  ) else (
    m_lower_131 g x0 y0
  )
)
def m_lower_118 (g : Nat) (x0 : Int32) (x1 : Int32) : Option Int32 :=
m_lower_119 g x0 x1 (0 : Int32)
def m_lower_114 (g : Nat) (x0 : Int32) (x1 : Int32) : Option Int32 :=
m_lower_119 g x0 x1 (1 : Int32)
def m_lower_100 (g : Nat) (x0 : Int32) (x1 : Int32) : Option Int32 :=
if x0 < (377 : Int32) then (
  m_lower_118 g x0 x1
) else (
  if (381 : Int32) < x0 then (
    m_lower_118 g x0 x1
  ) else (
    m_lower_114 g x0 x1
  )
)
def m_lower_85 (g : Nat) (x0 : Int32) (y0 : Int32) : Option Int32 :=
if x0 < (313 : Int32) then (
  m_lower_100 g x0 y0
) else (
  if x0 ≤ (327 : Int32) then (
    m_lower_114 g x0 y0
  ) else (
    m_lower_100 g x0 y0
  )
)
def m_lower_84 (g : Nat) (x0 : Int32) : Option Int32 :=
m_lower_85 g x0 (0 : Int32)
def m_lower_80 (g : Nat) (x0 : Int32) : Option Int32 :=
m_lower_85 g x0 (1 : Int32)
def m_lower_66 (g : Nat) (x0 : Int32) : Option Int32 :=
if x0 < (330 : Int32) then (
  m_lower_84 g x0
) else (
  if (374 : Int32) < x0 then (
    m_lower_84 g x0
  ) else (
    m_lower_80 g x0
  )
)
def m_lower_52 (g : Nat) (x0 : Int32) : Option Int32 :=
if x0 < (306 : Int32) then (
  m_lower_66 g x0
) else (
  if x0 ≤ (310 : Int32) then (
    m_lower_80 g x0
  ) else (
    m_lower_66 g x0
  )
)
def m_lower_38 (g : Nat) (x0 : Int32) : Option Int32 :=
if x0 < (256 : Int32) then (
  m_lower_52 g x0
) else (
  if x0 ≤ (302 : Int32) then (
    m_lower_80 g x0
  ) else (
    m_lower_52 g x0
  )
)
def m_lower_12 (g : Nat) (x0 : Int32) : Option Int32 :=
if x0 < (192 : Int32) then (
  m_lower_38 g x0
) else (
  if (222 : Int32) < x0 then (
    m_lower_38 g x0
  ) else (
    if x0 = (215 : Int32) then (
      m_lower_38 g x0
    ) else (
      some (x0 + (32 : Int32))
    )
  )
)
def m_lower (g : Nat) (x0 : Int32) : Option Int32 :=
if x0 < (65 : Int32) then (
  m_lower_12 g x0
) else (
  if x0 ≤ (90 : Int32) then (
    some (x0 + (32 : Int32))
  ) else (
    m_lower_12 g x0
  )
)
section S_lower
variable {p : Program} {l : Launch} {e : Env} {s : State} {m : MethodId} {args : Array Value} {below : List Frame} {meth : Method} {c : Code} {H : Heap} {locs : List Loc} {ls : Array Slot} {D : va_G} {T : Cy} {ρ : Nat → Nat} {A : Nat → Prop}
set_option maxRecDepth 100000 in
set_option maxHeartbeats 4000000 in
theorem w_lower_146  {g : Nat} {S : St} {x0 : Int32} (C : CallFix p m c cX13_lower 3 s args tb RX13) (hr : meth.sig.returnType = (some .int)) (hk : meth.locks = false) {r : Int32} (w : Wn Ym D T ρ S A s H locs) (hl : lv_has ls 3 [(0, .int x0)]) (h : m_lower_146 g x0 = some r) : W p l e (rmN 1 20) s m args below meth c H locs 0 0 (MQ below (Qi Ym D T ρ A S r) args s 0 0 A) (F0 m 146 ls []) := by
  unfold m_lower_146 at h
  refine lv_iload_n C.1 C.2.1 dX13_lower_146 rfl (lv_at hl 0 rfl) ?_
  refine lv_sipush (v := 376) C.1 C.2.1 dX13_lower_147 (by decide) ?_
  refine lv_icmp_ne (tgt := 159) C.1 C.2.1 dX13_lower_150 (by decide) (fun hc => ?_) (fun hc => ?_)
  · replace h := iff0 hc h
    refine lv_iload_n C.1 C.2.1 dX13_lower_159 rfl (lv_at hl 0 rfl) ?_
    refine lv_sipush (v := 304) C.1 C.2.1 dX13_lower_160 (by decide) ?_
    refine lv_icmp_ne (tgt := 171) C.1 C.2.1 dX13_lower_163 (by decide) (fun hc => ?_) (fun hc => ?_)
    · replace h := iff0 hc h
      refine lv_iload_n C.1 C.2.1 dX13_lower_171 rfl (lv_at hl 0 rfl) ?_
      obtain rfl := som h
      exact x_iret C w hr hk dX13_lower_172
    · replace h := ift hc h
      refine lv_bipush (v := 105) C.1 C.2.1 dX13_lower_166 (by decide) ?_
      refine lv_goto (tgt := 172) C.1 C.2.1 dX13_lower_168 (by decide) ?_
      obtain rfl := som h
      exact x_iret C w hr hk dX13_lower_172
  · replace h := ift hc h
    refine lv_sipush (v := 255) C.1 C.2.1 dX13_lower_153 (by decide) ?_
    refine lv_goto (tgt := 172) C.1 C.2.1 dX13_lower_156 (by decide) ?_
    obtain rfl := som h
    exact x_iret C w hr hk dX13_lower_172
set_option maxRecDepth 100000 in
set_option maxHeartbeats 4000000 in
theorem w_lower_131  {g : Nat} {S : St} {x0 : Int32} {x2 : Int32} (C : CallFix p m c cX13_lower 3 s args tb RX13) (hr : meth.sig.returnType = (some .int)) (hk : meth.locks = false) {r : Int32} (w : Wn Ym D T ρ S A s H locs) (hl : lv_has ls 3 [(0, .int x0), (2, .int x2)]) (h : m_lower_131 g x0 x2 = some r) : W p l e (rmN 1 20) s m args below meth c H locs 0 0 (MQ below (Qi Ym D T ρ A S r) args s 0 0 A) (F0 m 131 ls []) := by
  unfold m_lower_131 at h
  refine lv_iload_n C.1 C.2.1 dX13_lower_131 rfl (lv_at hl 1 rfl) ?_
  refine lv_if_eq (tgt := 146) C.1 C.2.1 dX13_lower_132 (by decide) (fun hc => ?_) (fun hc => ?_)
  · replace h := ift hc h
    exact w_lower_146 C hr hk w (lv_sub hl [0] rfl) h
  · replace h := iff0 hc h
    refine lv_iload_n C.1 C.2.1 dX13_lower_135 rfl (lv_at hl 0 rfl) ?_
    obtain ⟨v_1, hv_1, h⟩ := bnd h
    refine x_callSi (As := [.int x0]) (rest := []) C w (k_odd l D T ρ g H.size S hv_1) vM495 ⟨by decide, by decide⟩ rfl rfl hl.1 (Nat.le_of_ble_eq_true rfl) ⟨Nat.zero_le _, Nat.zero_le _⟩ dX13_lower_136 (fun H locs w => ?_)
    refine lv_if_eq (tgt := 146) C.1 C.2.1 dX13_lower_139 (by decide) (fun hc => ?_) (fun hc => ?_)
    · replace h := ift hc h
      exact w_lower_146 C hr hk w (lv_sub hl [0] rfl) h
    · replace h := iff0 hc h
      refine lv_iload_n C.1 C.2.1 dX13_lower_142 rfl (lv_at hl 0 rfl) ?_
      refine lv_iconst (v := 1) C.1 C.2.1 dX13_lower_143 (by decide) ?_
      refine lv_iadd C.1 C.2.1 dX13_lower_144 ?_
      obtain rfl := som h
      exact x_iret C w hr hk dX13_lower_145
set_option maxRecDepth 100000 in
set_option maxHeartbeats 4000000 in
theorem w_lower_119  {g : Nat} {S : St} {x0 : Int32} {x1 : Int32} {y0 : Int32} (C : CallFix p m c cX13_lower 3 s args tb RX13) (hr : meth.sig.returnType = (some .int)) (hk : meth.locks = false) {r : Int32} (w : Wn Ym D T ρ S A s H locs) (hl : lv_has ls 3 [(0, .int x0), (1, .int x1)]) (h : m_lower_119 g x0 x1 y0 = some r) : W p l e (rmN 1 20) s m args below meth c H locs 0 0 (MQ below (Qi Ym D T ρ A S r) args s 0 0 A) (F0 m 119 ls [.int y0]) := by
  unfold m_lower_119 at h
  refine lv_istore_n (lv' := [(2, .int y0), (0, .int x0), (1, .int x1)]) C.1 C.2.1 dX13_lower_119 rfl hl (by decide) rfl (fun ls hl => ?_)
  refine lv_iload_n C.1 C.2.1 dX13_lower_120 rfl (lv_at hl 2 rfl) ?_
  refine lv_if_eq (tgt := 131) C.1 C.2.1 dX13_lower_121 (by decide) (fun hc => ?_) (fun hc => ?_)
  · replace h := ift hc h
    exact w_lower_131 C hr hk w (lv_sub hl [1, 0] rfl) h
  · replace h := iff0 hc h
    refine lv_iload_n C.1 C.2.1 dX13_lower_124 rfl (lv_at hl 1 rfl) ?_
    obtain ⟨v_1, hv_1, h⟩ := bnd h
    refine x_callSi (As := [.int x0]) (rest := []) C w (k_odd l D T ρ g H.size S hv_1) vM495 ⟨by decide, by decide⟩ rfl rfl hl.1 (Nat.le_of_ble_eq_true rfl) ⟨Nat.zero_le _, Nat.zero_le _⟩ dX13_lower_125 (fun H locs w => ?_)
    refine lv_if_eq (tgt := 142) C.1 C.2.1 dX13_lower_128 (by decide) (fun hc => ?_) (fun hc => ?_)
    · replace h := ift hc h
      refine lv_iload_n C.1 C.2.1 dX13_lower_142 rfl (lv_at hl 1 rfl) ?_
      refine lv_iconst (v := 1) C.1 C.2.1 dX13_lower_143 (by decide) ?_
      refine lv_iadd C.1 C.2.1 dX13_lower_144 ?_
      obtain rfl := som h
      exact x_iret C w hr hk dX13_lower_145
    · replace h := iff0 hc h
      exact w_lower_131 C hr hk w (lv_sub hl [1, 0] rfl) h
set_option maxRecDepth 100000 in
set_option maxHeartbeats 4000000 in
theorem w_lower_118  {g : Nat} {S : St} {x0 : Int32} {x1 : Int32} (C : CallFix p m c cX13_lower 3 s args tb RX13) (hr : meth.sig.returnType = (some .int)) (hk : meth.locks = false) {r : Int32} (w : Wn Ym D T ρ S A s H locs) (hl : lv_has ls 3 [(0, .int x0), (1, .int x1)]) (h : m_lower_118 g x0 x1 = some r) : W p l e (rmN 1 20) s m args below meth c H locs 0 0 (MQ below (Qi Ym D T ρ A S r) args s 0 0 A) (F0 m 118 ls []) := by
  unfold m_lower_118 at h
  refine lv_iconst (v := 0) C.1 C.2.1 dX13_lower_118 (by decide) ?_
  exact w_lower_119 C hr hk w (lv_sub hl [0, 1] rfl) h
set_option maxRecDepth 100000 in
set_option maxHeartbeats 4000000 in
theorem w_lower_114  {g : Nat} {S : St} {x0 : Int32} {x1 : Int32} (C : CallFix p m c cX13_lower 3 s args tb RX13) (hr : meth.sig.returnType = (some .int)) (hk : meth.locks = false) {r : Int32} (w : Wn Ym D T ρ S A s H locs) (hl : lv_has ls 3 [(0, .int x0), (1, .int x1)]) (h : m_lower_114 g x0 x1 = some r) : W p l e (rmN 1 20) s m args below meth c H locs 0 0 (MQ below (Qi Ym D T ρ A S r) args s 0 0 A) (F0 m 114 ls []) := by
  unfold m_lower_114 at h
  refine lv_iconst (v := 1) C.1 C.2.1 dX13_lower_114 (by decide) ?_
  refine lv_goto (tgt := 119) C.1 C.2.1 dX13_lower_115 (by decide) ?_
  exact w_lower_119 C hr hk w (lv_sub hl [0, 1] rfl) h
set_option maxRecDepth 100000 in
set_option maxHeartbeats 4000000 in
theorem w_lower_100  {g : Nat} {S : St} {x0 : Int32} {x1 : Int32} (C : CallFix p m c cX13_lower 3 s args tb RX13) (hr : meth.sig.returnType = (some .int)) (hk : meth.locks = false) {r : Int32} (w : Wn Ym D T ρ S A s H locs) (hl : lv_has ls 3 [(0, .int x0), (1, .int x1)]) (h : m_lower_100 g x0 x1 = some r) : W p l e (rmN 1 20) s m args below meth c H locs 0 0 (MQ below (Qi Ym D T ρ A S r) args s 0 0 A) (F0 m 100 ls []) := by
  unfold m_lower_100 at h
  refine lv_iload_n C.1 C.2.1 dX13_lower_100 rfl (lv_at hl 0 rfl) ?_
  refine lv_sipush (v := 377) C.1 C.2.1 dX13_lower_101 (by decide) ?_
  refine lv_icmp_lt (tgt := 118) C.1 C.2.1 dX13_lower_104 (by decide) (fun hc => ?_) (fun hc => ?_)
  · replace h := ift hc h
    exact w_lower_118 C hr hk w (lv_sub hl [0, 1] rfl) h
  · replace h := iff0 hc h
    refine lv_iload_n C.1 C.2.1 dX13_lower_107 rfl (lv_at hl 0 rfl) ?_
    refine lv_sipush (v := 381) C.1 C.2.1 dX13_lower_108 (by decide) ?_
    refine lv_icmp_gt (tgt := 118) C.1 C.2.1 dX13_lower_111 (by decide) (fun hc => ?_) (fun hc => ?_)
    · replace h := ift hc h
      exact w_lower_118 C hr hk w (lv_sub hl [0, 1] rfl) h
    · replace h := iff0 hc h
      exact w_lower_114 C hr hk w (lv_sub hl [0, 1] rfl) h
set_option maxRecDepth 100000 in
set_option maxHeartbeats 4000000 in
theorem w_lower_85  {g : Nat} {S : St} {x0 : Int32} {y0 : Int32} (C : CallFix p m c cX13_lower 3 s args tb RX13) (hr : meth.sig.returnType = (some .int)) (hk : meth.locks = false) {r : Int32} (w : Wn Ym D T ρ S A s H locs) (hl : lv_has ls 3 [(0, .int x0)]) (h : m_lower_85 g x0 y0 = some r) : W p l e (rmN 1 20) s m args below meth c H locs 0 0 (MQ below (Qi Ym D T ρ A S r) args s 0 0 A) (F0 m 85 ls [.int y0]) := by
  unfold m_lower_85 at h
  refine lv_istore_n (lv' := [(1, .int y0), (0, .int x0)]) C.1 C.2.1 dX13_lower_85 rfl hl (by decide) rfl (fun ls hl => ?_)
  refine lv_iload_n C.1 C.2.1 dX13_lower_86 rfl (lv_at hl 1 rfl) ?_
  refine lv_sipush (v := 313) C.1 C.2.1 dX13_lower_87 (by decide) ?_
  refine lv_icmp_lt (tgt := 100) C.1 C.2.1 dX13_lower_90 (by decide) (fun hc => ?_) (fun hc => ?_)
  · replace h := ift hc h
    exact w_lower_100 C hr hk w (lv_sub hl [1, 0] rfl) h
  · replace h := iff0 hc h
    refine lv_iload_n C.1 C.2.1 dX13_lower_93 rfl (lv_at hl 1 rfl) ?_
    refine lv_sipush (v := 327) C.1 C.2.1 dX13_lower_94 (by decide) ?_
    refine lv_icmp_le (tgt := 114) C.1 C.2.1 dX13_lower_97 (by decide) (fun hc => ?_) (fun hc => ?_)
    · replace h := ift hc h
      exact w_lower_114 C hr hk w (lv_sub hl [1, 0] rfl) h
    · replace h := iff0 hc h
      exact w_lower_100 C hr hk w (lv_sub hl [1, 0] rfl) h
set_option maxRecDepth 100000 in
set_option maxHeartbeats 4000000 in
theorem w_lower_84  {g : Nat} {S : St} {x0 : Int32} (C : CallFix p m c cX13_lower 3 s args tb RX13) (hr : meth.sig.returnType = (some .int)) (hk : meth.locks = false) {r : Int32} (w : Wn Ym D T ρ S A s H locs) (hl : lv_has ls 3 [(0, .int x0)]) (h : m_lower_84 g x0 = some r) : W p l e (rmN 1 20) s m args below meth c H locs 0 0 (MQ below (Qi Ym D T ρ A S r) args s 0 0 A) (F0 m 84 ls []) := by
  unfold m_lower_84 at h
  refine lv_iconst (v := 0) C.1 C.2.1 dX13_lower_84 (by decide) ?_
  exact w_lower_85 C hr hk w (lv_sub hl [0] rfl) h
set_option maxRecDepth 100000 in
set_option maxHeartbeats 4000000 in
theorem w_lower_80  {g : Nat} {S : St} {x0 : Int32} (C : CallFix p m c cX13_lower 3 s args tb RX13) (hr : meth.sig.returnType = (some .int)) (hk : meth.locks = false) {r : Int32} (w : Wn Ym D T ρ S A s H locs) (hl : lv_has ls 3 [(0, .int x0)]) (h : m_lower_80 g x0 = some r) : W p l e (rmN 1 20) s m args below meth c H locs 0 0 (MQ below (Qi Ym D T ρ A S r) args s 0 0 A) (F0 m 80 ls []) := by
  unfold m_lower_80 at h
  refine lv_iconst (v := 1) C.1 C.2.1 dX13_lower_80 (by decide) ?_
  refine lv_goto (tgt := 85) C.1 C.2.1 dX13_lower_81 (by decide) ?_
  exact w_lower_85 C hr hk w (lv_sub hl [0] rfl) h
set_option maxRecDepth 100000 in
set_option maxHeartbeats 4000000 in
theorem w_lower_66  {g : Nat} {S : St} {x0 : Int32} (C : CallFix p m c cX13_lower 3 s args tb RX13) (hr : meth.sig.returnType = (some .int)) (hk : meth.locks = false) {r : Int32} (w : Wn Ym D T ρ S A s H locs) (hl : lv_has ls 3 [(0, .int x0)]) (h : m_lower_66 g x0 = some r) : W p l e (rmN 1 20) s m args below meth c H locs 0 0 (MQ below (Qi Ym D T ρ A S r) args s 0 0 A) (F0 m 66 ls []) := by
  unfold m_lower_66 at h
  refine lv_iload_n C.1 C.2.1 dX13_lower_66 rfl (lv_at hl 0 rfl) ?_
  refine lv_sipush (v := 330) C.1 C.2.1 dX13_lower_67 (by decide) ?_
  refine lv_icmp_lt (tgt := 84) C.1 C.2.1 dX13_lower_70 (by decide) (fun hc => ?_) (fun hc => ?_)
  · replace h := ift hc h
    exact w_lower_84 C hr hk w (lv_sub hl [0] rfl) h
  · replace h := iff0 hc h
    refine lv_iload_n C.1 C.2.1 dX13_lower_73 rfl (lv_at hl 0 rfl) ?_
    refine lv_sipush (v := 374) C.1 C.2.1 dX13_lower_74 (by decide) ?_
    refine lv_icmp_gt (tgt := 84) C.1 C.2.1 dX13_lower_77 (by decide) (fun hc => ?_) (fun hc => ?_)
    · replace h := ift hc h
      exact w_lower_84 C hr hk w (lv_sub hl [0] rfl) h
    · replace h := iff0 hc h
      exact w_lower_80 C hr hk w (lv_sub hl [0] rfl) h
set_option maxRecDepth 100000 in
set_option maxHeartbeats 4000000 in
theorem w_lower_52  {g : Nat} {S : St} {x0 : Int32} (C : CallFix p m c cX13_lower 3 s args tb RX13) (hr : meth.sig.returnType = (some .int)) (hk : meth.locks = false) {r : Int32} (w : Wn Ym D T ρ S A s H locs) (hl : lv_has ls 3 [(0, .int x0)]) (h : m_lower_52 g x0 = some r) : W p l e (rmN 1 20) s m args below meth c H locs 0 0 (MQ below (Qi Ym D T ρ A S r) args s 0 0 A) (F0 m 52 ls []) := by
  unfold m_lower_52 at h
  refine lv_iload_n C.1 C.2.1 dX13_lower_52 rfl (lv_at hl 0 rfl) ?_
  refine lv_sipush (v := 306) C.1 C.2.1 dX13_lower_53 (by decide) ?_
  refine lv_icmp_lt (tgt := 66) C.1 C.2.1 dX13_lower_56 (by decide) (fun hc => ?_) (fun hc => ?_)
  · replace h := ift hc h
    exact w_lower_66 C hr hk w (lv_sub hl [0] rfl) h
  · replace h := iff0 hc h
    refine lv_iload_n C.1 C.2.1 dX13_lower_59 rfl (lv_at hl 0 rfl) ?_
    refine lv_sipush (v := 310) C.1 C.2.1 dX13_lower_60 (by decide) ?_
    refine lv_icmp_le (tgt := 80) C.1 C.2.1 dX13_lower_63 (by decide) (fun hc => ?_) (fun hc => ?_)
    · replace h := ift hc h
      exact w_lower_80 C hr hk w (lv_sub hl [0] rfl) h
    · replace h := iff0 hc h
      exact w_lower_66 C hr hk w (lv_sub hl [0] rfl) h
set_option maxRecDepth 100000 in
set_option maxHeartbeats 4000000 in
theorem w_lower_38  {g : Nat} {S : St} {x0 : Int32} (C : CallFix p m c cX13_lower 3 s args tb RX13) (hr : meth.sig.returnType = (some .int)) (hk : meth.locks = false) {r : Int32} (w : Wn Ym D T ρ S A s H locs) (hl : lv_has ls 3 [(0, .int x0)]) (h : m_lower_38 g x0 = some r) : W p l e (rmN 1 20) s m args below meth c H locs 0 0 (MQ below (Qi Ym D T ρ A S r) args s 0 0 A) (F0 m 38 ls []) := by
  unfold m_lower_38 at h
  refine lv_iload_n C.1 C.2.1 dX13_lower_38 rfl (lv_at hl 0 rfl) ?_
  refine lv_sipush (v := 256) C.1 C.2.1 dX13_lower_39 (by decide) ?_
  refine lv_icmp_lt (tgt := 52) C.1 C.2.1 dX13_lower_42 (by decide) (fun hc => ?_) (fun hc => ?_)
  · replace h := ift hc h
    exact w_lower_52 C hr hk w (lv_sub hl [0] rfl) h
  · replace h := iff0 hc h
    refine lv_iload_n C.1 C.2.1 dX13_lower_45 rfl (lv_at hl 0 rfl) ?_
    refine lv_sipush (v := 302) C.1 C.2.1 dX13_lower_46 (by decide) ?_
    refine lv_icmp_le (tgt := 80) C.1 C.2.1 dX13_lower_49 (by decide) (fun hc => ?_) (fun hc => ?_)
    · replace h := ift hc h
      exact w_lower_80 C hr hk w (lv_sub hl [0] rfl) h
    · replace h := iff0 hc h
      exact w_lower_52 C hr hk w (lv_sub hl [0] rfl) h
set_option maxRecDepth 100000 in
set_option maxHeartbeats 4000000 in
theorem w_lower_12  {g : Nat} {S : St} {x0 : Int32} (C : CallFix p m c cX13_lower 3 s args tb RX13) (hr : meth.sig.returnType = (some .int)) (hk : meth.locks = false) {r : Int32} (w : Wn Ym D T ρ S A s H locs) (hl : lv_has ls 3 [(0, .int x0)]) (h : m_lower_12 g x0 = some r) : W p l e (rmN 1 20) s m args below meth c H locs 0 0 (MQ below (Qi Ym D T ρ A S r) args s 0 0 A) (F0 m 12 ls []) := by
  unfold m_lower_12 at h
  refine lv_iload_n C.1 C.2.1 dX13_lower_12 rfl (lv_at hl 0 rfl) ?_
  refine lv_sipush (v := 192) C.1 C.2.1 dX13_lower_13 (by decide) ?_
  refine lv_icmp_lt (tgt := 38) C.1 C.2.1 dX13_lower_16 (by decide) (fun hc => ?_) (fun hc => ?_)
  · replace h := ift hc h
    exact w_lower_38 C hr hk w (lv_sub hl [0] rfl) h
  · replace h := iff0 hc h
    refine lv_iload_n C.1 C.2.1 dX13_lower_19 rfl (lv_at hl 0 rfl) ?_
    refine lv_sipush (v := 222) C.1 C.2.1 dX13_lower_20 (by decide) ?_
    refine lv_icmp_gt (tgt := 38) C.1 C.2.1 dX13_lower_23 (by decide) (fun hc => ?_) (fun hc => ?_)
    · replace h := ift hc h
      exact w_lower_38 C hr hk w (lv_sub hl [0] rfl) h
    · replace h := iff0 hc h
      refine lv_iload_n C.1 C.2.1 dX13_lower_26 rfl (lv_at hl 0 rfl) ?_
      refine lv_sipush (v := 215) C.1 C.2.1 dX13_lower_27 (by decide) ?_
      refine lv_icmp_eq (tgt := 38) C.1 C.2.1 dX13_lower_30 (by decide) (fun hc => ?_) (fun hc => ?_)
      · replace h := ift hc h
        exact w_lower_38 C hr hk w (lv_sub hl [0] rfl) h
      · replace h := iff0 hc h
        refine lv_iload_n C.1 C.2.1 dX13_lower_33 rfl (lv_at hl 0 rfl) ?_
        refine lv_bipush (v := 32) C.1 C.2.1 dX13_lower_34 (by decide) ?_
        refine lv_iadd C.1 C.2.1 dX13_lower_36 ?_
        obtain rfl := som h
        exact x_iret C w hr hk dX13_lower_37
set_option maxRecDepth 100000 in
set_option maxHeartbeats 4000000 in
theorem w_lower_0  {g : Nat} {S : St} {x0 : Int32} (C : CallFix p m c cX13_lower 3 s args tb RX13) (hr : meth.sig.returnType = (some .int)) (hk : meth.locks = false) {r : Int32} (w : Wn Ym D T ρ S A s H locs) (hl : lv_has ls 3 [(0, .int x0)]) (h : m_lower g x0 = some r) : W p l e (rmN 1 20) s m args below meth c H locs 0 0 (MQ below (Qi Ym D T ρ A S r) args s 0 0 A) (F0 m 0 ls []) := by
  unfold m_lower at h
  refine lv_iload_n C.1 C.2.1 dX13_lower_0 rfl (lv_at hl 0 rfl) ?_
  refine lv_bipush (v := 65) C.1 C.2.1 dX13_lower_1 (by decide) ?_
  refine lv_icmp_lt (tgt := 12) C.1 C.2.1 dX13_lower_3 (by decide) (fun hc => ?_) (fun hc => ?_)
  · replace h := ift hc h
    exact w_lower_12 C hr hk w (lv_sub hl [0] rfl) h
  · replace h := iff0 hc h
    refine lv_iload_n C.1 C.2.1 dX13_lower_6 rfl (lv_at hl 0 rfl) ?_
    refine lv_bipush (v := 90) C.1 C.2.1 dX13_lower_7 (by decide) ?_
    refine lv_icmp_le (tgt := 33) C.1 C.2.1 dX13_lower_9 (by decide) (fun hc => ?_) (fun hc => ?_)
    · replace h := ift hc h
      refine lv_iload_n C.1 C.2.1 dX13_lower_33 rfl (lv_at hl 0 rfl) ?_
      refine lv_bipush (v := 32) C.1 C.2.1 dX13_lower_34 (by decide) ?_
      refine lv_iadd C.1 C.2.1 dX13_lower_36 ?_
      obtain rfl := som h
      exact x_iret C w hr hk dX13_lower_37
    · replace h := iff0 hc h
      exact w_lower_12 C hr hk w (lv_sub hl [0] rfl) h
end S_lower
set_option maxRecDepth 100000 in
theorem k_lower (l : Launch) (D : va_G) (T : Cy) (ρ : Nat → Nat) (g sz : Nat) (S : St) {x0 : Int32} {r : Int32} (h : m_lower g x0 = some r) : Mi l Ym D T ρ yX13_lower cX13_lower 3 (some .int) 1 20 S S r [.int x0] sz :=
  x_in (by decide) (Nat.le_of_ble_eq_true rfl) (fun p e s m below meth c ls C hr hk w hl => w_lower_0 C hr hk w hl h)

theorem dX13_upper_0 : decode cX13_upper 0 = .ok (.iload_n 0, 1) := by decide +kernel
theorem dX13_upper_1 : decode cX13_upper 1 = .ok (.bipush 97, 2) := by decide +kernel
theorem dX13_upper_3 : decode cX13_upper 3 = .ok (.if_icmp .lt 9, 3) := by decide +kernel
theorem dX13_upper_6 : decode cX13_upper 6 = .ok (.iload_n 0, 1) := by decide +kernel
theorem dX13_upper_7 : decode cX13_upper 7 = .ok (.bipush 122, 2) := by decide +kernel
theorem dX13_upper_9 : decode cX13_upper 9 = .ok (.if_icmp .le 24, 3) := by decide +kernel
theorem dX13_upper_12 : decode cX13_upper 12 = .ok (.iload_n 0, 1) := by decide +kernel
theorem dX13_upper_13 : decode cX13_upper 13 = .ok (.sipush 224, 3) := by decide +kernel
theorem dX13_upper_16 : decode cX13_upper 16 = .ok (.if_icmp .lt 22, 3) := by decide +kernel
theorem dX13_upper_19 : decode cX13_upper 19 = .ok (.iload_n 0, 1) := by decide +kernel
theorem dX13_upper_20 : decode cX13_upper 20 = .ok (.sipush 254, 3) := by decide +kernel
theorem dX13_upper_23 : decode cX13_upper 23 = .ok (.if_icmp .gt 15, 3) := by decide +kernel
theorem dX13_upper_26 : decode cX13_upper 26 = .ok (.iload_n 0, 1) := by decide +kernel
theorem dX13_upper_27 : decode cX13_upper 27 = .ok (.sipush 247, 3) := by decide +kernel
theorem dX13_upper_30 : decode cX13_upper 30 = .ok (.if_icmp .eq 8, 3) := by decide +kernel
theorem dX13_upper_33 : decode cX13_upper 33 = .ok (.iload_n 0, 1) := by decide +kernel
theorem dX13_upper_34 : decode cX13_upper 34 = .ok (.bipush 32, 2) := by decide +kernel
theorem dX13_upper_36 : decode cX13_upper 36 = .ok (.isub, 1) := by decide +kernel
theorem dX13_upper_37 : decode cX13_upper 37 = .ok (.ireturn, 1) := by decide +kernel
theorem dX13_upper_38 : decode cX13_upper 38 = .ok (.iload_n 0, 1) := by decide +kernel
theorem dX13_upper_39 : decode cX13_upper 39 = .ok (.sipush 257, 3) := by decide +kernel
theorem dX13_upper_42 : decode cX13_upper 42 = .ok (.if_icmp .lt 10, 3) := by decide +kernel
theorem dX13_upper_45 : decode cX13_upper 45 = .ok (.iload_n 0, 1) := by decide +kernel
theorem dX13_upper_46 : decode cX13_upper 46 = .ok (.sipush 303, 3) := by decide +kernel
theorem dX13_upper_49 : decode cX13_upper 49 = .ok (.if_icmp .le 31, 3) := by decide +kernel
theorem dX13_upper_52 : decode cX13_upper 52 = .ok (.iload_n 0, 1) := by decide +kernel
theorem dX13_upper_53 : decode cX13_upper 53 = .ok (.sipush 307, 3) := by decide +kernel
theorem dX13_upper_56 : decode cX13_upper 56 = .ok (.if_icmp .lt 10, 3) := by decide +kernel
theorem dX13_upper_59 : decode cX13_upper 59 = .ok (.iload_n 0, 1) := by decide +kernel
theorem dX13_upper_60 : decode cX13_upper 60 = .ok (.sipush 311, 3) := by decide +kernel
theorem dX13_upper_63 : decode cX13_upper 63 = .ok (.if_icmp .le 17, 3) := by decide +kernel
theorem dX13_upper_66 : decode cX13_upper 66 = .ok (.iload_n 0, 1) := by decide +kernel
theorem dX13_upper_67 : decode cX13_upper 67 = .ok (.sipush 331, 3) := by decide +kernel
theorem dX13_upper_70 : decode cX13_upper 70 = .ok (.if_icmp .lt 14, 3) := by decide +kernel
theorem dX13_upper_73 : decode cX13_upper 73 = .ok (.iload_n 0, 1) := by decide +kernel
theorem dX13_upper_74 : decode cX13_upper 74 = .ok (.sipush 375, 3) := by decide +kernel
theorem dX13_upper_77 : decode cX13_upper 77 = .ok (.if_icmp .gt 7, 3) := by decide +kernel
theorem dX13_upper_80 : decode cX13_upper 80 = .ok (.iconst 1, 1) := by decide +kernel
theorem dX13_upper_81 : decode cX13_upper 81 = .ok (.goto 4, 3) := by decide +kernel
theorem dX13_upper_84 : decode cX13_upper 84 = .ok (.iconst 0, 1) := by decide +kernel
theorem dX13_upper_85 : decode cX13_upper 85 = .ok (.istore_n 1, 1) := by decide +kernel
theorem dX13_upper_86 : decode cX13_upper 86 = .ok (.iload_n 0, 1) := by decide +kernel
theorem dX13_upper_87 : decode cX13_upper 87 = .ok (.sipush 314, 3) := by decide +kernel
theorem dX13_upper_90 : decode cX13_upper 90 = .ok (.if_icmp .lt 10, 3) := by decide +kernel
theorem dX13_upper_93 : decode cX13_upper 93 = .ok (.iload_n 0, 1) := by decide +kernel
theorem dX13_upper_94 : decode cX13_upper 94 = .ok (.sipush 328, 3) := by decide +kernel
theorem dX13_upper_97 : decode cX13_upper 97 = .ok (.if_icmp .le 17, 3) := by decide +kernel
theorem dX13_upper_100 : decode cX13_upper 100 = .ok (.iload_n 0, 1) := by decide +kernel
theorem dX13_upper_101 : decode cX13_upper 101 = .ok (.sipush 378, 3) := by decide +kernel
theorem dX13_upper_104 : decode cX13_upper 104 = .ok (.if_icmp .lt 14, 3) := by decide +kernel
theorem dX13_upper_107 : decode cX13_upper 107 = .ok (.iload_n 0, 1) := by decide +kernel
theorem dX13_upper_108 : decode cX13_upper 108 = .ok (.sipush 382, 3) := by decide +kernel
theorem dX13_upper_111 : decode cX13_upper 111 = .ok (.if_icmp .gt 7, 3) := by decide +kernel
theorem dX13_upper_114 : decode cX13_upper 114 = .ok (.iconst 1, 1) := by decide +kernel
theorem dX13_upper_115 : decode cX13_upper 115 = .ok (.goto 4, 3) := by decide +kernel
theorem dX13_upper_118 : decode cX13_upper 118 = .ok (.iconst 0, 1) := by decide +kernel
theorem dX13_upper_119 : decode cX13_upper 119 = .ok (.istore_n 2, 1) := by decide +kernel
theorem dX13_upper_120 : decode cX13_upper 120 = .ok (.iload_n 1, 1) := by decide +kernel
theorem dX13_upper_121 : decode cX13_upper 121 = .ok (.ifCond .eq 10, 3) := by decide +kernel
theorem dX13_upper_124 : decode cX13_upper 124 = .ok (.iload_n 0, 1) := by decide +kernel
theorem dX13_upper_125 : decode cX13_upper 125 = .ok (.invokestatic 495, 3) := by decide +kernel
theorem dX13_upper_128 : decode cX13_upper 128 = .ok (.ifCond .ne 14, 3) := by decide +kernel
theorem dX13_upper_131 : decode cX13_upper 131 = .ok (.iload_n 2, 1) := by decide +kernel
theorem dX13_upper_132 : decode cX13_upper 132 = .ok (.ifCond .eq 14, 3) := by decide +kernel
theorem dX13_upper_135 : decode cX13_upper 135 = .ok (.iload_n 0, 1) := by decide +kernel
theorem dX13_upper_136 : decode cX13_upper 136 = .ok (.invokestatic 495, 3) := by decide +kernel
theorem dX13_upper_139 : decode cX13_upper 139 = .ok (.ifCond .ne 7, 3) := by decide +kernel
theorem dX13_upper_142 : decode cX13_upper 142 = .ok (.iload_n 0, 1) := by decide +kernel
theorem dX13_upper_143 : decode cX13_upper 143 = .ok (.iconst 1, 1) := by decide +kernel
theorem dX13_upper_144 : decode cX13_upper 144 = .ok (.isub, 1) := by decide +kernel
theorem dX13_upper_145 : decode cX13_upper 145 = .ok (.ireturn, 1) := by decide +kernel
theorem dX13_upper_146 : decode cX13_upper 146 = .ok (.iload_n 0, 1) := by decide +kernel
theorem dX13_upper_147 : decode cX13_upper 147 = .ok (.sipush 255, 3) := by decide +kernel
theorem dX13_upper_150 : decode cX13_upper 150 = .ok (.if_icmp .ne 9, 3) := by decide +kernel
theorem dX13_upper_153 : decode cX13_upper 153 = .ok (.sipush 376, 3) := by decide +kernel
theorem dX13_upper_156 : decode cX13_upper 156 = .ok (.goto 41, 3) := by decide +kernel
theorem dX13_upper_159 : decode cX13_upper 159 = .ok (.iload_n 0, 1) := by decide +kernel
theorem dX13_upper_160 : decode cX13_upper 160 = .ok (.sipush 181, 3) := by decide +kernel
theorem dX13_upper_163 : decode cX13_upper 163 = .ok (.if_icmp .ne 9, 3) := by decide +kernel
theorem dX13_upper_166 : decode cX13_upper 166 = .ok (.sipush 924, 3) := by decide +kernel
theorem dX13_upper_169 : decode cX13_upper 169 = .ok (.goto 28, 3) := by decide +kernel
theorem dX13_upper_172 : decode cX13_upper 172 = .ok (.iload_n 0, 1) := by decide +kernel
theorem dX13_upper_173 : decode cX13_upper 173 = .ok (.sipush 305, 3) := by decide +kernel
theorem dX13_upper_176 : decode cX13_upper 176 = .ok (.if_icmp .ne 8, 3) := by decide +kernel
theorem dX13_upper_179 : decode cX13_upper 179 = .ok (.bipush 73, 2) := by decide +kernel
theorem dX13_upper_181 : decode cX13_upper 181 = .ok (.goto 16, 3) := by decide +kernel
theorem dX13_upper_184 : decode cX13_upper 184 = .ok (.iload_n 0, 1) := by decide +kernel
theorem dX13_upper_185 : decode cX13_upper 185 = .ok (.sipush 383, 3) := by decide +kernel
theorem dX13_upper_188 : decode cX13_upper 188 = .ok (.if_icmp .ne 8, 3) := by decide +kernel
theorem dX13_upper_191 : decode cX13_upper 191 = .ok (.bipush 83, 2) := by decide +kernel
theorem dX13_upper_193 : decode cX13_upper 193 = .ok (.goto 4, 3) := by decide +kernel
theorem dX13_upper_196 : decode cX13_upper 196 = .ok (.iload_n 0, 1) := by decide +kernel
theorem dX13_upper_197 : decode cX13_upper 197 = .ok (.ireturn, 1) := by decide +kernel
def m_upper_146 (g : Nat) (x0 : Int32) : Option Int32 :=
if x0 = (255 : Int32) then (
  some (376 : Int32)
) else (
  if x0 = (181 : Int32) then (
    some (924 : Int32)
  ) else (
    if x0 = (305 : Int32) then (
      some (73 : Int32)
    ) else (
      if x0 = (383 : Int32) then (
        some (83 : Int32)
      ) else (
        some x0
      )
    )
  )
)
def m_upper_131 (g : Nat) (x0 : Int32) (x2 : Int32) : Option Int32 :=
if x2 = 0 then (
  m_upper_146 g x0
) else (
  (m_odd g x0).bind fun v_1 =>
  if v_1 = 0 then (
    some (x0 - (1 : Int32))
  ) else (
    m_upper_146 g x0
  )
)
def m_upper_119 (g : Nat) (x0 : Int32) (x1 : Int32) (y0 : Int32) : Option Int32 :=
if x1 = 0 then (
  m_upper_131 g x0 y0
) else (
  (m_odd g x0).bind fun v_1 =>
  if v_1 = 0 then (
    m_upper_131 g x0 y0
  ) else (
    some (x0 - (1 : Int32))
  )
)
def m_upper_118 (g : Nat) (x0 : Int32) (x1 : Int32) : Option Int32 :=
m_upper_119 g x0 x1 (0 : Int32)
def m_upper_114 (g : Nat) (x0 : Int32) (x1 : Int32) : Option Int32 :=
m_upper_119 g x0 x1 (1 : Int32)
def m_upper_100 (g : Nat) (x0 : Int32) (x1 : Int32) : Option Int32 :=
if x0 < (378 : Int32) then (
  m_upper_118 g x0 x1
) else (
  if (382 : Int32) < x0 then (
    m_upper_118 g x0 x1
  ) else (
    m_upper_114 g x0 x1
  )
)
def m_upper_85 (g : Nat) (x0 : Int32) (y0 : Int32) : Option Int32 :=
if x0 < (314 : Int32) then (
  m_upper_100 g x0 y0
) else (
  if x0 ≤ (328 : Int32) then (
    m_upper_114 g x0 y0
  ) else (
    m_upper_100 g x0 y0
  )
)
def m_upper_84 (g : Nat) (x0 : Int32) : Option Int32 :=
m_upper_85 g x0 (0 : Int32)
def m_upper_80 (g : Nat) (x0 : Int32) : Option Int32 :=
m_upper_85 g x0 (1 : Int32)
def m_upper_66 (g : Nat) (x0 : Int32) : Option Int32 :=
if x0 < (331 : Int32) then (
  m_upper_84 g x0
) else (
  if (375 : Int32) < x0 then (
    m_upper_84 g x0
  ) else (
    m_upper_80 g x0
  )
)
def m_upper_52 (g : Nat) (x0 : Int32) : Option Int32 :=
if x0 < (307 : Int32) then (
  m_upper_66 g x0
) else (
  if x0 ≤ (311 : Int32) then (
    m_upper_80 g x0
  ) else (
    m_upper_66 g x0
  )
)
def m_upper_38 (g : Nat) (x0 : Int32) : Option Int32 :=
if x0 < (257 : Int32) then (
  m_upper_52 g x0
) else (
  if x0 ≤ (303 : Int32) then (
    m_upper_80 g x0
  ) else (
    m_upper_52 g x0
  )
)
def m_upper_12 (g : Nat) (x0 : Int32) : Option Int32 :=
if x0 < (224 : Int32) then (
  m_upper_38 g x0
) else (
  if (254 : Int32) < x0 then (
    m_upper_38 g x0
  ) else (
    if x0 = (247 : Int32) then (
      m_upper_38 g x0
    ) else (
      some (x0 - (32 : Int32))
    )
  )
)
def m_upper (g : Nat) (x0 : Int32) : Option Int32 :=
if x0 < (97 : Int32) then (
  m_upper_12 g x0
) else (
  if x0 ≤ (122 : Int32) then (
    some (x0 - (32 : Int32))
  ) else (
    m_upper_12 g x0
  )
)
section S_upper
variable {p : Program} {l : Launch} {e : Env} {s : State} {m : MethodId} {args : Array Value} {below : List Frame} {meth : Method} {c : Code} {H : Heap} {locs : List Loc} {ls : Array Slot} {D : va_G} {T : Cy} {ρ : Nat → Nat} {A : Nat → Prop}
set_option maxRecDepth 100000 in
set_option maxHeartbeats 4000000 in
theorem w_upper_146  {g : Nat} {S : St} {x0 : Int32} (C : CallFix p m c cX13_upper 3 s args tb RX13) (hr : meth.sig.returnType = (some .int)) (hk : meth.locks = false) {r : Int32} (w : Wn Ym D T ρ S A s H locs) (hl : lv_has ls 3 [(0, .int x0)]) (h : m_upper_146 g x0 = some r) : W p l e (rmN 1 20) s m args below meth c H locs 0 0 (MQ below (Qi Ym D T ρ A S r) args s 0 0 A) (F0 m 146 ls []) := by
  unfold m_upper_146 at h
  refine lv_iload_n C.1 C.2.1 dX13_upper_146 rfl (lv_at hl 0 rfl) ?_
  refine lv_sipush (v := 255) C.1 C.2.1 dX13_upper_147 (by decide) ?_
  refine lv_icmp_ne (tgt := 159) C.1 C.2.1 dX13_upper_150 (by decide) (fun hc => ?_) (fun hc => ?_)
  · replace h := iff0 hc h
    refine lv_iload_n C.1 C.2.1 dX13_upper_159 rfl (lv_at hl 0 rfl) ?_
    refine lv_sipush (v := 181) C.1 C.2.1 dX13_upper_160 (by decide) ?_
    refine lv_icmp_ne (tgt := 172) C.1 C.2.1 dX13_upper_163 (by decide) (fun hc => ?_) (fun hc => ?_)
    · replace h := iff0 hc h
      refine lv_iload_n C.1 C.2.1 dX13_upper_172 rfl (lv_at hl 0 rfl) ?_
      refine lv_sipush (v := 305) C.1 C.2.1 dX13_upper_173 (by decide) ?_
      refine lv_icmp_ne (tgt := 184) C.1 C.2.1 dX13_upper_176 (by decide) (fun hc => ?_) (fun hc => ?_)
      · replace h := iff0 hc h
        refine lv_iload_n C.1 C.2.1 dX13_upper_184 rfl (lv_at hl 0 rfl) ?_
        refine lv_sipush (v := 383) C.1 C.2.1 dX13_upper_185 (by decide) ?_
        refine lv_icmp_ne (tgt := 196) C.1 C.2.1 dX13_upper_188 (by decide) (fun hc => ?_) (fun hc => ?_)
        · replace h := iff0 hc h
          refine lv_iload_n C.1 C.2.1 dX13_upper_196 rfl (lv_at hl 0 rfl) ?_
          obtain rfl := som h
          exact x_iret C w hr hk dX13_upper_197
        · replace h := ift hc h
          refine lv_bipush (v := 83) C.1 C.2.1 dX13_upper_191 (by decide) ?_
          refine lv_goto (tgt := 197) C.1 C.2.1 dX13_upper_193 (by decide) ?_
          obtain rfl := som h
          exact x_iret C w hr hk dX13_upper_197
      · replace h := ift hc h
        refine lv_bipush (v := 73) C.1 C.2.1 dX13_upper_179 (by decide) ?_
        refine lv_goto (tgt := 197) C.1 C.2.1 dX13_upper_181 (by decide) ?_
        obtain rfl := som h
        exact x_iret C w hr hk dX13_upper_197
    · replace h := ift hc h
      refine lv_sipush (v := 924) C.1 C.2.1 dX13_upper_166 (by decide) ?_
      refine lv_goto (tgt := 197) C.1 C.2.1 dX13_upper_169 (by decide) ?_
      obtain rfl := som h
      exact x_iret C w hr hk dX13_upper_197
  · replace h := ift hc h
    refine lv_sipush (v := 376) C.1 C.2.1 dX13_upper_153 (by decide) ?_
    refine lv_goto (tgt := 197) C.1 C.2.1 dX13_upper_156 (by decide) ?_
    obtain rfl := som h
    exact x_iret C w hr hk dX13_upper_197
set_option maxRecDepth 100000 in
set_option maxHeartbeats 4000000 in
theorem w_upper_131  {g : Nat} {S : St} {x0 : Int32} {x2 : Int32} (C : CallFix p m c cX13_upper 3 s args tb RX13) (hr : meth.sig.returnType = (some .int)) (hk : meth.locks = false) {r : Int32} (w : Wn Ym D T ρ S A s H locs) (hl : lv_has ls 3 [(0, .int x0), (2, .int x2)]) (h : m_upper_131 g x0 x2 = some r) : W p l e (rmN 1 20) s m args below meth c H locs 0 0 (MQ below (Qi Ym D T ρ A S r) args s 0 0 A) (F0 m 131 ls []) := by
  unfold m_upper_131 at h
  refine lv_iload_n C.1 C.2.1 dX13_upper_131 rfl (lv_at hl 1 rfl) ?_
  refine lv_if_eq (tgt := 146) C.1 C.2.1 dX13_upper_132 (by decide) (fun hc => ?_) (fun hc => ?_)
  · replace h := ift hc h
    exact w_upper_146 C hr hk w (lv_sub hl [0] rfl) h
  · replace h := iff0 hc h
    refine lv_iload_n C.1 C.2.1 dX13_upper_135 rfl (lv_at hl 0 rfl) ?_
    obtain ⟨v_1, hv_1, h⟩ := bnd h
    refine x_callSi (As := [.int x0]) (rest := []) C w (k_odd l D T ρ g H.size S hv_1) vM495 ⟨by decide, by decide⟩ rfl rfl hl.1 (Nat.le_of_ble_eq_true rfl) ⟨Nat.zero_le _, Nat.zero_le _⟩ dX13_upper_136 (fun H locs w => ?_)
    refine lv_if_ne (tgt := 146) C.1 C.2.1 dX13_upper_139 (by decide) (fun hc => ?_) (fun hc => ?_)
    · replace h := iff0 hc h
      exact w_upper_146 C hr hk w (lv_sub hl [0] rfl) h
    · replace h := ift hc h
      refine lv_iload_n C.1 C.2.1 dX13_upper_142 rfl (lv_at hl 0 rfl) ?_
      refine lv_iconst (v := 1) C.1 C.2.1 dX13_upper_143 (by decide) ?_
      refine lv_isub C.1 C.2.1 dX13_upper_144 ?_
      obtain rfl := som h
      exact x_iret C w hr hk dX13_upper_145
set_option maxRecDepth 100000 in
set_option maxHeartbeats 4000000 in
theorem w_upper_119  {g : Nat} {S : St} {x0 : Int32} {x1 : Int32} {y0 : Int32} (C : CallFix p m c cX13_upper 3 s args tb RX13) (hr : meth.sig.returnType = (some .int)) (hk : meth.locks = false) {r : Int32} (w : Wn Ym D T ρ S A s H locs) (hl : lv_has ls 3 [(0, .int x0), (1, .int x1)]) (h : m_upper_119 g x0 x1 y0 = some r) : W p l e (rmN 1 20) s m args below meth c H locs 0 0 (MQ below (Qi Ym D T ρ A S r) args s 0 0 A) (F0 m 119 ls [.int y0]) := by
  unfold m_upper_119 at h
  refine lv_istore_n (lv' := [(2, .int y0), (0, .int x0), (1, .int x1)]) C.1 C.2.1 dX13_upper_119 rfl hl (by decide) rfl (fun ls hl => ?_)
  refine lv_iload_n C.1 C.2.1 dX13_upper_120 rfl (lv_at hl 2 rfl) ?_
  refine lv_if_eq (tgt := 131) C.1 C.2.1 dX13_upper_121 (by decide) (fun hc => ?_) (fun hc => ?_)
  · replace h := ift hc h
    exact w_upper_131 C hr hk w (lv_sub hl [1, 0] rfl) h
  · replace h := iff0 hc h
    refine lv_iload_n C.1 C.2.1 dX13_upper_124 rfl (lv_at hl 1 rfl) ?_
    obtain ⟨v_1, hv_1, h⟩ := bnd h
    refine x_callSi (As := [.int x0]) (rest := []) C w (k_odd l D T ρ g H.size S hv_1) vM495 ⟨by decide, by decide⟩ rfl rfl hl.1 (Nat.le_of_ble_eq_true rfl) ⟨Nat.zero_le _, Nat.zero_le _⟩ dX13_upper_125 (fun H locs w => ?_)
    refine lv_if_ne (tgt := 142) C.1 C.2.1 dX13_upper_128 (by decide) (fun hc => ?_) (fun hc => ?_)
    · replace h := iff0 hc h
      refine lv_iload_n C.1 C.2.1 dX13_upper_142 rfl (lv_at hl 1 rfl) ?_
      refine lv_iconst (v := 1) C.1 C.2.1 dX13_upper_143 (by decide) ?_
      refine lv_isub C.1 C.2.1 dX13_upper_144 ?_
      obtain rfl := som h
      exact x_iret C w hr hk dX13_upper_145
    · replace h := ift hc h
      exact w_upper_131 C hr hk w (lv_sub hl [1, 0] rfl) h
set_option maxRecDepth 100000 in
set_option maxHeartbeats 4000000 in
theorem w_upper_118  {g : Nat} {S : St} {x0 : Int32} {x1 : Int32} (C : CallFix p m c cX13_upper 3 s args tb RX13) (hr : meth.sig.returnType = (some .int)) (hk : meth.locks = false) {r : Int32} (w : Wn Ym D T ρ S A s H locs) (hl : lv_has ls 3 [(0, .int x0), (1, .int x1)]) (h : m_upper_118 g x0 x1 = some r) : W p l e (rmN 1 20) s m args below meth c H locs 0 0 (MQ below (Qi Ym D T ρ A S r) args s 0 0 A) (F0 m 118 ls []) := by
  unfold m_upper_118 at h
  refine lv_iconst (v := 0) C.1 C.2.1 dX13_upper_118 (by decide) ?_
  exact w_upper_119 C hr hk w (lv_sub hl [0, 1] rfl) h
set_option maxRecDepth 100000 in
set_option maxHeartbeats 4000000 in
theorem w_upper_114  {g : Nat} {S : St} {x0 : Int32} {x1 : Int32} (C : CallFix p m c cX13_upper 3 s args tb RX13) (hr : meth.sig.returnType = (some .int)) (hk : meth.locks = false) {r : Int32} (w : Wn Ym D T ρ S A s H locs) (hl : lv_has ls 3 [(0, .int x0), (1, .int x1)]) (h : m_upper_114 g x0 x1 = some r) : W p l e (rmN 1 20) s m args below meth c H locs 0 0 (MQ below (Qi Ym D T ρ A S r) args s 0 0 A) (F0 m 114 ls []) := by
  unfold m_upper_114 at h
  refine lv_iconst (v := 1) C.1 C.2.1 dX13_upper_114 (by decide) ?_
  refine lv_goto (tgt := 119) C.1 C.2.1 dX13_upper_115 (by decide) ?_
  exact w_upper_119 C hr hk w (lv_sub hl [0, 1] rfl) h
set_option maxRecDepth 100000 in
set_option maxHeartbeats 4000000 in
theorem w_upper_100  {g : Nat} {S : St} {x0 : Int32} {x1 : Int32} (C : CallFix p m c cX13_upper 3 s args tb RX13) (hr : meth.sig.returnType = (some .int)) (hk : meth.locks = false) {r : Int32} (w : Wn Ym D T ρ S A s H locs) (hl : lv_has ls 3 [(0, .int x0), (1, .int x1)]) (h : m_upper_100 g x0 x1 = some r) : W p l e (rmN 1 20) s m args below meth c H locs 0 0 (MQ below (Qi Ym D T ρ A S r) args s 0 0 A) (F0 m 100 ls []) := by
  unfold m_upper_100 at h
  refine lv_iload_n C.1 C.2.1 dX13_upper_100 rfl (lv_at hl 0 rfl) ?_
  refine lv_sipush (v := 378) C.1 C.2.1 dX13_upper_101 (by decide) ?_
  refine lv_icmp_lt (tgt := 118) C.1 C.2.1 dX13_upper_104 (by decide) (fun hc => ?_) (fun hc => ?_)
  · replace h := ift hc h
    exact w_upper_118 C hr hk w (lv_sub hl [0, 1] rfl) h
  · replace h := iff0 hc h
    refine lv_iload_n C.1 C.2.1 dX13_upper_107 rfl (lv_at hl 0 rfl) ?_
    refine lv_sipush (v := 382) C.1 C.2.1 dX13_upper_108 (by decide) ?_
    refine lv_icmp_gt (tgt := 118) C.1 C.2.1 dX13_upper_111 (by decide) (fun hc => ?_) (fun hc => ?_)
    · replace h := ift hc h
      exact w_upper_118 C hr hk w (lv_sub hl [0, 1] rfl) h
    · replace h := iff0 hc h
      exact w_upper_114 C hr hk w (lv_sub hl [0, 1] rfl) h
set_option maxRecDepth 100000 in
set_option maxHeartbeats 4000000 in
theorem w_upper_85  {g : Nat} {S : St} {x0 : Int32} {y0 : Int32} (C : CallFix p m c cX13_upper 3 s args tb RX13) (hr : meth.sig.returnType = (some .int)) (hk : meth.locks = false) {r : Int32} (w : Wn Ym D T ρ S A s H locs) (hl : lv_has ls 3 [(0, .int x0)]) (h : m_upper_85 g x0 y0 = some r) : W p l e (rmN 1 20) s m args below meth c H locs 0 0 (MQ below (Qi Ym D T ρ A S r) args s 0 0 A) (F0 m 85 ls [.int y0]) := by
  unfold m_upper_85 at h
  refine lv_istore_n (lv' := [(1, .int y0), (0, .int x0)]) C.1 C.2.1 dX13_upper_85 rfl hl (by decide) rfl (fun ls hl => ?_)
  refine lv_iload_n C.1 C.2.1 dX13_upper_86 rfl (lv_at hl 1 rfl) ?_
  refine lv_sipush (v := 314) C.1 C.2.1 dX13_upper_87 (by decide) ?_
  refine lv_icmp_lt (tgt := 100) C.1 C.2.1 dX13_upper_90 (by decide) (fun hc => ?_) (fun hc => ?_)
  · replace h := ift hc h
    exact w_upper_100 C hr hk w (lv_sub hl [1, 0] rfl) h
  · replace h := iff0 hc h
    refine lv_iload_n C.1 C.2.1 dX13_upper_93 rfl (lv_at hl 1 rfl) ?_
    refine lv_sipush (v := 328) C.1 C.2.1 dX13_upper_94 (by decide) ?_
    refine lv_icmp_le (tgt := 114) C.1 C.2.1 dX13_upper_97 (by decide) (fun hc => ?_) (fun hc => ?_)
    · replace h := ift hc h
      exact w_upper_114 C hr hk w (lv_sub hl [1, 0] rfl) h
    · replace h := iff0 hc h
      exact w_upper_100 C hr hk w (lv_sub hl [1, 0] rfl) h
set_option maxRecDepth 100000 in
set_option maxHeartbeats 4000000 in
theorem w_upper_84  {g : Nat} {S : St} {x0 : Int32} (C : CallFix p m c cX13_upper 3 s args tb RX13) (hr : meth.sig.returnType = (some .int)) (hk : meth.locks = false) {r : Int32} (w : Wn Ym D T ρ S A s H locs) (hl : lv_has ls 3 [(0, .int x0)]) (h : m_upper_84 g x0 = some r) : W p l e (rmN 1 20) s m args below meth c H locs 0 0 (MQ below (Qi Ym D T ρ A S r) args s 0 0 A) (F0 m 84 ls []) := by
  unfold m_upper_84 at h
  refine lv_iconst (v := 0) C.1 C.2.1 dX13_upper_84 (by decide) ?_
  exact w_upper_85 C hr hk w (lv_sub hl [0] rfl) h
set_option maxRecDepth 100000 in
set_option maxHeartbeats 4000000 in
theorem w_upper_80  {g : Nat} {S : St} {x0 : Int32} (C : CallFix p m c cX13_upper 3 s args tb RX13) (hr : meth.sig.returnType = (some .int)) (hk : meth.locks = false) {r : Int32} (w : Wn Ym D T ρ S A s H locs) (hl : lv_has ls 3 [(0, .int x0)]) (h : m_upper_80 g x0 = some r) : W p l e (rmN 1 20) s m args below meth c H locs 0 0 (MQ below (Qi Ym D T ρ A S r) args s 0 0 A) (F0 m 80 ls []) := by
  unfold m_upper_80 at h
  refine lv_iconst (v := 1) C.1 C.2.1 dX13_upper_80 (by decide) ?_
  refine lv_goto (tgt := 85) C.1 C.2.1 dX13_upper_81 (by decide) ?_
  exact w_upper_85 C hr hk w (lv_sub hl [0] rfl) h
set_option maxRecDepth 100000 in
set_option maxHeartbeats 4000000 in
theorem w_upper_66  {g : Nat} {S : St} {x0 : Int32} (C : CallFix p m c cX13_upper 3 s args tb RX13) (hr : meth.sig.returnType = (some .int)) (hk : meth.locks = false) {r : Int32} (w : Wn Ym D T ρ S A s H locs) (hl : lv_has ls 3 [(0, .int x0)]) (h : m_upper_66 g x0 = some r) : W p l e (rmN 1 20) s m args below meth c H locs 0 0 (MQ below (Qi Ym D T ρ A S r) args s 0 0 A) (F0 m 66 ls []) := by
  unfold m_upper_66 at h
  refine lv_iload_n C.1 C.2.1 dX13_upper_66 rfl (lv_at hl 0 rfl) ?_
  refine lv_sipush (v := 331) C.1 C.2.1 dX13_upper_67 (by decide) ?_
  refine lv_icmp_lt (tgt := 84) C.1 C.2.1 dX13_upper_70 (by decide) (fun hc => ?_) (fun hc => ?_)
  · replace h := ift hc h
    exact w_upper_84 C hr hk w (lv_sub hl [0] rfl) h
  · replace h := iff0 hc h
    refine lv_iload_n C.1 C.2.1 dX13_upper_73 rfl (lv_at hl 0 rfl) ?_
    refine lv_sipush (v := 375) C.1 C.2.1 dX13_upper_74 (by decide) ?_
    refine lv_icmp_gt (tgt := 84) C.1 C.2.1 dX13_upper_77 (by decide) (fun hc => ?_) (fun hc => ?_)
    · replace h := ift hc h
      exact w_upper_84 C hr hk w (lv_sub hl [0] rfl) h
    · replace h := iff0 hc h
      exact w_upper_80 C hr hk w (lv_sub hl [0] rfl) h
set_option maxRecDepth 100000 in
set_option maxHeartbeats 4000000 in
theorem w_upper_52  {g : Nat} {S : St} {x0 : Int32} (C : CallFix p m c cX13_upper 3 s args tb RX13) (hr : meth.sig.returnType = (some .int)) (hk : meth.locks = false) {r : Int32} (w : Wn Ym D T ρ S A s H locs) (hl : lv_has ls 3 [(0, .int x0)]) (h : m_upper_52 g x0 = some r) : W p l e (rmN 1 20) s m args below meth c H locs 0 0 (MQ below (Qi Ym D T ρ A S r) args s 0 0 A) (F0 m 52 ls []) := by
  unfold m_upper_52 at h
  refine lv_iload_n C.1 C.2.1 dX13_upper_52 rfl (lv_at hl 0 rfl) ?_
  refine lv_sipush (v := 307) C.1 C.2.1 dX13_upper_53 (by decide) ?_
  refine lv_icmp_lt (tgt := 66) C.1 C.2.1 dX13_upper_56 (by decide) (fun hc => ?_) (fun hc => ?_)
  · replace h := ift hc h
    exact w_upper_66 C hr hk w (lv_sub hl [0] rfl) h
  · replace h := iff0 hc h
    refine lv_iload_n C.1 C.2.1 dX13_upper_59 rfl (lv_at hl 0 rfl) ?_
    refine lv_sipush (v := 311) C.1 C.2.1 dX13_upper_60 (by decide) ?_
    refine lv_icmp_le (tgt := 80) C.1 C.2.1 dX13_upper_63 (by decide) (fun hc => ?_) (fun hc => ?_)
    · replace h := ift hc h
      exact w_upper_80 C hr hk w (lv_sub hl [0] rfl) h
    · replace h := iff0 hc h
      exact w_upper_66 C hr hk w (lv_sub hl [0] rfl) h
set_option maxRecDepth 100000 in
set_option maxHeartbeats 4000000 in
theorem w_upper_38  {g : Nat} {S : St} {x0 : Int32} (C : CallFix p m c cX13_upper 3 s args tb RX13) (hr : meth.sig.returnType = (some .int)) (hk : meth.locks = false) {r : Int32} (w : Wn Ym D T ρ S A s H locs) (hl : lv_has ls 3 [(0, .int x0)]) (h : m_upper_38 g x0 = some r) : W p l e (rmN 1 20) s m args below meth c H locs 0 0 (MQ below (Qi Ym D T ρ A S r) args s 0 0 A) (F0 m 38 ls []) := by
  unfold m_upper_38 at h
  refine lv_iload_n C.1 C.2.1 dX13_upper_38 rfl (lv_at hl 0 rfl) ?_
  refine lv_sipush (v := 257) C.1 C.2.1 dX13_upper_39 (by decide) ?_
  refine lv_icmp_lt (tgt := 52) C.1 C.2.1 dX13_upper_42 (by decide) (fun hc => ?_) (fun hc => ?_)
  · replace h := ift hc h
    exact w_upper_52 C hr hk w (lv_sub hl [0] rfl) h
  · replace h := iff0 hc h
    refine lv_iload_n C.1 C.2.1 dX13_upper_45 rfl (lv_at hl 0 rfl) ?_
    refine lv_sipush (v := 303) C.1 C.2.1 dX13_upper_46 (by decide) ?_
    refine lv_icmp_le (tgt := 80) C.1 C.2.1 dX13_upper_49 (by decide) (fun hc => ?_) (fun hc => ?_)
    · replace h := ift hc h
      exact w_upper_80 C hr hk w (lv_sub hl [0] rfl) h
    · replace h := iff0 hc h
      exact w_upper_52 C hr hk w (lv_sub hl [0] rfl) h
set_option maxRecDepth 100000 in
set_option maxHeartbeats 4000000 in
theorem w_upper_12  {g : Nat} {S : St} {x0 : Int32} (C : CallFix p m c cX13_upper 3 s args tb RX13) (hr : meth.sig.returnType = (some .int)) (hk : meth.locks = false) {r : Int32} (w : Wn Ym D T ρ S A s H locs) (hl : lv_has ls 3 [(0, .int x0)]) (h : m_upper_12 g x0 = some r) : W p l e (rmN 1 20) s m args below meth c H locs 0 0 (MQ below (Qi Ym D T ρ A S r) args s 0 0 A) (F0 m 12 ls []) := by
  unfold m_upper_12 at h
  refine lv_iload_n C.1 C.2.1 dX13_upper_12 rfl (lv_at hl 0 rfl) ?_
  refine lv_sipush (v := 224) C.1 C.2.1 dX13_upper_13 (by decide) ?_
  refine lv_icmp_lt (tgt := 38) C.1 C.2.1 dX13_upper_16 (by decide) (fun hc => ?_) (fun hc => ?_)
  · replace h := ift hc h
    exact w_upper_38 C hr hk w (lv_sub hl [0] rfl) h
  · replace h := iff0 hc h
    refine lv_iload_n C.1 C.2.1 dX13_upper_19 rfl (lv_at hl 0 rfl) ?_
    refine lv_sipush (v := 254) C.1 C.2.1 dX13_upper_20 (by decide) ?_
    refine lv_icmp_gt (tgt := 38) C.1 C.2.1 dX13_upper_23 (by decide) (fun hc => ?_) (fun hc => ?_)
    · replace h := ift hc h
      exact w_upper_38 C hr hk w (lv_sub hl [0] rfl) h
    · replace h := iff0 hc h
      refine lv_iload_n C.1 C.2.1 dX13_upper_26 rfl (lv_at hl 0 rfl) ?_
      refine lv_sipush (v := 247) C.1 C.2.1 dX13_upper_27 (by decide) ?_
      refine lv_icmp_eq (tgt := 38) C.1 C.2.1 dX13_upper_30 (by decide) (fun hc => ?_) (fun hc => ?_)
      · replace h := ift hc h
        exact w_upper_38 C hr hk w (lv_sub hl [0] rfl) h
      · replace h := iff0 hc h
        refine lv_iload_n C.1 C.2.1 dX13_upper_33 rfl (lv_at hl 0 rfl) ?_
        refine lv_bipush (v := 32) C.1 C.2.1 dX13_upper_34 (by decide) ?_
        refine lv_isub C.1 C.2.1 dX13_upper_36 ?_
        obtain rfl := som h
        exact x_iret C w hr hk dX13_upper_37
set_option maxRecDepth 100000 in
set_option maxHeartbeats 4000000 in
theorem w_upper_0  {g : Nat} {S : St} {x0 : Int32} (C : CallFix p m c cX13_upper 3 s args tb RX13) (hr : meth.sig.returnType = (some .int)) (hk : meth.locks = false) {r : Int32} (w : Wn Ym D T ρ S A s H locs) (hl : lv_has ls 3 [(0, .int x0)]) (h : m_upper g x0 = some r) : W p l e (rmN 1 20) s m args below meth c H locs 0 0 (MQ below (Qi Ym D T ρ A S r) args s 0 0 A) (F0 m 0 ls []) := by
  unfold m_upper at h
  refine lv_iload_n C.1 C.2.1 dX13_upper_0 rfl (lv_at hl 0 rfl) ?_
  refine lv_bipush (v := 97) C.1 C.2.1 dX13_upper_1 (by decide) ?_
  refine lv_icmp_lt (tgt := 12) C.1 C.2.1 dX13_upper_3 (by decide) (fun hc => ?_) (fun hc => ?_)
  · replace h := ift hc h
    exact w_upper_12 C hr hk w (lv_sub hl [0] rfl) h
  · replace h := iff0 hc h
    refine lv_iload_n C.1 C.2.1 dX13_upper_6 rfl (lv_at hl 0 rfl) ?_
    refine lv_bipush (v := 122) C.1 C.2.1 dX13_upper_7 (by decide) ?_
    refine lv_icmp_le (tgt := 33) C.1 C.2.1 dX13_upper_9 (by decide) (fun hc => ?_) (fun hc => ?_)
    · replace h := ift hc h
      refine lv_iload_n C.1 C.2.1 dX13_upper_33 rfl (lv_at hl 0 rfl) ?_
      refine lv_bipush (v := 32) C.1 C.2.1 dX13_upper_34 (by decide) ?_
      refine lv_isub C.1 C.2.1 dX13_upper_36 ?_
      obtain rfl := som h
      exact x_iret C w hr hk dX13_upper_37
    · replace h := iff0 hc h
      exact w_upper_12 C hr hk w (lv_sub hl [0] rfl) h
end S_upper
set_option maxRecDepth 100000 in
theorem k_upper (l : Launch) (D : va_G) (T : Cy) (ρ : Nat → Nat) (g sz : Nat) (S : St) {x0 : Int32} {r : Int32} (h : m_upper g x0 = some r) : Mi l Ym D T ρ yX13_upper cX13_upper 3 (some .int) 1 20 S S r [.int x0] sz :=
  x_in (by decide) (Nat.le_of_ble_eq_true rfl) (fun p e s m below meth c ls C hr hk w hl => w_upper_0 C hr hk w hl h)

theorem dX13_cases_0 : decode cX13_cases 0 = .ok (.iconst 1, 1) := by decide +kernel
theorem dX13_cases_1 : decode cX13_cases 1 = .ok (.istore_n 3, 1) := by decide +kernel
theorem dX13_cases_2 : decode cX13_cases 2 = .ok (.iconst 0, 1) := by decide +kernel
theorem dX13_cases_3 : decode cX13_cases 3 = .ok (.istore 4, 2) := by decide +kernel
theorem dX13_cases_5 : decode cX13_cases 5 = .ok (.iload 4, 2) := by decide +kernel
theorem dX13_cases_7 : decode cX13_cases 7 = .ok (.aload_n 0, 1) := by decide +kernel
theorem dX13_cases_8 : decode cX13_cases 8 = .ok (.getfield 193, 3) := by decide +kernel
theorem dX13_cases_11 : decode cX13_cases 11 = .ok (.iload_n 2, 1) := by decide +kernel
theorem dX13_cases_12 : decode cX13_cases 12 = .ok (.iaload, 1) := by decide +kernel
theorem dX13_cases_13 : decode cX13_cases 13 = .ok (.if_icmp .ge 168, 3) := by decide +kernel
theorem dX13_cases_16 : decode cX13_cases 16 = .ok (.aload_n 0, 1) := by decide +kernel
theorem dX13_cases_17 : decode cX13_cases 17 = .ok (.iload_n 2, 1) := by decide +kernel
theorem dX13_cases_18 : decode cX13_cases 18 = .ok (.iload 4, 2) := by decide +kernel
theorem dX13_cases_20 : decode cX13_cases 20 = .ok (.invokevirtual 470, 3) := by decide +kernel
theorem dX13_cases_23 : decode cX13_cases 23 = .ok (.istore 5, 2) := by decide +kernel
theorem dX13_cases_25 : decode cX13_cases 25 = .ok (.iload_n 1, 1) := by decide +kernel
theorem dX13_cases_26 : decode cX13_cases 26 = .ok (.bipush 32, 2) := by decide +kernel
theorem dX13_cases_28 : decode cX13_cases 28 = .ok (.if_icmp .ne 27, 3) := by decide +kernel
theorem dX13_cases_31 : decode cX13_cases 31 = .ok (.iload 5, 2) := by decide +kernel
theorem dX13_cases_33 : decode cX13_cases 33 = .ok (.sipush 223, 3) := by decide +kernel
theorem dX13_cases_36 : decode cX13_cases 36 = .ok (.if_icmp .eq 11, 3) := by decide +kernel
theorem dX13_cases_39 : decode cX13_cases 39 = .ok (.iload 5, 2) := by decide +kernel
theorem dX13_cases_41 : decode cX13_cases 41 = .ok (.sipush 329, 3) := by decide +kernel
theorem dX13_cases_44 : decode cX13_cases 44 = .ok (.if_icmp .ne 7, 3) := by decide +kernel
theorem dX13_cases_47 : decode cX13_cases 47 = .ok (.iconst 1, 1) := by decide +kernel
theorem dX13_cases_48 : decode cX13_cases 48 = .ok (.goto 20, 3) := by decide +kernel
theorem dX13_cases_51 : decode cX13_cases 51 = .ok (.iconst 0, 1) := by decide +kernel
theorem dX13_cases_52 : decode cX13_cases 52 = .ok (.goto 16, 3) := by decide +kernel
theorem dX13_cases_55 : decode cX13_cases 55 = .ok (.iload 5, 2) := by decide +kernel
theorem dX13_cases_57 : decode cX13_cases 57 = .ok (.sipush 304, 3) := by decide +kernel
theorem dX13_cases_60 : decode cX13_cases 60 = .ok (.if_icmp .ne 7, 3) := by decide +kernel
theorem dX13_cases_63 : decode cX13_cases 63 = .ok (.iconst 1, 1) := by decide +kernel
theorem dX13_cases_64 : decode cX13_cases 64 = .ok (.goto 4, 3) := by decide +kernel
theorem dX13_cases_67 : decode cX13_cases 67 = .ok (.iconst 0, 1) := by decide +kernel
theorem dX13_cases_68 : decode cX13_cases 68 = .ok (.istore 6, 2) := by decide +kernel
theorem dX13_cases_70 : decode cX13_cases 70 = .ok (.iload_n 1, 1) := by decide +kernel
theorem dX13_cases_71 : decode cX13_cases 71 = .ok (.bipush 32, 2) := by decide +kernel
theorem dX13_cases_73 : decode cX13_cases 73 = .ok (.if_icmp .ne 11, 3) := by decide +kernel
theorem dX13_cases_76 : decode cX13_cases 76 = .ok (.iload 5, 2) := by decide +kernel
theorem dX13_cases_78 : decode cX13_cases 78 = .ok (.invokestatic 498, 3) := by decide +kernel
theorem dX13_cases_81 : decode cX13_cases 81 = .ok (.goto 8, 3) := by decide +kernel
theorem dX13_cases_84 : decode cX13_cases 84 = .ok (.iload 5, 2) := by decide +kernel
theorem dX13_cases_86 : decode cX13_cases 86 = .ok (.invokestatic 501, 3) := by decide +kernel
theorem dX13_cases_89 : decode cX13_cases 89 = .ok (.istore 7, 2) := by decide +kernel
theorem dX13_cases_91 : decode cX13_cases 91 = .ok (.iload_n 3, 1) := by decide +kernel
theorem dX13_cases_92 : decode cX13_cases 92 = .ok (.ifCond .eq 19, 3) := by decide +kernel
theorem dX13_cases_95 : decode cX13_cases 95 = .ok (.iload 6, 2) := by decide +kernel
theorem dX13_cases_97 : decode cX13_cases 97 = .ok (.ifCond .ne 14, 3) := by decide +kernel
theorem dX13_cases_100 : decode cX13_cases 100 = .ok (.iload 7, 2) := by decide +kernel
theorem dX13_cases_102 : decode cX13_cases 102 = .ok (.iload 5, 2) := by decide +kernel
theorem dX13_cases_104 : decode cX13_cases 104 = .ok (.if_icmp .ne 7, 3) := by decide +kernel
theorem dX13_cases_107 : decode cX13_cases 107 = .ok (.iconst 1, 1) := by decide +kernel
theorem dX13_cases_108 : decode cX13_cases 108 = .ok (.goto 4, 3) := by decide +kernel
theorem dX13_cases_111 : decode cX13_cases 111 = .ok (.iconst 0, 1) := by decide +kernel
theorem dX13_cases_112 : decode cX13_cases 112 = .ok (.istore_n 3, 1) := by decide +kernel
theorem dX13_cases_113 : decode cX13_cases 113 = .ok (.iload 6, 2) := by decide +kernel
theorem dX13_cases_115 : decode cX13_cases 115 = .ok (.ifCond .ne 12, 3) := by decide +kernel
theorem dX13_cases_118 : decode cX13_cases 118 = .ok (.aload_n 0, 1) := by decide +kernel
theorem dX13_cases_119 : decode cX13_cases 119 = .ok (.iload 7, 2) := by decide +kernel
theorem dX13_cases_121 : decode cX13_cases 121 = .ok (.invokevirtual 437, 3) := by decide +kernel
theorem dX13_cases_124 : decode cX13_cases 124 = .ok (.goto 51, 3) := by decide +kernel
theorem dX13_cases_127 : decode cX13_cases 127 = .ok (.iload 5, 2) := by decide +kernel
theorem dX13_cases_129 : decode cX13_cases 129 = .ok (.sipush 304, 3) := by decide +kernel
theorem dX13_cases_132 : decode cX13_cases 132 = .ok (.if_icmp .ne 15, 3) := by decide +kernel
theorem dX13_cases_135 : decode cX13_cases 135 = .ok (.aload_n 0, 1) := by decide +kernel
theorem dX13_cases_136 : decode cX13_cases 136 = .ok (.bipush 105, 2) := by decide +kernel
theorem dX13_cases_138 : decode cX13_cases 138 = .ok (.sipush 775, 3) := by decide +kernel
theorem dX13_cases_141 : decode cX13_cases 141 = .ok (.invokevirtual 628, 3) := by decide +kernel
theorem dX13_cases_144 : decode cX13_cases 144 = .ok (.goto 31, 3) := by decide +kernel
theorem dX13_cases_147 : decode cX13_cases 147 = .ok (.iload 5, 2) := by decide +kernel
theorem dX13_cases_149 : decode cX13_cases 149 = .ok (.sipush 223, 3) := by decide +kernel
theorem dX13_cases_152 : decode cX13_cases 152 = .ok (.if_icmp .ne 14, 3) := by decide +kernel
theorem dX13_cases_155 : decode cX13_cases 155 = .ok (.aload_n 0, 1) := by decide +kernel
theorem dX13_cases_156 : decode cX13_cases 156 = .ok (.bipush 83, 2) := by decide +kernel
theorem dX13_cases_158 : decode cX13_cases 158 = .ok (.bipush 83, 2) := by decide +kernel
theorem dX13_cases_160 : decode cX13_cases 160 = .ok (.invokevirtual 628, 3) := by decide +kernel
theorem dX13_cases_163 : decode cX13_cases 163 = .ok (.goto 12, 3) := by decide +kernel
theorem dX13_cases_166 : decode cX13_cases 166 = .ok (.aload_n 0, 1) := by decide +kernel
theorem dX13_cases_167 : decode cX13_cases 167 = .ok (.sipush 700, 3) := by decide +kernel
theorem dX13_cases_170 : decode cX13_cases 170 = .ok (.bipush 78, 2) := by decide +kernel
theorem dX13_cases_172 : decode cX13_cases 172 = .ok (.invokevirtual 628, 3) := by decide +kernel
theorem dX13_cases_175 : decode cX13_cases 175 = .ok (.iinc 4 1, 3) := by decide +kernel
theorem dX13_cases_178 : decode cX13_cases 178 = .ok (.goto (-173), 3) := by decide +kernel
theorem dX13_cases_181 : decode cX13_cases 181 = .ok (.iload_n 3, 1) := by decide +kernel
theorem dX13_cases_182 : decode cX13_cases 182 = .ok (.ireturn, 1) := by decide +kernel
def m_cases_112 (g : Nat) (k5 : St → Int32 → Int32 → Int32 → Int32 → Option (St × Int32)) (S : St) (x1 : Int32) (x2 : Int32) (x4 : Int32) (x5 : Int32) (x6 : Int32) (x7 : Int32) (y0 : Int32) : Option (St × Int32) :=
if x6 = 0 then (
  (m_emit g S x7).bind fun S_11 =>
  lt (x4 + (1 : Int32)) fun x4_12 =>
  k5 S_11 x1 x2 y0 x4_12
) else (
  if x5 = (304 : Int32) then (
    (m_emitTwo g S (105 : Int32) (775 : Int32)).bind fun S_9 =>
    lt (x4 + (1 : Int32)) fun x4_10 =>
    k5 S_9 x1 x2 y0 x4_10
  ) else (
    if x5 = (223 : Int32) then (
      (m_emitTwo g S (83 : Int32) (83 : Int32)).bind fun S_7 =>
      lt (x4 + (1 : Int32)) fun x4_8 =>
      k5 S_7 x1 x2 y0 x4_8
    ) else (
      (m_emitTwo g S (700 : Int32) (78 : Int32)).bind fun S_5 =>
      lt (x4 + (1 : Int32)) fun x4_6 =>
      k5 S_5 x1 x2 y0 x4_6
    )
  )
)
def m_cases_111 (g : Nat) (k5 : St → Int32 → Int32 → Int32 → Int32 → Option (St × Int32)) (S : St) (x1 : Int32) (x2 : Int32) (x4 : Int32) (x5 : Int32) (x6 : Int32) (x7 : Int32) : Option (St × Int32) :=
m_cases_112 g k5 S x1 x2 x4 x5 x6 x7 (0 : Int32)
def m_cases_89 (g : Nat) (k5 : St → Int32 → Int32 → Int32 → Int32 → Option (St × Int32)) (S : St) (x1 : Int32) (x2 : Int32) (x3 : Int32) (x4 : Int32) (x5 : Int32) (x6 : Int32) (y0 : Int32) : Option (St × Int32) :=
if x3 = 0 then (
  m_cases_111 g k5 S x1 x2 x4 x5 x6 y0
) else (
  if x6 = 0 then (
    if y0 = x5 then (
      m_cases_112 g k5 S x1 x2 x4 x5 x6 y0 (1 : Int32)
    ) else (
      m_cases_111 g k5 S x1 x2 x4 x5 x6 y0
    )
  ) else (
    m_cases_111 g k5 S x1 x2 x4 x5 x6 y0
  )
)
def m_cases_68 (g : Nat) (k5 : St → Int32 → Int32 → Int32 → Int32 → Option (St × Int32)) (S : St) (x1 : Int32) (x2 : Int32) (x3 : Int32) (x4 : Int32) (x5 : Int32) (y0 : Int32) : Option (St × Int32) :=
if x1 = (32 : Int32) then (
  (m_upper g x5).bind fun v_5 =>
  m_cases_89 g k5 S x1 x2 x3 x4 x5 y0 v_5
) else (
  (m_lower g x5).bind fun v_4 =>
  m_cases_89 g k5 S x1 x2 x3 x4 x5 y0 v_4
)
def m_cases_47 (g : Nat) (k5 : St → Int32 → Int32 → Int32 → Int32 → Option (St × Int32)) (S : St) (x1 : Int32) (x2 : Int32) (x3 : Int32) (x4 : Int32) (x5 : Int32) : Option (St × Int32) :=
m_cases_68 g k5 S x1 x2 x3 x4 x5 (1 : Int32)
def b_cases_5 (g : Nat) (k5 : St → Int32 → Int32 → Int32 → Int32 → Option (St × Int32)) (S : St) (x1 : Int32) (x2 : Int32) (x3 : Int32) (x4 : Int32) : Option (St × Int32) :=
(aI S 24 x2).bind fun v_1 =>
if v_1 ≤ x4 then (
  if x3 = 0 ∨ x3 = 1 then some (S, x3) else none
) else (
  (m_unitAt g S x2 x4).bind fun v_3 =>
  if x1 = (32 : Int32) then (
    if v_3 = (223 : Int32) then (
      m_cases_47 g k5 S x1 x2 x3 x4 v_3
    ) else (
      if v_3 = (329 : Int32) then (
        m_cases_47 g k5 S x1 x2 x3 x4 v_3
      ) else (
        m_cases_68 g k5 S x1 x2 x3 x4 v_3 (0 : Int32)
      )
    )
  ) else (
    if v_3 = (304 : Int32) then (
      m_cases_68 g k5 S x1 x2 x3 x4 v_3 (1 : Int32)
    ) else (
      m_cases_68 g k5 S x1 x2 x3 x4 v_3 (0 : Int32)
    )
  )
)
def m_cases_5 (g : Nat) : Nat → St → Int32 → Int32 → Int32 → Int32 → Option (St × Int32)
  | 0, _, _, _, _, _ => none
  | n + 1, S, x1, x2, x3, x4 => b_cases_5 g (m_cases_5 g n) S x1 x2 x3 x4
def m_cases (g : Nat) (S : St) (x1 : Int32) (x2 : Int32) : Option (St × Int32) :=
m_cases_5 g g S x1 x2 (1 : Int32) (0 : Int32)
section S_cases
variable {p : Program} {l : Launch} {e : Env} {s : State} {m : MethodId} {args : Array Value} {below : List Frame} {meth : Method} {c : Code} {H : Heap} {locs : List Loc} {ls : Array Slot} {D : va_G} {T : Cy} {ρ : Nat → Nat} {A : Nat → Prop}
set_option maxRecDepth 100000 in
set_option maxHeartbeats 4000000 in
theorem w_cases_112  {g : Nat} {S : St} {x1 : Int32} {x2 : Int32} {x4 : Int32} {x5 : Int32} {x6 : Int32} {x7 : Int32} {y0 : Int32} (C : CallFix p m c cX13_cases 8 s args tb RX13) (hr : meth.sig.returnType = (some .boolean)) (hk : meth.locks = false) {S' : St} {r : Int32} {k5 : St → Int32 → Int32 → Int32 → Int32 → Option (St × Int32)} (kk5 : ∀ (S : St) (x1 : Int32) (x2 : Int32) (x3 : Int32) (x4 : Int32) (H : Heap) (locs : List Loc) (ls : Array Slot), Wn Ym D T ρ S A s H locs → lv_has ls 8 [(0, .ref (ρ 0)), (1, .int x1), (2, .int x2), (3, .int x3), (4, .int x4)] → k5 S x1 x2 x3 x4 = some (S', r) → W p l e (rmN 2 43) s m args below meth c H locs 0 0 (MQ below (Qi Ym D T ρ A S' r) args s 0 0 A) (F0 m 5 ls [])) (w : Wn Ym D T ρ S A s H locs) (hl : lv_has ls 8 [(0, .ref (ρ 0)), (1, .int x1), (2, .int x2), (4, .int x4), (5, .int x5), (6, .int x6), (7, .int x7)]) (h : m_cases_112 g k5 S x1 x2 x4 x5 x6 x7 y0 = some (S', r)) : W p l e (rmN 2 43) s m args below meth c H locs 0 0 (MQ below (Qi Ym D T ρ A S' r) args s 0 0 A) (F0 m 112 ls [.int y0]) := by
  unfold m_cases_112 at h
  refine lv_istore_n (lv' := [(3, .int y0), (0, .ref (ρ 0)), (1, .int x1), (2, .int x2), (4, .int x4), (5, .int x5), (6, .int x6), (7, .int x7)]) C.1 C.2.1 dX13_cases_112 rfl hl (by decide) rfl (fun ls hl => ?_)
  refine lv_iload C.1 C.2.1 dX13_cases_113 (lv_at hl 6 rfl) ?_
  refine lv_if_ne (tgt := 127) C.1 C.2.1 dX13_cases_115 (by decide) (fun hc => ?_) (fun hc => ?_)
  · replace h := iff0 hc h
    refine lv_iload C.1 C.2.1 dX13_cases_127 (lv_at hl 5 rfl) ?_
    refine lv_sipush (v := 304) C.1 C.2.1 dX13_cases_129 (by decide) ?_
    refine lv_icmp_ne (tgt := 147) C.1 C.2.1 dX13_cases_132 (by decide) (fun hc => ?_) (fun hc => ?_)
    · replace h := iff0 hc h
      refine lv_iload C.1 C.2.1 dX13_cases_147 (lv_at hl 5 rfl) ?_
      refine lv_sipush (v := 223) C.1 C.2.1 dX13_cases_149 (by decide) ?_
      refine lv_icmp_ne (tgt := 166) C.1 C.2.1 dX13_cases_152 (by decide) (fun hc => ?_) (fun hc => ?_)
      · replace h := iff0 hc h
        refine lv_aload_n C.1 C.2.1 dX13_cases_166 rfl (lv_at hl 1 rfl) ?_
        refine lv_sipush (v := 700) C.1 C.2.1 dX13_cases_167 (by decide) ?_
        refine lv_bipush (v := 78) C.1 C.2.1 dX13_cases_170 (by decide) ?_
        obtain ⟨S_5, hS_5, h⟩ := bnd h
        refine x_callVv (q := (RX13, TX13, 68)) (As := [.int (700 : Int32), .int (78 : Int32)]) (rest := []) C w (k_emitTwo l D T ρ g H.size S hS_5) vM628 ⟨by decide, by decide⟩ obM (by decide) rfl rfl rfl hl.1 (Nat.le_of_ble_eq_true rfl) ⟨Nat.zero_le _, Nat.zero_le _⟩ dX13_cases_172 (fun H locs w => ?_)
        obtain ⟨x4_6, ex4_6, h⟩ := lt_e h
        refine lv_iinc (v := x4_6) (lv' := [(4, .int x4_6), (3, .int y0), (0, .ref (ρ 0)), (1, .int x1), (2, .int x2), (5, .int x5), (6, .int x6), (7, .int x7)]) C.1 C.2.1 dX13_cases_175 hl (k := 4) rfl (by rw [ex4_6]; rfl) (by decide) rfl (fun ls hl => ?_)
        refine lv_goto (tgt := 5) C.1 C.2.1 dX13_cases_178 (by decide) ?_
        exact kk5 _ _ _ _ _ _ _ _ w (lv_sub hl [2, 3, 4, 1, 0] rfl) h
      · replace h := ift hc h
        refine lv_aload_n C.1 C.2.1 dX13_cases_155 rfl (lv_at hl 1 rfl) ?_
        refine lv_bipush (v := 83) C.1 C.2.1 dX13_cases_156 (by decide) ?_
        refine lv_bipush (v := 83) C.1 C.2.1 dX13_cases_158 (by decide) ?_
        obtain ⟨S_7, hS_7, h⟩ := bnd h
        refine x_callVv (q := (RX13, TX13, 68)) (As := [.int (83 : Int32), .int (83 : Int32)]) (rest := []) C w (k_emitTwo l D T ρ g H.size S hS_7) vM628 ⟨by decide, by decide⟩ obM (by decide) rfl rfl rfl hl.1 (Nat.le_of_ble_eq_true rfl) ⟨Nat.zero_le _, Nat.zero_le _⟩ dX13_cases_160 (fun H locs w => ?_)
        refine lv_goto (tgt := 175) C.1 C.2.1 dX13_cases_163 (by decide) ?_
        obtain ⟨x4_8, ex4_8, h⟩ := lt_e h
        refine lv_iinc (v := x4_8) (lv' := [(4, .int x4_8), (3, .int y0), (0, .ref (ρ 0)), (1, .int x1), (2, .int x2), (5, .int x5), (6, .int x6), (7, .int x7)]) C.1 C.2.1 dX13_cases_175 hl (k := 4) rfl (by rw [ex4_8]; rfl) (by decide) rfl (fun ls hl => ?_)
        refine lv_goto (tgt := 5) C.1 C.2.1 dX13_cases_178 (by decide) ?_
        exact kk5 _ _ _ _ _ _ _ _ w (lv_sub hl [2, 3, 4, 1, 0] rfl) h
    · replace h := ift hc h
      refine lv_aload_n C.1 C.2.1 dX13_cases_135 rfl (lv_at hl 1 rfl) ?_
      refine lv_bipush (v := 105) C.1 C.2.1 dX13_cases_136 (by decide) ?_
      refine lv_sipush (v := 775) C.1 C.2.1 dX13_cases_138 (by decide) ?_
      obtain ⟨S_9, hS_9, h⟩ := bnd h
      refine x_callVv (q := (RX13, TX13, 68)) (As := [.int (105 : Int32), .int (775 : Int32)]) (rest := []) C w (k_emitTwo l D T ρ g H.size S hS_9) vM628 ⟨by decide, by decide⟩ obM (by decide) rfl rfl rfl hl.1 (Nat.le_of_ble_eq_true rfl) ⟨Nat.zero_le _, Nat.zero_le _⟩ dX13_cases_141 (fun H locs w => ?_)
      refine lv_goto (tgt := 175) C.1 C.2.1 dX13_cases_144 (by decide) ?_
      obtain ⟨x4_10, ex4_10, h⟩ := lt_e h
      refine lv_iinc (v := x4_10) (lv' := [(4, .int x4_10), (3, .int y0), (0, .ref (ρ 0)), (1, .int x1), (2, .int x2), (5, .int x5), (6, .int x6), (7, .int x7)]) C.1 C.2.1 dX13_cases_175 hl (k := 4) rfl (by rw [ex4_10]; rfl) (by decide) rfl (fun ls hl => ?_)
      refine lv_goto (tgt := 5) C.1 C.2.1 dX13_cases_178 (by decide) ?_
      exact kk5 _ _ _ _ _ _ _ _ w (lv_sub hl [2, 3, 4, 1, 0] rfl) h
  · replace h := ift hc h
    refine lv_aload_n C.1 C.2.1 dX13_cases_118 rfl (lv_at hl 1 rfl) ?_
    refine lv_iload C.1 C.2.1 dX13_cases_119 (lv_at hl 7 rfl) ?_
    obtain ⟨S_11, hS_11, h⟩ := bnd h
    refine x_callVv (q := (RX13, TX13, 68)) (As := [.int x7]) (rest := []) C w (k_emit l D T ρ g H.size S hS_11) vM437 ⟨by decide, by decide⟩ obM (by decide) rfl rfl rfl hl.1 (Nat.le_of_ble_eq_true rfl) ⟨Nat.zero_le _, Nat.zero_le _⟩ dX13_cases_121 (fun H locs w => ?_)
    refine lv_goto (tgt := 175) C.1 C.2.1 dX13_cases_124 (by decide) ?_
    obtain ⟨x4_12, ex4_12, h⟩ := lt_e h
    refine lv_iinc (v := x4_12) (lv' := [(4, .int x4_12), (3, .int y0), (0, .ref (ρ 0)), (1, .int x1), (2, .int x2), (5, .int x5), (6, .int x6), (7, .int x7)]) C.1 C.2.1 dX13_cases_175 hl (k := 4) rfl (by rw [ex4_12]; rfl) (by decide) rfl (fun ls hl => ?_)
    refine lv_goto (tgt := 5) C.1 C.2.1 dX13_cases_178 (by decide) ?_
    exact kk5 _ _ _ _ _ _ _ _ w (lv_sub hl [2, 3, 4, 1, 0] rfl) h
set_option maxRecDepth 100000 in
set_option maxHeartbeats 4000000 in
theorem w_cases_111  {g : Nat} {S : St} {x1 : Int32} {x2 : Int32} {x4 : Int32} {x5 : Int32} {x6 : Int32} {x7 : Int32} (C : CallFix p m c cX13_cases 8 s args tb RX13) (hr : meth.sig.returnType = (some .boolean)) (hk : meth.locks = false) {S' : St} {r : Int32} {k5 : St → Int32 → Int32 → Int32 → Int32 → Option (St × Int32)} (kk5 : ∀ (S : St) (x1 : Int32) (x2 : Int32) (x3 : Int32) (x4 : Int32) (H : Heap) (locs : List Loc) (ls : Array Slot), Wn Ym D T ρ S A s H locs → lv_has ls 8 [(0, .ref (ρ 0)), (1, .int x1), (2, .int x2), (3, .int x3), (4, .int x4)] → k5 S x1 x2 x3 x4 = some (S', r) → W p l e (rmN 2 43) s m args below meth c H locs 0 0 (MQ below (Qi Ym D T ρ A S' r) args s 0 0 A) (F0 m 5 ls [])) (w : Wn Ym D T ρ S A s H locs) (hl : lv_has ls 8 [(0, .ref (ρ 0)), (1, .int x1), (2, .int x2), (4, .int x4), (5, .int x5), (6, .int x6), (7, .int x7)]) (h : m_cases_111 g k5 S x1 x2 x4 x5 x6 x7 = some (S', r)) : W p l e (rmN 2 43) s m args below meth c H locs 0 0 (MQ below (Qi Ym D T ρ A S' r) args s 0 0 A) (F0 m 111 ls []) := by
  unfold m_cases_111 at h
  refine lv_iconst (v := 0) C.1 C.2.1 dX13_cases_111 (by decide) ?_
  exact w_cases_112 C hr hk kk5 w (lv_sub hl [0, 1, 2, 3, 4, 5, 6] rfl) h
set_option maxRecDepth 100000 in
set_option maxHeartbeats 4000000 in
theorem w_cases_89  {g : Nat} {S : St} {x1 : Int32} {x2 : Int32} {x3 : Int32} {x4 : Int32} {x5 : Int32} {x6 : Int32} {y0 : Int32} (C : CallFix p m c cX13_cases 8 s args tb RX13) (hr : meth.sig.returnType = (some .boolean)) (hk : meth.locks = false) {S' : St} {r : Int32} {k5 : St → Int32 → Int32 → Int32 → Int32 → Option (St × Int32)} (kk5 : ∀ (S : St) (x1 : Int32) (x2 : Int32) (x3 : Int32) (x4 : Int32) (H : Heap) (locs : List Loc) (ls : Array Slot), Wn Ym D T ρ S A s H locs → lv_has ls 8 [(0, .ref (ρ 0)), (1, .int x1), (2, .int x2), (3, .int x3), (4, .int x4)] → k5 S x1 x2 x3 x4 = some (S', r) → W p l e (rmN 2 43) s m args below meth c H locs 0 0 (MQ below (Qi Ym D T ρ A S' r) args s 0 0 A) (F0 m 5 ls [])) (w : Wn Ym D T ρ S A s H locs) (hl : lv_has ls 8 [(0, .ref (ρ 0)), (1, .int x1), (2, .int x2), (3, .int x3), (4, .int x4), (5, .int x5), (6, .int x6)]) (h : m_cases_89 g k5 S x1 x2 x3 x4 x5 x6 y0 = some (S', r)) : W p l e (rmN 2 43) s m args below meth c H locs 0 0 (MQ below (Qi Ym D T ρ A S' r) args s 0 0 A) (F0 m 89 ls [.int y0]) := by
  unfold m_cases_89 at h
  refine lv_istore (lv' := [(7, .int y0), (0, .ref (ρ 0)), (1, .int x1), (2, .int x2), (3, .int x3), (4, .int x4), (5, .int x5), (6, .int x6)]) C.1 C.2.1 dX13_cases_89 hl (by decide) rfl (fun ls hl => ?_)
  refine lv_iload_n C.1 C.2.1 dX13_cases_91 rfl (lv_at hl 4 rfl) ?_
  refine lv_if_eq (tgt := 111) C.1 C.2.1 dX13_cases_92 (by decide) (fun hc => ?_) (fun hc => ?_)
  · replace h := ift hc h
    exact w_cases_111 C hr hk kk5 w (lv_sub hl [1, 2, 3, 5, 6, 7, 0] rfl) h
  · replace h := iff0 hc h
    refine lv_iload C.1 C.2.1 dX13_cases_95 (lv_at hl 7 rfl) ?_
    refine lv_if_ne (tgt := 111) C.1 C.2.1 dX13_cases_97 (by decide) (fun hc => ?_) (fun hc => ?_)
    · replace h := iff0 hc h
      exact w_cases_111 C hr hk kk5 w (lv_sub hl [1, 2, 3, 5, 6, 7, 0] rfl) h
    · replace h := ift hc h
      refine lv_iload C.1 C.2.1 dX13_cases_100 (lv_at hl 0 rfl) ?_
      refine lv_iload C.1 C.2.1 dX13_cases_102 (lv_at hl 6 rfl) ?_
      refine lv_icmp_ne (tgt := 111) C.1 C.2.1 dX13_cases_104 (by decide) (fun hc => ?_) (fun hc => ?_)
      · replace h := iff0 hc h
        exact w_cases_111 C hr hk kk5 w (lv_sub hl [1, 2, 3, 5, 6, 7, 0] rfl) h
      · replace h := ift hc h
        refine lv_iconst (v := 1) C.1 C.2.1 dX13_cases_107 (by decide) ?_
        refine lv_goto (tgt := 112) C.1 C.2.1 dX13_cases_108 (by decide) ?_
        exact w_cases_112 C hr hk kk5 w (lv_sub hl [1, 2, 3, 5, 6, 7, 0] rfl) h
set_option maxRecDepth 100000 in
set_option maxHeartbeats 4000000 in
theorem w_cases_68  {g : Nat} {S : St} {x1 : Int32} {x2 : Int32} {x3 : Int32} {x4 : Int32} {x5 : Int32} {y0 : Int32} (C : CallFix p m c cX13_cases 8 s args tb RX13) (hr : meth.sig.returnType = (some .boolean)) (hk : meth.locks = false) {S' : St} {r : Int32} {k5 : St → Int32 → Int32 → Int32 → Int32 → Option (St × Int32)} (kk5 : ∀ (S : St) (x1 : Int32) (x2 : Int32) (x3 : Int32) (x4 : Int32) (H : Heap) (locs : List Loc) (ls : Array Slot), Wn Ym D T ρ S A s H locs → lv_has ls 8 [(0, .ref (ρ 0)), (1, .int x1), (2, .int x2), (3, .int x3), (4, .int x4)] → k5 S x1 x2 x3 x4 = some (S', r) → W p l e (rmN 2 43) s m args below meth c H locs 0 0 (MQ below (Qi Ym D T ρ A S' r) args s 0 0 A) (F0 m 5 ls [])) (w : Wn Ym D T ρ S A s H locs) (hl : lv_has ls 8 [(0, .ref (ρ 0)), (1, .int x1), (2, .int x2), (3, .int x3), (4, .int x4), (5, .int x5)]) (h : m_cases_68 g k5 S x1 x2 x3 x4 x5 y0 = some (S', r)) : W p l e (rmN 2 43) s m args below meth c H locs 0 0 (MQ below (Qi Ym D T ρ A S' r) args s 0 0 A) (F0 m 68 ls [.int y0]) := by
  unfold m_cases_68 at h
  refine lv_istore (lv' := [(6, .int y0), (0, .ref (ρ 0)), (1, .int x1), (2, .int x2), (3, .int x3), (4, .int x4), (5, .int x5)]) C.1 C.2.1 dX13_cases_68 hl (by decide) rfl (fun ls hl => ?_)
  refine lv_iload_n C.1 C.2.1 dX13_cases_70 rfl (lv_at hl 2 rfl) ?_
  refine lv_bipush (v := 32) C.1 C.2.1 dX13_cases_71 (by decide) ?_
  refine lv_icmp_ne (tgt := 84) C.1 C.2.1 dX13_cases_73 (by decide) (fun hc => ?_) (fun hc => ?_)
  · replace h := iff0 hc h
    refine lv_iload C.1 C.2.1 dX13_cases_84 (lv_at hl 6 rfl) ?_
    obtain ⟨v_4, hv_4, h⟩ := bnd h
    refine x_callSi (As := [.int x5]) (rest := []) C w (k_lower l D T ρ g H.size S hv_4) vM501 ⟨by decide, by decide⟩ rfl rfl hl.1 (Nat.le_of_ble_eq_true rfl) ⟨Nat.zero_le _, Nat.zero_le _⟩ dX13_cases_86 (fun H locs w => ?_)
    exact w_cases_89 C hr hk kk5 w (lv_sub hl [1, 2, 3, 4, 5, 6, 0] rfl) h
  · replace h := ift hc h
    refine lv_iload C.1 C.2.1 dX13_cases_76 (lv_at hl 6 rfl) ?_
    obtain ⟨v_5, hv_5, h⟩ := bnd h
    refine x_callSi (As := [.int x5]) (rest := []) C w (k_upper l D T ρ g H.size S hv_5) vM498 ⟨by decide, by decide⟩ rfl rfl hl.1 (Nat.le_of_ble_eq_true rfl) ⟨Nat.zero_le _, Nat.zero_le _⟩ dX13_cases_78 (fun H locs w => ?_)
    refine lv_goto (tgt := 89) C.1 C.2.1 dX13_cases_81 (by decide) ?_
    exact w_cases_89 C hr hk kk5 w (lv_sub hl [1, 2, 3, 4, 5, 6, 0] rfl) h
set_option maxRecDepth 100000 in
set_option maxHeartbeats 4000000 in
theorem w_cases_47  {g : Nat} {S : St} {x1 : Int32} {x2 : Int32} {x3 : Int32} {x4 : Int32} {x5 : Int32} (C : CallFix p m c cX13_cases 8 s args tb RX13) (hr : meth.sig.returnType = (some .boolean)) (hk : meth.locks = false) {S' : St} {r : Int32} {k5 : St → Int32 → Int32 → Int32 → Int32 → Option (St × Int32)} (kk5 : ∀ (S : St) (x1 : Int32) (x2 : Int32) (x3 : Int32) (x4 : Int32) (H : Heap) (locs : List Loc) (ls : Array Slot), Wn Ym D T ρ S A s H locs → lv_has ls 8 [(0, .ref (ρ 0)), (1, .int x1), (2, .int x2), (3, .int x3), (4, .int x4)] → k5 S x1 x2 x3 x4 = some (S', r) → W p l e (rmN 2 43) s m args below meth c H locs 0 0 (MQ below (Qi Ym D T ρ A S' r) args s 0 0 A) (F0 m 5 ls [])) (w : Wn Ym D T ρ S A s H locs) (hl : lv_has ls 8 [(0, .ref (ρ 0)), (1, .int x1), (2, .int x2), (3, .int x3), (4, .int x4), (5, .int x5)]) (h : m_cases_47 g k5 S x1 x2 x3 x4 x5 = some (S', r)) : W p l e (rmN 2 43) s m args below meth c H locs 0 0 (MQ below (Qi Ym D T ρ A S' r) args s 0 0 A) (F0 m 47 ls []) := by
  unfold m_cases_47 at h
  refine lv_iconst (v := 1) C.1 C.2.1 dX13_cases_47 (by decide) ?_
  refine lv_goto (tgt := 68) C.1 C.2.1 dX13_cases_48 (by decide) ?_
  exact w_cases_68 C hr hk kk5 w (lv_sub hl [0, 1, 2, 3, 4, 5] rfl) h
set_option maxRecDepth 100000 in
set_option maxHeartbeats 4000000 in
theorem wb_cases_5  {g : Nat} {S : St} {x1 : Int32} {x2 : Int32} {x3 : Int32} {x4 : Int32} (C : CallFix p m c cX13_cases 8 s args tb RX13) (hr : meth.sig.returnType = (some .boolean)) (hk : meth.locks = false) {S' : St} {r : Int32} {k5 : St → Int32 → Int32 → Int32 → Int32 → Option (St × Int32)} (kk5 : ∀ (S : St) (x1 : Int32) (x2 : Int32) (x3 : Int32) (x4 : Int32) (H : Heap) (locs : List Loc) (ls : Array Slot), Wn Ym D T ρ S A s H locs → lv_has ls 8 [(0, .ref (ρ 0)), (1, .int x1), (2, .int x2), (3, .int x3), (4, .int x4)] → k5 S x1 x2 x3 x4 = some (S', r) → W p l e (rmN 2 43) s m args below meth c H locs 0 0 (MQ below (Qi Ym D T ρ A S' r) args s 0 0 A) (F0 m 5 ls [])) (w : Wn Ym D T ρ S A s H locs) (hl : lv_has ls 8 [(0, .ref (ρ 0)), (1, .int x1), (2, .int x2), (3, .int x3), (4, .int x4)]) (h : b_cases_5 g k5 S x1 x2 x3 x4 = some (S', r)) : W p l e (rmN 2 43) s m args below meth c H locs 0 0 (MQ below (Qi Ym D T ρ A S' r) args s 0 0 A) (F0 m 5 ls []) := by
  unfold b_cases_5 at h
  refine lv_iload C.1 C.2.1 dX13_cases_5 (lv_at hl 4 rfl) ?_
  refine lv_aload_n C.1 C.2.1 dX13_cases_7 rfl (lv_at hl 0 rfl) ?_
  refine x_getC C w 24 fM193 obM rfl dX13_cases_8 ?_
  refine lv_iload_n C.1 C.2.1 dX13_cases_11 rfl (lv_at hl 2 rfl) ?_
  obtain ⟨v_1, hv_1, h⟩ := bnd h
  refine x_iald C w obM24 hv_1 dX13_cases_12 ?_
  refine lv_icmp_ge (tgt := 181) C.1 C.2.1 dX13_cases_13 (by decide) (fun hc => ?_) (fun hc => ?_)
  · replace h := ift hc h
    refine lv_iload_n C.1 C.2.1 dX13_cases_181 rfl (lv_at hl 3 rfl) ?_
    by_cases hz_2 : x3 = 0 ∨ x3 = 1
    case neg => exact absurd (iff0 hz_2 h) (fun q => by cases q)
    replace h := ift hz_2 h
    obtain ⟨rfl, rfl⟩ := prI h
    exact x_zret C w hr hk hz_2 dX13_cases_182
  · replace h := iff0 hc h
    refine lv_aload_n C.1 C.2.1 dX13_cases_16 rfl (lv_at hl 0 rfl) ?_
    refine lv_iload_n C.1 C.2.1 dX13_cases_17 rfl (lv_at hl 2 rfl) ?_
    refine lv_iload C.1 C.2.1 dX13_cases_18 (lv_at hl 4 rfl) ?_
    obtain ⟨v_3, hv_3, h⟩ := bnd h
    refine x_callVi (q := (RX13, TX13, 68)) (As := [.int x2, .int x4]) (rest := []) C w (k_unitAt l D T ρ g H.size S hv_3) vM470 ⟨by decide, by decide⟩ obM (by decide) rfl rfl rfl hl.1 (Nat.le_of_ble_eq_true rfl) ⟨Nat.zero_le _, Nat.zero_le _⟩ dX13_cases_20 (fun H locs w => ?_)
    refine lv_istore (lv' := [(5, .int v_3), (0, .ref (ρ 0)), (1, .int x1), (2, .int x2), (3, .int x3), (4, .int x4)]) C.1 C.2.1 dX13_cases_23 hl (by decide) rfl (fun ls hl => ?_)
    refine lv_iload_n C.1 C.2.1 dX13_cases_25 rfl (lv_at hl 2 rfl) ?_
    refine lv_bipush (v := 32) C.1 C.2.1 dX13_cases_26 (by decide) ?_
    refine lv_icmp_ne (tgt := 55) C.1 C.2.1 dX13_cases_28 (by decide) (fun hc => ?_) (fun hc => ?_)
    · replace h := iff0 hc h
      refine lv_iload C.1 C.2.1 dX13_cases_55 (lv_at hl 0 rfl) ?_
      refine lv_sipush (v := 304) C.1 C.2.1 dX13_cases_57 (by decide) ?_
      refine lv_icmp_ne (tgt := 67) C.1 C.2.1 dX13_cases_60 (by decide) (fun hc => ?_) (fun hc => ?_)
      · replace h := iff0 hc h
        refine lv_iconst (v := 0) C.1 C.2.1 dX13_cases_67 (by decide) ?_
        exact w_cases_68 C hr hk kk5 w (lv_sub hl [1, 2, 3, 4, 5, 0] rfl) h
      · replace h := ift hc h
        refine lv_iconst (v := 1) C.1 C.2.1 dX13_cases_63 (by decide) ?_
        refine lv_goto (tgt := 68) C.1 C.2.1 dX13_cases_64 (by decide) ?_
        exact w_cases_68 C hr hk kk5 w (lv_sub hl [1, 2, 3, 4, 5, 0] rfl) h
    · replace h := ift hc h
      refine lv_iload C.1 C.2.1 dX13_cases_31 (lv_at hl 0 rfl) ?_
      refine lv_sipush (v := 223) C.1 C.2.1 dX13_cases_33 (by decide) ?_
      refine lv_icmp_eq (tgt := 47) C.1 C.2.1 dX13_cases_36 (by decide) (fun hc => ?_) (fun hc => ?_)
      · replace h := ift hc h
        exact w_cases_47 C hr hk kk5 w (lv_sub hl [1, 2, 3, 4, 5, 0] rfl) h
      · replace h := iff0 hc h
        refine lv_iload C.1 C.2.1 dX13_cases_39 (lv_at hl 0 rfl) ?_
        refine lv_sipush (v := 329) C.1 C.2.1 dX13_cases_41 (by decide) ?_
        refine lv_icmp_ne (tgt := 51) C.1 C.2.1 dX13_cases_44 (by decide) (fun hc => ?_) (fun hc => ?_)
        · replace h := iff0 hc h
          refine lv_iconst (v := 0) C.1 C.2.1 dX13_cases_51 (by decide) ?_
          refine lv_goto (tgt := 68) C.1 C.2.1 dX13_cases_52 (by decide) ?_
          exact w_cases_68 C hr hk kk5 w (lv_sub hl [1, 2, 3, 4, 5, 0] rfl) h
        · replace h := ift hc h
          exact w_cases_47 C hr hk kk5 w (lv_sub hl [1, 2, 3, 4, 5, 0] rfl) h
theorem w_cases_5 {g : Nat} (C : CallFix p m c cX13_cases 8 s args tb RX13) (hr : meth.sig.returnType = (some .boolean)) (hk : meth.locks = false) {S' : St} {r : Int32} (n : Nat) : ∀ (S : St) (x1 : Int32) (x2 : Int32) (x3 : Int32) (x4 : Int32) (H : Heap) (locs : List Loc) (ls : Array Slot), Wn Ym D T ρ S A s H locs → lv_has ls 8 [(0, .ref (ρ 0)), (1, .int x1), (2, .int x2), (3, .int x3), (4, .int x4)] → m_cases_5 g n S x1 x2 x3 x4 = some (S', r) → W p l e (rmN 2 43) s m args below meth c H locs 0 0 (MQ below (Qi Ym D T ρ A S' r) args s 0 0 A) (F0 m 5 ls []) := by
  induction n with
  | zero => intro S x1 x2 x3 x4 H locs ls w hl h; exact absurd h (fun q => by cases q)
  | succ n ih => intro S x1 x2 x3 x4 H locs ls w hl h; exact wb_cases_5 C hr hk ih w hl h
set_option maxRecDepth 100000 in
set_option maxHeartbeats 4000000 in
theorem w_cases_0  {g : Nat} {S : St} {x1 : Int32} {x2 : Int32} (C : CallFix p m c cX13_cases 8 s args tb RX13) (hr : meth.sig.returnType = (some .boolean)) (hk : meth.locks = false) {S' : St} {r : Int32} (w : Wn Ym D T ρ S A s H locs) (hl : lv_has ls 8 [(0, .ref (ρ 0)), (1, .int x1), (2, .int x2)]) (h : m_cases g S x1 x2 = some (S', r)) : W p l e (rmN 2 43) s m args below meth c H locs 0 0 (MQ below (Qi Ym D T ρ A S' r) args s 0 0 A) (F0 m 0 ls []) := by
  unfold m_cases at h
  refine lv_iconst (v := 1) C.1 C.2.1 dX13_cases_0 (by decide) ?_
  refine lv_istore_n (lv' := [(3, .int (1 : Int32)), (0, .ref (ρ 0)), (1, .int x1), (2, .int x2)]) C.1 C.2.1 dX13_cases_1 rfl hl (by decide) rfl (fun ls hl => ?_)
  refine lv_iconst (v := 0) C.1 C.2.1 dX13_cases_2 (by decide) ?_
  refine lv_istore (lv' := [(4, .int (0 : Int32)), (3, .int (1 : Int32)), (0, .ref (ρ 0)), (1, .int x1), (2, .int x2)]) C.1 C.2.1 dX13_cases_3 hl (by decide) rfl (fun ls hl => ?_)
  exact w_cases_5 C hr hk g _ _ _ _ _ _ _ _ w (lv_sub hl [2, 3, 4, 1, 0] rfl) h
end S_cases
set_option maxRecDepth 100000 in
theorem k_cases (l : Launch) (D : va_G) (T : Cy) (ρ : Nat → Nat) (g sz : Nat) (S : St) {x1 : Int32} {x2 : Int32} {S' : St} {r : Int32} (h : m_cases g S x1 x2 = some (S', r)) : Mi l Ym D T ρ yX13_cases cX13_cases 8 (some .boolean) 2 43 S S' r [.ref (ρ 0), .int x1, .int x2] sz :=
  x_in (by decide) (Nat.le_of_ble_eq_true rfl) (fun p e s m below meth c ls C hr hk w hl => w_cases_0 C hr hk w hl h)

theorem dX13_isBlank_0 : decode cX13_isBlank 0 = .ok (.iload_n 0, 1) := by decide +kernel
theorem dX13_isBlank_1 : decode cX13_isBlank 1 = .ok (.bipush 9, 2) := by decide +kernel
theorem dX13_isBlank_3 : decode cX13_isBlank 3 = .ok (.if_icmp .lt 9, 3) := by decide +kernel
theorem dX13_isBlank_6 : decode cX13_isBlank 6 = .ok (.iload_n 0, 1) := by decide +kernel
theorem dX13_isBlank_7 : decode cX13_isBlank 7 = .ok (.bipush 13, 2) := by decide +kernel
theorem dX13_isBlank_9 : decode cX13_isBlank 9 = .ok (.if_icmp .le 71, 3) := by decide +kernel
theorem dX13_isBlank_12 : decode cX13_isBlank 12 = .ok (.iload_n 0, 1) := by decide +kernel
theorem dX13_isBlank_13 : decode cX13_isBlank 13 = .ok (.bipush 28, 2) := by decide +kernel
theorem dX13_isBlank_15 : decode cX13_isBlank 15 = .ok (.if_icmp .lt 9, 3) := by decide +kernel
theorem dX13_isBlank_18 : decode cX13_isBlank 18 = .ok (.iload_n 0, 1) := by decide +kernel
theorem dX13_isBlank_19 : decode cX13_isBlank 19 = .ok (.bipush 32, 2) := by decide +kernel
theorem dX13_isBlank_21 : decode cX13_isBlank 21 = .ok (.if_icmp .le 59, 3) := by decide +kernel
theorem dX13_isBlank_24 : decode cX13_isBlank 24 = .ok (.iload_n 0, 1) := by decide +kernel
theorem dX13_isBlank_25 : decode cX13_isBlank 25 = .ok (.sipush 5760, 3) := by decide +kernel
theorem dX13_isBlank_28 : decode cX13_isBlank 28 = .ok (.if_icmp .eq 52, 3) := by decide +kernel
theorem dX13_isBlank_31 : decode cX13_isBlank 31 = .ok (.iload_n 0, 1) := by decide +kernel
theorem dX13_isBlank_32 : decode cX13_isBlank 32 = .ok (.sipush 8192, 3) := by decide +kernel
theorem dX13_isBlank_35 : decode cX13_isBlank 35 = .ok (.if_icmp .lt 17, 3) := by decide +kernel
theorem dX13_isBlank_38 : decode cX13_isBlank 38 = .ok (.iload_n 0, 1) := by decide +kernel
theorem dX13_isBlank_39 : decode cX13_isBlank 39 = .ok (.sipush 8202, 3) := by decide +kernel
theorem dX13_isBlank_42 : decode cX13_isBlank 42 = .ok (.if_icmp .gt 10, 3) := by decide +kernel
theorem dX13_isBlank_45 : decode cX13_isBlank 45 = .ok (.iload_n 0, 1) := by decide +kernel
theorem dX13_isBlank_46 : decode cX13_isBlank 46 = .ok (.sipush 8199, 3) := by decide +kernel
theorem dX13_isBlank_49 : decode cX13_isBlank 49 = .ok (.if_icmp .ne 31, 3) := by decide +kernel
theorem dX13_isBlank_52 : decode cX13_isBlank 52 = .ok (.iload_n 0, 1) := by decide +kernel
theorem dX13_isBlank_53 : decode cX13_isBlank 53 = .ok (.sipush 8232, 3) := by decide +kernel
theorem dX13_isBlank_56 : decode cX13_isBlank 56 = .ok (.if_icmp .eq 24, 3) := by decide +kernel
theorem dX13_isBlank_59 : decode cX13_isBlank 59 = .ok (.iload_n 0, 1) := by decide +kernel
theorem dX13_isBlank_60 : decode cX13_isBlank 60 = .ok (.sipush 8233, 3) := by decide +kernel
theorem dX13_isBlank_63 : decode cX13_isBlank 63 = .ok (.if_icmp .eq 17, 3) := by decide +kernel
theorem dX13_isBlank_66 : decode cX13_isBlank 66 = .ok (.iload_n 0, 1) := by decide +kernel
theorem dX13_isBlank_67 : decode cX13_isBlank 67 = .ok (.sipush 8287, 3) := by decide +kernel
theorem dX13_isBlank_70 : decode cX13_isBlank 70 = .ok (.if_icmp .eq 10, 3) := by decide +kernel
theorem dX13_isBlank_73 : decode cX13_isBlank 73 = .ok (.iload_n 0, 1) := by decide +kernel
theorem dX13_isBlank_74 : decode cX13_isBlank 74 = .ok (.sipush 12288, 3) := by decide +kernel
theorem dX13_isBlank_77 : decode cX13_isBlank 77 = .ok (.if_icmp .ne 7, 3) := by decide +kernel
theorem dX13_isBlank_80 : decode cX13_isBlank 80 = .ok (.iconst 1, 1) := by decide +kernel
theorem dX13_isBlank_81 : decode cX13_isBlank 81 = .ok (.goto 4, 3) := by decide +kernel
theorem dX13_isBlank_84 : decode cX13_isBlank 84 = .ok (.iconst 0, 1) := by decide +kernel
theorem dX13_isBlank_85 : decode cX13_isBlank 85 = .ok (.ireturn, 1) := by decide +kernel
def m_isBlank_52 (g : Nat) (x0 : Int32) : Option Int32 :=
if x0 = (8232 : Int32) then (
  some (1 : Int32)
) else (
  if x0 = (8233 : Int32) then (
    some (1 : Int32)
  ) else (
    if x0 = (8287 : Int32) then (
      some (1 : Int32)
    ) else (
      if x0 = (12288 : Int32) then (
        some (1 : Int32)
      ) else (
        some (0 : Int32)
      )
    )
  )
)
def m_isBlank_24 (g : Nat) (x0 : Int32) : Option Int32 :=
if x0 = (5760 : Int32) then (
  some (1 : Int32)
) else (
  if x0 < (8192 : Int32) then (
    m_isBlank_52 g x0
  ) else (
    if (8202 : Int32) < x0 then (
      m_isBlank_52 g x0
    ) else (
      if x0 = (8199 : Int32) then (
        m_isBlank_52 g x0
      ) else (
        some (1 : Int32)
      )
    )
  )
)
def m_isBlank_12 (g : Nat) (x0 : Int32) : Option Int32 :=
if x0 < (28 : Int32) then (
  m_isBlank_24 g x0
) else (
  if x0 ≤ (32 : Int32) then (
    some (1 : Int32)
  ) else (
    m_isBlank_24 g x0
  )
)
def m_isBlank (g : Nat) (x0 : Int32) : Option Int32 :=
if x0 < (9 : Int32) then (
  m_isBlank_12 g x0
) else (
  if x0 ≤ (13 : Int32) then (
    some (1 : Int32)
  ) else (
    m_isBlank_12 g x0
  )
)
section S_isBlank
variable {p : Program} {l : Launch} {e : Env} {s : State} {m : MethodId} {args : Array Value} {below : List Frame} {meth : Method} {c : Code} {H : Heap} {locs : List Loc} {ls : Array Slot} {D : va_G} {T : Cy} {ρ : Nat → Nat} {A : Nat → Prop}
set_option maxRecDepth 100000 in
set_option maxHeartbeats 4000000 in
theorem w_isBlank_52  {g : Nat} {S : St} {x0 : Int32} (C : CallFix p m c cX13_isBlank 1 s args tb RX13) (hr : meth.sig.returnType = (some .boolean)) (hk : meth.locks = false) {r : Int32} (w : Wn Ym D T ρ S A s H locs) (hl : lv_has ls 1 [(0, .int x0)]) (h : m_isBlank_52 g x0 = some r) : W p l e (rmN 0 0) s m args below meth c H locs 0 0 (MQ below (Qi Ym D T ρ A S r) args s 0 0 A) (F0 m 52 ls []) := by
  unfold m_isBlank_52 at h
  refine lv_iload_n C.1 C.2.1 dX13_isBlank_52 rfl (lv_at hl 0 rfl) ?_
  refine lv_sipush (v := 8232) C.1 C.2.1 dX13_isBlank_53 (by decide) ?_
  refine lv_icmp_eq (tgt := 80) C.1 C.2.1 dX13_isBlank_56 (by decide) (fun hc => ?_) (fun hc => ?_)
  · replace h := ift hc h
    refine lv_iconst (v := 1) C.1 C.2.1 dX13_isBlank_80 (by decide) ?_
    refine lv_goto (tgt := 85) C.1 C.2.1 dX13_isBlank_81 (by decide) ?_
    obtain rfl := som h
    exact x_zret C w hr hk (by decide) dX13_isBlank_85
  · replace h := iff0 hc h
    refine lv_iload_n C.1 C.2.1 dX13_isBlank_59 rfl (lv_at hl 0 rfl) ?_
    refine lv_sipush (v := 8233) C.1 C.2.1 dX13_isBlank_60 (by decide) ?_
    refine lv_icmp_eq (tgt := 80) C.1 C.2.1 dX13_isBlank_63 (by decide) (fun hc => ?_) (fun hc => ?_)
    · replace h := ift hc h
      refine lv_iconst (v := 1) C.1 C.2.1 dX13_isBlank_80 (by decide) ?_
      refine lv_goto (tgt := 85) C.1 C.2.1 dX13_isBlank_81 (by decide) ?_
      obtain rfl := som h
      exact x_zret C w hr hk (by decide) dX13_isBlank_85
    · replace h := iff0 hc h
      refine lv_iload_n C.1 C.2.1 dX13_isBlank_66 rfl (lv_at hl 0 rfl) ?_
      refine lv_sipush (v := 8287) C.1 C.2.1 dX13_isBlank_67 (by decide) ?_
      refine lv_icmp_eq (tgt := 80) C.1 C.2.1 dX13_isBlank_70 (by decide) (fun hc => ?_) (fun hc => ?_)
      · replace h := ift hc h
        refine lv_iconst (v := 1) C.1 C.2.1 dX13_isBlank_80 (by decide) ?_
        refine lv_goto (tgt := 85) C.1 C.2.1 dX13_isBlank_81 (by decide) ?_
        obtain rfl := som h
        exact x_zret C w hr hk (by decide) dX13_isBlank_85
      · replace h := iff0 hc h
        refine lv_iload_n C.1 C.2.1 dX13_isBlank_73 rfl (lv_at hl 0 rfl) ?_
        refine lv_sipush (v := 12288) C.1 C.2.1 dX13_isBlank_74 (by decide) ?_
        refine lv_icmp_ne (tgt := 84) C.1 C.2.1 dX13_isBlank_77 (by decide) (fun hc => ?_) (fun hc => ?_)
        · replace h := iff0 hc h
          refine lv_iconst (v := 0) C.1 C.2.1 dX13_isBlank_84 (by decide) ?_
          obtain rfl := som h
          exact x_zret C w hr hk (by decide) dX13_isBlank_85
        · replace h := ift hc h
          refine lv_iconst (v := 1) C.1 C.2.1 dX13_isBlank_80 (by decide) ?_
          refine lv_goto (tgt := 85) C.1 C.2.1 dX13_isBlank_81 (by decide) ?_
          obtain rfl := som h
          exact x_zret C w hr hk (by decide) dX13_isBlank_85
set_option maxRecDepth 100000 in
set_option maxHeartbeats 4000000 in
theorem w_isBlank_24  {g : Nat} {S : St} {x0 : Int32} (C : CallFix p m c cX13_isBlank 1 s args tb RX13) (hr : meth.sig.returnType = (some .boolean)) (hk : meth.locks = false) {r : Int32} (w : Wn Ym D T ρ S A s H locs) (hl : lv_has ls 1 [(0, .int x0)]) (h : m_isBlank_24 g x0 = some r) : W p l e (rmN 0 0) s m args below meth c H locs 0 0 (MQ below (Qi Ym D T ρ A S r) args s 0 0 A) (F0 m 24 ls []) := by
  unfold m_isBlank_24 at h
  refine lv_iload_n C.1 C.2.1 dX13_isBlank_24 rfl (lv_at hl 0 rfl) ?_
  refine lv_sipush (v := 5760) C.1 C.2.1 dX13_isBlank_25 (by decide) ?_
  refine lv_icmp_eq (tgt := 80) C.1 C.2.1 dX13_isBlank_28 (by decide) (fun hc => ?_) (fun hc => ?_)
  · replace h := ift hc h
    refine lv_iconst (v := 1) C.1 C.2.1 dX13_isBlank_80 (by decide) ?_
    refine lv_goto (tgt := 85) C.1 C.2.1 dX13_isBlank_81 (by decide) ?_
    obtain rfl := som h
    exact x_zret C w hr hk (by decide) dX13_isBlank_85
  · replace h := iff0 hc h
    refine lv_iload_n C.1 C.2.1 dX13_isBlank_31 rfl (lv_at hl 0 rfl) ?_
    refine lv_sipush (v := 8192) C.1 C.2.1 dX13_isBlank_32 (by decide) ?_
    refine lv_icmp_lt (tgt := 52) C.1 C.2.1 dX13_isBlank_35 (by decide) (fun hc => ?_) (fun hc => ?_)
    · replace h := ift hc h
      exact w_isBlank_52 C hr hk w (lv_sub hl [0] rfl) h
    · replace h := iff0 hc h
      refine lv_iload_n C.1 C.2.1 dX13_isBlank_38 rfl (lv_at hl 0 rfl) ?_
      refine lv_sipush (v := 8202) C.1 C.2.1 dX13_isBlank_39 (by decide) ?_
      refine lv_icmp_gt (tgt := 52) C.1 C.2.1 dX13_isBlank_42 (by decide) (fun hc => ?_) (fun hc => ?_)
      · replace h := ift hc h
        exact w_isBlank_52 C hr hk w (lv_sub hl [0] rfl) h
      · replace h := iff0 hc h
        refine lv_iload_n C.1 C.2.1 dX13_isBlank_45 rfl (lv_at hl 0 rfl) ?_
        refine lv_sipush (v := 8199) C.1 C.2.1 dX13_isBlank_46 (by decide) ?_
        refine lv_icmp_ne (tgt := 80) C.1 C.2.1 dX13_isBlank_49 (by decide) (fun hc => ?_) (fun hc => ?_)
        · replace h := iff0 hc h
          refine lv_iconst (v := 1) C.1 C.2.1 dX13_isBlank_80 (by decide) ?_
          refine lv_goto (tgt := 85) C.1 C.2.1 dX13_isBlank_81 (by decide) ?_
          obtain rfl := som h
          exact x_zret C w hr hk (by decide) dX13_isBlank_85
        · replace h := ift hc h
          exact w_isBlank_52 C hr hk w (lv_sub hl [0] rfl) h
set_option maxRecDepth 100000 in
set_option maxHeartbeats 4000000 in
theorem w_isBlank_12  {g : Nat} {S : St} {x0 : Int32} (C : CallFix p m c cX13_isBlank 1 s args tb RX13) (hr : meth.sig.returnType = (some .boolean)) (hk : meth.locks = false) {r : Int32} (w : Wn Ym D T ρ S A s H locs) (hl : lv_has ls 1 [(0, .int x0)]) (h : m_isBlank_12 g x0 = some r) : W p l e (rmN 0 0) s m args below meth c H locs 0 0 (MQ below (Qi Ym D T ρ A S r) args s 0 0 A) (F0 m 12 ls []) := by
  unfold m_isBlank_12 at h
  refine lv_iload_n C.1 C.2.1 dX13_isBlank_12 rfl (lv_at hl 0 rfl) ?_
  refine lv_bipush (v := 28) C.1 C.2.1 dX13_isBlank_13 (by decide) ?_
  refine lv_icmp_lt (tgt := 24) C.1 C.2.1 dX13_isBlank_15 (by decide) (fun hc => ?_) (fun hc => ?_)
  · replace h := ift hc h
    exact w_isBlank_24 C hr hk w (lv_sub hl [0] rfl) h
  · replace h := iff0 hc h
    refine lv_iload_n C.1 C.2.1 dX13_isBlank_18 rfl (lv_at hl 0 rfl) ?_
    refine lv_bipush (v := 32) C.1 C.2.1 dX13_isBlank_19 (by decide) ?_
    refine lv_icmp_le (tgt := 80) C.1 C.2.1 dX13_isBlank_21 (by decide) (fun hc => ?_) (fun hc => ?_)
    · replace h := ift hc h
      refine lv_iconst (v := 1) C.1 C.2.1 dX13_isBlank_80 (by decide) ?_
      refine lv_goto (tgt := 85) C.1 C.2.1 dX13_isBlank_81 (by decide) ?_
      obtain rfl := som h
      exact x_zret C w hr hk (by decide) dX13_isBlank_85
    · replace h := iff0 hc h
      exact w_isBlank_24 C hr hk w (lv_sub hl [0] rfl) h
set_option maxRecDepth 100000 in
set_option maxHeartbeats 4000000 in
theorem w_isBlank_0  {g : Nat} {S : St} {x0 : Int32} (C : CallFix p m c cX13_isBlank 1 s args tb RX13) (hr : meth.sig.returnType = (some .boolean)) (hk : meth.locks = false) {r : Int32} (w : Wn Ym D T ρ S A s H locs) (hl : lv_has ls 1 [(0, .int x0)]) (h : m_isBlank g x0 = some r) : W p l e (rmN 0 0) s m args below meth c H locs 0 0 (MQ below (Qi Ym D T ρ A S r) args s 0 0 A) (F0 m 0 ls []) := by
  unfold m_isBlank at h
  refine lv_iload_n C.1 C.2.1 dX13_isBlank_0 rfl (lv_at hl 0 rfl) ?_
  refine lv_bipush (v := 9) C.1 C.2.1 dX13_isBlank_1 (by decide) ?_
  refine lv_icmp_lt (tgt := 12) C.1 C.2.1 dX13_isBlank_3 (by decide) (fun hc => ?_) (fun hc => ?_)
  · replace h := ift hc h
    exact w_isBlank_12 C hr hk w (lv_sub hl [0] rfl) h
  · replace h := iff0 hc h
    refine lv_iload_n C.1 C.2.1 dX13_isBlank_6 rfl (lv_at hl 0 rfl) ?_
    refine lv_bipush (v := 13) C.1 C.2.1 dX13_isBlank_7 (by decide) ?_
    refine lv_icmp_le (tgt := 80) C.1 C.2.1 dX13_isBlank_9 (by decide) (fun hc => ?_) (fun hc => ?_)
    · replace h := ift hc h
      refine lv_iconst (v := 1) C.1 C.2.1 dX13_isBlank_80 (by decide) ?_
      refine lv_goto (tgt := 85) C.1 C.2.1 dX13_isBlank_81 (by decide) ?_
      obtain rfl := som h
      exact x_zret C w hr hk (by decide) dX13_isBlank_85
    · replace h := iff0 hc h
      exact w_isBlank_12 C hr hk w (lv_sub hl [0] rfl) h
end S_isBlank
set_option maxRecDepth 100000 in
theorem k_isBlank (l : Launch) (D : va_G) (T : Cy) (ρ : Nat → Nat) (g sz : Nat) (S : St) {x0 : Int32} {r : Int32} (h : m_isBlank g x0 = some r) : Mi l Ym D T ρ yX13_isBlank cX13_isBlank 1 (some .boolean) 0 0 S S r [.int x0] sz :=
  x_in (by decide) (Nat.le_of_ble_eq_true rfl) (fun p e s m below meth c ls C hr hk w hl => w_isBlank_0 C hr hk w hl h)

theorem dX13_goes_0 : decode cX13_goes 0 = .ok (.iload_n 0, 1) := by decide +kernel
theorem dX13_goes_1 : decode cX13_goes 1 = .ok (.bipush 17, 2) := by decide +kernel
theorem dX13_goes_3 : decode cX13_goes 3 = .ok (.if_icmp .ne 17, 3) := by decide +kernel
theorem dX13_goes_6 : decode cX13_goes 6 = .ok (.iload_n 1, 1) := by decide +kernel
theorem dX13_goes_7 : decode cX13_goes 7 = .ok (.bipush 32, 2) := by decide +kernel
theorem dX13_goes_9 : decode cX13_goes 9 = .ok (.if_icmp .gt 7, 3) := by decide +kernel
theorem dX13_goes_12 : decode cX13_goes 12 = .ok (.iconst 1, 1) := by decide +kernel
theorem dX13_goes_13 : decode cX13_goes 13 = .ok (.goto 11, 3) := by decide +kernel
theorem dX13_goes_16 : decode cX13_goes 16 = .ok (.iconst 0, 1) := by decide +kernel
theorem dX13_goes_17 : decode cX13_goes 17 = .ok (.goto 7, 3) := by decide +kernel
theorem dX13_goes_20 : decode cX13_goes 20 = .ok (.iload_n 1, 1) := by decide +kernel
theorem dX13_goes_21 : decode cX13_goes 21 = .ok (.invokestatic 620, 3) := by decide +kernel
theorem dX13_goes_24 : decode cX13_goes 24 = .ok (.ireturn, 1) := by decide +kernel
def m_goes (g : Nat) (x0 : Int32) (x1 : Int32) : Option Int32 :=
if x0 = (17 : Int32) then (
  if (32 : Int32) < x1 then (
    some (0 : Int32)
  ) else (
    some (1 : Int32)
  )
) else (
  (m_isBlank g x1).bind fun v_1 =>
  if v_1 = 0 ∨ v_1 = 1 then some v_1 else none
)
section S_goes
variable {p : Program} {l : Launch} {e : Env} {s : State} {m : MethodId} {args : Array Value} {below : List Frame} {meth : Method} {c : Code} {H : Heap} {locs : List Loc} {ls : Array Slot} {D : va_G} {T : Cy} {ρ : Nat → Nat} {A : Nat → Prop}
set_option maxRecDepth 100000 in
set_option maxHeartbeats 4000000 in
theorem w_goes_0  {g : Nat} {S : St} {x0 : Int32} {x1 : Int32} (C : CallFix p m c cX13_goes 2 s args tb RX13) (hr : meth.sig.returnType = (some .boolean)) (hk : meth.locks = false) {r : Int32} (w : Wn Ym D T ρ S A s H locs) (hl : lv_has ls 2 [(0, .int x0), (1, .int x1)]) (h : m_goes g x0 x1 = some r) : W p l e (rmN 1 20) s m args below meth c H locs 0 0 (MQ below (Qi Ym D T ρ A S r) args s 0 0 A) (F0 m 0 ls []) := by
  unfold m_goes at h
  refine lv_iload_n C.1 C.2.1 dX13_goes_0 rfl (lv_at hl 0 rfl) ?_
  refine lv_bipush (v := 17) C.1 C.2.1 dX13_goes_1 (by decide) ?_
  refine lv_icmp_ne (tgt := 20) C.1 C.2.1 dX13_goes_3 (by decide) (fun hc => ?_) (fun hc => ?_)
  · replace h := iff0 hc h
    refine lv_iload_n C.1 C.2.1 dX13_goes_20 rfl (lv_at hl 1 rfl) ?_
    obtain ⟨v_1, hv_1, h⟩ := bnd h
    refine x_callSi (As := [.int x1]) (rest := []) C w (k_isBlank l D T ρ g H.size S hv_1) vM620 ⟨by decide, by decide⟩ rfl rfl hl.1 (Nat.le_of_ble_eq_true rfl) ⟨Nat.zero_le _, Nat.zero_le _⟩ dX13_goes_21 (fun H locs w => ?_)
    by_cases hz_2 : v_1 = 0 ∨ v_1 = 1
    case neg => exact absurd (iff0 hz_2 h) (fun q => by cases q)
    replace h := ift hz_2 h
    obtain rfl := som h
    exact x_zret C w hr hk hz_2 dX13_goes_24
  · replace h := ift hc h
    refine lv_iload_n C.1 C.2.1 dX13_goes_6 rfl (lv_at hl 1 rfl) ?_
    refine lv_bipush (v := 32) C.1 C.2.1 dX13_goes_7 (by decide) ?_
    refine lv_icmp_gt (tgt := 16) C.1 C.2.1 dX13_goes_9 (by decide) (fun hc => ?_) (fun hc => ?_)
    · replace h := ift hc h
      refine lv_iconst (v := 0) C.1 C.2.1 dX13_goes_16 (by decide) ?_
      refine lv_goto (tgt := 24) C.1 C.2.1 dX13_goes_17 (by decide) ?_
      obtain rfl := som h
      exact x_zret C w hr hk (by decide) dX13_goes_24
    · replace h := iff0 hc h
      refine lv_iconst (v := 1) C.1 C.2.1 dX13_goes_12 (by decide) ?_
      refine lv_goto (tgt := 24) C.1 C.2.1 dX13_goes_13 (by decide) ?_
      obtain rfl := som h
      exact x_zret C w hr hk (by decide) dX13_goes_24
end S_goes
set_option maxRecDepth 100000 in
theorem k_goes (l : Launch) (D : va_G) (T : Cy) (ρ : Nat → Nat) (g sz : Nat) (S : St) {x0 : Int32} {x1 : Int32} {r : Int32} (h : m_goes g x0 x1 = some r) : Mi l Ym D T ρ yX13_goes cX13_goes 2 (some .boolean) 1 20 S S r [.int x0, .int x1] sz :=
  x_in (by decide) (Nat.le_of_ble_eq_true rfl) (fun p e s m below meth c ls C hr hk w hl => w_goes_0 C hr hk w hl h)

theorem dX13_cutOut_0 : decode cX13_cutOut 0 = .ok (.iconst 0, 1) := by decide +kernel
theorem dX13_cutOut_1 : decode cX13_cutOut 1 = .ok (.istore 4, 2) := by decide +kernel
theorem dX13_cutOut_3 : decode cX13_cutOut 3 = .ok (.aload_n 0, 1) := by decide +kernel
theorem dX13_cutOut_4 : decode cX13_cutOut 4 = .ok (.getfield 193, 3) := by decide +kernel
theorem dX13_cutOut_7 : decode cX13_cutOut 7 = .ok (.iload_n 3, 1) := by decide +kernel
theorem dX13_cutOut_8 : decode cX13_cutOut 8 = .ok (.iaload, 1) := by decide +kernel
theorem dX13_cutOut_9 : decode cX13_cutOut 9 = .ok (.istore 5, 2) := by decide +kernel
theorem dX13_cutOut_11 : decode cX13_cutOut 11 = .ok (.iload_n 1, 1) := by decide +kernel
theorem dX13_cutOut_12 : decode cX13_cutOut 12 = .ok (.bipush 16, 2) := by decide +kernel
theorem dX13_cutOut_14 : decode cX13_cutOut 14 = .ok (.if_icmp .ne 73, 3) := by decide +kernel
theorem dX13_cutOut_17 : decode cX13_cutOut 17 = .ok (.aload_n 0, 1) := by decide +kernel
theorem dX13_cutOut_18 : decode cX13_cutOut 18 = .ok (.iload_n 2, 1) := by decide +kernel
theorem dX13_cutOut_19 : decode cX13_cutOut 19 = .ok (.iconst 2, 1) := by decide +kernel
theorem dX13_cutOut_20 : decode cX13_cutOut 20 = .ok (.iadd, 1) := by decide +kernel
theorem dX13_cutOut_21 : decode cX13_cutOut 21 = .ok (.invokevirtual 459, 3) := by decide +kernel
theorem dX13_cutOut_24 : decode cX13_cutOut 24 = .ok (.lstore 6, 2) := by decide +kernel
theorem dX13_cutOut_26 : decode cX13_cutOut 26 = .ok (.aload_n 0, 1) := by decide +kernel
theorem dX13_cutOut_27 : decode cX13_cutOut 27 = .ok (.iload_n 2, 1) := by decide +kernel
theorem dX13_cutOut_28 : decode cX13_cutOut 28 = .ok (.iconst 3, 1) := by decide +kernel
theorem dX13_cutOut_29 : decode cX13_cutOut 29 = .ok (.iadd, 1) := by decide +kernel
theorem dX13_cutOut_30 : decode cX13_cutOut 30 = .ok (.invokevirtual 459, 3) := by decide +kernel
theorem dX13_cutOut_33 : decode cX13_cutOut 33 = .ok (.lstore 8, 2) := by decide +kernel
theorem dX13_cutOut_35 : decode cX13_cutOut 35 = .ok (.aload_n 0, 1) := by decide +kernel
theorem dX13_cutOut_36 : decode cX13_cutOut 36 = .ok (.lload 6, 2) := by decide +kernel
theorem dX13_cutOut_38 : decode cX13_cutOut 38 = .ok (.lconst 0, 1) := by decide +kernel
theorem dX13_cutOut_39 : decode cX13_cutOut 39 = .ok (.lload 8, 2) := by decide +kernel
theorem dX13_cutOut_41 : decode cX13_cutOut 41 = .ok (.invokestatic 318, 3) := by decide +kernel
theorem dX13_cutOut_44 : decode cX13_cutOut 44 = .ok (.ifCond .eq 12, 3) := by decide +kernel
theorem dX13_cutOut_47 : decode cX13_cutOut 47 = .ok (.lload 8, 2) := by decide +kernel
theorem dX13_cutOut_49 : decode cX13_cutOut 49 = .ok (.iload 5, 2) := by decide +kernel
theorem dX13_cutOut_51 : decode cX13_cutOut 51 = .ok (.i2l, 1) := by decide +kernel
theorem dX13_cutOut_52 : decode cX13_cutOut 52 = .ok (.lcmp, 1) := by decide +kernel
theorem dX13_cutOut_53 : decode cX13_cutOut 53 = .ok (.ifCond .le 7, 3) := by decide +kernel
theorem dX13_cutOut_56 : decode cX13_cutOut 56 = .ok (.iconst 1, 1) := by decide +kernel
theorem dX13_cutOut_57 : decode cX13_cutOut 57 = .ok (.goto 4, 3) := by decide +kernel
theorem dX13_cutOut_60 : decode cX13_cutOut 60 = .ok (.iconst 0, 1) := by decide +kernel
theorem dX13_cutOut_61 : decode cX13_cutOut 61 = .ok (.iconst 1, 1) := by decide +kernel
theorem dX13_cutOut_62 : decode cX13_cutOut 62 = .ok (.invokevirtual 466, 3) := by decide +kernel
theorem dX13_cutOut_65 : decode cX13_cutOut 65 = .ok (.aload_n 0, 1) := by decide +kernel
theorem dX13_cutOut_66 : decode cX13_cutOut 66 = .ok (.getfield 398, 3) := by decide +kernel
theorem dX13_cutOut_69 : decode cX13_cutOut 69 = .ok (.ifCond .eq 5, 3) := by decide +kernel
theorem dX13_cutOut_72 : decode cX13_cutOut 72 = .ok (.iconst 0, 1) := by decide +kernel
theorem dX13_cutOut_73 : decode cX13_cutOut 73 = .ok (.ireturn, 1) := by decide +kernel
theorem dX13_cutOut_74 : decode cX13_cutOut 74 = .ok (.lload 6, 2) := by decide +kernel
theorem dX13_cutOut_76 : decode cX13_cutOut 76 = .ok (.l2i, 1) := by decide +kernel
theorem dX13_cutOut_77 : decode cX13_cutOut 77 = .ok (.istore 4, 2) := by decide +kernel
theorem dX13_cutOut_79 : decode cX13_cutOut 79 = .ok (.lload 8, 2) := by decide +kernel
theorem dX13_cutOut_81 : decode cX13_cutOut 81 = .ok (.l2i, 1) := by decide +kernel
theorem dX13_cutOut_82 : decode cX13_cutOut 82 = .ok (.istore 5, 2) := by decide +kernel
theorem dX13_cutOut_84 : decode cX13_cutOut 84 = .ok (.goto 59, 3) := by decide +kernel
theorem dX13_cutOut_87 : decode cX13_cutOut 87 = .ok (.iload 4, 2) := by decide +kernel
theorem dX13_cutOut_89 : decode cX13_cutOut 89 = .ok (.iload 5, 2) := by decide +kernel
theorem dX13_cutOut_91 : decode cX13_cutOut 91 = .ok (.if_icmp .ge 23, 3) := by decide +kernel
theorem dX13_cutOut_94 : decode cX13_cutOut 94 = .ok (.iload_n 1, 1) := by decide +kernel
theorem dX13_cutOut_95 : decode cX13_cutOut 95 = .ok (.aload_n 0, 1) := by decide +kernel
theorem dX13_cutOut_96 : decode cX13_cutOut 96 = .ok (.iload_n 3, 1) := by decide +kernel
theorem dX13_cutOut_97 : decode cX13_cutOut 97 = .ok (.iload 4, 2) := by decide +kernel
theorem dX13_cutOut_99 : decode cX13_cutOut 99 = .ok (.invokevirtual 470, 3) := by decide +kernel
theorem dX13_cutOut_102 : decode cX13_cutOut 102 = .ok (.invokestatic 617, 3) := by decide +kernel
theorem dX13_cutOut_105 : decode cX13_cutOut 105 = .ok (.ifCond .eq 9, 3) := by decide +kernel
theorem dX13_cutOut_108 : decode cX13_cutOut 108 = .ok (.iinc 4 1, 3) := by decide +kernel
theorem dX13_cutOut_111 : decode cX13_cutOut 111 = .ok (.goto (-24), 3) := by decide +kernel
theorem dX13_cutOut_114 : decode cX13_cutOut 114 = .ok (.iload 5, 2) := by decide +kernel
theorem dX13_cutOut_116 : decode cX13_cutOut 116 = .ok (.iload 4, 2) := by decide +kernel
theorem dX13_cutOut_118 : decode cX13_cutOut 118 = .ok (.if_icmp .le 25, 3) := by decide +kernel
theorem dX13_cutOut_121 : decode cX13_cutOut 121 = .ok (.iload_n 1, 1) := by decide +kernel
theorem dX13_cutOut_122 : decode cX13_cutOut 122 = .ok (.aload_n 0, 1) := by decide +kernel
theorem dX13_cutOut_123 : decode cX13_cutOut 123 = .ok (.iload_n 3, 1) := by decide +kernel
theorem dX13_cutOut_124 : decode cX13_cutOut 124 = .ok (.iload 5, 2) := by decide +kernel
theorem dX13_cutOut_126 : decode cX13_cutOut 126 = .ok (.iconst 1, 1) := by decide +kernel
theorem dX13_cutOut_127 : decode cX13_cutOut 127 = .ok (.isub, 1) := by decide +kernel
theorem dX13_cutOut_128 : decode cX13_cutOut 128 = .ok (.invokevirtual 470, 3) := by decide +kernel
theorem dX13_cutOut_131 : decode cX13_cutOut 131 = .ok (.invokestatic 617, 3) := by decide +kernel
theorem dX13_cutOut_134 : decode cX13_cutOut 134 = .ok (.ifCond .eq 9, 3) := by decide +kernel
theorem dX13_cutOut_137 : decode cX13_cutOut 137 = .ok (.iinc 5 (-1), 3) := by decide +kernel
theorem dX13_cutOut_140 : decode cX13_cutOut 140 = .ok (.goto (-26), 3) := by decide +kernel
theorem dX13_cutOut_143 : decode cX13_cutOut 143 = .ok (.aload_n 0, 1) := by decide +kernel
theorem dX13_cutOut_144 : decode cX13_cutOut 144 = .ok (.iload_n 3, 1) := by decide +kernel
theorem dX13_cutOut_145 : decode cX13_cutOut 145 = .ok (.iload 4, 2) := by decide +kernel
theorem dX13_cutOut_147 : decode cX13_cutOut 147 = .ok (.iload 5, 2) := by decide +kernel
theorem dX13_cutOut_149 : decode cX13_cutOut 149 = .ok (.invokevirtual 478, 3) := by decide +kernel
theorem dX13_cutOut_152 : decode cX13_cutOut 152 = .ok (.iload 5, 2) := by decide +kernel
theorem dX13_cutOut_154 : decode cX13_cutOut 154 = .ok (.iload 4, 2) := by decide +kernel
theorem dX13_cutOut_156 : decode cX13_cutOut 156 = .ok (.isub, 1) := by decide +kernel
theorem dX13_cutOut_157 : decode cX13_cutOut 157 = .ok (.aload_n 0, 1) := by decide +kernel
theorem dX13_cutOut_158 : decode cX13_cutOut 158 = .ok (.getfield 193, 3) := by decide +kernel
theorem dX13_cutOut_161 : decode cX13_cutOut 161 = .ok (.iload_n 3, 1) := by decide +kernel
theorem dX13_cutOut_162 : decode cX13_cutOut 162 = .ok (.iaload, 1) := by decide +kernel
theorem dX13_cutOut_163 : decode cX13_cutOut 163 = .ok (.if_icmp .ne 7, 3) := by decide +kernel
theorem dX13_cutOut_166 : decode cX13_cutOut 166 = .ok (.iconst 1, 1) := by decide +kernel
theorem dX13_cutOut_167 : decode cX13_cutOut 167 = .ok (.goto 4, 3) := by decide +kernel
theorem dX13_cutOut_170 : decode cX13_cutOut 170 = .ok (.iconst 0, 1) := by decide +kernel
theorem dX13_cutOut_171 : decode cX13_cutOut 171 = .ok (.ireturn, 1) := by decide +kernel
def m_cutOut_143 (g : Nat) (S : St) (x3 : Int32) (x4 : Int32) (x5 : Int32) : Option (St × Int32) :=
(m_emitText g S x3 x4 x5).bind fun S_2 =>
(aI S_2 24 x3).bind fun v_3 =>
if (x5 - x4) = v_3 then (
  some (S_2, (1 : Int32))
) else (
  some (S_2, (0 : Int32))
)
def b_cutOut_114 (g : Nat) (k114 : St → Int32 → Int32 → Int32 → Int32 → Option (St × Int32)) (S : St) (x1 : Int32) (x3 : Int32) (x4 : Int32) (x5 : Int32) : Option (St × Int32) :=
if x5 ≤ x4 then (
  m_cutOut_143 g S x3 x4 x5
) else (
  (m_unitAt g S x3 (x5 - (1 : Int32))).bind fun v_2 =>
  (m_goes g x1 v_2).bind fun v_3 =>
  if v_3 = 0 then (
    m_cutOut_143 g S x3 x4 x5
  ) else (
    lt (x5 + (-1 : Int32)) fun x5_4 =>
    k114 S x1 x3 x4 x5_4
  )
)
def m_cutOut_114 (g : Nat) : Nat → St → Int32 → Int32 → Int32 → Int32 → Option (St × Int32)
  | 0, _, _, _, _, _ => none
  | n + 1, S, x1, x3, x4, x5 => b_cutOut_114 g (m_cutOut_114 g n) S x1 x3 x4 x5
def b_cutOut_87 (g : Nat) (k87 : St → Int32 → Int32 → Int32 → Int32 → Option (St × Int32)) (S : St) (x1 : Int32) (x3 : Int32) (x4 : Int32) (x5 : Int32) : Option (St × Int32) :=
if x5 ≤ x4 then (
  m_cutOut_114 g g S x1 x3 x4 x5
) else (
  (m_unitAt g S x3 x4).bind fun v_2 =>
  (m_goes g x1 v_2).bind fun v_3 =>
  if v_3 = 0 then (
    m_cutOut_114 g g S x1 x3 x4 x5
  ) else (
    lt (x4 + (1 : Int32)) fun x4_4 =>
    k87 S x1 x3 x4_4 x5
  )
)
def m_cutOut_87 (g : Nat) : Nat → St → Int32 → Int32 → Int32 → Int32 → Option (St × Int32)
  | 0, _, _, _, _, _ => none
  | n + 1, S, x1, x3, x4, x5 => b_cutOut_87 g (m_cutOut_87 g n) S x1 x3 x4 x5
def m_cutOut_61 (g : Nat) (S : St) (x3 : Int32) (x6 : Int64) (x8 : Int64) (y1 : Int32) : Option (St × Int32) :=
(m_refuse g S y1 (1 : Int32)).bind fun S_5 =>
if (gI S_5 0 58) = 0 then (
  lt (x6.toInt32) fun x4_6 =>
  lt (x8.toInt32) fun x5_7 =>
  m_cutOut_143 g S_5 x3 x4_6 x5_7
) else (
  some (S_5, (0 : Int32))
)
def m_cutOut_56 (g : Nat) (S : St) (x3 : Int32) (x6 : Int64) (x8 : Int64) : Option (St × Int32) :=
m_cutOut_61 g S x3 x6 x8 (1 : Int32)
def m_cutOut (g : Nat) (S : St) (x1 : Int32) (x2 : Int32) (x3 : Int32) : Option (St × Int32) :=
(aI S 24 x3).bind fun v_1 =>
if x1 = (16 : Int32) then (
  (m_value g S (x2 + (2 : Int32))).bind fun v_2 =>
  (m_value g S (x2 + (3 : Int32))).bind fun v_3 =>
  (m_isIn g v_2 (0 : Int64) v_3).bind fun v_4 =>
  if v_4 = 0 then (
    m_cutOut_56 g S x3 v_2 v_3
  ) else (
    if (v_1.toInt64) < v_3 then (
      m_cutOut_56 g S x3 v_2 v_3
    ) else (
      m_cutOut_61 g S x3 v_2 v_3 (0 : Int32)
    )
  )
) else (
  m_cutOut_87 g g S x1 x3 (0 : Int32) v_1
)
section S_cutOut
variable {p : Program} {l : Launch} {e : Env} {s : State} {m : MethodId} {args : Array Value} {below : List Frame} {meth : Method} {c : Code} {H : Heap} {locs : List Loc} {ls : Array Slot} {D : va_G} {T : Cy} {ρ : Nat → Nat} {A : Nat → Prop}
set_option maxRecDepth 100000 in
set_option maxHeartbeats 4000000 in
theorem w_cutOut_143  {g : Nat} {S : St} {x3 : Int32} {x4 : Int32} {x5 : Int32} (C : CallFix p m c cX13_cutOut 10 s args tb RX13) (hr : meth.sig.returnType = (some .boolean)) (hk : meth.locks = false) {S' : St} {r : Int32} (w : Wn Ym D T ρ S A s H locs) (hl : lv_has ls 10 [(0, .ref (ρ 0)), (3, .int x3), (4, .int x4), (5, .int x5)]) (h : m_cutOut_143 g S x3 x4 x5 = some (S', r)) : W p l e (rmN 2 46) s m args below meth c H locs 0 0 (MQ below (Qi Ym D T ρ A S' r) args s 0 0 A) (F0 m 143 ls []) := by
  unfold m_cutOut_143 at h
  refine lv_aload_n C.1 C.2.1 dX13_cutOut_143 rfl (lv_at hl 0 rfl) ?_
  refine lv_iload_n C.1 C.2.1 dX13_cutOut_144 rfl (lv_at hl 1 rfl) ?_
  refine lv_iload C.1 C.2.1 dX13_cutOut_145 (lv_at hl 2 rfl) ?_
  refine lv_iload C.1 C.2.1 dX13_cutOut_147 (lv_at hl 3 rfl) ?_
  obtain ⟨S_2, hS_2, h⟩ := bnd h
  refine x_callVv (q := (RX13, TX13, 68)) (As := [.int x3, .int x4, .int x5]) (rest := []) C w (k_emitText l D T ρ g H.size S hS_2) vM478 ⟨by decide, by decide⟩ obM (by decide) rfl rfl rfl hl.1 (Nat.le_of_ble_eq_true rfl) ⟨Nat.zero_le _, Nat.zero_le _⟩ dX13_cutOut_149 (fun H locs w => ?_)
  refine lv_iload C.1 C.2.1 dX13_cutOut_152 (lv_at hl 3 rfl) ?_
  refine lv_iload C.1 C.2.1 dX13_cutOut_154 (lv_at hl 2 rfl) ?_
  refine lv_isub C.1 C.2.1 dX13_cutOut_156 ?_
  refine lv_aload_n C.1 C.2.1 dX13_cutOut_157 rfl (lv_at hl 0 rfl) ?_
  refine x_getC C w 24 fM193 obM rfl dX13_cutOut_158 ?_
  refine lv_iload_n C.1 C.2.1 dX13_cutOut_161 rfl (lv_at hl 1 rfl) ?_
  obtain ⟨v_3, hv_3, h⟩ := bnd h
  refine x_iald C w obM24 hv_3 dX13_cutOut_162 ?_
  refine lv_icmp_ne (tgt := 170) C.1 C.2.1 dX13_cutOut_163 (by decide) (fun hc => ?_) (fun hc => ?_)
  · replace h := iff0 hc h
    refine lv_iconst (v := 0) C.1 C.2.1 dX13_cutOut_170 (by decide) ?_
    obtain ⟨rfl, rfl⟩ := prI h
    exact x_zret C w hr hk (by decide) dX13_cutOut_171
  · replace h := ift hc h
    refine lv_iconst (v := 1) C.1 C.2.1 dX13_cutOut_166 (by decide) ?_
    refine lv_goto (tgt := 171) C.1 C.2.1 dX13_cutOut_167 (by decide) ?_
    obtain ⟨rfl, rfl⟩ := prI h
    exact x_zret C w hr hk (by decide) dX13_cutOut_171
set_option maxRecDepth 100000 in
set_option maxHeartbeats 4000000 in
theorem wb_cutOut_114  {g : Nat} {S : St} {x1 : Int32} {x3 : Int32} {x4 : Int32} {x5 : Int32} (C : CallFix p m c cX13_cutOut 10 s args tb RX13) (hr : meth.sig.returnType = (some .boolean)) (hk : meth.locks = false) {S' : St} {r : Int32} {k114 : St → Int32 → Int32 → Int32 → Int32 → Option (St × Int32)} (kk114 : ∀ (S : St) (x1 : Int32) (x3 : Int32) (x4 : Int32) (x5 : Int32) (H : Heap) (locs : List Loc) (ls : Array Slot), Wn Ym D T ρ S A s H locs → lv_has ls 10 [(0, .ref (ρ 0)), (1, .int x1), (3, .int x3), (4, .int x4), (5, .int x5)] → k114 S x1 x3 x4 x5 = some (S', r) → W p l e (rmN 2 46) s m args below meth c H locs 0 0 (MQ below (Qi Ym D T ρ A S' r) args s 0 0 A) (F0 m 114 ls [])) (w : Wn Ym D T ρ S A s H locs) (hl : lv_has ls 10 [(0, .ref (ρ 0)), (1, .int x1), (3, .int x3), (4, .int x4), (5, .int x5)]) (h : b_cutOut_114 g k114 S x1 x3 x4 x5 = some (S', r)) : W p l e (rmN 2 46) s m args below meth c H locs 0 0 (MQ below (Qi Ym D T ρ A S' r) args s 0 0 A) (F0 m 114 ls []) := by
  unfold b_cutOut_114 at h
  refine lv_iload C.1 C.2.1 dX13_cutOut_114 (lv_at hl 4 rfl) ?_
  refine lv_iload C.1 C.2.1 dX13_cutOut_116 (lv_at hl 3 rfl) ?_
  refine lv_icmp_le (tgt := 143) C.1 C.2.1 dX13_cutOut_118 (by decide) (fun hc => ?_) (fun hc => ?_)
  · replace h := ift hc h
    exact w_cutOut_143 C hr hk w (lv_sub hl [0, 2, 3, 4] rfl) h
  · replace h := iff0 hc h
    refine lv_iload_n C.1 C.2.1 dX13_cutOut_121 rfl (lv_at hl 1 rfl) ?_
    refine lv_aload_n C.1 C.2.1 dX13_cutOut_122 rfl (lv_at hl 0 rfl) ?_
    refine lv_iload_n C.1 C.2.1 dX13_cutOut_123 rfl (lv_at hl 2 rfl) ?_
    refine lv_iload C.1 C.2.1 dX13_cutOut_124 (lv_at hl 4 rfl) ?_
    refine lv_iconst (v := 1) C.1 C.2.1 dX13_cutOut_126 (by decide) ?_
    refine lv_isub C.1 C.2.1 dX13_cutOut_127 ?_
    obtain ⟨v_2, hv_2, h⟩ := bnd h
    refine x_callVi (q := (RX13, TX13, 68)) (As := [.int x3, .int (x5 - (1 : Int32))]) (rest := [.int x1]) C w (k_unitAt l D T ρ g H.size S hv_2) vM470 ⟨by decide, by decide⟩ obM (by decide) rfl rfl rfl hl.1 (Nat.le_of_ble_eq_true rfl) ⟨Nat.zero_le _, Nat.zero_le _⟩ dX13_cutOut_128 (fun H locs w => ?_)
    obtain ⟨v_3, hv_3, h⟩ := bnd h
    refine x_callSi (As := [.int x1, .int v_2]) (rest := []) C w (k_goes l D T ρ g H.size S hv_3) vM617 ⟨by decide, by decide⟩ rfl rfl hl.1 (Nat.le_of_ble_eq_true rfl) ⟨Nat.zero_le _, Nat.zero_le _⟩ dX13_cutOut_131 (fun H locs w => ?_)
    refine lv_if_eq (tgt := 143) C.1 C.2.1 dX13_cutOut_134 (by decide) (fun hc => ?_) (fun hc => ?_)
    · replace h := ift hc h
      exact w_cutOut_143 C hr hk w (lv_sub hl [0, 2, 3, 4] rfl) h
    · replace h := iff0 hc h
      obtain ⟨x5_4, ex5_4, h⟩ := lt_e h
      refine lv_iinc (v := x5_4) (lv' := [(5, .int x5_4), (0, .ref (ρ 0)), (1, .int x1), (3, .int x3), (4, .int x4)]) C.1 C.2.1 dX13_cutOut_137 hl (k := 4) rfl (by rw [ex5_4]; rfl) (by decide) rfl (fun ls hl => ?_)
      refine lv_goto (tgt := 114) C.1 C.2.1 dX13_cutOut_140 (by decide) ?_
      exact kk114 _ _ _ _ _ _ _ _ w (lv_sub hl [1, 2, 3, 4, 0] rfl) h
theorem w_cutOut_114 {g : Nat} (C : CallFix p m c cX13_cutOut 10 s args tb RX13) (hr : meth.sig.returnType = (some .boolean)) (hk : meth.locks = false) {S' : St} {r : Int32} (n : Nat) : ∀ (S : St) (x1 : Int32) (x3 : Int32) (x4 : Int32) (x5 : Int32) (H : Heap) (locs : List Loc) (ls : Array Slot), Wn Ym D T ρ S A s H locs → lv_has ls 10 [(0, .ref (ρ 0)), (1, .int x1), (3, .int x3), (4, .int x4), (5, .int x5)] → m_cutOut_114 g n S x1 x3 x4 x5 = some (S', r) → W p l e (rmN 2 46) s m args below meth c H locs 0 0 (MQ below (Qi Ym D T ρ A S' r) args s 0 0 A) (F0 m 114 ls []) := by
  induction n with
  | zero => intro S x1 x3 x4 x5 H locs ls w hl h; exact absurd h (fun q => by cases q)
  | succ n ih => intro S x1 x3 x4 x5 H locs ls w hl h; exact wb_cutOut_114 C hr hk ih w hl h
set_option maxRecDepth 100000 in
set_option maxHeartbeats 4000000 in
theorem wb_cutOut_87  {g : Nat} {S : St} {x1 : Int32} {x3 : Int32} {x4 : Int32} {x5 : Int32} (C : CallFix p m c cX13_cutOut 10 s args tb RX13) (hr : meth.sig.returnType = (some .boolean)) (hk : meth.locks = false) {S' : St} {r : Int32} {k87 : St → Int32 → Int32 → Int32 → Int32 → Option (St × Int32)} (kk87 : ∀ (S : St) (x1 : Int32) (x3 : Int32) (x4 : Int32) (x5 : Int32) (H : Heap) (locs : List Loc) (ls : Array Slot), Wn Ym D T ρ S A s H locs → lv_has ls 10 [(0, .ref (ρ 0)), (1, .int x1), (3, .int x3), (4, .int x4), (5, .int x5)] → k87 S x1 x3 x4 x5 = some (S', r) → W p l e (rmN 2 46) s m args below meth c H locs 0 0 (MQ below (Qi Ym D T ρ A S' r) args s 0 0 A) (F0 m 87 ls [])) (w : Wn Ym D T ρ S A s H locs) (hl : lv_has ls 10 [(0, .ref (ρ 0)), (1, .int x1), (3, .int x3), (4, .int x4), (5, .int x5)]) (h : b_cutOut_87 g k87 S x1 x3 x4 x5 = some (S', r)) : W p l e (rmN 2 46) s m args below meth c H locs 0 0 (MQ below (Qi Ym D T ρ A S' r) args s 0 0 A) (F0 m 87 ls []) := by
  unfold b_cutOut_87 at h
  refine lv_iload C.1 C.2.1 dX13_cutOut_87 (lv_at hl 3 rfl) ?_
  refine lv_iload C.1 C.2.1 dX13_cutOut_89 (lv_at hl 4 rfl) ?_
  refine lv_icmp_ge (tgt := 114) C.1 C.2.1 dX13_cutOut_91 (by decide) (fun hc => ?_) (fun hc => ?_)
  · replace h := ift hc h
    exact w_cutOut_114 C hr hk g _ _ _ _ _ _ _ _ w (lv_sub hl [0, 1, 2, 3, 4] rfl) h
  · replace h := iff0 hc h
    refine lv_iload_n C.1 C.2.1 dX13_cutOut_94 rfl (lv_at hl 1 rfl) ?_
    refine lv_aload_n C.1 C.2.1 dX13_cutOut_95 rfl (lv_at hl 0 rfl) ?_
    refine lv_iload_n C.1 C.2.1 dX13_cutOut_96 rfl (lv_at hl 2 rfl) ?_
    refine lv_iload C.1 C.2.1 dX13_cutOut_97 (lv_at hl 3 rfl) ?_
    obtain ⟨v_2, hv_2, h⟩ := bnd h
    refine x_callVi (q := (RX13, TX13, 68)) (As := [.int x3, .int x4]) (rest := [.int x1]) C w (k_unitAt l D T ρ g H.size S hv_2) vM470 ⟨by decide, by decide⟩ obM (by decide) rfl rfl rfl hl.1 (Nat.le_of_ble_eq_true rfl) ⟨Nat.zero_le _, Nat.zero_le _⟩ dX13_cutOut_99 (fun H locs w => ?_)
    obtain ⟨v_3, hv_3, h⟩ := bnd h
    refine x_callSi (As := [.int x1, .int v_2]) (rest := []) C w (k_goes l D T ρ g H.size S hv_3) vM617 ⟨by decide, by decide⟩ rfl rfl hl.1 (Nat.le_of_ble_eq_true rfl) ⟨Nat.zero_le _, Nat.zero_le _⟩ dX13_cutOut_102 (fun H locs w => ?_)
    refine lv_if_eq (tgt := 114) C.1 C.2.1 dX13_cutOut_105 (by decide) (fun hc => ?_) (fun hc => ?_)
    · replace h := ift hc h
      exact w_cutOut_114 C hr hk g _ _ _ _ _ _ _ _ w (lv_sub hl [0, 1, 2, 3, 4] rfl) h
    · replace h := iff0 hc h
      obtain ⟨x4_4, ex4_4, h⟩ := lt_e h
      refine lv_iinc (v := x4_4) (lv' := [(4, .int x4_4), (0, .ref (ρ 0)), (1, .int x1), (3, .int x3), (5, .int x5)]) C.1 C.2.1 dX13_cutOut_108 hl (k := 3) rfl (by rw [ex4_4]; rfl) (by decide) rfl (fun ls hl => ?_)
      refine lv_goto (tgt := 87) C.1 C.2.1 dX13_cutOut_111 (by decide) ?_
      exact kk87 _ _ _ _ _ _ _ _ w (lv_sub hl [1, 2, 3, 0, 4] rfl) h
theorem w_cutOut_87 {g : Nat} (C : CallFix p m c cX13_cutOut 10 s args tb RX13) (hr : meth.sig.returnType = (some .boolean)) (hk : meth.locks = false) {S' : St} {r : Int32} (n : Nat) : ∀ (S : St) (x1 : Int32) (x3 : Int32) (x4 : Int32) (x5 : Int32) (H : Heap) (locs : List Loc) (ls : Array Slot), Wn Ym D T ρ S A s H locs → lv_has ls 10 [(0, .ref (ρ 0)), (1, .int x1), (3, .int x3), (4, .int x4), (5, .int x5)] → m_cutOut_87 g n S x1 x3 x4 x5 = some (S', r) → W p l e (rmN 2 46) s m args below meth c H locs 0 0 (MQ below (Qi Ym D T ρ A S' r) args s 0 0 A) (F0 m 87 ls []) := by
  induction n with
  | zero => intro S x1 x3 x4 x5 H locs ls w hl h; exact absurd h (fun q => by cases q)
  | succ n ih => intro S x1 x3 x4 x5 H locs ls w hl h; exact wb_cutOut_87 C hr hk ih w hl h
set_option maxRecDepth 100000 in
set_option maxHeartbeats 4000000 in
theorem w_cutOut_61  {g : Nat} {S : St} {x3 : Int32} {x6 : Int64} {x8 : Int64} {y1 : Int32} (C : CallFix p m c cX13_cutOut 10 s args tb RX13) (hr : meth.sig.returnType = (some .boolean)) (hk : meth.locks = false) {S' : St} {r : Int32} (w : Wn Ym D T ρ S A s H locs) (hl : lv_has ls 10 [(0, .ref (ρ 0)), (3, .int x3), (6, .long x6), (8, .long x8)]) (h : m_cutOut_61 g S x3 x6 x8 y1 = some (S', r)) : W p l e (rmN 2 46) s m args below meth c H locs 0 0 (MQ below (Qi Ym D T ρ A S' r) args s 0 0 A) (F0 m 61 ls [.int y1, .ref (ρ 0)]) := by
  unfold m_cutOut_61 at h
  refine lv_iconst (v := 1) C.1 C.2.1 dX13_cutOut_61 (by decide) ?_
  obtain ⟨S_5, hS_5, h⟩ := bnd h
  refine x_callVv (q := (RX13, TX13, 68)) (As := [.int y1, .int (1 : Int32)]) (rest := []) C w (k_refuse l D T ρ g H.size S hS_5) vM466 ⟨by decide, by decide⟩ obM (by decide) rfl rfl rfl hl.1 (Nat.le_of_ble_eq_true rfl) ⟨Nat.zero_le _, Nat.zero_le _⟩ dX13_cutOut_62 (fun H locs w => ?_)
  refine lv_aload_n C.1 C.2.1 dX13_cutOut_65 rfl (lv_at hl 0 rfl) ?_
  refine x_getI C w fM398 obM dX13_cutOut_66 ?_
  refine lv_if_eq (tgt := 74) C.1 C.2.1 dX13_cutOut_69 (by decide) (fun hc => ?_) (fun hc => ?_)
  · replace h := ift hc h
    refine lv_lload C.1 C.2.1 dX13_cutOut_74 (lv_at hl 2 rfl) ?_
    refine lv_l2i C.1 C.2.1 dX13_cutOut_76 rfl ?_
    obtain ⟨x4_6, ex4_6, h⟩ := lt_e h
    refine x_nm ex4_6 ?_
    refine lv_istore (lv' := [(4, .int x4_6), (0, .ref (ρ 0)), (3, .int x3), (6, .long x6), (8, .long x8)]) C.1 C.2.1 dX13_cutOut_77 hl (by decide) rfl (fun ls hl => ?_)
    refine lv_lload C.1 C.2.1 dX13_cutOut_79 (lv_at hl 4 rfl) ?_
    refine lv_l2i C.1 C.2.1 dX13_cutOut_81 rfl ?_
    obtain ⟨x5_7, ex5_7, h⟩ := lt_e h
    refine x_nm ex5_7 ?_
    refine lv_istore (lv' := [(5, .int x5_7), (4, .int x4_6), (0, .ref (ρ 0)), (3, .int x3), (6, .long x6), (8, .long x8)]) C.1 C.2.1 dX13_cutOut_82 hl (by decide) rfl (fun ls hl => ?_)
    refine lv_goto (tgt := 143) C.1 C.2.1 dX13_cutOut_84 (by decide) ?_
    exact w_cutOut_143 C hr hk w (lv_sub hl [2, 3, 1, 0] rfl) h
  · replace h := iff0 hc h
    refine lv_iconst (v := 0) C.1 C.2.1 dX13_cutOut_72 (by decide) ?_
    obtain ⟨rfl, rfl⟩ := prI h
    exact x_zret C w hr hk (by decide) dX13_cutOut_73
set_option maxRecDepth 100000 in
set_option maxHeartbeats 4000000 in
theorem w_cutOut_56  {g : Nat} {S : St} {x3 : Int32} {x6 : Int64} {x8 : Int64} (C : CallFix p m c cX13_cutOut 10 s args tb RX13) (hr : meth.sig.returnType = (some .boolean)) (hk : meth.locks = false) {S' : St} {r : Int32} (w : Wn Ym D T ρ S A s H locs) (hl : lv_has ls 10 [(0, .ref (ρ 0)), (3, .int x3), (6, .long x6), (8, .long x8)]) (h : m_cutOut_56 g S x3 x6 x8 = some (S', r)) : W p l e (rmN 2 46) s m args below meth c H locs 0 0 (MQ below (Qi Ym D T ρ A S' r) args s 0 0 A) (F0 m 56 ls [.ref (ρ 0)]) := by
  unfold m_cutOut_56 at h
  refine lv_iconst (v := 1) C.1 C.2.1 dX13_cutOut_56 (by decide) ?_
  refine lv_goto (tgt := 61) C.1 C.2.1 dX13_cutOut_57 (by decide) ?_
  exact w_cutOut_61 C hr hk w (lv_sub hl [0, 1, 2, 3] rfl) h
set_option maxRecDepth 100000 in
set_option maxHeartbeats 4000000 in
theorem w_cutOut_0  {g : Nat} {S : St} {x1 : Int32} {x2 : Int32} {x3 : Int32} (C : CallFix p m c cX13_cutOut 10 s args tb RX13) (hr : meth.sig.returnType = (some .boolean)) (hk : meth.locks = false) {S' : St} {r : Int32} (w : Wn Ym D T ρ S A s H locs) (hl : lv_has ls 10 [(0, .ref (ρ 0)), (1, .int x1), (2, .int x2), (3, .int x3)]) (h : m_cutOut g S x1 x2 x3 = some (S', r)) : W p l e (rmN 2 46) s m args below meth c H locs 0 0 (MQ below (Qi Ym D T ρ A S' r) args s 0 0 A) (F0 m 0 ls []) := by
  unfold m_cutOut at h
  refine lv_iconst (v := 0) C.1 C.2.1 dX13_cutOut_0 (by decide) ?_
  refine lv_istore (lv' := [(4, .int (0 : Int32)), (0, .ref (ρ 0)), (1, .int x1), (2, .int x2), (3, .int x3)]) C.1 C.2.1 dX13_cutOut_1 hl (by decide) rfl (fun ls hl => ?_)
  refine lv_aload_n C.1 C.2.1 dX13_cutOut_3 rfl (lv_at hl 1 rfl) ?_
  refine x_getC C w 24 fM193 obM rfl dX13_cutOut_4 ?_
  refine lv_iload_n C.1 C.2.1 dX13_cutOut_7 rfl (lv_at hl 4 rfl) ?_
  obtain ⟨v_1, hv_1, h⟩ := bnd h
  refine x_iald C w obM24 hv_1 dX13_cutOut_8 ?_
  refine lv_istore (lv' := [(5, .int v_1), (4, .int (0 : Int32)), (0, .ref (ρ 0)), (1, .int x1), (2, .int x2), (3, .int x3)]) C.1 C.2.1 dX13_cutOut_9 hl (by decide) rfl (fun ls hl => ?_)
  refine lv_iload_n C.1 C.2.1 dX13_cutOut_11 rfl (lv_at hl 3 rfl) ?_
  refine lv_bipush (v := 16) C.1 C.2.1 dX13_cutOut_12 (by decide) ?_
  refine lv_icmp_ne (tgt := 87) C.1 C.2.1 dX13_cutOut_14 (by decide) (fun hc => ?_) (fun hc => ?_)
  · replace h := iff0 hc h
    exact w_cutOut_87 C hr hk g _ _ _ _ _ _ _ _ w (lv_sub hl [2, 3, 5, 1, 0] rfl) h
  · replace h := ift hc h
    refine lv_aload_n C.1 C.2.1 dX13_cutOut_17 rfl (lv_at hl 2 rfl) ?_
    refine lv_iload_n C.1 C.2.1 dX13_cutOut_18 rfl (lv_at hl 4 rfl) ?_
    refine lv_iconst (v := 2) C.1 C.2.1 dX13_cutOut_19 (by decide) ?_
    refine lv_iadd C.1 C.2.1 dX13_cutOut_20 ?_
    obtain ⟨v_2, hv_2, h⟩ := bnd h
    refine x_callVj (q := (RX13, TX13, 68)) (As := [.int (x2 + (2 : Int32))]) (rest := []) C w (k_value l D T ρ g H.size S hv_2) vM459 ⟨by decide, by decide⟩ obM (by decide) rfl rfl rfl hl.1 (Nat.le_of_ble_eq_true rfl) ⟨Nat.zero_le _, Nat.zero_le _⟩ dX13_cutOut_21 (fun H locs w => ?_)
    refine lv_lstore (lv' := [(6, .long v_2), (5, .int v_1), (4, .int (0 : Int32)), (0, .ref (ρ 0)), (1, .int x1), (2, .int x2), (3, .int x3)]) C.1 C.2.1 dX13_cutOut_24 hl (by decide) rfl (fun ls hl => ?_)
    refine lv_aload_n C.1 C.2.1 dX13_cutOut_26 rfl (lv_at hl 3 rfl) ?_
    refine lv_iload_n C.1 C.2.1 dX13_cutOut_27 rfl (lv_at hl 5 rfl) ?_
    refine lv_iconst (v := 3) C.1 C.2.1 dX13_cutOut_28 (by decide) ?_
    refine lv_iadd C.1 C.2.1 dX13_cutOut_29 ?_
    obtain ⟨v_3, hv_3, h⟩ := bnd h
    refine x_callVj (q := (RX13, TX13, 68)) (As := [.int (x2 + (3 : Int32))]) (rest := []) C w (k_value l D T ρ g H.size S hv_3) vM459 ⟨by decide, by decide⟩ obM (by decide) rfl rfl rfl hl.1 (Nat.le_of_ble_eq_true rfl) ⟨Nat.zero_le _, Nat.zero_le _⟩ dX13_cutOut_30 (fun H locs w => ?_)
    refine lv_lstore (lv' := [(8, .long v_3), (6, .long v_2), (5, .int v_1), (4, .int (0 : Int32)), (0, .ref (ρ 0)), (1, .int x1), (2, .int x2), (3, .int x3)]) C.1 C.2.1 dX13_cutOut_33 hl (by decide) rfl (fun ls hl => ?_)
    refine lv_aload_n C.1 C.2.1 dX13_cutOut_35 rfl (lv_at hl 4 rfl) ?_
    refine lv_lload C.1 C.2.1 dX13_cutOut_36 (lv_at hl 1 rfl) ?_
    refine lv_lconst (v := 0) C.1 C.2.1 dX13_cutOut_38 (by decide) ?_
    refine lv_lload C.1 C.2.1 dX13_cutOut_39 (lv_at hl 0 rfl) ?_
    obtain ⟨v_4, hv_4, h⟩ := bnd h
    refine x_callSi (As := [.long v_2, .long (0 : Int64), .long v_3]) (rest := [.ref (ρ 0)]) C w (k_isIn l D T ρ g H.size S hv_4) vM318 ⟨by decide, by decide⟩ rfl rfl hl.1 (Nat.le_of_ble_eq_true rfl) ⟨Nat.zero_le _, Nat.zero_le _⟩ dX13_cutOut_41 (fun H locs w => ?_)
    refine lv_if_eq (tgt := 56) C.1 C.2.1 dX13_cutOut_44 (by decide) (fun hc => ?_) (fun hc => ?_)
    · replace h := ift hc h
      exact w_cutOut_56 C hr hk w (lv_sub hl [4, 7, 1, 0] rfl) h
    · replace h := iff0 hc h
      refine lv_lload C.1 C.2.1 dX13_cutOut_47 (lv_at hl 0 rfl) ?_
      refine lv_iload C.1 C.2.1 dX13_cutOut_49 (lv_at hl 2 rfl) ?_
      refine lv_i2l C.1 C.2.1 dX13_cutOut_51 rfl ?_
      refine x_l_le (tgt := 60) C dX13_cutOut_52 dX13_cutOut_53 (by decide) (fun hc => ?_) (fun hc => ?_)
      · replace h := iff0 hc h
        refine lv_iconst (v := 0) C.1 C.2.1 dX13_cutOut_60 (by decide) ?_
        exact w_cutOut_61 C hr hk w (lv_sub hl [4, 7, 1, 0] rfl) h
      · replace h := ift hc h
        exact w_cutOut_56 C hr hk w (lv_sub hl [4, 7, 1, 0] rfl) h
end S_cutOut
set_option maxRecDepth 100000 in
theorem k_cutOut (l : Launch) (D : va_G) (T : Cy) (ρ : Nat → Nat) (g sz : Nat) (S : St) {x1 : Int32} {x2 : Int32} {x3 : Int32} {S' : St} {r : Int32} (h : m_cutOut g S x1 x2 x3 = some (S', r)) : Mi l Ym D T ρ yX13_cutOut cX13_cutOut 10 (some .boolean) 2 46 S S' r [.ref (ρ 0), .int x1, .int x2, .int x3] sz :=
  x_in (by decide) (Nat.le_of_ble_eq_true rfl) (fun p e s m below meth c ls C hr hk w hl => w_cutOut_0 C hr hk w hl h)

theorem dX13_exchanges_0 : decode cX13_exchanges 0 = .ok (.aload_n 0, 1) := by decide +kernel
theorem dX13_exchanges_1 : decode cX13_exchanges 1 = .ok (.iload_n 1, 1) := by decide +kernel
theorem dX13_exchanges_2 : decode cX13_exchanges 2 = .ok (.iconst 2, 1) := by decide +kernel
theorem dX13_exchanges_3 : decode cX13_exchanges 3 = .ok (.iadd, 1) := by decide +kernel
theorem dX13_exchanges_4 : decode cX13_exchanges 4 = .ok (.invokevirtual 459, 3) := by decide +kernel
theorem dX13_exchanges_7 : decode cX13_exchanges 7 = .ok (.lstore_n 3, 1) := by decide +kernel
theorem dX13_exchanges_8 : decode cX13_exchanges 8 = .ok (.aload_n 0, 1) := by decide +kernel
theorem dX13_exchanges_9 : decode cX13_exchanges 9 = .ok (.iload_n 1, 1) := by decide +kernel
theorem dX13_exchanges_10 : decode cX13_exchanges 10 = .ok (.iconst 3, 1) := by decide +kernel
theorem dX13_exchanges_11 : decode cX13_exchanges 11 = .ok (.iadd, 1) := by decide +kernel
theorem dX13_exchanges_12 : decode cX13_exchanges 12 = .ok (.invokevirtual 459, 3) := by decide +kernel
theorem dX13_exchanges_15 : decode cX13_exchanges 15 = .ok (.lstore 5, 2) := by decide +kernel
theorem dX13_exchanges_17 : decode cX13_exchanges 17 = .ok (.aload_n 0, 1) := by decide +kernel
theorem dX13_exchanges_18 : decode cX13_exchanges 18 = .ok (.lload_n 3, 1) := by decide +kernel
theorem dX13_exchanges_19 : decode cX13_exchanges 19 = .ok (.lconst 0, 1) := by decide +kernel
theorem dX13_exchanges_20 : decode cX13_exchanges 20 = .ok (.ldc2_w 623, 3) := by decide +kernel
theorem dX13_exchanges_23 : decode cX13_exchanges 23 = .ok (.invokestatic 318, 3) := by decide +kernel
theorem dX13_exchanges_26 : decode cX13_exchanges 26 = .ok (.ifCond .eq 15, 3) := by decide +kernel
theorem dX13_exchanges_29 : decode cX13_exchanges 29 = .ok (.lload 5, 2) := by decide +kernel
theorem dX13_exchanges_31 : decode cX13_exchanges 31 = .ok (.lconst 0, 1) := by decide +kernel
theorem dX13_exchanges_32 : decode cX13_exchanges 32 = .ok (.ldc2_w 623, 3) := by decide +kernel
theorem dX13_exchanges_35 : decode cX13_exchanges 35 = .ok (.invokestatic 318, 3) := by decide +kernel
theorem dX13_exchanges_38 : decode cX13_exchanges 38 = .ok (.ifCond .ne 7, 3) := by decide +kernel
theorem dX13_exchanges_41 : decode cX13_exchanges 41 = .ok (.iconst 1, 1) := by decide +kernel
theorem dX13_exchanges_42 : decode cX13_exchanges 42 = .ok (.goto 4, 3) := by decide +kernel
theorem dX13_exchanges_45 : decode cX13_exchanges 45 = .ok (.iconst 0, 1) := by decide +kernel
theorem dX13_exchanges_46 : decode cX13_exchanges 46 = .ok (.iconst 3, 1) := by decide +kernel
theorem dX13_exchanges_47 : decode cX13_exchanges 47 = .ok (.invokevirtual 466, 3) := by decide +kernel
theorem dX13_exchanges_50 : decode cX13_exchanges 50 = .ok (.iconst 1, 1) := by decide +kernel
theorem dX13_exchanges_51 : decode cX13_exchanges 51 = .ok (.istore 7, 2) := by decide +kernel
theorem dX13_exchanges_53 : decode cX13_exchanges 53 = .ok (.iconst 0, 1) := by decide +kernel
theorem dX13_exchanges_54 : decode cX13_exchanges 54 = .ok (.istore 8, 2) := by decide +kernel
theorem dX13_exchanges_56 : decode cX13_exchanges 56 = .ok (.iload 8, 2) := by decide +kernel
theorem dX13_exchanges_58 : decode cX13_exchanges 58 = .ok (.aload_n 0, 1) := by decide +kernel
theorem dX13_exchanges_59 : decode cX13_exchanges 59 = .ok (.getfield 193, 3) := by decide +kernel
theorem dX13_exchanges_62 : decode cX13_exchanges 62 = .ok (.iload_n 2, 1) := by decide +kernel
theorem dX13_exchanges_63 : decode cX13_exchanges 63 = .ok (.iaload, 1) := by decide +kernel
theorem dX13_exchanges_64 : decode cX13_exchanges 64 = .ok (.if_icmp .ge 75, 3) := by decide +kernel
theorem dX13_exchanges_67 : decode cX13_exchanges 67 = .ok (.aload_n 0, 1) := by decide +kernel
theorem dX13_exchanges_68 : decode cX13_exchanges 68 = .ok (.iload_n 2, 1) := by decide +kernel
theorem dX13_exchanges_69 : decode cX13_exchanges 69 = .ok (.iload 8, 2) := by decide +kernel
theorem dX13_exchanges_71 : decode cX13_exchanges 71 = .ok (.invokevirtual 470, 3) := by decide +kernel
theorem dX13_exchanges_74 : decode cX13_exchanges 74 = .ok (.i2l, 1) := by decide +kernel
theorem dX13_exchanges_75 : decode cX13_exchanges 75 = .ok (.lload_n 3, 1) := by decide +kernel
theorem dX13_exchanges_76 : decode cX13_exchanges 76 = .ok (.lcmp, 1) := by decide +kernel
theorem dX13_exchanges_77 : decode cX13_exchanges 77 = .ok (.ifCond .ne 14, 3) := by decide +kernel
theorem dX13_exchanges_80 : decode cX13_exchanges 80 = .ok (.lload_n 3, 1) := by decide +kernel
theorem dX13_exchanges_81 : decode cX13_exchanges 81 = .ok (.lload 5, 2) := by decide +kernel
theorem dX13_exchanges_83 : decode cX13_exchanges 83 = .ok (.lcmp, 1) := by decide +kernel
theorem dX13_exchanges_84 : decode cX13_exchanges 84 = .ok (.ifCond .eq 7, 3) := by decide +kernel
theorem dX13_exchanges_87 : decode cX13_exchanges 87 = .ok (.iconst 1, 1) := by decide +kernel
theorem dX13_exchanges_88 : decode cX13_exchanges 88 = .ok (.goto 4, 3) := by decide +kernel
theorem dX13_exchanges_91 : decode cX13_exchanges 91 = .ok (.iconst 0, 1) := by decide +kernel
theorem dX13_exchanges_92 : decode cX13_exchanges 92 = .ok (.istore 9, 2) := by decide +kernel
theorem dX13_exchanges_94 : decode cX13_exchanges 94 = .ok (.iload 7, 2) := by decide +kernel
theorem dX13_exchanges_96 : decode cX13_exchanges 96 = .ok (.ifCond .eq 12, 3) := by decide +kernel
theorem dX13_exchanges_99 : decode cX13_exchanges 99 = .ok (.iload 9, 2) := by decide +kernel
theorem dX13_exchanges_101 : decode cX13_exchanges 101 = .ok (.ifCond .ne 7, 3) := by decide +kernel
theorem dX13_exchanges_104 : decode cX13_exchanges 104 = .ok (.iconst 1, 1) := by decide +kernel
theorem dX13_exchanges_105 : decode cX13_exchanges 105 = .ok (.goto 4, 3) := by decide +kernel
theorem dX13_exchanges_108 : decode cX13_exchanges 108 = .ok (.iconst 0, 1) := by decide +kernel
theorem dX13_exchanges_109 : decode cX13_exchanges 109 = .ok (.istore 7, 2) := by decide +kernel
theorem dX13_exchanges_111 : decode cX13_exchanges 111 = .ok (.aload_n 0, 1) := by decide +kernel
theorem dX13_exchanges_112 : decode cX13_exchanges 112 = .ok (.iload 9, 2) := by decide +kernel
theorem dX13_exchanges_114 : decode cX13_exchanges 114 = .ok (.ifCond .eq 9, 3) := by decide +kernel
theorem dX13_exchanges_117 : decode cX13_exchanges 117 = .ok (.lload 5, 2) := by decide +kernel
theorem dX13_exchanges_119 : decode cX13_exchanges 119 = .ok (.l2i, 1) := by decide +kernel
theorem dX13_exchanges_120 : decode cX13_exchanges 120 = .ok (.goto 10, 3) := by decide +kernel
theorem dX13_exchanges_123 : decode cX13_exchanges 123 = .ok (.aload_n 0, 1) := by decide +kernel
theorem dX13_exchanges_124 : decode cX13_exchanges 124 = .ok (.iload_n 2, 1) := by decide +kernel
theorem dX13_exchanges_125 : decode cX13_exchanges 125 = .ok (.iload 8, 2) := by decide +kernel
theorem dX13_exchanges_127 : decode cX13_exchanges 127 = .ok (.invokevirtual 470, 3) := by decide +kernel
theorem dX13_exchanges_130 : decode cX13_exchanges 130 = .ok (.invokevirtual 437, 3) := by decide +kernel
theorem dX13_exchanges_133 : decode cX13_exchanges 133 = .ok (.iinc 8 1, 3) := by decide +kernel
theorem dX13_exchanges_136 : decode cX13_exchanges 136 = .ok (.goto (-80), 3) := by decide +kernel
theorem dX13_exchanges_139 : decode cX13_exchanges 139 = .ok (.iload 7, 2) := by decide +kernel
theorem dX13_exchanges_141 : decode cX13_exchanges 141 = .ok (.ireturn, 1) := by decide +kernel
def m_exchanges_130 (g : Nat) (k56 : St → Int32 → Int64 → Int64 → Int32 → Int32 → Option (St × Int32)) (S : St) (x2 : Int32) (x3 : Int64) (x5 : Int64) (x7 : Int32) (x8 : Int32) (y1 : Int32) : Option (St × Int32) :=
(m_emit g S y1).bind fun S_9 =>
lt (x8 + (1 : Int32)) fun x8_10 =>
k56 S_9 x2 x3 x5 x7 x8_10
def m_exchanges_109 (g : Nat) (k56 : St → Int32 → Int64 → Int64 → Int32 → Int32 → Option (St × Int32)) (S : St) (x2 : Int32) (x3 : Int64) (x5 : Int64) (x8 : Int32) (x9 : Int32) (y0 : Int32) : Option (St × Int32) :=
if x9 = 0 then (
  (m_unitAt g S x2 x8).bind fun v_8 =>
  m_exchanges_130 g k56 S x2 x3 x5 y0 x8 v_8
) else (
  m_exchanges_130 g k56 S x2 x3 x5 y0 x8 (x5.toInt32)
)
def m_exchanges_108 (g : Nat) (k56 : St → Int32 → Int64 → Int64 → Int32 → Int32 → Option (St × Int32)) (S : St) (x2 : Int32) (x3 : Int64) (x5 : Int64) (x8 : Int32) (x9 : Int32) : Option (St × Int32) :=
m_exchanges_109 g k56 S x2 x3 x5 x8 x9 (0 : Int32)
def m_exchanges_92 (g : Nat) (k56 : St → Int32 → Int64 → Int64 → Int32 → Int32 → Option (St × Int32)) (S : St) (x2 : Int32) (x3 : Int64) (x5 : Int64) (x7 : Int32) (x8 : Int32) (y0 : Int32) : Option (St × Int32) :=
if x7 = 0 then (
  m_exchanges_108 g k56 S x2 x3 x5 x8 y0
) else (
  if y0 = 0 then (
    m_exchanges_109 g k56 S x2 x3 x5 x8 y0 (1 : Int32)
  ) else (
    m_exchanges_108 g k56 S x2 x3 x5 x8 y0
  )
)
def m_exchanges_91 (g : Nat) (k56 : St → Int32 → Int64 → Int64 → Int32 → Int32 → Option (St × Int32)) (S : St) (x2 : Int32) (x3 : Int64) (x5 : Int64) (x7 : Int32) (x8 : Int32) : Option (St × Int32) :=
m_exchanges_92 g k56 S x2 x3 x5 x7 x8 (0 : Int32)
def b_exchanges_56 (g : Nat) (k56 : St → Int32 → Int64 → Int64 → Int32 → Int32 → Option (St × Int32)) (S : St) (x2 : Int32) (x3 : Int64) (x5 : Int64) (x7 : Int32) (x8 : Int32) : Option (St × Int32) :=
(aI S 24 x2).bind fun v_5 =>
if v_5 ≤ x8 then (
  if x7 = 0 ∨ x7 = 1 then some (S, x7) else none
) else (
  (m_unitAt g S x2 x8).bind fun v_7 =>
  if (v_7.toInt64) = x3 then (
    if x3 = x5 then (
      m_exchanges_91 g k56 S x2 x3 x5 x7 x8
    ) else (
      m_exchanges_92 g k56 S x2 x3 x5 x7 x8 (1 : Int32)
    )
  ) else (
    m_exchanges_91 g k56 S x2 x3 x5 x7 x8
  )
)
def m_exchanges_56 (g : Nat) : Nat → St → Int32 → Int64 → Int64 → Int32 → Int32 → Option (St × Int32)
  | 0, _, _, _, _, _, _ => none
  | n + 1, S, x2, x3, x5, x7, x8 => b_exchanges_56 g (m_exchanges_56 g n) S x2 x3 x5 x7 x8
def m_exchanges_46 (g : Nat) (S : St) (x2 : Int32) (x3 : Int64) (x5 : Int64) (y1 : Int32) : Option (St × Int32) :=
(m_refuse g S y1 (3 : Int32)).bind fun S_4 =>
m_exchanges_56 g g S_4 x2 x3 x5 (1 : Int32) (0 : Int32)
def m_exchanges_41 (g : Nat) (S : St) (x2 : Int32) (x3 : Int64) (x5 : Int64) : Option (St × Int32) :=
m_exchanges_46 g S x2 x3 x5 (1 : Int32)
def m_exchanges (g : Nat) (S : St) (x1 : Int32) (x2 : Int32) : Option (St × Int32) :=
(m_value g S (x1 + (2 : Int32))).bind fun v_1 =>
(m_value g S (x1 + (3 : Int32))).bind fun v_2 =>
(m_isIn g v_1 (0 : Int64) (65535 : Int64)).bind fun v_3 =>
if v_3 = 0 then (
  m_exchanges_41 g S x2 v_1 v_2
) else (
  (m_isIn g v_2 (0 : Int64) (65535 : Int64)).bind fun v_4 =>
  if v_4 = 0 then (
    m_exchanges_41 g S x2 v_1 v_2
  ) else (
    m_exchanges_46 g S x2 v_1 v_2 (0 : Int32)
  )
)
section S_exchanges
variable {p : Program} {l : Launch} {e : Env} {s : State} {m : MethodId} {args : Array Value} {below : List Frame} {meth : Method} {c : Code} {H : Heap} {locs : List Loc} {ls : Array Slot} {D : va_G} {T : Cy} {ρ : Nat → Nat} {A : Nat → Prop}
set_option maxRecDepth 100000 in
set_option maxHeartbeats 4000000 in
theorem w_exchanges_130  {g : Nat} {S : St} {x2 : Int32} {x3 : Int64} {x5 : Int64} {x7 : Int32} {x8 : Int32} {y1 : Int32} (C : CallFix p m c cX13_exchanges 10 s args tb RX13) (hr : meth.sig.returnType = (some .boolean)) (hk : meth.locks = false) {S' : St} {r : Int32} {k56 : St → Int32 → Int64 → Int64 → Int32 → Int32 → Option (St × Int32)} (kk56 : ∀ (S : St) (x2 : Int32) (x3 : Int64) (x5 : Int64) (x7 : Int32) (x8 : Int32) (H : Heap) (locs : List Loc) (ls : Array Slot), Wn Ym D T ρ S A s H locs → lv_has ls 10 [(0, .ref (ρ 0)), (2, .int x2), (3, .long x3), (5, .long x5), (7, .int x7), (8, .int x8)] → k56 S x2 x3 x5 x7 x8 = some (S', r) → W p l e (rmN 1 25) s m args below meth c H locs 0 0 (MQ below (Qi Ym D T ρ A S' r) args s 0 0 A) (F0 m 56 ls [])) (w : Wn Ym D T ρ S A s H locs) (hl : lv_has ls 10 [(0, .ref (ρ 0)), (2, .int x2), (3, .long x3), (5, .long x5), (7, .int x7), (8, .int x8)]) (h : m_exchanges_130 g k56 S x2 x3 x5 x7 x8 y1 = some (S', r)) : W p l e (rmN 1 25) s m args below meth c H locs 0 0 (MQ below (Qi Ym D T ρ A S' r) args s 0 0 A) (F0 m 130 ls [.int y1, .ref (ρ 0)]) := by
  unfold m_exchanges_130 at h
  obtain ⟨S_9, hS_9, h⟩ := bnd h
  refine x_callVv (q := (RX13, TX13, 68)) (As := [.int y1]) (rest := []) C w (k_emit l D T ρ g H.size S hS_9) vM437 ⟨by decide, by decide⟩ obM (by decide) rfl rfl rfl hl.1 (Nat.le_of_ble_eq_true rfl) ⟨Nat.zero_le _, Nat.zero_le _⟩ dX13_exchanges_130 (fun H locs w => ?_)
  obtain ⟨x8_10, ex8_10, h⟩ := lt_e h
  refine lv_iinc (v := x8_10) (lv' := [(8, .int x8_10), (0, .ref (ρ 0)), (2, .int x2), (3, .long x3), (5, .long x5), (7, .int x7)]) C.1 C.2.1 dX13_exchanges_133 hl (k := 5) rfl (by rw [ex8_10]; rfl) (by decide) rfl (fun ls hl => ?_)
  refine lv_goto (tgt := 56) C.1 C.2.1 dX13_exchanges_136 (by decide) ?_
  exact kk56 _ _ _ _ _ _ _ _ _ w (lv_sub hl [1, 2, 3, 4, 5, 0] rfl) h
set_option maxRecDepth 100000 in
set_option maxHeartbeats 4000000 in
theorem w_exchanges_109  {g : Nat} {S : St} {x2 : Int32} {x3 : Int64} {x5 : Int64} {x8 : Int32} {x9 : Int32} {y0 : Int32} (C : CallFix p m c cX13_exchanges 10 s args tb RX13) (hr : meth.sig.returnType = (some .boolean)) (hk : meth.locks = false) {S' : St} {r : Int32} {k56 : St → Int32 → Int64 → Int64 → Int32 → Int32 → Option (St × Int32)} (kk56 : ∀ (S : St) (x2 : Int32) (x3 : Int64) (x5 : Int64) (x7 : Int32) (x8 : Int32) (H : Heap) (locs : List Loc) (ls : Array Slot), Wn Ym D T ρ S A s H locs → lv_has ls 10 [(0, .ref (ρ 0)), (2, .int x2), (3, .long x3), (5, .long x5), (7, .int x7), (8, .int x8)] → k56 S x2 x3 x5 x7 x8 = some (S', r) → W p l e (rmN 1 25) s m args below meth c H locs 0 0 (MQ below (Qi Ym D T ρ A S' r) args s 0 0 A) (F0 m 56 ls [])) (w : Wn Ym D T ρ S A s H locs) (hl : lv_has ls 10 [(0, .ref (ρ 0)), (2, .int x2), (3, .long x3), (5, .long x5), (8, .int x8), (9, .int x9)]) (h : m_exchanges_109 g k56 S x2 x3 x5 x8 x9 y0 = some (S', r)) : W p l e (rmN 1 25) s m args below meth c H locs 0 0 (MQ below (Qi Ym D T ρ A S' r) args s 0 0 A) (F0 m 109 ls [.int y0]) := by
  unfold m_exchanges_109 at h
  refine lv_istore (lv' := [(7, .int y0), (0, .ref (ρ 0)), (2, .int x2), (3, .long x3), (5, .long x5), (8, .int x8), (9, .int x9)]) C.1 C.2.1 dX13_exchanges_109 hl (by decide) rfl (fun ls hl => ?_)
  refine lv_aload_n C.1 C.2.1 dX13_exchanges_111 rfl (lv_at hl 1 rfl) ?_
  refine lv_iload C.1 C.2.1 dX13_exchanges_112 (lv_at hl 6 rfl) ?_
  refine lv_if_eq (tgt := 123) C.1 C.2.1 dX13_exchanges_114 (by decide) (fun hc => ?_) (fun hc => ?_)
  · replace h := ift hc h
    refine lv_aload_n C.1 C.2.1 dX13_exchanges_123 rfl (lv_at hl 1 rfl) ?_
    refine lv_iload_n C.1 C.2.1 dX13_exchanges_124 rfl (lv_at hl 2 rfl) ?_
    refine lv_iload C.1 C.2.1 dX13_exchanges_125 (lv_at hl 5 rfl) ?_
    obtain ⟨v_8, hv_8, h⟩ := bnd h
    refine x_callVi (q := (RX13, TX13, 68)) (As := [.int x2, .int x8]) (rest := [.ref (ρ 0)]) C w (k_unitAt l D T ρ g H.size S hv_8) vM470 ⟨by decide, by decide⟩ obM (by decide) rfl rfl rfl hl.1 (Nat.le_of_ble_eq_true rfl) ⟨Nat.zero_le _, Nat.zero_le _⟩ dX13_exchanges_127 (fun H locs w => ?_)
    exact w_exchanges_130 C hr hk kk56 w (lv_sub hl [1, 2, 3, 4, 0, 5] rfl) h
  · replace h := iff0 hc h
    refine lv_lload C.1 C.2.1 dX13_exchanges_117 (lv_at hl 4 rfl) ?_
    refine lv_l2i C.1 C.2.1 dX13_exchanges_119 rfl ?_
    refine lv_goto (tgt := 130) C.1 C.2.1 dX13_exchanges_120 (by decide) ?_
    exact w_exchanges_130 C hr hk kk56 w (lv_sub hl [1, 2, 3, 4, 0, 5] rfl) h
set_option maxRecDepth 100000 in
set_option maxHeartbeats 4000000 in
theorem w_exchanges_108  {g : Nat} {S : St} {x2 : Int32} {x3 : Int64} {x5 : Int64} {x8 : Int32} {x9 : Int32} (C : CallFix p m c cX13_exchanges 10 s args tb RX13) (hr : meth.sig.returnType = (some .boolean)) (hk : meth.locks = false) {S' : St} {r : Int32} {k56 : St → Int32 → Int64 → Int64 → Int32 → Int32 → Option (St × Int32)} (kk56 : ∀ (S : St) (x2 : Int32) (x3 : Int64) (x5 : Int64) (x7 : Int32) (x8 : Int32) (H : Heap) (locs : List Loc) (ls : Array Slot), Wn Ym D T ρ S A s H locs → lv_has ls 10 [(0, .ref (ρ 0)), (2, .int x2), (3, .long x3), (5, .long x5), (7, .int x7), (8, .int x8)] → k56 S x2 x3 x5 x7 x8 = some (S', r) → W p l e (rmN 1 25) s m args below meth c H locs 0 0 (MQ below (Qi Ym D T ρ A S' r) args s 0 0 A) (F0 m 56 ls [])) (w : Wn Ym D T ρ S A s H locs) (hl : lv_has ls 10 [(0, .ref (ρ 0)), (2, .int x2), (3, .long x3), (5, .long x5), (8, .int x8), (9, .int x9)]) (h : m_exchanges_108 g k56 S x2 x3 x5 x8 x9 = some (S', r)) : W p l e (rmN 1 25) s m args below meth c H locs 0 0 (MQ below (Qi Ym D T ρ A S' r) args s 0 0 A) (F0 m 108 ls []) := by
  unfold m_exchanges_108 at h
  refine lv_iconst (v := 0) C.1 C.2.1 dX13_exchanges_108 (by decide) ?_
  exact w_exchanges_109 C hr hk kk56 w (lv_sub hl [0, 1, 2, 3, 4, 5] rfl) h
set_option maxRecDepth 100000 in
set_option maxHeartbeats 4000000 in
theorem w_exchanges_92  {g : Nat} {S : St} {x2 : Int32} {x3 : Int64} {x5 : Int64} {x7 : Int32} {x8 : Int32} {y0 : Int32} (C : CallFix p m c cX13_exchanges 10 s args tb RX13) (hr : meth.sig.returnType = (some .boolean)) (hk : meth.locks = false) {S' : St} {r : Int32} {k56 : St → Int32 → Int64 → Int64 → Int32 → Int32 → Option (St × Int32)} (kk56 : ∀ (S : St) (x2 : Int32) (x3 : Int64) (x5 : Int64) (x7 : Int32) (x8 : Int32) (H : Heap) (locs : List Loc) (ls : Array Slot), Wn Ym D T ρ S A s H locs → lv_has ls 10 [(0, .ref (ρ 0)), (2, .int x2), (3, .long x3), (5, .long x5), (7, .int x7), (8, .int x8)] → k56 S x2 x3 x5 x7 x8 = some (S', r) → W p l e (rmN 1 25) s m args below meth c H locs 0 0 (MQ below (Qi Ym D T ρ A S' r) args s 0 0 A) (F0 m 56 ls [])) (w : Wn Ym D T ρ S A s H locs) (hl : lv_has ls 10 [(0, .ref (ρ 0)), (2, .int x2), (3, .long x3), (5, .long x5), (7, .int x7), (8, .int x8)]) (h : m_exchanges_92 g k56 S x2 x3 x5 x7 x8 y0 = some (S', r)) : W p l e (rmN 1 25) s m args below meth c H locs 0 0 (MQ below (Qi Ym D T ρ A S' r) args s 0 0 A) (F0 m 92 ls [.int y0]) := by
  unfold m_exchanges_92 at h
  refine lv_istore (lv' := [(9, .int y0), (0, .ref (ρ 0)), (2, .int x2), (3, .long x3), (5, .long x5), (7, .int x7), (8, .int x8)]) C.1 C.2.1 dX13_exchanges_92 hl (by decide) rfl (fun ls hl => ?_)
  refine lv_iload C.1 C.2.1 dX13_exchanges_94 (lv_at hl 5 rfl) ?_
  refine lv_if_eq (tgt := 108) C.1 C.2.1 dX13_exchanges_96 (by decide) (fun hc => ?_) (fun hc => ?_)
  · replace h := ift hc h
    exact w_exchanges_108 C hr hk kk56 w (lv_sub hl [1, 2, 3, 4, 6, 0] rfl) h
  · replace h := iff0 hc h
    refine lv_iload C.1 C.2.1 dX13_exchanges_99 (lv_at hl 0 rfl) ?_
    refine lv_if_ne (tgt := 108) C.1 C.2.1 dX13_exchanges_101 (by decide) (fun hc => ?_) (fun hc => ?_)
    · replace h := iff0 hc h
      exact w_exchanges_108 C hr hk kk56 w (lv_sub hl [1, 2, 3, 4, 6, 0] rfl) h
    · replace h := ift hc h
      refine lv_iconst (v := 1) C.1 C.2.1 dX13_exchanges_104 (by decide) ?_
      refine lv_goto (tgt := 109) C.1 C.2.1 dX13_exchanges_105 (by decide) ?_
      exact w_exchanges_109 C hr hk kk56 w (lv_sub hl [1, 2, 3, 4, 6, 0] rfl) h
set_option maxRecDepth 100000 in
set_option maxHeartbeats 4000000 in
theorem w_exchanges_91  {g : Nat} {S : St} {x2 : Int32} {x3 : Int64} {x5 : Int64} {x7 : Int32} {x8 : Int32} (C : CallFix p m c cX13_exchanges 10 s args tb RX13) (hr : meth.sig.returnType = (some .boolean)) (hk : meth.locks = false) {S' : St} {r : Int32} {k56 : St → Int32 → Int64 → Int64 → Int32 → Int32 → Option (St × Int32)} (kk56 : ∀ (S : St) (x2 : Int32) (x3 : Int64) (x5 : Int64) (x7 : Int32) (x8 : Int32) (H : Heap) (locs : List Loc) (ls : Array Slot), Wn Ym D T ρ S A s H locs → lv_has ls 10 [(0, .ref (ρ 0)), (2, .int x2), (3, .long x3), (5, .long x5), (7, .int x7), (8, .int x8)] → k56 S x2 x3 x5 x7 x8 = some (S', r) → W p l e (rmN 1 25) s m args below meth c H locs 0 0 (MQ below (Qi Ym D T ρ A S' r) args s 0 0 A) (F0 m 56 ls [])) (w : Wn Ym D T ρ S A s H locs) (hl : lv_has ls 10 [(0, .ref (ρ 0)), (2, .int x2), (3, .long x3), (5, .long x5), (7, .int x7), (8, .int x8)]) (h : m_exchanges_91 g k56 S x2 x3 x5 x7 x8 = some (S', r)) : W p l e (rmN 1 25) s m args below meth c H locs 0 0 (MQ below (Qi Ym D T ρ A S' r) args s 0 0 A) (F0 m 91 ls []) := by
  unfold m_exchanges_91 at h
  refine lv_iconst (v := 0) C.1 C.2.1 dX13_exchanges_91 (by decide) ?_
  exact w_exchanges_92 C hr hk kk56 w (lv_sub hl [0, 1, 2, 3, 4, 5] rfl) h
set_option maxRecDepth 100000 in
set_option maxHeartbeats 4000000 in
theorem wb_exchanges_56  {g : Nat} {S : St} {x2 : Int32} {x3 : Int64} {x5 : Int64} {x7 : Int32} {x8 : Int32} (C : CallFix p m c cX13_exchanges 10 s args tb RX13) (hr : meth.sig.returnType = (some .boolean)) (hk : meth.locks = false) {S' : St} {r : Int32} {k56 : St → Int32 → Int64 → Int64 → Int32 → Int32 → Option (St × Int32)} (kk56 : ∀ (S : St) (x2 : Int32) (x3 : Int64) (x5 : Int64) (x7 : Int32) (x8 : Int32) (H : Heap) (locs : List Loc) (ls : Array Slot), Wn Ym D T ρ S A s H locs → lv_has ls 10 [(0, .ref (ρ 0)), (2, .int x2), (3, .long x3), (5, .long x5), (7, .int x7), (8, .int x8)] → k56 S x2 x3 x5 x7 x8 = some (S', r) → W p l e (rmN 1 25) s m args below meth c H locs 0 0 (MQ below (Qi Ym D T ρ A S' r) args s 0 0 A) (F0 m 56 ls [])) (w : Wn Ym D T ρ S A s H locs) (hl : lv_has ls 10 [(0, .ref (ρ 0)), (2, .int x2), (3, .long x3), (5, .long x5), (7, .int x7), (8, .int x8)]) (h : b_exchanges_56 g k56 S x2 x3 x5 x7 x8 = some (S', r)) : W p l e (rmN 1 25) s m args below meth c H locs 0 0 (MQ below (Qi Ym D T ρ A S' r) args s 0 0 A) (F0 m 56 ls []) := by
  unfold b_exchanges_56 at h
  refine lv_iload C.1 C.2.1 dX13_exchanges_56 (lv_at hl 5 rfl) ?_
  refine lv_aload_n C.1 C.2.1 dX13_exchanges_58 rfl (lv_at hl 0 rfl) ?_
  refine x_getC C w 24 fM193 obM rfl dX13_exchanges_59 ?_
  refine lv_iload_n C.1 C.2.1 dX13_exchanges_62 rfl (lv_at hl 1 rfl) ?_
  obtain ⟨v_5, hv_5, h⟩ := bnd h
  refine x_iald C w obM24 hv_5 dX13_exchanges_63 ?_
  refine lv_icmp_ge (tgt := 139) C.1 C.2.1 dX13_exchanges_64 (by decide) (fun hc => ?_) (fun hc => ?_)
  · replace h := ift hc h
    refine lv_iload C.1 C.2.1 dX13_exchanges_139 (lv_at hl 4 rfl) ?_
    by_cases hz_6 : x7 = 0 ∨ x7 = 1
    case neg => exact absurd (iff0 hz_6 h) (fun q => by cases q)
    replace h := ift hz_6 h
    obtain ⟨rfl, rfl⟩ := prI h
    exact x_zret C w hr hk hz_6 dX13_exchanges_141
  · replace h := iff0 hc h
    refine lv_aload_n C.1 C.2.1 dX13_exchanges_67 rfl (lv_at hl 0 rfl) ?_
    refine lv_iload_n C.1 C.2.1 dX13_exchanges_68 rfl (lv_at hl 1 rfl) ?_
    refine lv_iload C.1 C.2.1 dX13_exchanges_69 (lv_at hl 5 rfl) ?_
    obtain ⟨v_7, hv_7, h⟩ := bnd h
    refine x_callVi (q := (RX13, TX13, 68)) (As := [.int x2, .int x8]) (rest := []) C w (k_unitAt l D T ρ g H.size S hv_7) vM470 ⟨by decide, by decide⟩ obM (by decide) rfl rfl rfl hl.1 (Nat.le_of_ble_eq_true rfl) ⟨Nat.zero_le _, Nat.zero_le _⟩ dX13_exchanges_71 (fun H locs w => ?_)
    refine lv_i2l C.1 C.2.1 dX13_exchanges_74 rfl ?_
    refine lv_lload_n C.1 C.2.1 dX13_exchanges_75 rfl (lv_at hl 2 rfl) ?_
    refine x_l_ne (tgt := 91) C dX13_exchanges_76 dX13_exchanges_77 (by decide) (fun hc => ?_) (fun hc => ?_)
    · replace h := iff0 hc h
      exact w_exchanges_91 C hr hk kk56 w (lv_sub hl [0, 1, 2, 3, 4, 5] rfl) h
    · replace h := ift hc h
      refine lv_lload_n C.1 C.2.1 dX13_exchanges_80 rfl (lv_at hl 2 rfl) ?_
      refine lv_lload C.1 C.2.1 dX13_exchanges_81 (lv_at hl 3 rfl) ?_
      refine x_l_eq (tgt := 91) C dX13_exchanges_83 dX13_exchanges_84 (by decide) (fun hc => ?_) (fun hc => ?_)
      · replace h := ift hc h
        exact w_exchanges_91 C hr hk kk56 w (lv_sub hl [0, 1, 2, 3, 4, 5] rfl) h
      · replace h := iff0 hc h
        refine lv_iconst (v := 1) C.1 C.2.1 dX13_exchanges_87 (by decide) ?_
        refine lv_goto (tgt := 92) C.1 C.2.1 dX13_exchanges_88 (by decide) ?_
        exact w_exchanges_92 C hr hk kk56 w (lv_sub hl [0, 1, 2, 3, 4, 5] rfl) h
theorem w_exchanges_56 {g : Nat} (C : CallFix p m c cX13_exchanges 10 s args tb RX13) (hr : meth.sig.returnType = (some .boolean)) (hk : meth.locks = false) {S' : St} {r : Int32} (n : Nat) : ∀ (S : St) (x2 : Int32) (x3 : Int64) (x5 : Int64) (x7 : Int32) (x8 : Int32) (H : Heap) (locs : List Loc) (ls : Array Slot), Wn Ym D T ρ S A s H locs → lv_has ls 10 [(0, .ref (ρ 0)), (2, .int x2), (3, .long x3), (5, .long x5), (7, .int x7), (8, .int x8)] → m_exchanges_56 g n S x2 x3 x5 x7 x8 = some (S', r) → W p l e (rmN 1 25) s m args below meth c H locs 0 0 (MQ below (Qi Ym D T ρ A S' r) args s 0 0 A) (F0 m 56 ls []) := by
  induction n with
  | zero => intro S x2 x3 x5 x7 x8 H locs ls w hl h; exact absurd h (fun q => by cases q)
  | succ n ih => intro S x2 x3 x5 x7 x8 H locs ls w hl h; exact wb_exchanges_56 C hr hk ih w hl h
set_option maxRecDepth 100000 in
set_option maxHeartbeats 4000000 in
theorem w_exchanges_46  {g : Nat} {S : St} {x2 : Int32} {x3 : Int64} {x5 : Int64} {y1 : Int32} (C : CallFix p m c cX13_exchanges 10 s args tb RX13) (hr : meth.sig.returnType = (some .boolean)) (hk : meth.locks = false) {S' : St} {r : Int32} (w : Wn Ym D T ρ S A s H locs) (hl : lv_has ls 10 [(0, .ref (ρ 0)), (2, .int x2), (3, .long x3), (5, .long x5)]) (h : m_exchanges_46 g S x2 x3 x5 y1 = some (S', r)) : W p l e (rmN 1 25) s m args below meth c H locs 0 0 (MQ below (Qi Ym D T ρ A S' r) args s 0 0 A) (F0 m 46 ls [.int y1, .ref (ρ 0)]) := by
  unfold m_exchanges_46 at h
  refine lv_iconst (v := 3) C.1 C.2.1 dX13_exchanges_46 (by decide) ?_
  obtain ⟨S_4, hS_4, h⟩ := bnd h
  refine x_callVv (q := (RX13, TX13, 68)) (As := [.int y1, .int (3 : Int32)]) (rest := []) C w (k_refuse l D T ρ g H.size S hS_4) vM466 ⟨by decide, by decide⟩ obM (by decide) rfl rfl rfl hl.1 (Nat.le_of_ble_eq_true rfl) ⟨Nat.zero_le _, Nat.zero_le _⟩ dX13_exchanges_47 (fun H locs w => ?_)
  refine lv_iconst (v := 1) C.1 C.2.1 dX13_exchanges_50 (by decide) ?_
  refine lv_istore (lv' := [(7, .int (1 : Int32)), (0, .ref (ρ 0)), (2, .int x2), (3, .long x3), (5, .long x5)]) C.1 C.2.1 dX13_exchanges_51 hl (by decide) rfl (fun ls hl => ?_)
  refine lv_iconst (v := 0) C.1 C.2.1 dX13_exchanges_53 (by decide) ?_
  refine lv_istore (lv' := [(8, .int (0 : Int32)), (7, .int (1 : Int32)), (0, .ref (ρ 0)), (2, .int x2), (3, .long x3), (5, .long x5)]) C.1 C.2.1 dX13_exchanges_54 hl (by decide) rfl (fun ls hl => ?_)
  exact w_exchanges_56 C hr hk g _ _ _ _ _ _ _ _ _ w (lv_sub hl [2, 3, 4, 5, 1, 0] rfl) h
set_option maxRecDepth 100000 in
set_option maxHeartbeats 4000000 in
theorem w_exchanges_41  {g : Nat} {S : St} {x2 : Int32} {x3 : Int64} {x5 : Int64} (C : CallFix p m c cX13_exchanges 10 s args tb RX13) (hr : meth.sig.returnType = (some .boolean)) (hk : meth.locks = false) {S' : St} {r : Int32} (w : Wn Ym D T ρ S A s H locs) (hl : lv_has ls 10 [(0, .ref (ρ 0)), (2, .int x2), (3, .long x3), (5, .long x5)]) (h : m_exchanges_41 g S x2 x3 x5 = some (S', r)) : W p l e (rmN 1 25) s m args below meth c H locs 0 0 (MQ below (Qi Ym D T ρ A S' r) args s 0 0 A) (F0 m 41 ls [.ref (ρ 0)]) := by
  unfold m_exchanges_41 at h
  refine lv_iconst (v := 1) C.1 C.2.1 dX13_exchanges_41 (by decide) ?_
  refine lv_goto (tgt := 46) C.1 C.2.1 dX13_exchanges_42 (by decide) ?_
  exact w_exchanges_46 C hr hk w (lv_sub hl [0, 1, 2, 3] rfl) h
set_option maxRecDepth 100000 in
set_option maxHeartbeats 4000000 in
theorem w_exchanges_0  {g : Nat} {S : St} {x1 : Int32} {x2 : Int32} (C : CallFix p m c cX13_exchanges 10 s args tb RX13) (hr : meth.sig.returnType = (some .boolean)) (hk : meth.locks = false) {S' : St} {r : Int32} (w : Wn Ym D T ρ S A s H locs) (hl : lv_has ls 10 [(0, .ref (ρ 0)), (1, .int x1), (2, .int x2)]) (h : m_exchanges g S x1 x2 = some (S', r)) : W p l e (rmN 1 25) s m args below meth c H locs 0 0 (MQ below (Qi Ym D T ρ A S' r) args s 0 0 A) (F0 m 0 ls []) := by
  unfold m_exchanges at h
  refine lv_aload_n C.1 C.2.1 dX13_exchanges_0 rfl (lv_at hl 0 rfl) ?_
  refine lv_iload_n C.1 C.2.1 dX13_exchanges_1 rfl (lv_at hl 1 rfl) ?_
  refine lv_iconst (v := 2) C.1 C.2.1 dX13_exchanges_2 (by decide) ?_
  refine lv_iadd C.1 C.2.1 dX13_exchanges_3 ?_
  obtain ⟨v_1, hv_1, h⟩ := bnd h
  refine x_callVj (q := (RX13, TX13, 68)) (As := [.int (x1 + (2 : Int32))]) (rest := []) C w (k_value l D T ρ g H.size S hv_1) vM459 ⟨by decide, by decide⟩ obM (by decide) rfl rfl rfl hl.1 (Nat.le_of_ble_eq_true rfl) ⟨Nat.zero_le _, Nat.zero_le _⟩ dX13_exchanges_4 (fun H locs w => ?_)
  refine lv_lstore_n (lv' := [(3, .long v_1), (0, .ref (ρ 0)), (1, .int x1), (2, .int x2)]) C.1 C.2.1 dX13_exchanges_7 rfl hl (by decide) rfl (fun ls hl => ?_)
  refine lv_aload_n C.1 C.2.1 dX13_exchanges_8 rfl (lv_at hl 1 rfl) ?_
  refine lv_iload_n C.1 C.2.1 dX13_exchanges_9 rfl (lv_at hl 2 rfl) ?_
  refine lv_iconst (v := 3) C.1 C.2.1 dX13_exchanges_10 (by decide) ?_
  refine lv_iadd C.1 C.2.1 dX13_exchanges_11 ?_
  obtain ⟨v_2, hv_2, h⟩ := bnd h
  refine x_callVj (q := (RX13, TX13, 68)) (As := [.int (x1 + (3 : Int32))]) (rest := []) C w (k_value l D T ρ g H.size S hv_2) vM459 ⟨by decide, by decide⟩ obM (by decide) rfl rfl rfl hl.1 (Nat.le_of_ble_eq_true rfl) ⟨Nat.zero_le _, Nat.zero_le _⟩ dX13_exchanges_12 (fun H locs w => ?_)
  refine lv_lstore (lv' := [(5, .long v_2), (3, .long v_1), (0, .ref (ρ 0)), (1, .int x1), (2, .int x2)]) C.1 C.2.1 dX13_exchanges_15 hl (by decide) rfl (fun ls hl => ?_)
  refine lv_aload_n C.1 C.2.1 dX13_exchanges_17 rfl (lv_at hl 2 rfl) ?_
  refine lv_lload_n C.1 C.2.1 dX13_exchanges_18 rfl (lv_at hl 1 rfl) ?_
  refine lv_lconst (v := 0) C.1 C.2.1 dX13_exchanges_19 (by decide) ?_
  refine lv_ldc2 C.1 C.2.1 C.2.2.2.1 (C.2.2.2.2 _ nM623) dX13_exchanges_20 ?_
  obtain ⟨v_3, hv_3, h⟩ := bnd h
  refine x_callSi (As := [.long v_1, .long (0 : Int64), .long (65535 : Int64)]) (rest := [.ref (ρ 0)]) C w (k_isIn l D T ρ g H.size S hv_3) vM318 ⟨by decide, by decide⟩ rfl rfl hl.1 (Nat.le_of_ble_eq_true rfl) ⟨Nat.zero_le _, Nat.zero_le _⟩ dX13_exchanges_23 (fun H locs w => ?_)
  refine lv_if_eq (tgt := 41) C.1 C.2.1 dX13_exchanges_26 (by decide) (fun hc => ?_) (fun hc => ?_)
  · replace h := ift hc h
    exact w_exchanges_41 C hr hk w (lv_sub hl [2, 4, 1, 0] rfl) h
  · replace h := iff0 hc h
    refine lv_lload C.1 C.2.1 dX13_exchanges_29 (lv_at hl 0 rfl) ?_
    refine lv_lconst (v := 0) C.1 C.2.1 dX13_exchanges_31 (by decide) ?_
    refine lv_ldc2 C.1 C.2.1 C.2.2.2.1 (C.2.2.2.2 _ nM623) dX13_exchanges_32 ?_
    obtain ⟨v_4, hv_4, h⟩ := bnd h
    refine x_callSi (As := [.long v_2, .long (0 : Int64), .long (65535 : Int64)]) (rest := [.ref (ρ 0)]) C w (k_isIn l D T ρ g H.size S hv_4) vM318 ⟨by decide, by decide⟩ rfl rfl hl.1 (Nat.le_of_ble_eq_true rfl) ⟨Nat.zero_le _, Nat.zero_le _⟩ dX13_exchanges_35 (fun H locs w => ?_)
    refine lv_if_ne (tgt := 45) C.1 C.2.1 dX13_exchanges_38 (by decide) (fun hc => ?_) (fun hc => ?_)
    · replace h := iff0 hc h
      refine lv_iconst (v := 0) C.1 C.2.1 dX13_exchanges_45 (by decide) ?_
      exact w_exchanges_46 C hr hk w (lv_sub hl [2, 4, 1, 0] rfl) h
    · replace h := ift hc h
      exact w_exchanges_41 C hr hk w (lv_sub hl [2, 4, 1, 0] rfl) h
end S_exchanges
set_option maxRecDepth 100000 in
theorem k_exchanges (l : Launch) (D : va_G) (T : Cy) (ρ : Nat → Nat) (g sz : Nat) (S : St) {x1 : Int32} {x2 : Int32} {S' : St} {r : Int32} (h : m_exchanges g S x1 x2 = some (S', r)) : Mi l Ym D T ρ yX13_exchanges cX13_exchanges 10 (some .boolean) 1 25 S S' r [.ref (ρ 0), .int x1, .int x2] sz :=
  x_in (by decide) (Nat.le_of_ble_eq_true rfl) (fun p e s m below meth c ls C hr hk w hl => w_exchanges_0 C hr hk w hl h)

theorem dX13_givesText_0 : decode cX13_givesText 0 = .ok (.aload_n 0, 1) := by decide +kernel
theorem dX13_givesText_1 : decode cX13_givesText 1 = .ok (.getfield 398, 3) := by decide +kernel
theorem dX13_givesText_4 : decode cX13_givesText 4 = .ok (.ifCond .ne 16, 3) := by decide +kernel
theorem dX13_givesText_7 : decode cX13_givesText 7 = .ok (.aload_n 0, 1) := by decide +kernel
theorem dX13_givesText_8 : decode cX13_givesText 8 = .ok (.getfield 199, 3) := by decide +kernel
theorem dX13_givesText_11 : decode cX13_givesText 11 = .ok (.aload_n 0, 1) := by decide +kernel
theorem dX13_givesText_12 : decode cX13_givesText 12 = .ok (.getfield 150, 3) := by decide +kernel
theorem dX13_givesText_15 : decode cX13_givesText 15 = .ok (.iload_n 1, 1) := by decide +kernel
theorem dX13_givesText_16 : decode cX13_givesText 16 = .ok (.laload, 1) := by decide +kernel
theorem dX13_givesText_17 : decode cX13_givesText 17 = .ok (.l2i, 1) := by decide +kernel
theorem dX13_givesText_18 : decode cX13_givesText 18 = .ok (.iload_n 2, 1) := by decide +kernel
theorem dX13_givesText_19 : decode cX13_givesText 19 = .ok (.iastore, 1) := by decide +kernel
theorem dX13_givesText_20 : decode cX13_givesText 20 = .ok (.return_, 1) := by decide +kernel
def m_givesText (g : Nat) (S : St) (x1 : Int32) (x2 : Int32) : Option St :=
if (gI S 0 58) = 0 then (
  (aJ S 10 x1).bind fun v_1 =>
  (tI S 26 (v_1.toInt32) x2).bind fun S_2 =>
  some S_2
) else (
  some S
)
section S_givesText
variable {p : Program} {l : Launch} {e : Env} {s : State} {m : MethodId} {args : Array Value} {below : List Frame} {meth : Method} {c : Code} {H : Heap} {locs : List Loc} {ls : Array Slot} {D : va_G} {T : Cy} {ρ : Nat → Nat} {A : Nat → Prop}
set_option maxRecDepth 100000 in
set_option maxHeartbeats 4000000 in
theorem w_givesText_0  {g : Nat} {S : St} {x1 : Int32} {x2 : Int32} (C : CallFix p m c cX13_givesText 3 s args tb RX13) (hr : meth.sig.returnType = none) (hk : meth.locks = false) {S' : St} (w : Wn Ym D T ρ S A s H locs) (hl : lv_has ls 3 [(0, .ref (ρ 0)), (1, .int x1), (2, .int x2)]) (h : m_givesText g S x1 x2 = some S') : W p l e (rmN 0 0) s m args below meth c H locs 0 0 (MQ below (Qv Ym D T ρ A S') args s 0 0 A) (F0 m 0 ls []) := by
  unfold m_givesText at h
  refine lv_aload_n C.1 C.2.1 dX13_givesText_0 rfl (lv_at hl 0 rfl) ?_
  refine x_getI C w fM398 obM dX13_givesText_1 ?_
  refine lv_if_ne (tgt := 20) C.1 C.2.1 dX13_givesText_4 (by decide) (fun hc => ?_) (fun hc => ?_)
  · replace h := iff0 hc h
    obtain rfl := som h
    exact x_vret C w hr hk dX13_givesText_20
  · replace h := ift hc h
    refine lv_aload_n C.1 C.2.1 dX13_givesText_7 rfl (lv_at hl 0 rfl) ?_
    refine x_getC C w 26 fM199 obM rfl dX13_givesText_8 ?_
    refine lv_aload_n C.1 C.2.1 dX13_givesText_11 rfl (lv_at hl 0 rfl) ?_
    refine x_getC C w 10 fM150 obM rfl dX13_givesText_12 ?_
    refine lv_iload_n C.1 C.2.1 dX13_givesText_15 rfl (lv_at hl 1 rfl) ?_
    obtain ⟨v_1, hv_1, h⟩ := bnd h
    refine x_lald C w obM10 hv_1 dX13_givesText_16 ?_
    refine lv_l2i C.1 C.2.1 dX13_givesText_17 rfl ?_
    refine lv_iload_n C.1 C.2.1 dX13_givesText_18 rfl (lv_at hl 2 rfl) ?_
    obtain ⟨S_2, hS_2, h⟩ := bnd h
    refine x_iast C w obM26 hS_2 dX13_givesText_19 (fun H locs w => ?_)
    obtain rfl := som h
    exact x_vret C w hr hk dX13_givesText_20
end S_givesText
set_option maxRecDepth 100000 in
theorem k_givesText (l : Launch) (D : va_G) (T : Cy) (ρ : Nat → Nat) (g sz : Nat) (S : St) {x1 : Int32} {x2 : Int32} {S' : St} (h : m_givesText g S x1 x2 = some S') : Mv l Ym D T ρ yX13_givesText cX13_givesText 3 none 0 0 S S' [.ref (ρ 0), .int x1, .int x2] sz :=
  x_in (by decide) (Nat.le_of_ble_eq_true rfl) (fun p e s m below meth c ls C hr hk w hl => w_givesText_0 C hr hk w hl h)

theorem dX13_repeats_0 : decode cX13_repeats 0 = .ok (.aload_n 0, 1) := by decide +kernel
theorem dX13_repeats_1 : decode cX13_repeats 1 = .ok (.iload_n 1, 1) := by decide +kernel
theorem dX13_repeats_2 : decode cX13_repeats 2 = .ok (.iconst 2, 1) := by decide +kernel
theorem dX13_repeats_3 : decode cX13_repeats 3 = .ok (.iadd, 1) := by decide +kernel
theorem dX13_repeats_4 : decode cX13_repeats 4 = .ok (.invokevirtual 459, 3) := by decide +kernel
theorem dX13_repeats_7 : decode cX13_repeats 7 = .ok (.lstore_n 3, 1) := by decide +kernel
theorem dX13_repeats_8 : decode cX13_repeats 8 = .ok (.aload_n 0, 1) := by decide +kernel
theorem dX13_repeats_9 : decode cX13_repeats 9 = .ok (.lload_n 3, 1) := by decide +kernel
theorem dX13_repeats_10 : decode cX13_repeats 10 = .ok (.lconst 0, 1) := by decide +kernel
theorem dX13_repeats_11 : decode cX13_repeats 11 = .ok (.lcmp, 1) := by decide +kernel
theorem dX13_repeats_12 : decode cX13_repeats 12 = .ok (.ifCond .ge 7, 3) := by decide +kernel
theorem dX13_repeats_15 : decode cX13_repeats 15 = .ok (.iconst 1, 1) := by decide +kernel
theorem dX13_repeats_16 : decode cX13_repeats 16 = .ok (.goto 4, 3) := by decide +kernel
theorem dX13_repeats_19 : decode cX13_repeats 19 = .ok (.iconst 0, 1) := by decide +kernel
theorem dX13_repeats_20 : decode cX13_repeats 20 = .ok (.iconst 3, 1) := by decide +kernel
theorem dX13_repeats_21 : decode cX13_repeats 21 = .ok (.invokevirtual 466, 3) := by decide +kernel
theorem dX13_repeats_24 : decode cX13_repeats 24 = .ok (.aload_n 0, 1) := by decide +kernel
theorem dX13_repeats_25 : decode cX13_repeats 25 = .ok (.getfield 398, 3) := by decide +kernel
theorem dX13_repeats_28 : decode cX13_repeats 28 = .ok (.ifCond .ne 9, 3) := by decide +kernel
theorem dX13_repeats_31 : decode cX13_repeats 31 = .ok (.lload_n 3, 1) := by decide +kernel
theorem dX13_repeats_32 : decode cX13_repeats 32 = .ok (.lconst 1, 1) := by decide +kernel
theorem dX13_repeats_33 : decode cX13_repeats 33 = .ok (.lcmp, 1) := by decide +kernel
theorem dX13_repeats_34 : decode cX13_repeats 34 = .ok (.ifCond .ne 5, 3) := by decide +kernel
theorem dX13_repeats_37 : decode cX13_repeats 37 = .ok (.iconst 1, 1) := by decide +kernel
theorem dX13_repeats_38 : decode cX13_repeats 38 = .ok (.ireturn, 1) := by decide +kernel
theorem dX13_repeats_39 : decode cX13_repeats 39 = .ok (.aload_n 0, 1) := by decide +kernel
theorem dX13_repeats_40 : decode cX13_repeats 40 = .ok (.getfield 193, 3) := by decide +kernel
theorem dX13_repeats_43 : decode cX13_repeats 43 = .ok (.iload_n 2, 1) := by decide +kernel
theorem dX13_repeats_44 : decode cX13_repeats 44 = .ok (.iaload, 1) := by decide +kernel
theorem dX13_repeats_45 : decode cX13_repeats 45 = .ok (.istore 5, 2) := by decide +kernel
theorem dX13_repeats_47 : decode cX13_repeats 47 = .ok (.aload_n 0, 1) := by decide +kernel
theorem dX13_repeats_48 : decode cX13_repeats 48 = .ok (.iload 5, 2) := by decide +kernel
theorem dX13_repeats_50 : decode cX13_repeats 50 = .ok (.ifCond .le 19, 3) := by decide +kernel
theorem dX13_repeats_53 : decode cX13_repeats 53 = .ok (.lload_n 3, 1) := by decide +kernel
theorem dX13_repeats_54 : decode cX13_repeats 54 = .ok (.sipush 400, 3) := by decide +kernel
theorem dX13_repeats_57 : decode cX13_repeats 57 = .ok (.iload 5, 2) := by decide +kernel
theorem dX13_repeats_59 : decode cX13_repeats 59 = .ok (.idiv, 1) := by decide +kernel
theorem dX13_repeats_60 : decode cX13_repeats 60 = .ok (.i2l, 1) := by decide +kernel
theorem dX13_repeats_61 : decode cX13_repeats 61 = .ok (.lcmp, 1) := by decide +kernel
theorem dX13_repeats_62 : decode cX13_repeats 62 = .ok (.ifCond .le 7, 3) := by decide +kernel
theorem dX13_repeats_65 : decode cX13_repeats 65 = .ok (.iconst 1, 1) := by decide +kernel
theorem dX13_repeats_66 : decode cX13_repeats 66 = .ok (.goto 4, 3) := by decide +kernel
theorem dX13_repeats_69 : decode cX13_repeats 69 = .ok (.iconst 0, 1) := by decide +kernel
theorem dX13_repeats_70 : decode cX13_repeats 70 = .ok (.iconst 5, 1) := by decide +kernel
theorem dX13_repeats_71 : decode cX13_repeats 71 = .ok (.invokevirtual 466, 3) := by decide +kernel
theorem dX13_repeats_74 : decode cX13_repeats 74 = .ok (.lconst 0, 1) := by decide +kernel
theorem dX13_repeats_75 : decode cX13_repeats 75 = .ok (.lstore 6, 2) := by decide +kernel
theorem dX13_repeats_77 : decode cX13_repeats 77 = .ok (.aload_n 0, 1) := by decide +kernel
theorem dX13_repeats_78 : decode cX13_repeats 78 = .ok (.getfield 398, 3) := by decide +kernel
theorem dX13_repeats_81 : decode cX13_repeats 81 = .ok (.ifCond .ne 32, 3) := by decide +kernel
theorem dX13_repeats_84 : decode cX13_repeats 84 = .ok (.iload 5, 2) := by decide +kernel
theorem dX13_repeats_86 : decode cX13_repeats 86 = .ok (.ifCond .le 27, 3) := by decide +kernel
theorem dX13_repeats_89 : decode cX13_repeats 89 = .ok (.lload 6, 2) := by decide +kernel
theorem dX13_repeats_91 : decode cX13_repeats 91 = .ok (.lload_n 3, 1) := by decide +kernel
theorem dX13_repeats_92 : decode cX13_repeats 92 = .ok (.lcmp, 1) := by decide +kernel
theorem dX13_repeats_93 : decode cX13_repeats 93 = .ok (.ifCond .ge 20, 3) := by decide +kernel
theorem dX13_repeats_96 : decode cX13_repeats 96 = .ok (.aload_n 0, 1) := by decide +kernel
theorem dX13_repeats_97 : decode cX13_repeats 97 = .ok (.iload_n 2, 1) := by decide +kernel
theorem dX13_repeats_98 : decode cX13_repeats 98 = .ok (.iconst 0, 1) := by decide +kernel
theorem dX13_repeats_99 : decode cX13_repeats 99 = .ok (.iload 5, 2) := by decide +kernel
theorem dX13_repeats_101 : decode cX13_repeats 101 = .ok (.invokevirtual 478, 3) := by decide +kernel
theorem dX13_repeats_104 : decode cX13_repeats 104 = .ok (.lload 6, 2) := by decide +kernel
theorem dX13_repeats_106 : decode cX13_repeats 106 = .ok (.lconst 1, 1) := by decide +kernel
theorem dX13_repeats_107 : decode cX13_repeats 107 = .ok (.ladd, 1) := by decide +kernel
theorem dX13_repeats_108 : decode cX13_repeats 108 = .ok (.lstore 6, 2) := by decide +kernel
theorem dX13_repeats_110 : decode cX13_repeats 110 = .ok (.goto (-33), 3) := by decide +kernel
theorem dX13_repeats_113 : decode cX13_repeats 113 = .ok (.iconst 0, 1) := by decide +kernel
theorem dX13_repeats_114 : decode cX13_repeats 114 = .ok (.ireturn, 1) := by decide +kernel
def b_repeats_77 (g : Nat) (k77 : St → Int32 → Int64 → Int32 → Int64 → Option (St × Int32)) (S : St) (x2 : Int32) (x3 : Int64) (x5 : Int32) (x6 : Int64) : Option (St × Int32) :=
if (gI S 0 58) = 0 then (
  if x5 ≤ 0 then (
    some (S, (0 : Int32))
  ) else (
    if x6 < x3 then (
      (m_emitText g S x2 (0 : Int32) x5).bind fun S_5 =>
      lt (x6 + (1 : Int64)) fun x6_6 =>
      k77 S_5 x2 x3 x5 x6_6
    ) else (
      some (S, (0 : Int32))
    )
  )
) else (
  some (S, (0 : Int32))
)
def m_repeats_77 (g : Nat) : Nat → St → Int32 → Int64 → Int32 → Int64 → Option (St × Int32)
  | 0, _, _, _, _, _ => none
  | n + 1, S, x2, x3, x5, x6 => b_repeats_77 g (m_repeats_77 g n) S x2 x3 x5 x6
def m_repeats_70 (g : Nat) (S : St) (x2 : Int32) (x3 : Int64) (x5 : Int32) (y1 : Int32) : Option (St × Int32) :=
(m_refuse g S y1 (5 : Int32)).bind fun S_4 =>
m_repeats_77 g g S_4 x2 x3 x5 (0 : Int64)
def m_repeats_69 (g : Nat) (S : St) (x2 : Int32) (x3 : Int64) (x5 : Int32) : Option (St × Int32) :=
m_repeats_70 g S x2 x3 x5 (0 : Int32)
def m_repeats_20 (g : Nat) (S : St) (x2 : Int32) (x3 : Int64) (y1 : Int32) : Option (St × Int32) :=
(m_refuse g S y1 (3 : Int32)).bind fun S_2 =>
if (gI S_2 0 58) = 0 then (
  if x3 = (1 : Int64) then (
    some (S_2, (1 : Int32))
  ) else (
    (aI S_2 24 x2).bind fun v_3 =>
    if v_3 ≤ 0 then (
      m_repeats_69 g S_2 x2 x3 v_3
    ) else (
      if v_3 = 0 then none else
      if (((400 : Int32) / v_3).toInt64) < x3 then (
        m_repeats_70 g S_2 x2 x3 v_3 (1 : Int32)
      ) else (
        m_repeats_69 g S_2 x2 x3 v_3
      )
    )
  )
) else (
  some (S_2, (1 : Int32))
)
def m_repeats (g : Nat) (S : St) (x1 : Int32) (x2 : Int32) : Option (St × Int32) :=
(m_value g S (x1 + (2 : Int32))).bind fun v_1 =>
if v_1 < (0 : Int64) then (
  m_repeats_20 g S x2 v_1 (1 : Int32)
) else (
  m_repeats_20 g S x2 v_1 (0 : Int32)
)
section S_repeats
variable {p : Program} {l : Launch} {e : Env} {s : State} {m : MethodId} {args : Array Value} {below : List Frame} {meth : Method} {c : Code} {H : Heap} {locs : List Loc} {ls : Array Slot} {D : va_G} {T : Cy} {ρ : Nat → Nat} {A : Nat → Prop}
set_option maxRecDepth 100000 in
set_option maxHeartbeats 4000000 in
theorem wb_repeats_77  {g : Nat} {S : St} {x2 : Int32} {x3 : Int64} {x5 : Int32} {x6 : Int64} (C : CallFix p m c cX13_repeats 8 s args tb RX13) (hr : meth.sig.returnType = (some .boolean)) (hk : meth.locks = false) {S' : St} {r : Int32} {k77 : St → Int32 → Int64 → Int32 → Int64 → Option (St × Int32)} (kk77 : ∀ (S : St) (x2 : Int32) (x3 : Int64) (x5 : Int32) (x6 : Int64) (H : Heap) (locs : List Loc) (ls : Array Slot), Wn Ym D T ρ S A s H locs → lv_has ls 8 [(0, .ref (ρ 0)), (2, .int x2), (3, .long x3), (5, .int x5), (6, .long x6)] → k77 S x2 x3 x5 x6 = some (S', r) → W p l e (rmN 2 46) s m args below meth c H locs 0 0 (MQ below (Qi Ym D T ρ A S' r) args s 0 0 A) (F0 m 77 ls [])) (w : Wn Ym D T ρ S A s H locs) (hl : lv_has ls 8 [(0, .ref (ρ 0)), (2, .int x2), (3, .long x3), (5, .int x5), (6, .long x6)]) (h : b_repeats_77 g k77 S x2 x3 x5 x6 = some (S', r)) : W p l e (rmN 2 46) s m args below meth c H locs 0 0 (MQ below (Qi Ym D T ρ A S' r) args s 0 0 A) (F0 m 77 ls []) := by
  unfold b_repeats_77 at h
  refine lv_aload_n C.1 C.2.1 dX13_repeats_77 rfl (lv_at hl 0 rfl) ?_
  refine x_getI C w fM398 obM dX13_repeats_78 ?_
  refine lv_if_ne (tgt := 113) C.1 C.2.1 dX13_repeats_81 (by decide) (fun hc => ?_) (fun hc => ?_)
  · replace h := iff0 hc h
    refine lv_iconst (v := 0) C.1 C.2.1 dX13_repeats_113 (by decide) ?_
    obtain ⟨rfl, rfl⟩ := prI h
    exact x_zret C w hr hk (by decide) dX13_repeats_114
  · replace h := ift hc h
    refine lv_iload C.1 C.2.1 dX13_repeats_84 (lv_at hl 3 rfl) ?_
    refine lv_if_le (tgt := 113) C.1 C.2.1 dX13_repeats_86 (by decide) (fun hc => ?_) (fun hc => ?_)
    · replace h := ift hc h
      refine lv_iconst (v := 0) C.1 C.2.1 dX13_repeats_113 (by decide) ?_
      obtain ⟨rfl, rfl⟩ := prI h
      exact x_zret C w hr hk (by decide) dX13_repeats_114
    · replace h := iff0 hc h
      refine lv_lload C.1 C.2.1 dX13_repeats_89 (lv_at hl 4 rfl) ?_
      refine lv_lload_n C.1 C.2.1 dX13_repeats_91 rfl (lv_at hl 2 rfl) ?_
      refine x_l_ge (tgt := 113) C dX13_repeats_92 dX13_repeats_93 (by decide) (fun hc => ?_) (fun hc => ?_)
      · replace h := iff0 hc h
        refine lv_iconst (v := 0) C.1 C.2.1 dX13_repeats_113 (by decide) ?_
        obtain ⟨rfl, rfl⟩ := prI h
        exact x_zret C w hr hk (by decide) dX13_repeats_114
      · replace h := ift hc h
        refine lv_aload_n C.1 C.2.1 dX13_repeats_96 rfl (lv_at hl 0 rfl) ?_
        refine lv_iload_n C.1 C.2.1 dX13_repeats_97 rfl (lv_at hl 1 rfl) ?_
        refine lv_iconst (v := 0) C.1 C.2.1 dX13_repeats_98 (by decide) ?_
        refine lv_iload C.1 C.2.1 dX13_repeats_99 (lv_at hl 3 rfl) ?_
        obtain ⟨S_5, hS_5, h⟩ := bnd h
        refine x_callVv (q := (RX13, TX13, 68)) (As := [.int x2, .int (0 : Int32), .int x5]) (rest := []) C w (k_emitText l D T ρ g H.size S hS_5) vM478 ⟨by decide, by decide⟩ obM (by decide) rfl rfl rfl hl.1 (Nat.le_of_ble_eq_true rfl) ⟨Nat.zero_le _, Nat.zero_le _⟩ dX13_repeats_101 (fun H locs w => ?_)
        refine lv_lload C.1 C.2.1 dX13_repeats_104 (lv_at hl 4 rfl) ?_
        refine lv_lconst (v := 1) C.1 C.2.1 dX13_repeats_106 (by decide) ?_
        refine lv_ladd C.1 C.2.1 dX13_repeats_107 ?_
        obtain ⟨x6_6, ex6_6, h⟩ := lt_e h
        refine x_nmL ex6_6 ?_
        refine lv_lstore (lv' := [(6, .long x6_6), (0, .ref (ρ 0)), (2, .int x2), (3, .long x3), (5, .int x5)]) C.1 C.2.1 dX13_repeats_108 hl (by decide) rfl (fun ls hl => ?_)
        refine lv_goto (tgt := 77) C.1 C.2.1 dX13_repeats_110 (by decide) ?_
        exact kk77 _ _ _ _ _ _ _ _ w (lv_sub hl [1, 2, 3, 4, 0] rfl) h
theorem w_repeats_77 {g : Nat} (C : CallFix p m c cX13_repeats 8 s args tb RX13) (hr : meth.sig.returnType = (some .boolean)) (hk : meth.locks = false) {S' : St} {r : Int32} (n : Nat) : ∀ (S : St) (x2 : Int32) (x3 : Int64) (x5 : Int32) (x6 : Int64) (H : Heap) (locs : List Loc) (ls : Array Slot), Wn Ym D T ρ S A s H locs → lv_has ls 8 [(0, .ref (ρ 0)), (2, .int x2), (3, .long x3), (5, .int x5), (6, .long x6)] → m_repeats_77 g n S x2 x3 x5 x6 = some (S', r) → W p l e (rmN 2 46) s m args below meth c H locs 0 0 (MQ below (Qi Ym D T ρ A S' r) args s 0 0 A) (F0 m 77 ls []) := by
  induction n with
  | zero => intro S x2 x3 x5 x6 H locs ls w hl h; exact absurd h (fun q => by cases q)
  | succ n ih => intro S x2 x3 x5 x6 H locs ls w hl h; exact wb_repeats_77 C hr hk ih w hl h
set_option maxRecDepth 100000 in
set_option maxHeartbeats 4000000 in
theorem w_repeats_70  {g : Nat} {S : St} {x2 : Int32} {x3 : Int64} {x5 : Int32} {y1 : Int32} (C : CallFix p m c cX13_repeats 8 s args tb RX13) (hr : meth.sig.returnType = (some .boolean)) (hk : meth.locks = false) {S' : St} {r : Int32} (w : Wn Ym D T ρ S A s H locs) (hl : lv_has ls 8 [(0, .ref (ρ 0)), (2, .int x2), (3, .long x3), (5, .int x5)]) (h : m_repeats_70 g S x2 x3 x5 y1 = some (S', r)) : W p l e (rmN 2 46) s m args below meth c H locs 0 0 (MQ below (Qi Ym D T ρ A S' r) args s 0 0 A) (F0 m 70 ls [.int y1, .ref (ρ 0)]) := by
  unfold m_repeats_70 at h
  refine lv_iconst (v := 5) C.1 C.2.1 dX13_repeats_70 (by decide) ?_
  obtain ⟨S_4, hS_4, h⟩ := bnd h
  refine x_callVv (q := (RX13, TX13, 68)) (As := [.int y1, .int (5 : Int32)]) (rest := []) C w (k_refuse l D T ρ g H.size S hS_4) vM466 ⟨by decide, by decide⟩ obM (by decide) rfl rfl rfl hl.1 (Nat.le_of_ble_eq_true rfl) ⟨Nat.zero_le _, Nat.zero_le _⟩ dX13_repeats_71 (fun H locs w => ?_)
  refine lv_lconst (v := 0) C.1 C.2.1 dX13_repeats_74 (by decide) ?_
  refine lv_lstore (lv' := [(6, .long (0 : Int64)), (0, .ref (ρ 0)), (2, .int x2), (3, .long x3), (5, .int x5)]) C.1 C.2.1 dX13_repeats_75 hl (by decide) rfl (fun ls hl => ?_)
  exact w_repeats_77 C hr hk g _ _ _ _ _ _ _ _ w (lv_sub hl [1, 2, 3, 4, 0] rfl) h
set_option maxRecDepth 100000 in
set_option maxHeartbeats 4000000 in
theorem w_repeats_69  {g : Nat} {S : St} {x2 : Int32} {x3 : Int64} {x5 : Int32} (C : CallFix p m c cX13_repeats 8 s args tb RX13) (hr : meth.sig.returnType = (some .boolean)) (hk : meth.locks = false) {S' : St} {r : Int32} (w : Wn Ym D T ρ S A s H locs) (hl : lv_has ls 8 [(0, .ref (ρ 0)), (2, .int x2), (3, .long x3), (5, .int x5)]) (h : m_repeats_69 g S x2 x3 x5 = some (S', r)) : W p l e (rmN 2 46) s m args below meth c H locs 0 0 (MQ below (Qi Ym D T ρ A S' r) args s 0 0 A) (F0 m 69 ls [.ref (ρ 0)]) := by
  unfold m_repeats_69 at h
  refine lv_iconst (v := 0) C.1 C.2.1 dX13_repeats_69 (by decide) ?_
  exact w_repeats_70 C hr hk w (lv_sub hl [0, 1, 2, 3] rfl) h
set_option maxRecDepth 100000 in
set_option maxHeartbeats 4000000 in
theorem w_repeats_20  {g : Nat} {S : St} {x2 : Int32} {x3 : Int64} {y1 : Int32} (C : CallFix p m c cX13_repeats 8 s args tb RX13) (hr : meth.sig.returnType = (some .boolean)) (hk : meth.locks = false) {S' : St} {r : Int32} (w : Wn Ym D T ρ S A s H locs) (hl : lv_has ls 8 [(0, .ref (ρ 0)), (2, .int x2), (3, .long x3)]) (h : m_repeats_20 g S x2 x3 y1 = some (S', r)) : W p l e (rmN 2 46) s m args below meth c H locs 0 0 (MQ below (Qi Ym D T ρ A S' r) args s 0 0 A) (F0 m 20 ls [.int y1, .ref (ρ 0)]) := by
  unfold m_repeats_20 at h
  refine lv_iconst (v := 3) C.1 C.2.1 dX13_repeats_20 (by decide) ?_
  obtain ⟨S_2, hS_2, h⟩ := bnd h
  refine x_callVv (q := (RX13, TX13, 68)) (As := [.int y1, .int (3 : Int32)]) (rest := []) C w (k_refuse l D T ρ g H.size S hS_2) vM466 ⟨by decide, by decide⟩ obM (by decide) rfl rfl rfl hl.1 (Nat.le_of_ble_eq_true rfl) ⟨Nat.zero_le _, Nat.zero_le _⟩ dX13_repeats_21 (fun H locs w => ?_)
  refine lv_aload_n C.1 C.2.1 dX13_repeats_24 rfl (lv_at hl 0 rfl) ?_
  refine x_getI C w fM398 obM dX13_repeats_25 ?_
  refine lv_if_ne (tgt := 37) C.1 C.2.1 dX13_repeats_28 (by decide) (fun hc => ?_) (fun hc => ?_)
  · replace h := iff0 hc h
    refine lv_iconst (v := 1) C.1 C.2.1 dX13_repeats_37 (by decide) ?_
    obtain ⟨rfl, rfl⟩ := prI h
    exact x_zret C w hr hk (by decide) dX13_repeats_38
  · replace h := ift hc h
    refine lv_lload_n C.1 C.2.1 dX13_repeats_31 rfl (lv_at hl 2 rfl) ?_
    refine lv_lconst (v := 1) C.1 C.2.1 dX13_repeats_32 (by decide) ?_
    refine x_l_ne (tgt := 39) C dX13_repeats_33 dX13_repeats_34 (by decide) (fun hc => ?_) (fun hc => ?_)
    · replace h := iff0 hc h
      refine lv_aload_n C.1 C.2.1 dX13_repeats_39 rfl (lv_at hl 0 rfl) ?_
      refine x_getC C w 24 fM193 obM rfl dX13_repeats_40 ?_
      refine lv_iload_n C.1 C.2.1 dX13_repeats_43 rfl (lv_at hl 1 rfl) ?_
      obtain ⟨v_3, hv_3, h⟩ := bnd h
      refine x_iald C w obM24 hv_3 dX13_repeats_44 ?_
      refine lv_istore (lv' := [(5, .int v_3), (0, .ref (ρ 0)), (2, .int x2), (3, .long x3)]) C.1 C.2.1 dX13_repeats_45 hl (by decide) rfl (fun ls hl => ?_)
      refine lv_aload_n C.1 C.2.1 dX13_repeats_47 rfl (lv_at hl 1 rfl) ?_
      refine lv_iload C.1 C.2.1 dX13_repeats_48 (lv_at hl 0 rfl) ?_
      refine lv_if_le (tgt := 69) C.1 C.2.1 dX13_repeats_50 (by decide) (fun hc => ?_) (fun hc => ?_)
      · replace h := ift hc h
        exact w_repeats_69 C hr hk w (lv_sub hl [1, 2, 3, 0] rfl) h
      · replace h := iff0 hc h
        refine lv_lload_n C.1 C.2.1 dX13_repeats_53 rfl (lv_at hl 3 rfl) ?_
        refine lv_sipush (v := 400) C.1 C.2.1 dX13_repeats_54 (by decide) ?_
        refine lv_iload C.1 C.2.1 dX13_repeats_57 (lv_at hl 0 rfl) ?_
        by_cases hz_4 : v_3 = 0
        · exact absurd (ift hz_4 h) (fun q => by cases q)
        replace h := iff0 hz_4 h
        refine lv_idiv C.1 C.2.1 dX13_repeats_59 hz_4 ?_
        refine lv_i2l C.1 C.2.1 dX13_repeats_60 rfl ?_
        refine x_l_le (tgt := 69) C dX13_repeats_61 dX13_repeats_62 (by decide) (fun hc => ?_) (fun hc => ?_)
        · replace h := iff0 hc h
          exact w_repeats_69 C hr hk w (lv_sub hl [1, 2, 3, 0] rfl) h
        · replace h := ift hc h
          refine lv_iconst (v := 1) C.1 C.2.1 dX13_repeats_65 (by decide) ?_
          refine lv_goto (tgt := 70) C.1 C.2.1 dX13_repeats_66 (by decide) ?_
          exact w_repeats_70 C hr hk w (lv_sub hl [1, 2, 3, 0] rfl) h
    · replace h := ift hc h
      refine lv_iconst (v := 1) C.1 C.2.1 dX13_repeats_37 (by decide) ?_
      obtain ⟨rfl, rfl⟩ := prI h
      exact x_zret C w hr hk (by decide) dX13_repeats_38
set_option maxRecDepth 100000 in
set_option maxHeartbeats 4000000 in
theorem w_repeats_0  {g : Nat} {S : St} {x1 : Int32} {x2 : Int32} (C : CallFix p m c cX13_repeats 8 s args tb RX13) (hr : meth.sig.returnType = (some .boolean)) (hk : meth.locks = false) {S' : St} {r : Int32} (w : Wn Ym D T ρ S A s H locs) (hl : lv_has ls 8 [(0, .ref (ρ 0)), (1, .int x1), (2, .int x2)]) (h : m_repeats g S x1 x2 = some (S', r)) : W p l e (rmN 2 46) s m args below meth c H locs 0 0 (MQ below (Qi Ym D T ρ A S' r) args s 0 0 A) (F0 m 0 ls []) := by
  unfold m_repeats at h
  refine lv_aload_n C.1 C.2.1 dX13_repeats_0 rfl (lv_at hl 0 rfl) ?_
  refine lv_iload_n C.1 C.2.1 dX13_repeats_1 rfl (lv_at hl 1 rfl) ?_
  refine lv_iconst (v := 2) C.1 C.2.1 dX13_repeats_2 (by decide) ?_
  refine lv_iadd C.1 C.2.1 dX13_repeats_3 ?_
  obtain ⟨v_1, hv_1, h⟩ := bnd h
  refine x_callVj (q := (RX13, TX13, 68)) (As := [.int (x1 + (2 : Int32))]) (rest := []) C w (k_value l D T ρ g H.size S hv_1) vM459 ⟨by decide, by decide⟩ obM (by decide) rfl rfl rfl hl.1 (Nat.le_of_ble_eq_true rfl) ⟨Nat.zero_le _, Nat.zero_le _⟩ dX13_repeats_4 (fun H locs w => ?_)
  refine lv_lstore_n (lv' := [(3, .long v_1), (0, .ref (ρ 0)), (1, .int x1), (2, .int x2)]) C.1 C.2.1 dX13_repeats_7 rfl hl (by decide) rfl (fun ls hl => ?_)
  refine lv_aload_n C.1 C.2.1 dX13_repeats_8 rfl (lv_at hl 1 rfl) ?_
  refine lv_lload_n C.1 C.2.1 dX13_repeats_9 rfl (lv_at hl 0 rfl) ?_
  refine lv_lconst (v := 0) C.1 C.2.1 dX13_repeats_10 (by decide) ?_
  refine x_l_ge (tgt := 19) C dX13_repeats_11 dX13_repeats_12 (by decide) (fun hc => ?_) (fun hc => ?_)
  · replace h := iff0 hc h
    refine lv_iconst (v := 0) C.1 C.2.1 dX13_repeats_19 (by decide) ?_
    exact w_repeats_20 C hr hk w (lv_sub hl [1, 3, 0] rfl) h
  · replace h := ift hc h
    refine lv_iconst (v := 1) C.1 C.2.1 dX13_repeats_15 (by decide) ?_
    refine lv_goto (tgt := 20) C.1 C.2.1 dX13_repeats_16 (by decide) ?_
    exact w_repeats_20 C hr hk w (lv_sub hl [1, 3, 0] rfl) h
end S_repeats
set_option maxRecDepth 100000 in
theorem k_repeats (l : Launch) (D : va_G) (T : Cy) (ρ : Nat → Nat) (g sz : Nat) (S : St) {x1 : Int32} {x2 : Int32} {S' : St} {r : Int32} (h : m_repeats g S x1 x2 = some (S', r)) : Mi l Ym D T ρ yX13_repeats cX13_repeats 8 (some .boolean) 2 46 S S' r [.ref (ρ 0), .int x1, .int x2] sz :=
  x_in (by decide) (Nat.le_of_ble_eq_true rfl) (fun p e s m below meth c ls C hr hk w hl => w_repeats_0 C hr hk w hl h)

theorem dX13_stands_0 : decode cX13_stands 0 = .ok (.lload_n 3, 1) := by decide +kernel
theorem dX13_stands_1 : decode cX13_stands 1 = .ok (.lconst 0, 1) := by decide +kernel
theorem dX13_stands_2 : decode cX13_stands 2 = .ok (.aload_n 0, 1) := by decide +kernel
theorem dX13_stands_3 : decode cX13_stands 3 = .ok (.getfield 193, 3) := by decide +kernel
theorem dX13_stands_6 : decode cX13_stands 6 = .ok (.iload_n 2, 1) := by decide +kernel
theorem dX13_stands_7 : decode cX13_stands 7 = .ok (.iaload, 1) := by decide +kernel
theorem dX13_stands_8 : decode cX13_stands 8 = .ok (.aload_n 0, 1) := by decide +kernel
theorem dX13_stands_9 : decode cX13_stands 9 = .ok (.getfield 193, 3) := by decide +kernel
theorem dX13_stands_12 : decode cX13_stands 12 = .ok (.iload_n 1, 1) := by decide +kernel
theorem dX13_stands_13 : decode cX13_stands 13 = .ok (.iaload, 1) := by decide +kernel
theorem dX13_stands_14 : decode cX13_stands 14 = .ok (.isub, 1) := by decide +kernel
theorem dX13_stands_15 : decode cX13_stands 15 = .ok (.i2l, 1) := by decide +kernel
theorem dX13_stands_16 : decode cX13_stands 16 = .ok (.invokestatic 318, 3) := by decide +kernel
theorem dX13_stands_19 : decode cX13_stands 19 = .ok (.istore 5, 2) := by decide +kernel
theorem dX13_stands_21 : decode cX13_stands 21 = .ok (.iconst 0, 1) := by decide +kernel
theorem dX13_stands_22 : decode cX13_stands 22 = .ok (.istore 6, 2) := by decide +kernel
theorem dX13_stands_24 : decode cX13_stands 24 = .ok (.iload 5, 2) := by decide +kernel
theorem dX13_stands_26 : decode cX13_stands 26 = .ok (.ifCond .eq 47, 3) := by decide +kernel
theorem dX13_stands_29 : decode cX13_stands 29 = .ok (.iload 6, 2) := by decide +kernel
theorem dX13_stands_31 : decode cX13_stands 31 = .ok (.aload_n 0, 1) := by decide +kernel
theorem dX13_stands_32 : decode cX13_stands 32 = .ok (.getfield 193, 3) := by decide +kernel
theorem dX13_stands_35 : decode cX13_stands 35 = .ok (.iload_n 1, 1) := by decide +kernel
theorem dX13_stands_36 : decode cX13_stands 36 = .ok (.iaload, 1) := by decide +kernel
theorem dX13_stands_37 : decode cX13_stands 37 = .ok (.if_icmp .ge 36, 3) := by decide +kernel
theorem dX13_stands_40 : decode cX13_stands 40 = .ok (.aload_n 0, 1) := by decide +kernel
theorem dX13_stands_41 : decode cX13_stands 41 = .ok (.iload_n 2, 1) := by decide +kernel
theorem dX13_stands_42 : decode cX13_stands 42 = .ok (.lload_n 3, 1) := by decide +kernel
theorem dX13_stands_43 : decode cX13_stands 43 = .ok (.l2i, 1) := by decide +kernel
theorem dX13_stands_44 : decode cX13_stands 44 = .ok (.iload 6, 2) := by decide +kernel
theorem dX13_stands_46 : decode cX13_stands 46 = .ok (.iadd, 1) := by decide +kernel
theorem dX13_stands_47 : decode cX13_stands 47 = .ok (.invokevirtual 470, 3) := by decide +kernel
theorem dX13_stands_50 : decode cX13_stands 50 = .ok (.aload_n 0, 1) := by decide +kernel
theorem dX13_stands_51 : decode cX13_stands 51 = .ok (.iload_n 1, 1) := by decide +kernel
theorem dX13_stands_52 : decode cX13_stands 52 = .ok (.iload 6, 2) := by decide +kernel
theorem dX13_stands_54 : decode cX13_stands 54 = .ok (.invokevirtual 470, 3) := by decide +kernel
theorem dX13_stands_57 : decode cX13_stands 57 = .ok (.if_icmp .ne 7, 3) := by decide +kernel
theorem dX13_stands_60 : decode cX13_stands 60 = .ok (.iconst 1, 1) := by decide +kernel
theorem dX13_stands_61 : decode cX13_stands 61 = .ok (.goto 4, 3) := by decide +kernel
theorem dX13_stands_64 : decode cX13_stands 64 = .ok (.iconst 0, 1) := by decide +kernel
theorem dX13_stands_65 : decode cX13_stands 65 = .ok (.istore 5, 2) := by decide +kernel
theorem dX13_stands_67 : decode cX13_stands 67 = .ok (.iinc 6 1, 3) := by decide +kernel
theorem dX13_stands_70 : decode cX13_stands 70 = .ok (.goto (-46), 3) := by decide +kernel
theorem dX13_stands_73 : decode cX13_stands 73 = .ok (.iload 5, 2) := by decide +kernel
theorem dX13_stands_75 : decode cX13_stands 75 = .ok (.ireturn, 1) := by decide +kernel
def b_stands_24 (g : Nat) (S : St) (k24 : Int32 → Int32 → Int64 → Int32 → Int32 → Option Int32) (x1 : Int32) (x2 : Int32) (x3 : Int64) (x5 : Int32) (x6 : Int32) : Option Int32 :=
if x5 = 0 then (
  if x5 = 0 ∨ x5 = 1 then some x5 else none
) else (
  (aI S 24 x1).bind fun v_5 =>
  if v_5 ≤ x6 then (
    if x5 = 0 ∨ x5 = 1 then some x5 else none
  ) else (
    (m_unitAt g S x2 ((x3.toInt32) + x6)).bind fun v_7 =>
    (m_unitAt g S x1 x6).bind fun v_8 =>
    if v_7 = v_8 then (
      lt (x6 + (1 : Int32)) fun x6_10 =>
      k24 x1 x2 x3 (1 : Int32) x6_10
    ) else (
      lt (x6 + (1 : Int32)) fun x6_9 =>
      k24 x1 x2 x3 (0 : Int32) x6_9
    )
  )
)
def m_stands_24 (g : Nat) (S : St) : Nat → Int32 → Int32 → Int64 → Int32 → Int32 → Option Int32
  | 0, _, _, _, _, _ => none
  | n + 1, x1, x2, x3, x5, x6 => b_stands_24 g S (m_stands_24 g S n) x1 x2 x3 x5 x6
def m_stands (g : Nat) (S : St) (x1 : Int32) (x2 : Int32) (x3 : Int64) : Option Int32 :=
(aI S 24 x2).bind fun v_1 =>
(aI S 24 x1).bind fun v_2 =>
(m_isIn g x3 (0 : Int64) ((v_1 - v_2).toInt64)).bind fun v_3 =>
m_stands_24 g S g x1 x2 x3 v_3 (0 : Int32)
section S_stands
variable {p : Program} {l : Launch} {e : Env} {s : State} {m : MethodId} {args : Array Value} {below : List Frame} {meth : Method} {c : Code} {H : Heap} {locs : List Loc} {ls : Array Slot} {D : va_G} {T : Cy} {ρ : Nat → Nat} {A : Nat → Prop}
set_option maxRecDepth 100000 in
set_option maxHeartbeats 4000000 in
theorem wb_stands_24  {g : Nat} {S : St} {x1 : Int32} {x2 : Int32} {x3 : Int64} {x5 : Int32} {x6 : Int32} (C : CallFix p m c cX13_stands 7 s args tb RX13) (hr : meth.sig.returnType = (some .boolean)) (hk : meth.locks = false) {r : Int32} {k24 : Int32 → Int32 → Int64 → Int32 → Int32 → Option Int32} (kk24 : ∀ (x1 : Int32) (x2 : Int32) (x3 : Int64) (x5 : Int32) (x6 : Int32) (H : Heap) (locs : List Loc) (ls : Array Slot), Wn Ym D T ρ S A s H locs → lv_has ls 7 [(0, .ref (ρ 0)), (1, .int x1), (2, .int x2), (3, .long x3), (5, .int x5), (6, .int x6)] → k24 x1 x2 x3 x5 x6 = some r → W p l e (rmN 1 25) s m args below meth c H locs 0 0 (MQ below (Qi Ym D T ρ A S r) args s 0 0 A) (F0 m 24 ls [])) (w : Wn Ym D T ρ S A s H locs) (hl : lv_has ls 7 [(0, .ref (ρ 0)), (1, .int x1), (2, .int x2), (3, .long x3), (5, .int x5), (6, .int x6)]) (h : b_stands_24 g S k24 x1 x2 x3 x5 x6 = some r) : W p l e (rmN 1 25) s m args below meth c H locs 0 0 (MQ below (Qi Ym D T ρ A S r) args s 0 0 A) (F0 m 24 ls []) := by
  unfold b_stands_24 at h
  refine lv_iload C.1 C.2.1 dX13_stands_24 (lv_at hl 4 rfl) ?_
  refine lv_if_eq (tgt := 73) C.1 C.2.1 dX13_stands_26 (by decide) (fun hc => ?_) (fun hc => ?_)
  · replace h := ift hc h
    refine lv_iload C.1 C.2.1 dX13_stands_73 (lv_at hl 4 rfl) ?_
    by_cases hz_4 : x5 = 0 ∨ x5 = 1
    case neg => exact absurd (iff0 hz_4 h) (fun q => by cases q)
    replace h := ift hz_4 h
    obtain rfl := som h
    exact x_zret C w hr hk hz_4 dX13_stands_75
  · replace h := iff0 hc h
    refine lv_iload C.1 C.2.1 dX13_stands_29 (lv_at hl 5 rfl) ?_
    refine lv_aload_n C.1 C.2.1 dX13_stands_31 rfl (lv_at hl 0 rfl) ?_
    refine x_getC C w 24 fM193 obM rfl dX13_stands_32 ?_
    refine lv_iload_n C.1 C.2.1 dX13_stands_35 rfl (lv_at hl 1 rfl) ?_
    obtain ⟨v_5, hv_5, h⟩ := bnd h
    refine x_iald C w obM24 hv_5 dX13_stands_36 ?_
    refine lv_icmp_ge (tgt := 73) C.1 C.2.1 dX13_stands_37 (by decide) (fun hc => ?_) (fun hc => ?_)
    · replace h := ift hc h
      refine lv_iload C.1 C.2.1 dX13_stands_73 (lv_at hl 4 rfl) ?_
      by_cases hz_6 : x5 = 0 ∨ x5 = 1
      case neg => exact absurd (iff0 hz_6 h) (fun q => by cases q)
      replace h := ift hz_6 h
      obtain rfl := som h
      exact x_zret C w hr hk hz_6 dX13_stands_75
    · replace h := iff0 hc h
      refine lv_aload_n C.1 C.2.1 dX13_stands_40 rfl (lv_at hl 0 rfl) ?_
      refine lv_iload_n C.1 C.2.1 dX13_stands_41 rfl (lv_at hl 2 rfl) ?_
      refine lv_lload_n C.1 C.2.1 dX13_stands_42 rfl (lv_at hl 3 rfl) ?_
      refine lv_l2i C.1 C.2.1 dX13_stands_43 rfl ?_
      refine lv_iload C.1 C.2.1 dX13_stands_44 (lv_at hl 5 rfl) ?_
      refine lv_iadd C.1 C.2.1 dX13_stands_46 ?_
      obtain ⟨v_7, hv_7, h⟩ := bnd h
      refine x_callVi (q := (RX13, TX13, 68)) (As := [.int x2, .int ((x3.toInt32) + x6)]) (rest := []) C w (k_unitAt l D T ρ g H.size S hv_7) vM470 ⟨by decide, by decide⟩ obM (by decide) rfl rfl rfl hl.1 (Nat.le_of_ble_eq_true rfl) ⟨Nat.zero_le _, Nat.zero_le _⟩ dX13_stands_47 (fun H locs w => ?_)
      refine lv_aload_n C.1 C.2.1 dX13_stands_50 rfl (lv_at hl 0 rfl) ?_
      refine lv_iload_n C.1 C.2.1 dX13_stands_51 rfl (lv_at hl 1 rfl) ?_
      refine lv_iload C.1 C.2.1 dX13_stands_52 (lv_at hl 5 rfl) ?_
      obtain ⟨v_8, hv_8, h⟩ := bnd h
      refine x_callVi (q := (RX13, TX13, 68)) (As := [.int x1, .int x6]) (rest := [.int v_7]) C w (k_unitAt l D T ρ g H.size S hv_8) vM470 ⟨by decide, by decide⟩ obM (by decide) rfl rfl rfl hl.1 (Nat.le_of_ble_eq_true rfl) ⟨Nat.zero_le _, Nat.zero_le _⟩ dX13_stands_54 (fun H locs w => ?_)
      refine lv_icmp_ne (tgt := 64) C.1 C.2.1 dX13_stands_57 (by decide) (fun hc => ?_) (fun hc => ?_)
      · replace h := iff0 hc h
        refine lv_iconst (v := 0) C.1 C.2.1 dX13_stands_64 (by decide) ?_
        refine lv_istore (lv' := [(5, .int (0 : Int32)), (0, .ref (ρ 0)), (1, .int x1), (2, .int x2), (3, .long x3), (6, .int x6)]) C.1 C.2.1 dX13_stands_65 hl (by decide) rfl (fun ls hl => ?_)
        obtain ⟨x6_9, ex6_9, h⟩ := lt_e h
        refine lv_iinc (v := x6_9) (lv' := [(6, .int x6_9), (5, .int (0 : Int32)), (0, .ref (ρ 0)), (1, .int x1), (2, .int x2), (3, .long x3)]) C.1 C.2.1 dX13_stands_67 hl (k := 5) rfl (by rw [ex6_9]; rfl) (by decide) rfl (fun ls hl => ?_)
        refine lv_goto (tgt := 24) C.1 C.2.1 dX13_stands_70 (by decide) ?_
        exact kk24 _ _ _ _ _ _ _ _ w (lv_sub hl [2, 3, 4, 5, 1, 0] rfl) h
      · replace h := ift hc h
        refine lv_iconst (v := 1) C.1 C.2.1 dX13_stands_60 (by decide) ?_
        refine lv_goto (tgt := 65) C.1 C.2.1 dX13_stands_61 (by decide) ?_
        refine lv_istore (lv' := [(5, .int (1 : Int32)), (0, .ref (ρ 0)), (1, .int x1), (2, .int x2), (3, .long x3), (6, .int x6)]) C.1 C.2.1 dX13_stands_65 hl (by decide) rfl (fun ls hl => ?_)
        obtain ⟨x6_10, ex6_10, h⟩ := lt_e h
        refine lv_iinc (v := x6_10) (lv' := [(6, .int x6_10), (5, .int (1 : Int32)), (0, .ref (ρ 0)), (1, .int x1), (2, .int x2), (3, .long x3)]) C.1 C.2.1 dX13_stands_67 hl (k := 5) rfl (by rw [ex6_10]; rfl) (by decide) rfl (fun ls hl => ?_)
        refine lv_goto (tgt := 24) C.1 C.2.1 dX13_stands_70 (by decide) ?_
        exact kk24 _ _ _ _ _ _ _ _ w (lv_sub hl [2, 3, 4, 5, 1, 0] rfl) h
theorem w_stands_24 {g : Nat} {S : St} (C : CallFix p m c cX13_stands 7 s args tb RX13) (hr : meth.sig.returnType = (some .boolean)) (hk : meth.locks = false) {r : Int32} (n : Nat) : ∀ (x1 : Int32) (x2 : Int32) (x3 : Int64) (x5 : Int32) (x6 : Int32) (H : Heap) (locs : List Loc) (ls : Array Slot), Wn Ym D T ρ S A s H locs → lv_has ls 7 [(0, .ref (ρ 0)), (1, .int x1), (2, .int x2), (3, .long x3), (5, .int x5), (6, .int x6)] → m_stands_24 g S n x1 x2 x3 x5 x6 = some r → W p l e (rmN 1 25) s m args below meth c H locs 0 0 (MQ below (Qi Ym D T ρ A S r) args s 0 0 A) (F0 m 24 ls []) := by
  induction n with
  | zero => intro x1 x2 x3 x5 x6 H locs ls w hl h; exact absurd h (fun q => by cases q)
  | succ n ih => intro x1 x2 x3 x5 x6 H locs ls w hl h; exact wb_stands_24 C hr hk ih w hl h
set_option maxRecDepth 100000 in
set_option maxHeartbeats 4000000 in
theorem w_stands_0  {g : Nat} {S : St} {x1 : Int32} {x2 : Int32} {x3 : Int64} (C : CallFix p m c cX13_stands 7 s args tb RX13) (hr : meth.sig.returnType = (some .boolean)) (hk : meth.locks = false) {r : Int32} (w : Wn Ym D T ρ S A s H locs) (hl : lv_has ls 7 [(0, .ref (ρ 0)), (1, .int x1), (2, .int x2), (3, .long x3)]) (h : m_stands g S x1 x2 x3 = some r) : W p l e (rmN 1 25) s m args below meth c H locs 0 0 (MQ below (Qi Ym D T ρ A S r) args s 0 0 A) (F0 m 0 ls []) := by
  unfold m_stands at h
  refine lv_lload_n C.1 C.2.1 dX13_stands_0 rfl (lv_at hl 3 rfl) ?_
  refine lv_lconst (v := 0) C.1 C.2.1 dX13_stands_1 (by decide) ?_
  refine lv_aload_n C.1 C.2.1 dX13_stands_2 rfl (lv_at hl 0 rfl) ?_
  refine x_getC C w 24 fM193 obM rfl dX13_stands_3 ?_
  refine lv_iload_n C.1 C.2.1 dX13_stands_6 rfl (lv_at hl 2 rfl) ?_
  obtain ⟨v_1, hv_1, h⟩ := bnd h
  refine x_iald C w obM24 hv_1 dX13_stands_7 ?_
  refine lv_aload_n C.1 C.2.1 dX13_stands_8 rfl (lv_at hl 0 rfl) ?_
  refine x_getC C w 24 fM193 obM rfl dX13_stands_9 ?_
  refine lv_iload_n C.1 C.2.1 dX13_stands_12 rfl (lv_at hl 1 rfl) ?_
  obtain ⟨v_2, hv_2, h⟩ := bnd h
  refine x_iald C w obM24 hv_2 dX13_stands_13 ?_
  refine lv_isub C.1 C.2.1 dX13_stands_14 ?_
  refine lv_i2l C.1 C.2.1 dX13_stands_15 rfl ?_
  obtain ⟨v_3, hv_3, h⟩ := bnd h
  refine x_callSi (As := [.long x3, .long (0 : Int64), .long ((v_1 - v_2).toInt64)]) (rest := []) C w (k_isIn l D T ρ g H.size S hv_3) vM318 ⟨by decide, by decide⟩ rfl rfl hl.1 (Nat.le_of_ble_eq_true rfl) ⟨Nat.zero_le _, Nat.zero_le _⟩ dX13_stands_16 (fun H locs w => ?_)
  refine lv_istore (lv' := [(5, .int v_3), (0, .ref (ρ 0)), (1, .int x1), (2, .int x2), (3, .long x3)]) C.1 C.2.1 dX13_stands_19 hl (by decide) rfl (fun ls hl => ?_)
  refine lv_iconst (v := 0) C.1 C.2.1 dX13_stands_21 (by decide) ?_
  refine lv_istore (lv' := [(6, .int (0 : Int32)), (5, .int v_3), (0, .ref (ρ 0)), (1, .int x1), (2, .int x2), (3, .long x3)]) C.1 C.2.1 dX13_stands_22 hl (by decide) rfl (fun ls hl => ?_)
  exact w_stands_24 C hr hk g _ _ _ _ _ _ _ _ w (lv_sub hl [2, 3, 4, 5, 1, 0] rfl) h
end S_stands
set_option maxRecDepth 100000 in
theorem k_stands (l : Launch) (D : va_G) (T : Cy) (ρ : Nat → Nat) (g sz : Nat) (S : St) {x1 : Int32} {x2 : Int32} {x3 : Int64} {r : Int32} (h : m_stands g S x1 x2 x3 = some r) : Mi l Ym D T ρ yX13_stands cX13_stands 7 (some .boolean) 1 25 S S r [.ref (ρ 0), .int x1, .int x2, .long x3] sz :=
  x_in (by decide) (Nat.le_of_ble_eq_true rfl) (fun p e s m below meth c ls C hr hk w hl => w_stands_0 C hr hk w hl h)

theorem dX13_replaces_0 : decode cX13_replaces 0 = .ok (.aload_n 0, 1) := by decide +kernel
theorem dX13_replaces_1 : decode cX13_replaces 1 = .ok (.getfield 193, 3) := by decide +kernel
theorem dX13_replaces_4 : decode cX13_replaces 4 = .ok (.iload_n 2, 1) := by decide +kernel
theorem dX13_replaces_5 : decode cX13_replaces 5 = .ok (.iaload, 1) := by decide +kernel
theorem dX13_replaces_6 : decode cX13_replaces 6 = .ok (.ifCond .le 7, 3) := by decide +kernel
theorem dX13_replaces_9 : decode cX13_replaces 9 = .ok (.iconst 1, 1) := by decide +kernel
theorem dX13_replaces_10 : decode cX13_replaces 10 = .ok (.goto 4, 3) := by decide +kernel
theorem dX13_replaces_13 : decode cX13_replaces 13 = .ok (.iconst 0, 1) := by decide +kernel
theorem dX13_replaces_14 : decode cX13_replaces 14 = .ok (.istore 4, 2) := by decide +kernel
theorem dX13_replaces_16 : decode cX13_replaces 16 = .ok (.iconst 0, 1) := by decide +kernel
theorem dX13_replaces_17 : decode cX13_replaces 17 = .ok (.istore 5, 2) := by decide +kernel
theorem dX13_replaces_19 : decode cX13_replaces 19 = .ok (.iload 5, 2) := by decide +kernel
theorem dX13_replaces_21 : decode cX13_replaces 21 = .ok (.aload_n 0, 1) := by decide +kernel
theorem dX13_replaces_22 : decode cX13_replaces 22 = .ok (.getfield 193, 3) := by decide +kernel
theorem dX13_replaces_25 : decode cX13_replaces 25 = .ok (.iload_n 1, 1) := by decide +kernel
theorem dX13_replaces_26 : decode cX13_replaces 26 = .ok (.iaload, 1) := by decide +kernel
theorem dX13_replaces_27 : decode cX13_replaces 27 = .ok (.if_icmp .ge 90, 3) := by decide +kernel
theorem dX13_replaces_30 : decode cX13_replaces 30 = .ok (.aload_n 0, 1) := by decide +kernel
theorem dX13_replaces_31 : decode cX13_replaces 31 = .ok (.iload_n 2, 1) := by decide +kernel
theorem dX13_replaces_32 : decode cX13_replaces 32 = .ok (.iload_n 1, 1) := by decide +kernel
theorem dX13_replaces_33 : decode cX13_replaces 33 = .ok (.iload 5, 2) := by decide +kernel
theorem dX13_replaces_35 : decode cX13_replaces 35 = .ok (.i2l, 1) := by decide +kernel
theorem dX13_replaces_36 : decode cX13_replaces 36 = .ok (.invokevirtual 625, 3) := by decide +kernel
theorem dX13_replaces_39 : decode cX13_replaces 39 = .ok (.ifCond .eq 29, 3) := by decide +kernel
theorem dX13_replaces_42 : decode cX13_replaces 42 = .ok (.iconst 0, 1) := by decide +kernel
theorem dX13_replaces_43 : decode cX13_replaces 43 = .ok (.istore 4, 2) := by decide +kernel
theorem dX13_replaces_45 : decode cX13_replaces 45 = .ok (.aload_n 0, 1) := by decide +kernel
theorem dX13_replaces_46 : decode cX13_replaces 46 = .ok (.iload_n 3, 1) := by decide +kernel
theorem dX13_replaces_47 : decode cX13_replaces 47 = .ok (.iconst 0, 1) := by decide +kernel
theorem dX13_replaces_48 : decode cX13_replaces 48 = .ok (.aload_n 0, 1) := by decide +kernel
theorem dX13_replaces_49 : decode cX13_replaces 49 = .ok (.getfield 193, 3) := by decide +kernel
theorem dX13_replaces_52 : decode cX13_replaces 52 = .ok (.iload_n 3, 1) := by decide +kernel
theorem dX13_replaces_53 : decode cX13_replaces 53 = .ok (.iaload, 1) := by decide +kernel
theorem dX13_replaces_54 : decode cX13_replaces 54 = .ok (.invokevirtual 478, 3) := by decide +kernel
theorem dX13_replaces_57 : decode cX13_replaces 57 = .ok (.iload 5, 2) := by decide +kernel
theorem dX13_replaces_59 : decode cX13_replaces 59 = .ok (.aload_n 0, 1) := by decide +kernel
theorem dX13_replaces_60 : decode cX13_replaces 60 = .ok (.getfield 193, 3) := by decide +kernel
theorem dX13_replaces_63 : decode cX13_replaces 63 = .ok (.iload_n 2, 1) := by decide +kernel
theorem dX13_replaces_64 : decode cX13_replaces 64 = .ok (.iaload, 1) := by decide +kernel
theorem dX13_replaces_65 : decode cX13_replaces 65 = .ok (.iadd, 1) := by decide +kernel
theorem dX13_replaces_66 : decode cX13_replaces 66 = .ok (.istore 5, 2) := by decide +kernel
theorem dX13_replaces_68 : decode cX13_replaces 68 = .ok (.iload 5, 2) := by decide +kernel
theorem dX13_replaces_70 : decode cX13_replaces 70 = .ok (.aload_n 0, 1) := by decide +kernel
theorem dX13_replaces_71 : decode cX13_replaces 71 = .ok (.getfield 193, 3) := by decide +kernel
theorem dX13_replaces_74 : decode cX13_replaces 74 = .ok (.iload_n 1, 1) := by decide +kernel
theorem dX13_replaces_75 : decode cX13_replaces 75 = .ok (.iaload, 1) := by decide +kernel
theorem dX13_replaces_76 : decode cX13_replaces 76 = .ok (.if_icmp .ge (-57), 3) := by decide +kernel
theorem dX13_replaces_79 : decode cX13_replaces 79 = .ok (.aload_n 0, 1) := by decide +kernel
theorem dX13_replaces_80 : decode cX13_replaces 80 = .ok (.getfield 193, 3) := by decide +kernel
theorem dX13_replaces_83 : decode cX13_replaces 83 = .ok (.iload_n 2, 1) := by decide +kernel
theorem dX13_replaces_84 : decode cX13_replaces 84 = .ok (.iaload, 1) := by decide +kernel
theorem dX13_replaces_85 : decode cX13_replaces 85 = .ok (.ifCond .eq 15, 3) := by decide +kernel
theorem dX13_replaces_88 : decode cX13_replaces 88 = .ok (.aload_n 0, 1) := by decide +kernel
theorem dX13_replaces_89 : decode cX13_replaces 89 = .ok (.iload_n 2, 1) := by decide +kernel
theorem dX13_replaces_90 : decode cX13_replaces 90 = .ok (.iload_n 1, 1) := by decide +kernel
theorem dX13_replaces_91 : decode cX13_replaces 91 = .ok (.iload 5, 2) := by decide +kernel
theorem dX13_replaces_93 : decode cX13_replaces 93 = .ok (.i2l, 1) := by decide +kernel
theorem dX13_replaces_94 : decode cX13_replaces 94 = .ok (.invokevirtual 625, 3) := by decide +kernel
theorem dX13_replaces_97 : decode cX13_replaces 97 = .ok (.ifCond .ne (-78), 3) := by decide +kernel
theorem dX13_replaces_100 : decode cX13_replaces 100 = .ok (.aload_n 0, 1) := by decide +kernel
theorem dX13_replaces_101 : decode cX13_replaces 101 = .ok (.aload_n 0, 1) := by decide +kernel
theorem dX13_replaces_102 : decode cX13_replaces 102 = .ok (.iload_n 1, 1) := by decide +kernel
theorem dX13_replaces_103 : decode cX13_replaces 103 = .ok (.iload 5, 2) := by decide +kernel
theorem dX13_replaces_105 : decode cX13_replaces 105 = .ok (.invokevirtual 470, 3) := by decide +kernel
theorem dX13_replaces_108 : decode cX13_replaces 108 = .ok (.invokevirtual 437, 3) := by decide +kernel
theorem dX13_replaces_111 : decode cX13_replaces 111 = .ok (.iinc 5 1, 3) := by decide +kernel
theorem dX13_replaces_114 : decode cX13_replaces 114 = .ok (.goto (-95), 3) := by decide +kernel
theorem dX13_replaces_117 : decode cX13_replaces 117 = .ok (.aload_n 0, 1) := by decide +kernel
theorem dX13_replaces_118 : decode cX13_replaces 118 = .ok (.getfield 193, 3) := by decide +kernel
theorem dX13_replaces_121 : decode cX13_replaces 121 = .ok (.iload_n 2, 1) := by decide +kernel
theorem dX13_replaces_122 : decode cX13_replaces 122 = .ok (.iaload, 1) := by decide +kernel
theorem dX13_replaces_123 : decode cX13_replaces 123 = .ok (.ifCond .ne 15, 3) := by decide +kernel
theorem dX13_replaces_126 : decode cX13_replaces 126 = .ok (.aload_n 0, 1) := by decide +kernel
theorem dX13_replaces_127 : decode cX13_replaces 127 = .ok (.iload_n 3, 1) := by decide +kernel
theorem dX13_replaces_128 : decode cX13_replaces 128 = .ok (.iconst 0, 1) := by decide +kernel
theorem dX13_replaces_129 : decode cX13_replaces 129 = .ok (.aload_n 0, 1) := by decide +kernel
theorem dX13_replaces_130 : decode cX13_replaces 130 = .ok (.getfield 193, 3) := by decide +kernel
theorem dX13_replaces_133 : decode cX13_replaces 133 = .ok (.iload_n 3, 1) := by decide +kernel
theorem dX13_replaces_134 : decode cX13_replaces 134 = .ok (.iaload, 1) := by decide +kernel
theorem dX13_replaces_135 : decode cX13_replaces 135 = .ok (.invokevirtual 478, 3) := by decide +kernel
theorem dX13_replaces_138 : decode cX13_replaces 138 = .ok (.iload 4, 2) := by decide +kernel
theorem dX13_replaces_140 : decode cX13_replaces 140 = .ok (.ireturn, 1) := by decide +kernel
def m_replaces_100 (g : Nat) (k19 : St → Int32 → Int32 → Int32 → Int32 → Int32 → Option (St × Int32)) (S : St) (x1 : Int32) (x2 : Int32) (x3 : Int32) (x4 : Int32) (x5 : Int32) : Option (St × Int32) :=
(m_unitAt g S x1 x5).bind fun v_11 =>
(m_emit g S v_11).bind fun S_12 =>
lt (x5 + (1 : Int32)) fun x5_13 =>
k19 S_12 x1 x2 x3 x4 x5_13
def m_replaces_68 (g : Nat) (k19 : St → Int32 → Int32 → Int32 → Int32 → Int32 → Option (St × Int32)) (S : St) (x1 : Int32) (x2 : Int32) (x3 : Int32) (x4 : Int32) (x5 : Int32) : Option (St × Int32) :=
(aI S 24 x1).bind fun v_9 =>
if v_9 ≤ x5 then (
  k19 S x1 x2 x3 x4 x5
) else (
  (aI S 24 x2).bind fun v_10 =>
  if v_10 = 0 then (
    m_replaces_100 g k19 S x1 x2 x3 x4 x5
  ) else (
    (m_stands g S x2 x1 (x5.toInt64)).bind fun v_11 =>
    if v_11 = 0 then (
      m_replaces_100 g k19 S x1 x2 x3 x4 x5
    ) else (
      k19 S x1 x2 x3 x4 x5
    )
  )
)
def b_replaces_19 (g : Nat) (k19 : St → Int32 → Int32 → Int32 → Int32 → Int32 → Option (St × Int32)) (S : St) (x1 : Int32) (x2 : Int32) (x3 : Int32) (x4 : Int32) (x5 : Int32) : Option (St × Int32) :=
(aI S 24 x1).bind fun v_2 =>
if v_2 ≤ x5 then (
  (aI S 24 x2).bind fun v_3 =>
  if v_3 = 0 then (
    (aI S 24 x3).bind fun v_5 =>
    (m_emitText g S x3 (0 : Int32) v_5).bind fun S_6 =>
    if x4 = 0 ∨ x4 = 1 then some (S_6, x4) else none
  ) else (
    if x4 = 0 ∨ x4 = 1 then some (S, x4) else none
  )
) else (
  (m_stands g S x2 x1 (x5.toInt64)).bind fun v_8 =>
  if v_8 = 0 then (
    m_replaces_68 g k19 S x1 x2 x3 x4 x5
  ) else (
    (aI S 24 x3).bind fun v_9 =>
    (m_emitText g S x3 (0 : Int32) v_9).bind fun S_10 =>
    (aI S_10 24 x2).bind fun v_11 =>
    lt (x5 + v_11) fun x5_12 =>
    m_replaces_68 g k19 S_10 x1 x2 x3 (0 : Int32) x5_12
  )
)
def m_replaces_19 (g : Nat) : Nat → St → Int32 → Int32 → Int32 → Int32 → Int32 → Option (St × Int32)
  | 0, _, _, _, _, _, _ => none
  | n + 1, S, x1, x2, x3, x4, x5 => b_replaces_19 g (m_replaces_19 g n) S x1 x2 x3 x4 x5
def m_replaces (g : Nat) (S : St) (x1 : Int32) (x2 : Int32) (x3 : Int32) : Option (St × Int32) :=
(aI S 24 x2).bind fun v_1 =>
if v_1 ≤ 0 then (
  m_replaces_19 g g S x1 x2 x3 (0 : Int32) (0 : Int32)
) else (
  m_replaces_19 g g S x1 x2 x3 (1 : Int32) (0 : Int32)
)
section S_replaces
variable {p : Program} {l : Launch} {e : Env} {s : State} {m : MethodId} {args : Array Value} {below : List Frame} {meth : Method} {c : Code} {H : Heap} {locs : List Loc} {ls : Array Slot} {D : va_G} {T : Cy} {ρ : Nat → Nat} {A : Nat → Prop}
set_option maxRecDepth 100000 in
set_option maxHeartbeats 4000000 in
theorem w_replaces_100  {g : Nat} {S : St} {x1 : Int32} {x2 : Int32} {x3 : Int32} {x4 : Int32} {x5 : Int32} (C : CallFix p m c cX13_replaces 6 s args tb RX13) (hr : meth.sig.returnType = (some .boolean)) (hk : meth.locks = false) {S' : St} {r : Int32} {k19 : St → Int32 → Int32 → Int32 → Int32 → Int32 → Option (St × Int32)} (kk19 : ∀ (S : St) (x1 : Int32) (x2 : Int32) (x3 : Int32) (x4 : Int32) (x5 : Int32) (H : Heap) (locs : List Loc) (ls : Array Slot), Wn Ym D T ρ S A s H locs → lv_has ls 6 [(0, .ref (ρ 0)), (1, .int x1), (2, .int x2), (3, .int x3), (4, .int x4), (5, .int x5)] → k19 S x1 x2 x3 x4 x5 = some (S', r) → W p l e (rmN 2 51) s m args below meth c H locs 0 0 (MQ below (Qi Ym D T ρ A S' r) args s 0 0 A) (F0 m 19 ls [])) (w : Wn Ym D T ρ S A s H locs) (hl : lv_has ls 6 [(0, .ref (ρ 0)), (1, .int x1), (2, .int x2), (3, .int x3), (4, .int x4), (5, .int x5)]) (h : m_replaces_100 g k19 S x1 x2 x3 x4 x5 = some (S', r)) : W p l e (rmN 2 51) s m args below meth c H locs 0 0 (MQ below (Qi Ym D T ρ A S' r) args s 0 0 A) (F0 m 100 ls []) := by
  unfold m_replaces_100 at h
  refine lv_aload_n C.1 C.2.1 dX13_replaces_100 rfl (lv_at hl 0 rfl) ?_
  refine lv_aload_n C.1 C.2.1 dX13_replaces_101 rfl (lv_at hl 0 rfl) ?_
  refine lv_iload_n C.1 C.2.1 dX13_replaces_102 rfl (lv_at hl 1 rfl) ?_
  refine lv_iload C.1 C.2.1 dX13_replaces_103 (lv_at hl 5 rfl) ?_
  obtain ⟨v_11, hv_11, h⟩ := bnd h
  refine x_callVi (q := (RX13, TX13, 68)) (As := [.int x1, .int x5]) (rest := [.ref (ρ 0)]) C w (k_unitAt l D T ρ g H.size S hv_11) vM470 ⟨by decide, by decide⟩ obM (by decide) rfl rfl rfl hl.1 (Nat.le_of_ble_eq_true rfl) ⟨Nat.zero_le _, Nat.zero_le _⟩ dX13_replaces_105 (fun H locs w => ?_)
  obtain ⟨S_12, hS_12, h⟩ := bnd h
  refine x_callVv (q := (RX13, TX13, 68)) (As := [.int v_11]) (rest := []) C w (k_emit l D T ρ g H.size S hS_12) vM437 ⟨by decide, by decide⟩ obM (by decide) rfl rfl rfl hl.1 (Nat.le_of_ble_eq_true rfl) ⟨Nat.zero_le _, Nat.zero_le _⟩ dX13_replaces_108 (fun H locs w => ?_)
  obtain ⟨x5_13, ex5_13, h⟩ := lt_e h
  refine lv_iinc (v := x5_13) (lv' := [(5, .int x5_13), (0, .ref (ρ 0)), (1, .int x1), (2, .int x2), (3, .int x3), (4, .int x4)]) C.1 C.2.1 dX13_replaces_111 hl (k := 5) rfl (by rw [ex5_13]; rfl) (by decide) rfl (fun ls hl => ?_)
  refine lv_goto (tgt := 19) C.1 C.2.1 dX13_replaces_114 (by decide) ?_
  exact kk19 _ _ _ _ _ _ _ _ _ w (lv_sub hl [1, 2, 3, 4, 5, 0] rfl) h
set_option maxRecDepth 100000 in
set_option maxHeartbeats 4000000 in
theorem w_replaces_68  {g : Nat} {S : St} {x1 : Int32} {x2 : Int32} {x3 : Int32} {x4 : Int32} {x5 : Int32} (C : CallFix p m c cX13_replaces 6 s args tb RX13) (hr : meth.sig.returnType = (some .boolean)) (hk : meth.locks = false) {S' : St} {r : Int32} {k19 : St → Int32 → Int32 → Int32 → Int32 → Int32 → Option (St × Int32)} (kk19 : ∀ (S : St) (x1 : Int32) (x2 : Int32) (x3 : Int32) (x4 : Int32) (x5 : Int32) (H : Heap) (locs : List Loc) (ls : Array Slot), Wn Ym D T ρ S A s H locs → lv_has ls 6 [(0, .ref (ρ 0)), (1, .int x1), (2, .int x2), (3, .int x3), (4, .int x4), (5, .int x5)] → k19 S x1 x2 x3 x4 x5 = some (S', r) → W p l e (rmN 2 51) s m args below meth c H locs 0 0 (MQ below (Qi Ym D T ρ A S' r) args s 0 0 A) (F0 m 19 ls [])) (w : Wn Ym D T ρ S A s H locs) (hl : lv_has ls 6 [(0, .ref (ρ 0)), (1, .int x1), (2, .int x2), (3, .int x3), (4, .int x4), (5, .int x5)]) (h : m_replaces_68 g k19 S x1 x2 x3 x4 x5 = some (S', r)) : W p l e (rmN 2 51) s m args below meth c H locs 0 0 (MQ below (Qi Ym D T ρ A S' r) args s 0 0 A) (F0 m 68 ls []) := by
  unfold m_replaces_68 at h
  refine lv_iload C.1 C.2.1 dX13_replaces_68 (lv_at hl 5 rfl) ?_
  refine lv_aload_n C.1 C.2.1 dX13_replaces_70 rfl (lv_at hl 0 rfl) ?_
  refine x_getC C w 24 fM193 obM rfl dX13_replaces_71 ?_
  refine lv_iload_n C.1 C.2.1 dX13_replaces_74 rfl (lv_at hl 1 rfl) ?_
  obtain ⟨v_9, hv_9, h⟩ := bnd h
  refine x_iald C w obM24 hv_9 dX13_replaces_75 ?_
  refine lv_icmp_ge (tgt := 19) C.1 C.2.1 dX13_replaces_76 (by decide) (fun hc => ?_) (fun hc => ?_)
  · replace h := ift hc h
    exact kk19 _ _ _ _ _ _ _ _ _ w (lv_sub hl [0, 1, 2, 3, 4, 5] rfl) h
  · replace h := iff0 hc h
    refine lv_aload_n C.1 C.2.1 dX13_replaces_79 rfl (lv_at hl 0 rfl) ?_
    refine x_getC C w 24 fM193 obM rfl dX13_replaces_80 ?_
    refine lv_iload_n C.1 C.2.1 dX13_replaces_83 rfl (lv_at hl 2 rfl) ?_
    obtain ⟨v_10, hv_10, h⟩ := bnd h
    refine x_iald C w obM24 hv_10 dX13_replaces_84 ?_
    refine lv_if_eq (tgt := 100) C.1 C.2.1 dX13_replaces_85 (by decide) (fun hc => ?_) (fun hc => ?_)
    · replace h := ift hc h
      exact w_replaces_100 C hr hk kk19 w (lv_sub hl [0, 1, 2, 3, 4, 5] rfl) h
    · replace h := iff0 hc h
      refine lv_aload_n C.1 C.2.1 dX13_replaces_88 rfl (lv_at hl 0 rfl) ?_
      refine lv_iload_n C.1 C.2.1 dX13_replaces_89 rfl (lv_at hl 2 rfl) ?_
      refine lv_iload_n C.1 C.2.1 dX13_replaces_90 rfl (lv_at hl 1 rfl) ?_
      refine lv_iload C.1 C.2.1 dX13_replaces_91 (lv_at hl 5 rfl) ?_
      refine lv_i2l C.1 C.2.1 dX13_replaces_93 rfl ?_
      obtain ⟨v_11, hv_11, h⟩ := bnd h
      refine x_callVi (q := (RX13, TX13, 68)) (As := [.int x2, .int x1, .long (x5.toInt64)]) (rest := []) C w (k_stands l D T ρ g H.size S hv_11) vM625 ⟨by decide, by decide⟩ obM (by decide) rfl rfl rfl hl.1 (Nat.le_of_ble_eq_true rfl) ⟨Nat.zero_le _, Nat.zero_le _⟩ dX13_replaces_94 (fun H locs w => ?_)
      refine lv_if_ne (tgt := 19) C.1 C.2.1 dX13_replaces_97 (by decide) (fun hc => ?_) (fun hc => ?_)
      · replace h := iff0 hc h
        exact kk19 _ _ _ _ _ _ _ _ _ w (lv_sub hl [0, 1, 2, 3, 4, 5] rfl) h
      · replace h := ift hc h
        exact w_replaces_100 C hr hk kk19 w (lv_sub hl [0, 1, 2, 3, 4, 5] rfl) h
set_option maxRecDepth 100000 in
set_option maxHeartbeats 4000000 in
theorem wb_replaces_19  {g : Nat} {S : St} {x1 : Int32} {x2 : Int32} {x3 : Int32} {x4 : Int32} {x5 : Int32} (C : CallFix p m c cX13_replaces 6 s args tb RX13) (hr : meth.sig.returnType = (some .boolean)) (hk : meth.locks = false) {S' : St} {r : Int32} {k19 : St → Int32 → Int32 → Int32 → Int32 → Int32 → Option (St × Int32)} (kk19 : ∀ (S : St) (x1 : Int32) (x2 : Int32) (x3 : Int32) (x4 : Int32) (x5 : Int32) (H : Heap) (locs : List Loc) (ls : Array Slot), Wn Ym D T ρ S A s H locs → lv_has ls 6 [(0, .ref (ρ 0)), (1, .int x1), (2, .int x2), (3, .int x3), (4, .int x4), (5, .int x5)] → k19 S x1 x2 x3 x4 x5 = some (S', r) → W p l e (rmN 2 51) s m args below meth c H locs 0 0 (MQ below (Qi Ym D T ρ A S' r) args s 0 0 A) (F0 m 19 ls [])) (w : Wn Ym D T ρ S A s H locs) (hl : lv_has ls 6 [(0, .ref (ρ 0)), (1, .int x1), (2, .int x2), (3, .int x3), (4, .int x4), (5, .int x5)]) (h : b_replaces_19 g k19 S x1 x2 x3 x4 x5 = some (S', r)) : W p l e (rmN 2 51) s m args below meth c H locs 0 0 (MQ below (Qi Ym D T ρ A S' r) args s 0 0 A) (F0 m 19 ls []) := by
  unfold b_replaces_19 at h
  refine lv_iload C.1 C.2.1 dX13_replaces_19 (lv_at hl 5 rfl) ?_
  refine lv_aload_n C.1 C.2.1 dX13_replaces_21 rfl (lv_at hl 0 rfl) ?_
  refine x_getC C w 24 fM193 obM rfl dX13_replaces_22 ?_
  refine lv_iload_n C.1 C.2.1 dX13_replaces_25 rfl (lv_at hl 1 rfl) ?_
  obtain ⟨v_2, hv_2, h⟩ := bnd h
  refine x_iald C w obM24 hv_2 dX13_replaces_26 ?_
  refine lv_icmp_ge (tgt := 117) C.1 C.2.1 dX13_replaces_27 (by decide) (fun hc => ?_) (fun hc => ?_)
  · replace h := ift hc h
    refine lv_aload_n C.1 C.2.1 dX13_replaces_117 rfl (lv_at hl 0 rfl) ?_
    refine x_getC C w 24 fM193 obM rfl dX13_replaces_118 ?_
    refine lv_iload_n C.1 C.2.1 dX13_replaces_121 rfl (lv_at hl 2 rfl) ?_
    obtain ⟨v_3, hv_3, h⟩ := bnd h
    refine x_iald C w obM24 hv_3 dX13_replaces_122 ?_
    refine lv_if_ne (tgt := 138) C.1 C.2.1 dX13_replaces_123 (by decide) (fun hc => ?_) (fun hc => ?_)
    · replace h := iff0 hc h
      refine lv_iload C.1 C.2.1 dX13_replaces_138 (lv_at hl 4 rfl) ?_
      by_cases hz_4 : x4 = 0 ∨ x4 = 1
      case neg => exact absurd (iff0 hz_4 h) (fun q => by cases q)
      replace h := ift hz_4 h
      obtain ⟨rfl, rfl⟩ := prI h
      exact x_zret C w hr hk hz_4 dX13_replaces_140
    · replace h := ift hc h
      refine lv_aload_n C.1 C.2.1 dX13_replaces_126 rfl (lv_at hl 0 rfl) ?_
      refine lv_iload_n C.1 C.2.1 dX13_replaces_127 rfl (lv_at hl 3 rfl) ?_
      refine lv_iconst (v := 0) C.1 C.2.1 dX13_replaces_128 (by decide) ?_
      refine lv_aload_n C.1 C.2.1 dX13_replaces_129 rfl (lv_at hl 0 rfl) ?_
      refine x_getC C w 24 fM193 obM rfl dX13_replaces_130 ?_
      refine lv_iload_n C.1 C.2.1 dX13_replaces_133 rfl (lv_at hl 3 rfl) ?_
      obtain ⟨v_5, hv_5, h⟩ := bnd h
      refine x_iald C w obM24 hv_5 dX13_replaces_134 ?_
      obtain ⟨S_6, hS_6, h⟩ := bnd h
      refine x_callVv (q := (RX13, TX13, 68)) (As := [.int x3, .int (0 : Int32), .int v_5]) (rest := []) C w (k_emitText l D T ρ g H.size S hS_6) vM478 ⟨by decide, by decide⟩ obM (by decide) rfl rfl rfl hl.1 (Nat.le_of_ble_eq_true rfl) ⟨Nat.zero_le _, Nat.zero_le _⟩ dX13_replaces_135 (fun H locs w => ?_)
      refine lv_iload C.1 C.2.1 dX13_replaces_138 (lv_at hl 4 rfl) ?_
      by_cases hz_7 : x4 = 0 ∨ x4 = 1
      case neg => exact absurd (iff0 hz_7 h) (fun q => by cases q)
      replace h := ift hz_7 h
      obtain ⟨rfl, rfl⟩ := prI h
      exact x_zret C w hr hk hz_7 dX13_replaces_140
  · replace h := iff0 hc h
    refine lv_aload_n C.1 C.2.1 dX13_replaces_30 rfl (lv_at hl 0 rfl) ?_
    refine lv_iload_n C.1 C.2.1 dX13_replaces_31 rfl (lv_at hl 2 rfl) ?_
    refine lv_iload_n C.1 C.2.1 dX13_replaces_32 rfl (lv_at hl 1 rfl) ?_
    refine lv_iload C.1 C.2.1 dX13_replaces_33 (lv_at hl 5 rfl) ?_
    refine lv_i2l C.1 C.2.1 dX13_replaces_35 rfl ?_
    obtain ⟨v_8, hv_8, h⟩ := bnd h
    refine x_callVi (q := (RX13, TX13, 68)) (As := [.int x2, .int x1, .long (x5.toInt64)]) (rest := []) C w (k_stands l D T ρ g H.size S hv_8) vM625 ⟨by decide, by decide⟩ obM (by decide) rfl rfl rfl hl.1 (Nat.le_of_ble_eq_true rfl) ⟨Nat.zero_le _, Nat.zero_le _⟩ dX13_replaces_36 (fun H locs w => ?_)
    refine lv_if_eq (tgt := 68) C.1 C.2.1 dX13_replaces_39 (by decide) (fun hc => ?_) (fun hc => ?_)
    · replace h := ift hc h
      exact w_replaces_68 C hr hk kk19 w (lv_sub hl [0, 1, 2, 3, 4, 5] rfl) h
    · replace h := iff0 hc h
      refine lv_iconst (v := 0) C.1 C.2.1 dX13_replaces_42 (by decide) ?_
      refine lv_istore (lv' := [(4, .int (0 : Int32)), (0, .ref (ρ 0)), (1, .int x1), (2, .int x2), (3, .int x3), (5, .int x5)]) C.1 C.2.1 dX13_replaces_43 hl (by decide) rfl (fun ls hl => ?_)
      refine lv_aload_n C.1 C.2.1 dX13_replaces_45 rfl (lv_at hl 1 rfl) ?_
      refine lv_iload_n C.1 C.2.1 dX13_replaces_46 rfl (lv_at hl 4 rfl) ?_
      refine lv_iconst (v := 0) C.1 C.2.1 dX13_replaces_47 (by decide) ?_
      refine lv_aload_n C.1 C.2.1 dX13_replaces_48 rfl (lv_at hl 1 rfl) ?_
      refine x_getC C w 24 fM193 obM rfl dX13_replaces_49 ?_
      refine lv_iload_n C.1 C.2.1 dX13_replaces_52 rfl (lv_at hl 4 rfl) ?_
      obtain ⟨v_9, hv_9, h⟩ := bnd h
      refine x_iald C w obM24 hv_9 dX13_replaces_53 ?_
      obtain ⟨S_10, hS_10, h⟩ := bnd h
      refine x_callVv (q := (RX13, TX13, 68)) (As := [.int x3, .int (0 : Int32), .int v_9]) (rest := []) C w (k_emitText l D T ρ g H.size S hS_10) vM478 ⟨by decide, by decide⟩ obM (by decide) rfl rfl rfl hl.1 (Nat.le_of_ble_eq_true rfl) ⟨Nat.zero_le _, Nat.zero_le _⟩ dX13_replaces_54 (fun H locs w => ?_)
      refine lv_iload C.1 C.2.1 dX13_replaces_57 (lv_at hl 5 rfl) ?_
      refine lv_aload_n C.1 C.2.1 dX13_replaces_59 rfl (lv_at hl 1 rfl) ?_
      refine x_getC C w 24 fM193 obM rfl dX13_replaces_60 ?_
      refine lv_iload_n C.1 C.2.1 dX13_replaces_63 rfl (lv_at hl 3 rfl) ?_
      obtain ⟨v_11, hv_11, h⟩ := bnd h
      refine x_iald C w obM24 hv_11 dX13_replaces_64 ?_
      refine lv_iadd C.1 C.2.1 dX13_replaces_65 ?_
      obtain ⟨x5_12, ex5_12, h⟩ := lt_e h
      refine x_nm ex5_12 ?_
      refine lv_istore (lv' := [(5, .int x5_12), (4, .int (0 : Int32)), (0, .ref (ρ 0)), (1, .int x1), (2, .int x2), (3, .int x3)]) C.1 C.2.1 dX13_replaces_66 hl (by decide) rfl (fun ls hl => ?_)
      exact w_replaces_68 C hr hk kk19 w (lv_sub hl [2, 3, 4, 5, 1, 0] rfl) h
theorem w_replaces_19 {g : Nat} (C : CallFix p m c cX13_replaces 6 s args tb RX13) (hr : meth.sig.returnType = (some .boolean)) (hk : meth.locks = false) {S' : St} {r : Int32} (n : Nat) : ∀ (S : St) (x1 : Int32) (x2 : Int32) (x3 : Int32) (x4 : Int32) (x5 : Int32) (H : Heap) (locs : List Loc) (ls : Array Slot), Wn Ym D T ρ S A s H locs → lv_has ls 6 [(0, .ref (ρ 0)), (1, .int x1), (2, .int x2), (3, .int x3), (4, .int x4), (5, .int x5)] → m_replaces_19 g n S x1 x2 x3 x4 x5 = some (S', r) → W p l e (rmN 2 51) s m args below meth c H locs 0 0 (MQ below (Qi Ym D T ρ A S' r) args s 0 0 A) (F0 m 19 ls []) := by
  induction n with
  | zero => intro S x1 x2 x3 x4 x5 H locs ls w hl h; exact absurd h (fun q => by cases q)
  | succ n ih => intro S x1 x2 x3 x4 x5 H locs ls w hl h; exact wb_replaces_19 C hr hk ih w hl h
set_option maxRecDepth 100000 in
set_option maxHeartbeats 4000000 in
theorem w_replaces_0  {g : Nat} {S : St} {x1 : Int32} {x2 : Int32} {x3 : Int32} (C : CallFix p m c cX13_replaces 6 s args tb RX13) (hr : meth.sig.returnType = (some .boolean)) (hk : meth.locks = false) {S' : St} {r : Int32} (w : Wn Ym D T ρ S A s H locs) (hl : lv_has ls 6 [(0, .ref (ρ 0)), (1, .int x1), (2, .int x2), (3, .int x3)]) (h : m_replaces g S x1 x2 x3 = some (S', r)) : W p l e (rmN 2 51) s m args below meth c H locs 0 0 (MQ below (Qi Ym D T ρ A S' r) args s 0 0 A) (F0 m 0 ls []) := by
  unfold m_replaces at h
  refine lv_aload_n C.1 C.2.1 dX13_replaces_0 rfl (lv_at hl 0 rfl) ?_
  refine x_getC C w 24 fM193 obM rfl dX13_replaces_1 ?_
  refine lv_iload_n C.1 C.2.1 dX13_replaces_4 rfl (lv_at hl 2 rfl) ?_
  obtain ⟨v_1, hv_1, h⟩ := bnd h
  refine x_iald C w obM24 hv_1 dX13_replaces_5 ?_
  refine lv_if_le (tgt := 13) C.1 C.2.1 dX13_replaces_6 (by decide) (fun hc => ?_) (fun hc => ?_)
  · replace h := ift hc h
    refine lv_iconst (v := 0) C.1 C.2.1 dX13_replaces_13 (by decide) ?_
    refine lv_istore (lv' := [(4, .int (0 : Int32)), (0, .ref (ρ 0)), (1, .int x1), (2, .int x2), (3, .int x3)]) C.1 C.2.1 dX13_replaces_14 hl (by decide) rfl (fun ls hl => ?_)
    refine lv_iconst (v := 0) C.1 C.2.1 dX13_replaces_16 (by decide) ?_
    refine lv_istore (lv' := [(5, .int (0 : Int32)), (4, .int (0 : Int32)), (0, .ref (ρ 0)), (1, .int x1), (2, .int x2), (3, .int x3)]) C.1 C.2.1 dX13_replaces_17 hl (by decide) rfl (fun ls hl => ?_)
    exact w_replaces_19 C hr hk g _ _ _ _ _ _ _ _ _ w (lv_sub hl [2, 3, 4, 5, 1, 0] rfl) h
  · replace h := iff0 hc h
    refine lv_iconst (v := 1) C.1 C.2.1 dX13_replaces_9 (by decide) ?_
    refine lv_goto (tgt := 14) C.1 C.2.1 dX13_replaces_10 (by decide) ?_
    refine lv_istore (lv' := [(4, .int (1 : Int32)), (0, .ref (ρ 0)), (1, .int x1), (2, .int x2), (3, .int x3)]) C.1 C.2.1 dX13_replaces_14 hl (by decide) rfl (fun ls hl => ?_)
    refine lv_iconst (v := 0) C.1 C.2.1 dX13_replaces_16 (by decide) ?_
    refine lv_istore (lv' := [(5, .int (0 : Int32)), (4, .int (1 : Int32)), (0, .ref (ρ 0)), (1, .int x1), (2, .int x2), (3, .int x3)]) C.1 C.2.1 dX13_replaces_17 hl (by decide) rfl (fun ls hl => ?_)
    exact w_replaces_19 C hr hk g _ _ _ _ _ _ _ _ _ w (lv_sub hl [2, 3, 4, 5, 1, 0] rfl) h
end S_replaces
set_option maxRecDepth 100000 in
theorem k_replaces (l : Launch) (D : va_G) (T : Cy) (ρ : Nat → Nat) (g sz : Nat) (S : St) {x1 : Int32} {x2 : Int32} {x3 : Int32} {S' : St} {r : Int32} (h : m_replaces g S x1 x2 x3 = some (S', r)) : Mi l Ym D T ρ yX13_replaces cX13_replaces 6 (some .boolean) 2 51 S S' r [.ref (ρ 0), .int x1, .int x2, .int x3] sz :=
  x_in (by decide) (Nat.le_of_ble_eq_true rfl) (fun p e s m below meth c ls C hr hk w hl => w_replaces_0 C hr hk w hl h)
