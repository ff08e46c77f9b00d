theorem dX13_compile_0 : decode cX13_compile 0 = .ok (.aload_n 0, 1) := by decide +kernel
theorem dX13_compile_1 : decode cX13_compile 1 = .ok (.getfield 153, 3) := by decide +kernel
theorem dX13_compile_4 : decode cX13_compile 4 = .ok (.iconst 1, 1) := by decide +kernel
theorem dX13_compile_5 : decode cX13_compile 5 = .ok (.iconst 0, 1) := by decide +kernel
theorem dX13_compile_6 : decode cX13_compile 6 = .ok (.iastore, 1) := by decide +kernel
theorem dX13_compile_7 : decode cX13_compile 7 = .ok (.aload_n 0, 1) := by decide +kernel
theorem dX13_compile_8 : decode cX13_compile 8 = .ok (.getfield 165, 3) := by decide +kernel
theorem dX13_compile_11 : decode cX13_compile 11 = .ok (.iconst 1, 1) := by decide +kernel
theorem dX13_compile_12 : decode cX13_compile 12 = .ok (.iconst 0, 1) := by decide +kernel
theorem dX13_compile_13 : decode cX13_compile 13 = .ok (.iastore, 1) := by decide +kernel
theorem dX13_compile_14 : decode cX13_compile 14 = .ok (.aload_n 0, 1) := by decide +kernel
theorem dX13_compile_15 : decode cX13_compile 15 = .ok (.iconst (-1), 1) := by decide +kernel
theorem dX13_compile_16 : decode cX13_compile 16 = .ok (.putfield 303, 3) := by decide +kernel
theorem dX13_compile_19 : decode cX13_compile 19 = .ok (.aload_n 0, 1) := by decide +kernel
theorem dX13_compile_20 : decode cX13_compile 20 = .ok (.iconst 0, 1) := by decide +kernel
theorem dX13_compile_21 : decode cX13_compile 21 = .ok (.putfield 255, 3) := by decide +kernel
theorem dX13_compile_24 : decode cX13_compile 24 = .ok (.aload_n 0, 1) := by decide +kernel
theorem dX13_compile_25 : decode cX13_compile 25 = .ok (.getfield 255, 3) := by decide +kernel
theorem dX13_compile_28 : decode cX13_compile 28 = .ok (.aload_n 0, 1) := by decide +kernel
theorem dX13_compile_29 : decode cX13_compile 29 = .ok (.getfield 248, 3) := by decide +kernel
theorem dX13_compile_32 : decode cX13_compile 32 = .ok (.if_icmp .ge 51, 3) := by decide +kernel
theorem dX13_compile_35 : decode cX13_compile 35 = .ok (.aload_n 0, 1) := by decide +kernel
theorem dX13_compile_36 : decode cX13_compile 36 = .ok (.getfield 303, 3) := by decide +kernel
theorem dX13_compile_39 : decode cX13_compile 39 = .ok (.ifCond .ge 44, 3) := by decide +kernel
theorem dX13_compile_42 : decode cX13_compile 42 = .ok (.aload_n 0, 1) := by decide +kernel
theorem dX13_compile_43 : decode cX13_compile 43 = .ok (.invokevirtual 352, 3) := by decide +kernel
theorem dX13_compile_46 : decode cX13_compile 46 = .ok (.aload_n 0, 1) := by decide +kernel
theorem dX13_compile_47 : decode cX13_compile 47 = .ok (.aload_n 0, 1) := by decide +kernel
theorem dX13_compile_48 : decode cX13_compile 48 = .ok (.getfield 255, 3) := by decide +kernel
theorem dX13_compile_51 : decode cX13_compile 51 = .ok (.invokevirtual 258, 3) := by decide +kernel
theorem dX13_compile_54 : decode cX13_compile 54 = .ok (.ifCond .ne 16, 3) := by decide +kernel
theorem dX13_compile_57 : decode cX13_compile 57 = .ok (.aload_n 0, 1) := by decide +kernel
theorem dX13_compile_58 : decode cX13_compile 58 = .ok (.dup, 1) := by decide +kernel
theorem dX13_compile_59 : decode cX13_compile 59 = .ok (.getfield 255, 3) := by decide +kernel
theorem dX13_compile_62 : decode cX13_compile 62 = .ok (.iconst 1, 1) := by decide +kernel
theorem dX13_compile_63 : decode cX13_compile 63 = .ok (.iadd, 1) := by decide +kernel
theorem dX13_compile_64 : decode cX13_compile 64 = .ok (.putfield 255, 3) := by decide +kernel
theorem dX13_compile_67 : decode cX13_compile 67 = .ok (.goto (-21), 3) := by decide +kernel
theorem dX13_compile_70 : decode cX13_compile 70 = .ok (.aload_n 0, 1) := by decide +kernel
theorem dX13_compile_71 : decode cX13_compile 71 = .ok (.dup, 1) := by decide +kernel
theorem dX13_compile_72 : decode cX13_compile 72 = .ok (.getfield 255, 3) := by decide +kernel
theorem dX13_compile_75 : decode cX13_compile 75 = .ok (.iconst 1, 1) := by decide +kernel
theorem dX13_compile_76 : decode cX13_compile 76 = .ok (.iadd, 1) := by decide +kernel
theorem dX13_compile_77 : decode cX13_compile 77 = .ok (.putfield 255, 3) := by decide +kernel
theorem dX13_compile_80 : decode cX13_compile 80 = .ok (.goto (-56), 3) := by decide +kernel
theorem dX13_compile_83 : decode cX13_compile 83 = .ok (.aload_n 0, 1) := by decide +kernel
theorem dX13_compile_84 : decode cX13_compile 84 = .ok (.getfield 303, 3) := by decide +kernel
theorem dX13_compile_87 : decode cX13_compile 87 = .ok (.ifCond .ge 27, 3) := by decide +kernel
theorem dX13_compile_90 : decode cX13_compile 90 = .ok (.aload_n 0, 1) := by decide +kernel
theorem dX13_compile_91 : decode cX13_compile 91 = .ok (.iconst 1, 1) := by decide +kernel
theorem dX13_compile_92 : decode cX13_compile 92 = .ok (.invokevirtual 355, 3) := by decide +kernel
theorem dX13_compile_95 : decode cX13_compile 95 = .ok (.istore_n 1, 1) := by decide +kernel
theorem dX13_compile_96 : decode cX13_compile 96 = .ok (.aload_n 0, 1) := by decide +kernel
theorem dX13_compile_97 : decode cX13_compile 97 = .ok (.iload_n 1, 1) := by decide +kernel
theorem dX13_compile_98 : decode cX13_compile 98 = .ok (.ifCond .ge 7, 3) := by decide +kernel
theorem dX13_compile_101 : decode cX13_compile 101 = .ok (.iconst (-1), 1) := by decide +kernel
theorem dX13_compile_102 : decode cX13_compile 102 = .ok (.goto 9, 3) := by decide +kernel
theorem dX13_compile_105 : decode cX13_compile 105 = .ok (.aload_n 0, 1) := by decide +kernel
theorem dX13_compile_106 : decode cX13_compile 106 = .ok (.getfield 147, 3) := by decide +kernel
theorem dX13_compile_109 : decode cX13_compile 109 = .ok (.iload_n 1, 1) := by decide +kernel
theorem dX13_compile_110 : decode cX13_compile 110 = .ok (.iaload, 1) := by decide +kernel
theorem dX13_compile_111 : decode cX13_compile 111 = .ok (.putfield 303, 3) := by decide +kernel
theorem dX13_compile_114 : decode cX13_compile 114 = .ok (.aload_n 0, 1) := by decide +kernel
theorem dX13_compile_115 : decode cX13_compile 115 = .ok (.iconst 0, 1) := by decide +kernel
theorem dX13_compile_116 : decode cX13_compile 116 = .ok (.putfield 248, 3) := by decide +kernel
theorem dX13_compile_119 : decode cX13_compile 119 = .ok (.aload_n 0, 1) := by decide +kernel
theorem dX13_compile_120 : decode cX13_compile 120 = .ok (.getfield 303, 3) := by decide +kernel
theorem dX13_compile_123 : decode cX13_compile 123 = .ok (.ifCond .lt 10, 3) := by decide +kernel
theorem dX13_compile_126 : decode cX13_compile 126 = .ok (.iconst (-1), 1) := by decide +kernel
theorem dX13_compile_127 : decode cX13_compile 127 = .ok (.aload_n 0, 1) := by decide +kernel
theorem dX13_compile_128 : decode cX13_compile 128 = .ok (.getfield 303, 3) := by decide +kernel
theorem dX13_compile_131 : decode cX13_compile 131 = .ok (.isub, 1) := by decide +kernel
theorem dX13_compile_132 : decode cX13_compile 132 = .ok (.ireturn, 1) := by decide +kernel
theorem dX13_compile_133 : decode cX13_compile 133 = .ok (.aload_n 0, 1) := by decide +kernel
theorem dX13_compile_134 : decode cX13_compile 134 = .ok (.iconst 1, 1) := by decide +kernel
theorem dX13_compile_135 : decode cX13_compile 135 = .ok (.iconst 0, 1) := by decide +kernel
theorem dX13_compile_136 : decode cX13_compile 136 = .ok (.invokevirtual 358, 3) := by decide +kernel
theorem dX13_compile_139 : decode cX13_compile 139 = .ok (.aload_n 0, 1) := by decide +kernel
theorem dX13_compile_140 : decode cX13_compile 140 = .ok (.getfield 165, 3) := by decide +kernel
theorem dX13_compile_143 : decode cX13_compile 143 = .ok (.iconst 0, 1) := by decide +kernel
theorem dX13_compile_144 : decode cX13_compile 144 = .ok (.aload_n 0, 1) := by decide +kernel
theorem dX13_compile_145 : decode cX13_compile 145 = .ok (.getfield 165, 3) := by decide +kernel
theorem dX13_compile_148 : decode cX13_compile 148 = .ok (.iconst 1, 1) := by decide +kernel
theorem dX13_compile_149 : decode cX13_compile 149 = .ok (.iaload, 1) := by decide +kernel
theorem dX13_compile_150 : decode cX13_compile 150 = .ok (.iastore, 1) := by decide +kernel
theorem dX13_compile_151 : decode cX13_compile 151 = .ok (.iconst 0, 1) := by decide +kernel
theorem dX13_compile_152 : decode cX13_compile 152 = .ok (.istore_n 1, 1) := by decide +kernel
theorem dX13_compile_153 : decode cX13_compile 153 = .ok (.iload_n 1, 1) := by decide +kernel
theorem dX13_compile_154 : decode cX13_compile 154 = .ok (.aload_n 0, 1) := by decide +kernel
theorem dX13_compile_155 : decode cX13_compile 155 = .ok (.getfield 165, 3) := by decide +kernel
theorem dX13_compile_158 : decode cX13_compile 158 = .ok (.iconst 1, 1) := by decide +kernel
theorem dX13_compile_159 : decode cX13_compile 159 = .ok (.iaload, 1) := by decide +kernel
theorem dX13_compile_160 : decode cX13_compile 160 = .ok (.if_icmp .ge 43, 3) := by decide +kernel
theorem dX13_compile_163 : decode cX13_compile 163 = .ok (.aload_n 0, 1) := by decide +kernel
theorem dX13_compile_164 : decode cX13_compile 164 = .ok (.getfield 159, 3) := by decide +kernel
theorem dX13_compile_167 : decode cX13_compile 167 = .ok (.iload_n 1, 1) := by decide +kernel
theorem dX13_compile_168 : decode cX13_compile 168 = .ok (.aload_n 0, 1) := by decide +kernel
theorem dX13_compile_169 : decode cX13_compile 169 = .ok (.getfield 159, 3) := by decide +kernel
theorem dX13_compile_172 : decode cX13_compile 172 = .ok (.bipush 24, 2) := by decide +kernel
theorem dX13_compile_174 : decode cX13_compile 174 = .ok (.iload_n 1, 1) := by decide +kernel
theorem dX13_compile_175 : decode cX13_compile 175 = .ok (.iadd, 1) := by decide +kernel
theorem dX13_compile_176 : decode cX13_compile 176 = .ok (.iaload, 1) := by decide +kernel
theorem dX13_compile_177 : decode cX13_compile 177 = .ok (.sipush 3000, 3) := by decide +kernel
theorem dX13_compile_180 : decode cX13_compile 180 = .ok (.isub, 1) := by decide +kernel
theorem dX13_compile_181 : decode cX13_compile 181 = .ok (.iastore, 1) := by decide +kernel
theorem dX13_compile_182 : decode cX13_compile 182 = .ok (.aload_n 0, 1) := by decide +kernel
theorem dX13_compile_183 : decode cX13_compile 183 = .ok (.getfield 162, 3) := by decide +kernel
theorem dX13_compile_186 : decode cX13_compile 186 = .ok (.iload_n 1, 1) := by decide +kernel
theorem dX13_compile_187 : decode cX13_compile 187 = .ok (.aload_n 0, 1) := by decide +kernel
theorem dX13_compile_188 : decode cX13_compile 188 = .ok (.getfield 162, 3) := by decide +kernel
theorem dX13_compile_191 : decode cX13_compile 191 = .ok (.bipush 24, 2) := by decide +kernel
theorem dX13_compile_193 : decode cX13_compile 193 = .ok (.iload_n 1, 1) := by decide +kernel
theorem dX13_compile_194 : decode cX13_compile 194 = .ok (.iadd, 1) := by decide +kernel
theorem dX13_compile_195 : decode cX13_compile 195 = .ok (.iaload, 1) := by decide +kernel
theorem dX13_compile_196 : decode cX13_compile 196 = .ok (.iastore, 1) := by decide +kernel
theorem dX13_compile_197 : decode cX13_compile 197 = .ok (.iinc 1 1, 3) := by decide +kernel
theorem dX13_compile_200 : decode cX13_compile 200 = .ok (.goto (-47), 3) := by decide +kernel
theorem dX13_compile_203 : decode cX13_compile 203 = .ok (.iconst 0, 1) := by decide +kernel
theorem dX13_compile_204 : decode cX13_compile 204 = .ok (.istore_n 1, 1) := by decide +kernel
theorem dX13_compile_205 : decode cX13_compile 205 = .ok (.iload_n 1, 1) := by decide +kernel
theorem dX13_compile_206 : decode cX13_compile 206 = .ok (.sipush 3000, 3) := by decide +kernel
theorem dX13_compile_209 : decode cX13_compile 209 = .ok (.if_icmp .ge 25, 3) := by decide +kernel
theorem dX13_compile_212 : decode cX13_compile 212 = .ok (.aload_n 0, 1) := by decide +kernel
theorem dX13_compile_213 : decode cX13_compile 213 = .ok (.getfield 156, 3) := by decide +kernel
theorem dX13_compile_216 : decode cX13_compile 216 = .ok (.iload_n 1, 1) := by decide +kernel
theorem dX13_compile_217 : decode cX13_compile 217 = .ok (.aload_n 0, 1) := by decide +kernel
theorem dX13_compile_218 : decode cX13_compile 218 = .ok (.getfield 156, 3) := by decide +kernel
theorem dX13_compile_221 : decode cX13_compile 221 = .ok (.sipush 3000, 3) := by decide +kernel
theorem dX13_compile_224 : decode cX13_compile 224 = .ok (.iload_n 1, 1) := by decide +kernel
theorem dX13_compile_225 : decode cX13_compile 225 = .ok (.iadd, 1) := by decide +kernel
theorem dX13_compile_226 : decode cX13_compile 226 = .ok (.iaload, 1) := by decide +kernel
theorem dX13_compile_227 : decode cX13_compile 227 = .ok (.iastore, 1) := by decide +kernel
theorem dX13_compile_228 : decode cX13_compile 228 = .ok (.iinc 1 1, 3) := by decide +kernel
theorem dX13_compile_231 : decode cX13_compile 231 = .ok (.goto (-26), 3) := by decide +kernel
theorem dX13_compile_234 : decode cX13_compile 234 = .ok (.aload_n 0, 1) := by decide +kernel
theorem dX13_compile_235 : decode cX13_compile 235 = .ok (.iconst 1, 1) := by decide +kernel
theorem dX13_compile_236 : decode cX13_compile 236 = .ok (.putfield 362, 3) := by decide +kernel
theorem dX13_compile_239 : decode cX13_compile 239 = .ok (.aload_n 0, 1) := by decide +kernel
theorem dX13_compile_240 : decode cX13_compile 240 = .ok (.iconst 0, 1) := by decide +kernel
theorem dX13_compile_241 : decode cX13_compile 241 = .ok (.invokevirtual 244, 3) := by decide +kernel
theorem dX13_compile_244 : decode cX13_compile 244 = .ok (.aload_n 0, 1) := by decide +kernel
theorem dX13_compile_245 : decode cX13_compile 245 = .ok (.getfield 153, 3) := by decide +kernel
theorem dX13_compile_248 : decode cX13_compile 248 = .ok (.iconst 0, 1) := by decide +kernel
theorem dX13_compile_249 : decode cX13_compile 249 = .ok (.iaload, 1) := by decide +kernel
theorem dX13_compile_250 : decode cX13_compile 250 = .ok (.ireturn, 1) := by decide +kernel
def b_compile_205 (g : Nat) (k205 : St → Int32 → Option (St × Int32)) (S : St) (x1 : Int32) : Option (St × Int32) :=
if (3000 : Int32) ≤ x1 then (
  lt (sI S 0 12 (1 : Int32)) fun S_10 =>
  (m_begin g S_10 (0 : Int32)).bind fun S_11 =>
  (aI S_11 11 (0 : Int32)).bind fun v_12 =>
  some (S_11, v_12)
) else (
  (aI S 12 ((3000 : Int32) + x1)).bind fun v_13 =>
  (tI S 12 x1 v_13).bind fun S_14 =>
  lt (x1 + (1 : Int32)) fun x1_15 =>
  k205 S_14 x1_15
)
def m_compile_205 (g : Nat) : Nat → St → Int32 → Option (St × Int32)
  | 0, _, _ => none
  | n + 1, S, x1 => b_compile_205 g (m_compile_205 g n) S x1
def b_compile_153 (g : Nat) (k153 : St → Int32 → Option (St × Int32)) (S : St) (x1 : Int32) : Option (St × Int32) :=
(aI S 15 (1 : Int32)).bind fun v_9 =>
if v_9 ≤ x1 then (
  m_compile_205 g g S (0 : Int32)
) else (
  (aI S 13 ((24 : Int32) + x1)).bind fun v_10 =>
  (tI S 13 x1 (v_10 - (3000 : Int32))).bind fun S_11 =>
  (aI S_11 14 ((24 : Int32) + x1)).bind fun v_12 =>
  (tI S_11 14 x1 v_12).bind fun S_13 =>
  lt (x1 + (1 : Int32)) fun x1_14 =>
  k153 S_13 x1_14
)
def m_compile_153 (g : Nat) : Nat → St → Int32 → Option (St × Int32)
  | 0, _, _ => none
  | n + 1, S, x1 => b_compile_153 g (m_compile_153 g n) S x1
def m_compile_114 (g : Nat) (S : St) : Option (St × Int32) :=
lt (sI S 0 5 (0 : Int32)) fun S_5 =>
if (gI S_5 0 19) < 0 then (
  (m_copyProgram g S_5 (1 : Int32) (0 : Int32)).bind fun S_6 =>
  (aI S_6 15 (1 : Int32)).bind fun v_7 =>
  (tI S_6 15 (0 : Int32) v_7).bind fun S_8 =>
  m_compile_153 g g S_8 (0 : Int32)
) else (
  some (S_5, (-1 : Int32) - (gI S_5 0 19))
)
def m_compile_111 (g : Nat) (S : St) (y1 : Int32) : Option (St × Int32) :=
lt (sI S 0 19 y1) fun S_8 =>
m_compile_114 g S_8
def m_compile_83 (g : Nat) (S : St) : Option (St × Int32) :=
if 0 ≤ (gI S 0 19) then (
  m_compile_114 g S
) else (
  (m_judge g S (1 : Int32)).bind fun (S_5, v_6) =>
  if 0 ≤ v_6 then (
    (aI S_5 9 v_6).bind fun v_7 =>
    m_compile_111 g S_5 v_7
  ) else (
    m_compile_111 g S_5 (-1 : Int32)
  )
)
def b_compile_46 (g : Nat) (k24 : St → Option (St × Int32)) (k46 : St → Option (St × Int32)) (S : St) : Option (St × Int32) :=
(m_isLineEnd g S (gI S 0 18)).bind fun v_6 =>
if v_6 = 0 then (
  lt (sI S 0 18 ((gI S 0 18) + (1 : Int32))) fun S_8 =>
  k46 S_8
) else (
  lt (sI S 0 18 ((gI S 0 18) + (1 : Int32))) fun S_7 =>
  k24 S_7
)
def m_compile_46 (g : Nat) (k24 : St → Option (St × Int32)) : Nat → St → Option (St × Int32)
  | 0, _ => none
  | n + 1, S => b_compile_46 g k24 (m_compile_46 g k24 n) S
def b_compile_24 (g : Nat) (k24 : St → Option (St × Int32)) (S : St) : Option (St × Int32) :=
if (gI S 0 5) ≤ (gI S 0 18) then (
  m_compile_83 g S
) else (
  if 0 ≤ (gI S 0 19) then (
    m_compile_83 g S
  ) else (
    (m_readLine g S).bind fun S_5 =>
    m_compile_46 g k24 g S_5
  )
)
def m_compile_24 (g : Nat) : Nat → St → Option (St × Int32)
  | 0, _ => none
  | n + 1, S => b_compile_24 g (m_compile_24 g n) S
def m_compile (g : Nat) (S : St) : Option (St × Int32) :=
(tI S 11 (1 : Int32) (0 : Int32)).bind fun S_1 =>
(tI S_1 15 (1 : Int32) (0 : Int32)).bind fun S_2 =>
lt (sI S_2 0 19 (-1 : Int32)) fun S_3 =>
lt (sI S_3 0 18 (0 : Int32)) fun S_4 =>
m_compile_24 g g S_4
section S_compile
variable {p : Program} {l : Launch} {e : Env} {s : State} {m : MethodId} {args : Array Value} {below : List Frame} {meth : Method} {c : Code} {H : Heap} {locs : List Loc} {ls : Array Slot} {D : va_G} {T : Cy} {ρ : Nat → Nat} {A : Nat → Prop}
set_option maxRecDepth 100000 in
set_option maxHeartbeats 4000000 in
theorem wb_compile_205  {g : Nat} {S : St} {x1 : Int32} (C : CallFix p m c cX13_compile 2 s args tb RX13) (hr : meth.sig.returnType = (some .int)) (hk : meth.locks = false) {S' : St} {r : Int32} {k205 : St → Int32 → Option (St × Int32)} (kk205 : ∀ (S : St) (x1 : Int32) (H : Heap) (locs : List Loc) (ls : Array Slot), Wn Ym D T ρ S A s H locs → lv_has ls 2 [(0, .ref (ρ 0)), (1, .int x1)] → k205 S x1 = some (S', r) → W p l e (rmN 6 136) s m args below meth c H locs 0 0 (MQ below (Qi Ym D T ρ A S' r) args s 0 0 A) (F0 m 205 ls [])) (w : Wn Ym D T ρ S A s H locs) (hl : lv_has ls 2 [(0, .ref (ρ 0)), (1, .int x1)]) (h : b_compile_205 g k205 S x1 = some (S', r)) : W p l e (rmN 6 136) s m args below meth c H locs 0 0 (MQ below (Qi Ym D T ρ A S' r) args s 0 0 A) (F0 m 205 ls []) := by
  unfold b_compile_205 at h
  refine lv_iload_n C.1 C.2.1 dX13_compile_205 rfl (lv_at hl 1 rfl) ?_
  refine lv_sipush (v := 3000) C.1 C.2.1 dX13_compile_206 (by decide) ?_
  refine lv_icmp_ge (tgt := 234) C.1 C.2.1 dX13_compile_209 (by decide) (fun hc => ?_) (fun hc => ?_)
  · replace h := ift hc h
    refine lv_aload_n C.1 C.2.1 dX13_compile_234 rfl (lv_at hl 0 rfl) ?_
    refine lv_iconst (v := 1) C.1 C.2.1 dX13_compile_235 (by decide) ?_
    obtain ⟨S_10, eS_10, h⟩ := lt_e h
    refine y_putZ C w eS_10 fM362 pM12 (by decide) obM dX13_compile_236 (fun H locs w => ?_)
    refine lv_aload_n C.1 C.2.1 dX13_compile_239 rfl (lv_at hl 0 rfl) ?_
    refine lv_iconst (v := 0) C.1 C.2.1 dX13_compile_240 (by decide) ?_
    obtain ⟨S_11, hS_11, h⟩ := bnd h
    refine x_callVv (q := (RX13, TX13, 68)) (As := [.int (0 : Int32)]) (rest := []) C w (k_begin l D T ρ g H.size S_10 hS_11) vM244 ⟨by decide, by decide⟩ obM (by decide) rfl rfl rfl hl.1 (Nat.le_of_ble_eq_true rfl) ⟨Nat.zero_le _, Nat.zero_le _⟩ dX13_compile_241 (fun H locs w => ?_)
    refine lv_aload_n C.1 C.2.1 dX13_compile_244 rfl (lv_at hl 0 rfl) ?_
    refine x_getC C w 11 fM153 obM rfl dX13_compile_245 ?_
    refine lv_iconst (v := 0) C.1 C.2.1 dX13_compile_248 (by decide) ?_
    obtain ⟨v_12, hv_12, h⟩ := bnd h
    refine x_iald C w obM11 hv_12 dX13_compile_249 ?_
    obtain ⟨rfl, rfl⟩ := prI h
    exact x_iret C w hr hk dX13_compile_250
  · replace h := iff0 hc h
    refine lv_aload_n C.1 C.2.1 dX13_compile_212 rfl (lv_at hl 0 rfl) ?_
    refine x_getC C w 12 fM156 obM rfl dX13_compile_213 ?_
    refine lv_iload_n C.1 C.2.1 dX13_compile_216 rfl (lv_at hl 1 rfl) ?_
    refine lv_aload_n C.1 C.2.1 dX13_compile_217 rfl (lv_at hl 0 rfl) ?_
    refine x_getC C w 12 fM156 obM rfl dX13_compile_218 ?_
    refine lv_sipush (v := 3000) C.1 C.2.1 dX13_compile_221 (by decide) ?_
    refine lv_iload_n C.1 C.2.1 dX13_compile_224 rfl (lv_at hl 1 rfl) ?_
    refine lv_iadd C.1 C.2.1 dX13_compile_225 ?_
    obtain ⟨v_13, hv_13, h⟩ := bnd h
    refine x_iald C w obM12 hv_13 dX13_compile_226 ?_
    obtain ⟨S_14, hS_14, h⟩ := bnd h
    refine x_iast C w obM12 hS_14 dX13_compile_227 (fun H locs w => ?_)
    obtain ⟨x1_15, ex1_15, h⟩ := lt_e h
    refine lv_iinc (v := x1_15) (lv' := [(1, .int x1_15), (0, .ref (ρ 0))]) C.1 C.2.1 dX13_compile_228 hl (k := 1) rfl (by rw [ex1_15]; rfl) (by decide) rfl (fun ls hl => ?_)
    refine lv_goto (tgt := 205) C.1 C.2.1 dX13_compile_231 (by decide) ?_
    exact kk205 _ _ _ _ _ w (lv_sub hl [1, 0] rfl) h
theorem w_compile_205 {g : Nat} (C : CallFix p m c cX13_compile 2 s args tb RX13) (hr : meth.sig.returnType = (some .int)) (hk : meth.locks = false) {S' : St} {r : Int32} (n : Nat) : ∀ (S : St) (x1 : Int32) (H : Heap) (locs : List Loc) (ls : Array Slot), Wn Ym D T ρ S A s H locs → lv_has ls 2 [(0, .ref (ρ 0)), (1, .int x1)] → m_compile_205 g n S x1 = some (S', r) → W p l e (rmN 6 136) s m args below meth c H locs 0 0 (MQ below (Qi Ym D T ρ A S' r) args s 0 0 A) (F0 m 205 ls []) := by
  induction n with
  | zero => intro S x1 H locs ls w hl h; exact absurd h (fun q => by cases q)
  | succ n ih => intro S x1 H locs ls w hl h; exact wb_compile_205 C hr hk ih w hl h
set_option maxRecDepth 100000 in
set_option maxHeartbeats 4000000 in
theorem wb_compile_153  {g : Nat} {S : St} {x1 : Int32} (C : CallFix p m c cX13_compile 2 s args tb RX13) (hr : meth.sig.returnType = (some .int)) (hk : meth.locks = false) {S' : St} {r : Int32} {k153 : St → Int32 → Option (St × Int32)} (kk153 : ∀ (S : St) (x1 : Int32) (H : Heap) (locs : List Loc) (ls : Array Slot), Wn Ym D T ρ S A s H locs → lv_has ls 2 [(0, .ref (ρ 0)), (1, .int x1)] → k153 S x1 = some (S', r) → W p l e (rmN 6 136) s m args below meth c H locs 0 0 (MQ below (Qi Ym D T ρ A S' r) args s 0 0 A) (F0 m 153 ls [])) (w : Wn Ym D T ρ S A s H locs) (hl : lv_has ls 2 [(0, .ref (ρ 0)), (1, .int x1)]) (h : b_compile_153 g k153 S x1 = some (S', r)) : W p l e (rmN 6 136) s m args below meth c H locs 0 0 (MQ below (Qi Ym D T ρ A S' r) args s 0 0 A) (F0 m 153 ls []) := by
  unfold b_compile_153 at h
  refine lv_iload_n C.1 C.2.1 dX13_compile_153 rfl (lv_at hl 1 rfl) ?_
  refine lv_aload_n C.1 C.2.1 dX13_compile_154 rfl (lv_at hl 0 rfl) ?_
  refine x_getC C w 15 fM165 obM rfl dX13_compile_155 ?_
  refine lv_iconst (v := 1) C.1 C.2.1 dX13_compile_158 (by decide) ?_
  obtain ⟨v_9, hv_9, h⟩ := bnd h
  refine x_iald C w obM15 hv_9 dX13_compile_159 ?_
  refine lv_icmp_ge (tgt := 203) C.1 C.2.1 dX13_compile_160 (by decide) (fun hc => ?_) (fun hc => ?_)
  · replace h := ift hc h
    refine lv_iconst (v := 0) C.1 C.2.1 dX13_compile_203 (by decide) ?_
    refine lv_istore_n (lv' := [(1, .int (0 : Int32)), (0, .ref (ρ 0))]) C.1 C.2.1 dX13_compile_204 rfl hl (by decide) rfl (fun ls hl => ?_)
    exact w_compile_205 C hr hk g _ _ _ _ _ w (lv_sub hl [1, 0] rfl) h
  · replace h := iff0 hc h
    refine lv_aload_n C.1 C.2.1 dX13_compile_163 rfl (lv_at hl 0 rfl) ?_
    refine x_getC C w 13 fM159 obM rfl dX13_compile_164 ?_
    refine lv_iload_n C.1 C.2.1 dX13_compile_167 rfl (lv_at hl 1 rfl) ?_
    refine lv_aload_n C.1 C.2.1 dX13_compile_168 rfl (lv_at hl 0 rfl) ?_
    refine x_getC C w 13 fM159 obM rfl dX13_compile_169 ?_
    refine lv_bipush (v := 24) C.1 C.2.1 dX13_compile_172 (by decide) ?_
    refine lv_iload_n C.1 C.2.1 dX13_compile_174 rfl (lv_at hl 1 rfl) ?_
    refine lv_iadd C.1 C.2.1 dX13_compile_175 ?_
    obtain ⟨v_10, hv_10, h⟩ := bnd h
    refine x_iald C w obM13 hv_10 dX13_compile_176 ?_
    refine lv_sipush (v := 3000) C.1 C.2.1 dX13_compile_177 (by decide) ?_
    refine lv_isub C.1 C.2.1 dX13_compile_180 ?_
    obtain ⟨S_11, hS_11, h⟩ := bnd h
    refine x_iast C w obM13 hS_11 dX13_compile_181 (fun H locs w => ?_)
    refine lv_aload_n C.1 C.2.1 dX13_compile_182 rfl (lv_at hl 0 rfl) ?_
    refine x_getC C w 14 fM162 obM rfl dX13_compile_183 ?_
    refine lv_iload_n C.1 C.2.1 dX13_compile_186 rfl (lv_at hl 1 rfl) ?_
    refine lv_aload_n C.1 C.2.1 dX13_compile_187 rfl (lv_at hl 0 rfl) ?_
    refine x_getC C w 14 fM162 obM rfl dX13_compile_188 ?_
    refine lv_bipush (v := 24) C.1 C.2.1 dX13_compile_191 (by decide) ?_
    refine lv_iload_n C.1 C.2.1 dX13_compile_193 rfl (lv_at hl 1 rfl) ?_
    refine lv_iadd C.1 C.2.1 dX13_compile_194 ?_
    obtain ⟨v_12, hv_12, h⟩ := bnd h
    refine x_iald C w obM14 hv_12 dX13_compile_195 ?_
    obtain ⟨S_13, hS_13, h⟩ := bnd h
    refine x_iast C w obM14 hS_13 dX13_compile_196 (fun H locs w => ?_)
    obtain ⟨x1_14, ex1_14, h⟩ := lt_e h
    refine lv_iinc (v := x1_14) (lv' := [(1, .int x1_14), (0, .ref (ρ 0))]) C.1 C.2.1 dX13_compile_197 hl (k := 1) rfl (by rw [ex1_14]; rfl) (by decide) rfl (fun ls hl => ?_)
    refine lv_goto (tgt := 153) C.1 C.2.1 dX13_compile_200 (by decide) ?_
    exact kk153 _ _ _ _ _ w (lv_sub hl [1, 0] rfl) h
theorem w_compile_153 {g : Nat} (C : CallFix p m c cX13_compile 2 s args tb RX13) (hr : meth.sig.returnType = (some .int)) (hk : meth.locks = false) {S' : St} {r : Int32} (n : Nat) : ∀ (S : St) (x1 : Int32) (H : Heap) (locs : List Loc) (ls : Array Slot), Wn Ym D T ρ S A s H locs → lv_has ls 2 [(0, .ref (ρ 0)), (1, .int x1)] → m_compile_153 g n S x1 = some (S', r) → W p l e (rmN 6 136) s m args below meth c H locs 0 0 (MQ below (Qi Ym D T ρ A S' r) args s 0 0 A) (F0 m 153 ls []) := by
  induction n with
  | zero => intro S x1 H locs ls w hl h; exact absurd h (fun q => by cases q)
  | succ n ih => intro S x1 H locs ls w hl h; exact wb_compile_153 C hr hk ih w hl h
set_option maxRecDepth 100000 in
set_option maxHeartbeats 4000000 in
theorem w_compile_114  {g : Nat} {S : St} (C : CallFix p m c cX13_compile 2 s args tb RX13) (hr : meth.sig.returnType = (some .int)) (hk : meth.locks = false) {S' : St} {r : Int32} (w : Wn Ym D T ρ S A s H locs) (hl : lv_has ls 2 [(0, .ref (ρ 0))]) (h : m_compile_114 g S = some (S', r)) : W p l e (rmN 6 136) s m args below meth c H locs 0 0 (MQ below (Qi Ym D T ρ A S' r) args s 0 0 A) (F0 m 114 ls []) := by
  unfold m_compile_114 at h
  refine lv_aload_n C.1 C.2.1 dX13_compile_114 rfl (lv_at hl 0 rfl) ?_
  refine lv_iconst (v := 0) C.1 C.2.1 dX13_compile_115 (by decide) ?_
  obtain ⟨S_5, eS_5, h⟩ := lt_e h
  refine y_putI C w eS_5 fM248 pM5 obM dX13_compile_116 (fun H locs w => ?_)
  refine lv_aload_n C.1 C.2.1 dX13_compile_119 rfl (lv_at hl 0 rfl) ?_
  refine x_getI C w fM303 obM dX13_compile_120 ?_
  refine lv_if_lt (tgt := 133) C.1 C.2.1 dX13_compile_123 (by decide) (fun hc => ?_) (fun hc => ?_)
  · replace h := ift hc h
    refine lv_aload_n C.1 C.2.1 dX13_compile_133 rfl (lv_at hl 0 rfl) ?_
    refine lv_iconst (v := 1) C.1 C.2.1 dX13_compile_134 (by decide) ?_
    refine lv_iconst (v := 0) C.1 C.2.1 dX13_compile_135 (by decide) ?_
    obtain ⟨S_6, hS_6, h⟩ := bnd h
    refine x_callVv (q := (RX13, TX13, 68)) (As := [.int (1 : Int32), .int (0 : Int32)]) (rest := []) C w (k_copyProgram l D T ρ g H.size S_5 hS_6) vM358 ⟨by decide, by decide⟩ obM (by decide) rfl rfl rfl hl.1 (Nat.le_of_ble_eq_true rfl) ⟨Nat.zero_le _, Nat.zero_le _⟩ dX13_compile_136 (fun H locs w => ?_)
    refine lv_aload_n C.1 C.2.1 dX13_compile_139 rfl (lv_at hl 0 rfl) ?_
    refine x_getC C w 15 fM165 obM rfl dX13_compile_140 ?_
    refine lv_iconst (v := 0) C.1 C.2.1 dX13_compile_143 (by decide) ?_
    refine lv_aload_n C.1 C.2.1 dX13_compile_144 rfl (lv_at hl 0 rfl) ?_
    refine x_getC C w 15 fM165 obM rfl dX13_compile_145 ?_
    refine lv_iconst (v := 1) C.1 C.2.1 dX13_compile_148 (by decide) ?_
    obtain ⟨v_7, hv_7, h⟩ := bnd h
    refine x_iald C w obM15 hv_7 dX13_compile_149 ?_
    obtain ⟨S_8, hS_8, h⟩ := bnd h
    refine x_iast C w obM15 hS_8 dX13_compile_150 (fun H locs w => ?_)
    refine lv_iconst (v := 0) C.1 C.2.1 dX13_compile_151 (by decide) ?_
    refine lv_istore_n (lv' := [(1, .int (0 : Int32)), (0, .ref (ρ 0))]) C.1 C.2.1 dX13_compile_152 rfl hl (by decide) rfl (fun ls hl => ?_)
    exact w_compile_153 C hr hk g _ _ _ _ _ w (lv_sub hl [1, 0] rfl) h
  · replace h := iff0 hc h
    refine lv_iconst (v := (-1)) C.1 C.2.1 dX13_compile_126 (by decide) ?_
    refine lv_aload_n C.1 C.2.1 dX13_compile_127 rfl (lv_at hl 0 rfl) ?_
    refine x_getI C w fM303 obM dX13_compile_128 ?_
    refine lv_isub C.1 C.2.1 dX13_compile_131 ?_
    obtain ⟨rfl, rfl⟩ := prI h
    exact x_iret C w hr hk dX13_compile_132
set_option maxRecDepth 100000 in
set_option maxHeartbeats 4000000 in
theorem w_compile_111  {g : Nat} {S : St} {y1 : Int32} (C : CallFix p m c cX13_compile 2 s args tb RX13) (hr : meth.sig.returnType = (some .int)) (hk : meth.locks = false) {S' : St} {r : Int32} (w : Wn Ym D T ρ S A s H locs) (hl : lv_has ls 2 [(0, .ref (ρ 0))]) (h : m_compile_111 g S y1 = some (S', r)) : W p l e (rmN 6 136) s m args below meth c H locs 0 0 (MQ below (Qi Ym D T ρ A S' r) args s 0 0 A) (F0 m 111 ls [.int y1, .ref (ρ 0)]) := by
  unfold m_compile_111 at h
  obtain ⟨S_8, eS_8, h⟩ := lt_e h
  refine y_putI C w eS_8 fM303 pM19 obM dX13_compile_111 (fun H locs w => ?_)
  exact w_compile_114 C hr hk w (lv_sub hl [0] rfl) h
set_option maxRecDepth 100000 in
set_option maxHeartbeats 4000000 in
theorem w_compile_83  {g : Nat} {S : St} (C : CallFix p m c cX13_compile 2 s args tb RX13) (hr : meth.sig.returnType = (some .int)) (hk : meth.locks = false) {S' : St} {r : Int32} (w : Wn Ym D T ρ S A s H locs) (hl : lv_has ls 2 [(0, .ref (ρ 0))]) (h : m_compile_83 g S = some (S', r)) : W p l e (rmN 6 136) s m args below meth c H locs 0 0 (MQ below (Qi Ym D T ρ A S' r) args s 0 0 A) (F0 m 83 ls []) := by
  unfold m_compile_83 at h
  refine lv_aload_n C.1 C.2.1 dX13_compile_83 rfl (lv_at hl 0 rfl) ?_
  refine x_getI C w fM303 obM dX13_compile_84 ?_
  refine lv_if_ge (tgt := 114) C.1 C.2.1 dX13_compile_87 (by decide) (fun hc => ?_) (fun hc => ?_)
  · replace h := ift hc h
    exact w_compile_114 C hr hk w (lv_sub hl [0] rfl) h
  · replace h := iff0 hc h
    refine lv_aload_n C.1 C.2.1 dX13_compile_90 rfl (lv_at hl 0 rfl) ?_
    refine lv_iconst (v := 1) C.1 C.2.1 dX13_compile_91 (by decide) ?_
    obtain ⟨⟨S_5, v_6⟩, hv_6, h⟩ := bnd h
    refine x_callVi (q := (RX13, TX13, 68)) (As := [.int (1 : Int32)]) (rest := []) C w (k_judge l D T ρ g H.size S hv_6) vM355 ⟨by decide, by decide⟩ obM (by decide) rfl rfl rfl hl.1 (Nat.le_of_ble_eq_true rfl) ⟨Nat.zero_le _, Nat.zero_le _⟩ dX13_compile_92 (fun H locs w => ?_)
    refine lv_istore_n (lv' := [(1, .int v_6), (0, .ref (ρ 0))]) C.1 C.2.1 dX13_compile_95 rfl hl (by decide) rfl (fun ls hl => ?_)
    refine lv_aload_n C.1 C.2.1 dX13_compile_96 rfl (lv_at hl 1 rfl) ?_
    refine lv_iload_n C.1 C.2.1 dX13_compile_97 rfl (lv_at hl 0 rfl) ?_
    refine lv_if_ge (tgt := 105) C.1 C.2.1 dX13_compile_98 (by decide) (fun hc => ?_) (fun hc => ?_)
    · replace h := ift hc h
      refine lv_aload_n C.1 C.2.1 dX13_compile_105 rfl (lv_at hl 1 rfl) ?_
      refine x_getC C w 9 fM147 obM rfl dX13_compile_106 ?_
      refine lv_iload_n C.1 C.2.1 dX13_compile_109 rfl (lv_at hl 0 rfl) ?_
      obtain ⟨v_7, hv_7, h⟩ := bnd h
      refine x_iald C w obM9 hv_7 dX13_compile_110 ?_
      exact w_compile_111 C hr hk w (lv_sub hl [1] rfl) h
    · replace h := iff0 hc h
      refine lv_iconst (v := (-1)) C.1 C.2.1 dX13_compile_101 (by decide) ?_
      refine lv_goto (tgt := 111) C.1 C.2.1 dX13_compile_102 (by decide) ?_
      exact w_compile_111 C hr hk w (lv_sub hl [1] rfl) h
set_option maxRecDepth 100000 in
set_option maxHeartbeats 4000000 in
theorem wb_compile_46  {g : Nat} {S : St} (C : CallFix p m c cX13_compile 2 s args tb RX13) (hr : meth.sig.returnType = (some .int)) (hk : meth.locks = false) {S' : St} {r : Int32} {k24 : St → Option (St × Int32)} (kk24 : ∀ (S : St) (H : Heap) (locs : List Loc) (ls : Array Slot), Wn Ym D T ρ S A s H locs → lv_has ls 2 [(0, .ref (ρ 0))] → k24 S = some (S', r) → W p l e (rmN 6 136) s m args below meth c H locs 0 0 (MQ below (Qi Ym D T ρ A S' r) args s 0 0 A) (F0 m 24 ls [])) {k46 : St → Option (St × Int32)} (kk46 : ∀ (S : St) (H : Heap) (locs : List Loc) (ls : Array Slot), Wn Ym D T ρ S A s H locs → lv_has ls 2 [(0, .ref (ρ 0))] → k46 S = some (S', r) → W p l e (rmN 6 136) s m args below meth c H locs 0 0 (MQ below (Qi Ym D T ρ A S' r) args s 0 0 A) (F0 m 46 ls [])) (w : Wn Ym D T ρ S A s H locs) (hl : lv_has ls 2 [(0, .ref (ρ 0))]) (h : b_compile_46 g k24 k46 S = some (S', r)) : W p l e (rmN 6 136) s m args below meth c H locs 0 0 (MQ below (Qi Ym D T ρ A S' r) args s 0 0 A) (F0 m 46 ls []) := by
  unfold b_compile_46 at h
  refine lv_aload_n C.1 C.2.1 dX13_compile_46 rfl (lv_at hl 0 rfl) ?_
  refine lv_aload_n C.1 C.2.1 dX13_compile_47 rfl (lv_at hl 0 rfl) ?_
  refine x_getI C w fM255 obM dX13_compile_48 ?_
  obtain ⟨v_6, hv_6, h⟩ := bnd h
  refine x_callVi (q := (RX13, TX13, 68)) (As := [.int (gI S 0 18)]) (rest := []) C w (k_isLineEnd l D T ρ g H.size S hv_6) vM258 ⟨by decide, by decide⟩ obM (by decide) rfl rfl rfl hl.1 (Nat.le_of_ble_eq_true rfl) ⟨Nat.zero_le _, Nat.zero_le _⟩ dX13_compile_51 (fun H locs w => ?_)
  refine lv_if_ne (tgt := 70) C.1 C.2.1 dX13_compile_54 (by decide) (fun hc => ?_) (fun hc => ?_)
  · replace h := iff0 hc h
    refine lv_aload_n C.1 C.2.1 dX13_compile_70 rfl (lv_at hl 0 rfl) ?_
    refine lv_dup C.1 C.2.1 dX13_compile_71 rfl ?_
    refine x_getI C w fM255 obM dX13_compile_72 ?_
    refine lv_iconst (v := 1) C.1 C.2.1 dX13_compile_75 (by decide) ?_
    refine lv_iadd C.1 C.2.1 dX13_compile_76 ?_
    obtain ⟨S_7, eS_7, h⟩ := lt_e h
    refine y_putI C w eS_7 fM255 pM18 obM dX13_compile_77 (fun H locs w => ?_)
    refine lv_goto (tgt := 24) C.1 C.2.1 dX13_compile_80 (by decide) ?_
    exact kk24 _ _ _ _ w (lv_sub hl [0] rfl) h
  · replace h := ift hc h
    refine lv_aload_n C.1 C.2.1 dX13_compile_57 rfl (lv_at hl 0 rfl) ?_
    refine lv_dup C.1 C.2.1 dX13_compile_58 rfl ?_
    refine x_getI C w fM255 obM dX13_compile_59 ?_
    refine lv_iconst (v := 1) C.1 C.2.1 dX13_compile_62 (by decide) ?_
    refine lv_iadd C.1 C.2.1 dX13_compile_63 ?_
    obtain ⟨S_8, eS_8, h⟩ := lt_e h
    refine y_putI C w eS_8 fM255 pM18 obM dX13_compile_64 (fun H locs w => ?_)
    refine lv_goto (tgt := 46) C.1 C.2.1 dX13_compile_67 (by decide) ?_
    exact kk46 _ _ _ _ w (lv_sub hl [0] rfl) h
theorem w_compile_46 {g : Nat} (C : CallFix p m c cX13_compile 2 s args tb RX13) (hr : meth.sig.returnType = (some .int)) (hk : meth.locks = false) {S' : St} {r : Int32} {k24 : St → Option (St × Int32)} (kk24 : ∀ (S : St) (H : Heap) (locs : List Loc) (ls : Array Slot), Wn Ym D T ρ S A s H locs → lv_has ls 2 [(0, .ref (ρ 0))] → k24 S = some (S', r) → W p l e (rmN 6 136) s m args below meth c H locs 0 0 (MQ below (Qi Ym D T ρ A S' r) args s 0 0 A) (F0 m 24 ls [])) (n : Nat) : ∀ (S : St) (H : Heap) (locs : List Loc) (ls : Array Slot), Wn Ym D T ρ S A s H locs → lv_has ls 2 [(0, .ref (ρ 0))] → m_compile_46 g k24 n S = some (S', r) → W p l e (rmN 6 136) s m args below meth c H locs 0 0 (MQ below (Qi Ym D T ρ A S' r) args s 0 0 A) (F0 m 46 ls []) := by
  induction n with
  | zero => intro S H locs ls w hl h; exact absurd h (fun q => by cases q)
  | succ n ih => intro S H locs ls w hl h; exact wb_compile_46 C hr hk kk24 ih w hl h
set_option maxRecDepth 100000 in
set_option maxHeartbeats 4000000 in
theorem wb_compile_24  {g : Nat} {S : St} (C : CallFix p m c cX13_compile 2 s args tb RX13) (hr : meth.sig.returnType = (some .int)) (hk : meth.locks = false) {S' : St} {r : Int32} {k24 : St → Option (St × Int32)} (kk24 : ∀ (S : St) (H : Heap) (locs : List Loc) (ls : Array Slot), Wn Ym D T ρ S A s H locs → lv_has ls 2 [(0, .ref (ρ 0))] → k24 S = some (S', r) → W p l e (rmN 6 136) s m args below meth c H locs 0 0 (MQ below (Qi Ym D T ρ A S' r) args s 0 0 A) (F0 m 24 ls [])) (w : Wn Ym D T ρ S A s H locs) (hl : lv_has ls 2 [(0, .ref (ρ 0))]) (h : b_compile_24 g k24 S = some (S', r)) : W p l e (rmN 6 136) s m args below meth c H locs 0 0 (MQ below (Qi Ym D T ρ A S' r) args s 0 0 A) (F0 m 24 ls []) := by
  unfold b_compile_24 at h
  refine lv_aload_n C.1 C.2.1 dX13_compile_24 rfl (lv_at hl 0 rfl) ?_
  refine x_getI C w fM255 obM dX13_compile_25 ?_
  refine lv_aload_n C.1 C.2.1 dX13_compile_28 rfl (lv_at hl 0 rfl) ?_
  refine x_getI C w fM248 obM dX13_compile_29 ?_
  refine lv_icmp_ge (tgt := 83) C.1 C.2.1 dX13_compile_32 (by decide) (fun hc => ?_) (fun hc => ?_)
  · replace h := ift hc h
    exact w_compile_83 C hr hk w (lv_sub hl [0] rfl) h
  · replace h := iff0 hc h
    refine lv_aload_n C.1 C.2.1 dX13_compile_35 rfl (lv_at hl 0 rfl) ?_
    refine x_getI C w fM303 obM dX13_compile_36 ?_
    refine lv_if_ge (tgt := 83) C.1 C.2.1 dX13_compile_39 (by decide) (fun hc => ?_) (fun hc => ?_)
    · replace h := ift hc h
      exact w_compile_83 C hr hk w (lv_sub hl [0] rfl) h
    · replace h := iff0 hc h
      refine lv_aload_n C.1 C.2.1 dX13_compile_42 rfl (lv_at hl 0 rfl) ?_
      obtain ⟨S_5, hS_5, h⟩ := bnd h
      refine x_callVv (q := (RX13, TX13, 68)) (As := []) (rest := []) C w (k_readLine l D T ρ g H.size S hS_5) vM352 ⟨by decide, by decide⟩ obM (by decide) rfl rfl rfl hl.1 (Nat.le_of_ble_eq_true rfl) ⟨Nat.zero_le _, Nat.zero_le _⟩ dX13_compile_43 (fun H locs w => ?_)
      exact w_compile_46 C hr hk kk24 g _ _ _ _ w (lv_sub hl [0] rfl) h
theorem w_compile_24 {g : Nat} (C : CallFix p m c cX13_compile 2 s args tb RX13) (hr : meth.sig.returnType = (some .int)) (hk : meth.locks = false) {S' : St} {r : Int32} (n : Nat) : ∀ (S : St) (H : Heap) (locs : List Loc) (ls : Array Slot), Wn Ym D T ρ S A s H locs → lv_has ls 2 [(0, .ref (ρ 0))] → m_compile_24 g n S = some (S', r) → W p l e (rmN 6 136) s m args below meth c H locs 0 0 (MQ below (Qi Ym D T ρ A S' r) args s 0 0 A) (F0 m 24 ls []) := by
  induction n with
  | zero => intro S H locs ls w hl h; exact absurd h (fun q => by cases q)
  | succ n ih => intro S H locs ls w hl h; exact wb_compile_24 C hr hk ih w hl h
set_option maxRecDepth 100000 in
set_option maxHeartbeats 4000000 in
theorem w_compile_0  {g : Nat} {S : St} (C : CallFix p m c cX13_compile 2 s args tb RX13) (hr : meth.sig.returnType = (some .int)) (hk : meth.locks = false) {S' : St} {r : Int32} (w : Wn Ym D T ρ S A s H locs) (hl : lv_has ls 2 [(0, .ref (ρ 0))]) (h : m_compile g S = some (S', r)) : W p l e (rmN 6 136) s m args below meth c H locs 0 0 (MQ below (Qi Ym D T ρ A S' r) args s 0 0 A) (F0 m 0 ls []) := by
  unfold m_compile at h
  refine lv_aload_n C.1 C.2.1 dX13_compile_0 rfl (lv_at hl 0 rfl) ?_
  refine x_getC C w 11 fM153 obM rfl dX13_compile_1 ?_
  refine lv_iconst (v := 1) C.1 C.2.1 dX13_compile_4 (by decide) ?_
  refine lv_iconst (v := 0) C.1 C.2.1 dX13_compile_5 (by decide) ?_
  obtain ⟨S_1, hS_1, h⟩ := bnd h
  refine x_iast C w obM11 hS_1 dX13_compile_6 (fun H locs w => ?_)
  refine lv_aload_n C.1 C.2.1 dX13_compile_7 rfl (lv_at hl 0 rfl) ?_
  refine x_getC C w 15 fM165 obM rfl dX13_compile_8 ?_
  refine lv_iconst (v := 1) C.1 C.2.1 dX13_compile_11 (by decide) ?_
  refine lv_iconst (v := 0) C.1 C.2.1 dX13_compile_12 (by decide) ?_
  obtain ⟨S_2, hS_2, h⟩ := bnd h
  refine x_iast C w obM15 hS_2 dX13_compile_13 (fun H locs w => ?_)
  refine lv_aload_n C.1 C.2.1 dX13_compile_14 rfl (lv_at hl 0 rfl) ?_
  refine lv_iconst (v := (-1)) C.1 C.2.1 dX13_compile_15 (by decide) ?_
  obtain ⟨S_3, eS_3, h⟩ := lt_e h
  refine y_putI C w eS_3 fM303 pM19 obM dX13_compile_16 (fun H locs w => ?_)
  refine lv_aload_n C.1 C.2.1 dX13_compile_19 rfl (lv_at hl 0 rfl) ?_
  refine lv_iconst (v := 0) C.1 C.2.1 dX13_compile_20 (by decide) ?_
  obtain ⟨S_4, eS_4, h⟩ := lt_e h
  refine y_putI C w eS_4 fM255 pM18 obM dX13_compile_21 (fun H locs w => ?_)
  exact w_compile_24 C hr hk g _ _ _ _ w (lv_sub hl [0] rfl) h
end S_compile
set_option maxRecDepth 100000 in
theorem k_compile (l : Launch) (D : va_G) (T : Cy) (ρ : Nat → Nat) (g sz : Nat) (S : St) {S' : St} {r : Int32} (h : m_compile g S = some (S', r)) : Mi l Ym D T ρ yX13_compile cX13_compile 2 (some .int) 6 136 S S' r [.ref (ρ 0)] sz :=
  x_in (by decide) (Nat.le_of_ble_eq_true rfl) (fun p e s m below meth c ls C hr hk w hl => w_compile_0 C hr hk w hl h)

theorem dX13_refuse_0 : decode cX13_refuse 0 = .ok (.iload_n 1, 1) := by decide +kernel
theorem dX13_refuse_1 : decode cX13_refuse 1 = .ok (.ifCond .eq 15, 3) := by decide +kernel
theorem dX13_refuse_4 : decode cX13_refuse 4 = .ok (.aload_n 0, 1) := by decide +kernel
theorem dX13_refuse_5 : decode cX13_refuse 5 = .ok (.getfield 398, 3) := by decide +kernel
theorem dX13_refuse_8 : decode cX13_refuse 8 = .ok (.ifCond .ne 8, 3) := by decide +kernel
theorem dX13_refuse_11 : decode cX13_refuse 11 = .ok (.aload_n 0, 1) := by decide +kernel
theorem dX13_refuse_12 : decode cX13_refuse 12 = .ok (.iload_n 2, 1) := by decide +kernel
theorem dX13_refuse_13 : decode cX13_refuse 13 = .ok (.putfield 398, 3) := by decide +kernel
theorem dX13_refuse_16 : decode cX13_refuse 16 = .ok (.return_, 1) := by decide +kernel
def m_refuse (g : Nat) (S : St) (x1 : Int32) (x2 : Int32) : Option St :=
if x1 = 0 then (
  some S
) else (
  if (gI S 0 58) = 0 then (
    lt (sI S 0 58 x2) fun S_1 =>
    some S_1
  ) else (
    some S
  )
)
section S_refuse
variable {p : Program} {l : Launch} {e : Env} {s : State} {m : MethodId} {args : Array Value} {below : List Frame} {meth : Method} {c : Code} {H : Heap} {locs : List Loc} {ls : Array Slot} {D : va_G} {T : Cy} {ρ : Nat → Nat} {A : Nat → Prop}
set_option maxRecDepth 100000 in
set_option maxHeartbeats 4000000 in
theorem w_refuse_0  {g : Nat} {S : St} {x1 : Int32} {x2 : Int32} (C : CallFix p m c cX13_refuse 3 s args tb RX13) (hr : meth.sig.returnType = none) (hk : meth.locks = false) {S' : St} (w : Wn Ym D T ρ S A s H locs) (hl : lv_has ls 3 [(0, .ref (ρ 0)), (1, .int x1), (2, .int x2)]) (h : m_refuse g S x1 x2 = some S') : W p l e (rmN 0 0) s m args below meth c H locs 0 0 (MQ below (Qv Ym D T ρ A S') args s 0 0 A) (F0 m 0 ls []) := by
  unfold m_refuse at h
  refine lv_iload_n C.1 C.2.1 dX13_refuse_0 rfl (lv_at hl 1 rfl) ?_
  refine lv_if_eq (tgt := 16) C.1 C.2.1 dX13_refuse_1 (by decide) (fun hc => ?_) (fun hc => ?_)
  · replace h := ift hc h
    obtain rfl := som h
    exact x_vret C w hr hk dX13_refuse_16
  · replace h := iff0 hc h
    refine lv_aload_n C.1 C.2.1 dX13_refuse_4 rfl (lv_at hl 0 rfl) ?_
    refine x_getI C w fM398 obM dX13_refuse_5 ?_
    refine lv_if_ne (tgt := 16) C.1 C.2.1 dX13_refuse_8 (by decide) (fun hc => ?_) (fun hc => ?_)
    · replace h := iff0 hc h
      obtain rfl := som h
      exact x_vret C w hr hk dX13_refuse_16
    · replace h := ift hc h
      refine lv_aload_n C.1 C.2.1 dX13_refuse_11 rfl (lv_at hl 0 rfl) ?_
      refine lv_iload_n C.1 C.2.1 dX13_refuse_12 rfl (lv_at hl 2 rfl) ?_
      obtain ⟨S_1, eS_1, h⟩ := lt_e h
      refine y_putI C w eS_1 fM398 pM58 obM dX13_refuse_13 (fun H locs w => ?_)
      obtain rfl := som h
      exact x_vret C w hr hk dX13_refuse_16
end S_refuse
set_option maxRecDepth 100000 in
theorem k_refuse (l : Launch) (D : va_G) (T : Cy) (ρ : Nat → Nat) (g sz : Nat) (S : St) {x1 : Int32} {x2 : Int32} {S' : St} (h : m_refuse g S x1 x2 = some S') : Mv l Ym D T ρ yX13_refuse cX13_refuse 3 none 0 0 S S' [.ref (ρ 0), .int x1, .int x2] sz :=
  x_in (by decide) (Nat.le_of_ble_eq_true rfl) (fun p e s m below meth c ls C hr hk w hl => w_refuse_0 C hr hk w hl h)

theorem dX13_leaves_0 : decode cX13_leaves 0 = .ok (.aload_n 0, 1) := by decide +kernel
theorem dX13_leaves_1 : decode cX13_leaves 1 = .ok (.getfield 443, 3) := by decide +kernel
theorem dX13_leaves_4 : decode cX13_leaves 4 = .ok (.ifCond .le 60, 3) := by decide +kernel
theorem dX13_leaves_7 : decode cX13_leaves 7 = .ok (.aload_n 0, 1) := by decide +kernel
theorem dX13_leaves_8 : decode cX13_leaves 8 = .ok (.getfield 229, 3) := by decide +kernel
theorem dX13_leaves_11 : decode cX13_leaves 11 = .ok (.aload_n 0, 1) := by decide +kernel
theorem dX13_leaves_12 : decode cX13_leaves 12 = .ok (.getfield 443, 3) := by decide +kernel
theorem dX13_leaves_15 : decode cX13_leaves 15 = .ok (.iconst 1, 1) := by decide +kernel
theorem dX13_leaves_16 : decode cX13_leaves 16 = .ok (.isub, 1) := by decide +kernel
theorem dX13_leaves_17 : decode cX13_leaves 17 = .ok (.iaload, 1) := by decide +kernel
theorem dX13_leaves_18 : decode cX13_leaves 18 = .ok (.iload_n 2, 1) := by decide +kernel
theorem dX13_leaves_19 : decode cX13_leaves 19 = .ok (.if_icmp .ne 45, 3) := by decide +kernel
theorem dX13_leaves_22 : decode cX13_leaves 22 = .ok (.aload_n 0, 1) := by decide +kernel
theorem dX13_leaves_23 : decode cX13_leaves 23 = .ok (.dup, 1) := by decide +kernel
theorem dX13_leaves_24 : decode cX13_leaves 24 = .ok (.getfield 443, 3) := by decide +kernel
theorem dX13_leaves_27 : decode cX13_leaves 27 = .ok (.iconst 1, 1) := by decide +kernel
theorem dX13_leaves_28 : decode cX13_leaves 28 = .ok (.isub, 1) := by decide +kernel
theorem dX13_leaves_29 : decode cX13_leaves 29 = .ok (.putfield 443, 3) := by decide +kernel
theorem dX13_leaves_32 : decode cX13_leaves 32 = .ok (.aload_n 0, 1) := by decide +kernel
theorem dX13_leaves_33 : decode cX13_leaves 33 = .ok (.getfield 217, 3) := by decide +kernel
theorem dX13_leaves_36 : decode cX13_leaves 36 = .ok (.aload_n 0, 1) := by decide +kernel
theorem dX13_leaves_37 : decode cX13_leaves 37 = .ok (.getfield 150, 3) := by decide +kernel
theorem dX13_leaves_40 : decode cX13_leaves 40 = .ok (.bipush 10, 2) := by decide +kernel
theorem dX13_leaves_42 : decode cX13_leaves 42 = .ok (.iload_n 1, 1) := by decide +kernel
theorem dX13_leaves_43 : decode cX13_leaves 43 = .ok (.bipush 60, 2) := by decide +kernel
theorem dX13_leaves_45 : decode cX13_leaves 45 = .ok (.imul, 1) := by decide +kernel
theorem dX13_leaves_46 : decode cX13_leaves 46 = .ok (.aload_n 0, 1) := by decide +kernel
theorem dX13_leaves_47 : decode cX13_leaves 47 = .ok (.getfield 226, 3) := by decide +kernel
theorem dX13_leaves_50 : decode cX13_leaves 50 = .ok (.aload_n 0, 1) := by decide +kernel
theorem dX13_leaves_51 : decode cX13_leaves 51 = .ok (.getfield 443, 3) := by decide +kernel
theorem dX13_leaves_54 : decode cX13_leaves 54 = .ok (.iaload, 1) := by decide +kernel
theorem dX13_leaves_55 : decode cX13_leaves 55 = .ok (.iadd, 1) := by decide +kernel
theorem dX13_leaves_56 : decode cX13_leaves 56 = .ok (.imul, 1) := by decide +kernel
theorem dX13_leaves_57 : decode cX13_leaves 57 = .ok (.laload, 1) := by decide +kernel
theorem dX13_leaves_58 : decode cX13_leaves 58 = .ok (.l2i, 1) := by decide +kernel
theorem dX13_leaves_59 : decode cX13_leaves 59 = .ok (.lconst 0, 1) := by decide +kernel
theorem dX13_leaves_60 : decode cX13_leaves 60 = .ok (.lastore, 1) := by decide +kernel
theorem dX13_leaves_61 : decode cX13_leaves 61 = .ok (.goto (-61), 3) := by decide +kernel
theorem dX13_leaves_64 : decode cX13_leaves 64 = .ok (.return_, 1) := by decide +kernel
def b_leaves_0 (g : Nat) (k0 : St → Int32 → Int32 → Option St) (S : St) (x1 : Int32) (x2 : Int32) : Option St :=
if (gI S 0 61) ≤ 0 then (
  some S
) else (
  (aI S 36 ((gI S 0 61) - (1 : Int32))).bind fun v_1 =>
  if v_1 = x2 then (
    lt (sI S 0 61 ((gI S 0 61) - (1 : Int32))) fun S_2 =>
    (aI S_2 35 (gI S_2 0 61)).bind fun v_3 =>
    (aJ S_2 10 ((10 : Int32) * ((x1 * (60 : Int32)) + v_3))).bind fun v_4 =>
    (tJ S_2 32 (v_4.toInt32) (0 : Int64)).bind fun S_5 =>
    k0 S_5 x1 x2
  ) else (
    some S
  )
)
def m_leaves_0 (g : Nat) : Nat → St → Int32 → Int32 → Option St
  | 0, _, _, _ => none
  | n + 1, S, x1, x2 => b_leaves_0 g (m_leaves_0 g n) S x1 x2
def m_leaves (g : Nat) (S : St) (x1 : Int32) (x2 : Int32) : Option St := m_leaves_0 g g S x1 x2
section S_leaves
variable {p : Program} {l : Launch} {e : Env} {s : State} {m : MethodId} {args : Array Value} {below : List Frame} {meth : Method} {c : Code} {H : Heap} {locs : List Loc} {ls : Array Slot} {D : va_G} {T : Cy} {ρ : Nat → Nat} {A : Nat → Prop}
set_option maxRecDepth 100000 in
set_option maxHeartbeats 4000000 in
theorem wb_leaves_0  {g : Nat} {S : St} {x1 : Int32} {x2 : Int32} (C : CallFix p m c cX13_leaves 3 s args tb RX13) (hr : meth.sig.returnType = none) (hk : meth.locks = false) {S' : St} {k0 : St → Int32 → Int32 → Option St} (kk0 : ∀ (S : St) (x1 : Int32) (x2 : Int32) (H : Heap) (locs : List Loc) (ls : Array Slot), Wn Ym D T ρ S A s H locs → lv_has ls 3 [(0, .ref (ρ 0)), (1, .int x1), (2, .int x2)] → k0 S x1 x2 = some S' → W p l e (rmN 0 0) s m args below meth c H locs 0 0 (MQ below (Qv Ym D T ρ A S') args s 0 0 A) (F0 m 0 ls [])) (w : Wn Ym D T ρ S A s H locs) (hl : lv_has ls 3 [(0, .ref (ρ 0)), (1, .int x1), (2, .int x2)]) (h : b_leaves_0 g k0 S x1 x2 = some S') : W p l e (rmN 0 0) s m args below meth c H locs 0 0 (MQ below (Qv Ym D T ρ A S') args s 0 0 A) (F0 m 0 ls []) := by
  unfold b_leaves_0 at h
  refine lv_aload_n C.1 C.2.1 dX13_leaves_0 rfl (lv_at hl 0 rfl) ?_
  refine x_getI C w fM443 obM dX13_leaves_1 ?_
  refine lv_if_le (tgt := 64) C.1 C.2.1 dX13_leaves_4 (by decide) (fun hc => ?_) (fun hc => ?_)
  · replace h := ift hc h
    obtain rfl := som h
    exact x_vret C w hr hk dX13_leaves_64
  · replace h := iff0 hc h
    refine lv_aload_n C.1 C.2.1 dX13_leaves_7 rfl (lv_at hl 0 rfl) ?_
    refine x_getC C w 36 fM229 obM rfl dX13_leaves_8 ?_
    refine lv_aload_n C.1 C.2.1 dX13_leaves_11 rfl (lv_at hl 0 rfl) ?_
    refine x_getI C w fM443 obM dX13_leaves_12 ?_
    refine lv_iconst (v := 1) C.1 C.2.1 dX13_leaves_15 (by decide) ?_
    refine lv_isub C.1 C.2.1 dX13_leaves_16 ?_
    obtain ⟨v_1, hv_1, h⟩ := bnd h
    refine x_iald C w obM36 hv_1 dX13_leaves_17 ?_
    refine lv_iload_n C.1 C.2.1 dX13_leaves_18 rfl (lv_at hl 2 rfl) ?_
    refine lv_icmp_ne (tgt := 64) C.1 C.2.1 dX13_leaves_19 (by decide) (fun hc => ?_) (fun hc => ?_)
    · replace h := iff0 hc h
      obtain rfl := som h
      exact x_vret C w hr hk dX13_leaves_64
    · replace h := ift hc h
      refine lv_aload_n C.1 C.2.1 dX13_leaves_22 rfl (lv_at hl 0 rfl) ?_
      refine lv_dup C.1 C.2.1 dX13_leaves_23 rfl ?_
      refine x_getI C w fM443 obM dX13_leaves_24 ?_
      refine lv_iconst (v := 1) C.1 C.2.1 dX13_leaves_27 (by decide) ?_
      refine lv_isub C.1 C.2.1 dX13_leaves_28 ?_
      obtain ⟨S_2, eS_2, h⟩ := lt_e h
      refine y_putI C w eS_2 fM443 pM61 obM dX13_leaves_29 (fun H locs w => ?_)
      refine lv_aload_n C.1 C.2.1 dX13_leaves_32 rfl (lv_at hl 0 rfl) ?_
      refine x_getC C w 32 fM217 obM rfl dX13_leaves_33 ?_
      refine lv_aload_n C.1 C.2.1 dX13_leaves_36 rfl (lv_at hl 0 rfl) ?_
      refine x_getC C w 10 fM150 obM rfl dX13_leaves_37 ?_
      refine lv_bipush (v := 10) C.1 C.2.1 dX13_leaves_40 (by decide) ?_
      refine lv_iload_n C.1 C.2.1 dX13_leaves_42 rfl (lv_at hl 1 rfl) ?_
      refine lv_bipush (v := 60) C.1 C.2.1 dX13_leaves_43 (by decide) ?_
      refine lv_imul C.1 C.2.1 dX13_leaves_45 ?_
      refine lv_aload_n C.1 C.2.1 dX13_leaves_46 rfl (lv_at hl 0 rfl) ?_
      refine x_getC C w 35 fM226 obM rfl dX13_leaves_47 ?_
      refine lv_aload_n C.1 C.2.1 dX13_leaves_50 rfl (lv_at hl 0 rfl) ?_
      refine x_getI C w fM443 obM dX13_leaves_51 ?_
      obtain ⟨v_3, hv_3, h⟩ := bnd h
      refine x_iald C w obM35 hv_3 dX13_leaves_54 ?_
      refine lv_iadd C.1 C.2.1 dX13_leaves_55 ?_
      refine lv_imul C.1 C.2.1 dX13_leaves_56 ?_
      obtain ⟨v_4, hv_4, h⟩ := bnd h
      refine x_lald C w obM10 hv_4 dX13_leaves_57 ?_
      refine lv_l2i C.1 C.2.1 dX13_leaves_58 rfl ?_
      refine lv_lconst (v := 0) C.1 C.2.1 dX13_leaves_59 (by decide) ?_
      obtain ⟨S_5, hS_5, h⟩ := bnd h
      refine x_last C w obM32 hS_5 dX13_leaves_60 (fun H locs w => ?_)
      refine lv_goto (tgt := 0) C.1 C.2.1 dX13_leaves_61 (by decide) ?_
      exact kk0 _ _ _ _ _ _ w (lv_sub hl [0, 1, 2] rfl) h
theorem w_leaves_0 {g : Nat} (C : CallFix p m c cX13_leaves 3 s args tb RX13) (hr : meth.sig.returnType = none) (hk : meth.locks = false) {S' : St} (n : Nat) : ∀ (S : St) (x1 : Int32) (x2 : Int32) (H : Heap) (locs : List Loc) (ls : Array Slot), Wn Ym D T ρ S A s H locs → lv_has ls 3 [(0, .ref (ρ 0)), (1, .int x1), (2, .int x2)] → m_leaves_0 g n S x1 x2 = some S' → W p l e (rmN 0 0) s m args below meth c H locs 0 0 (MQ below (Qv Ym D T ρ A S') args s 0 0 A) (F0 m 0 ls []) := by
  induction n with
  | zero => intro S x1 x2 H locs ls w hl h; exact absurd h (fun q => by cases q)
  | succ n ih => intro S x1 x2 H locs ls w hl h; exact wb_leaves_0 C hr hk ih w hl h
end S_leaves
set_option maxRecDepth 100000 in
theorem k_leaves (l : Launch) (D : va_G) (T : Cy) (ρ : Nat → Nat) (g sz : Nat) (S : St) {x1 : Int32} {x2 : Int32} {S' : St} (h : m_leaves g S x1 x2 = some S') : Mv l Ym D T ρ yX13_leaves cX13_leaves 3 none 0 0 S S' [.ref (ρ 0), .int x1, .int x2] sz :=
  x_in (by decide) (Nat.le_of_ble_eq_true rfl) (fun p e s m below meth c ls C hr hk w hl => w_leaves_0 C hr hk g _ _ _ _ _ _ w (lv_sub hl [0, 1, 2] rfl) h)

theorem dX13_value_0 : decode cX13_value 0 = .ok (.aload_n 0, 1) := by decide +kernel
theorem dX13_value_1 : decode cX13_value 1 = .ok (.getfield 144, 3) := by decide +kernel
theorem dX13_value_4 : decode cX13_value 4 = .ok (.iload_n 1, 1) := by decide +kernel
theorem dX13_value_5 : decode cX13_value 5 = .ok (.iaload, 1) := by decide +kernel
theorem dX13_value_6 : decode cX13_value 6 = .ok (.iconst 4, 1) := by decide +kernel
theorem dX13_value_7 : decode cX13_value 7 = .ok (.if_icmp .eq 25, 3) := by decide +kernel
theorem dX13_value_10 : decode cX13_value 10 = .ok (.aload_n 0, 1) := by decide +kernel
theorem dX13_value_11 : decode cX13_value 11 = .ok (.getfield 144, 3) := by decide +kernel
theorem dX13_value_14 : decode cX13_value 14 = .ok (.iload_n 1, 1) := by decide +kernel
theorem dX13_value_15 : decode cX13_value 15 = .ok (.iaload, 1) := by decide +kernel
theorem dX13_value_16 : decode cX13_value 16 = .ok (.bipush 6, 2) := by decide +kernel
theorem dX13_value_18 : decode cX13_value 18 = .ok (.if_icmp .eq 14, 3) := by decide +kernel
theorem dX13_value_21 : decode cX13_value 21 = .ok (.aload_n 0, 1) := by decide +kernel
theorem dX13_value_22 : decode cX13_value 22 = .ok (.getfield 144, 3) := by decide +kernel
theorem dX13_value_25 : decode cX13_value 25 = .ok (.iload_n 1, 1) := by decide +kernel
theorem dX13_value_26 : decode cX13_value 26 = .ok (.iaload, 1) := by decide +kernel
theorem dX13_value_27 : decode cX13_value 27 = .ok (.bipush 8, 2) := by decide +kernel
theorem dX13_value_29 : decode cX13_value 29 = .ok (.if_icmp .ne 12, 3) := by decide +kernel
theorem dX13_value_32 : decode cX13_value 32 = .ok (.aload_n 0, 1) := by decide +kernel
theorem dX13_value_33 : decode cX13_value 33 = .ok (.getfield 150, 3) := by decide +kernel
theorem dX13_value_36 : decode cX13_value 36 = .ok (.iload_n 1, 1) := by decide +kernel
theorem dX13_value_37 : decode cX13_value 37 = .ok (.laload, 1) := by decide +kernel
theorem dX13_value_38 : decode cX13_value 38 = .ok (.goto 15, 3) := by decide +kernel
theorem dX13_value_41 : decode cX13_value 41 = .ok (.aload_n 0, 1) := by decide +kernel
theorem dX13_value_42 : decode cX13_value 42 = .ok (.getfield 217, 3) := by decide +kernel
theorem dX13_value_45 : decode cX13_value 45 = .ok (.aload_n 0, 1) := by decide +kernel
theorem dX13_value_46 : decode cX13_value 46 = .ok (.getfield 150, 3) := by decide +kernel
theorem dX13_value_49 : decode cX13_value 49 = .ok (.iload_n 1, 1) := by decide +kernel
theorem dX13_value_50 : decode cX13_value 50 = .ok (.laload, 1) := by decide +kernel
theorem dX13_value_51 : decode cX13_value 51 = .ok (.l2i, 1) := by decide +kernel
theorem dX13_value_52 : decode cX13_value 52 = .ok (.laload, 1) := by decide +kernel
theorem dX13_value_53 : decode cX13_value 53 = .ok (.lreturn, 1) := by decide +kernel
def m_value (g : Nat) (S : St) (x1 : Int32) : Option Int64 :=
(aI S 8 x1).bind fun v_1 =>
if v_1 = (4 : Int32) then (
  (aJ S 10 x1).bind fun v_2 =>
  some v_2
) else (
  (aI S 8 x1).bind fun v_3 =>
  if v_3 = (6 : Int32) then (
    (aJ S 10 x1).bind fun v_4 =>
    some v_4
  ) else (
    (aI S 8 x1).bind fun v_5 =>
    if v_5 = (8 : Int32) then (
      (aJ S 10 x1).bind fun v_8 =>
      some v_8
    ) else (
      (aJ S 10 x1).bind fun v_6 =>
      (aJ S 32 (v_6.toInt32)).bind fun v_7 =>
      some v_7
    )
  )
)
section S_value
variable {p : Program} {l : Launch} {e : Env} {s : State} {m : MethodId} {args : Array Value} {below : List Frame} {meth : Method} {c : Code} {H : Heap} {locs : List Loc} {ls : Array Slot} {D : va_G} {T : Cy} {ρ : Nat → Nat} {A : Nat → Prop}
set_option maxRecDepth 100000 in
set_option maxHeartbeats 4000000 in
theorem w_value_0  {g : Nat} {S : St} {x1 : Int32} (C : CallFix p m c cX13_value 2 s args tb RX13) (hr : meth.sig.returnType = (some .long)) (hk : meth.locks = false) {r : Int64} (w : Wn Ym D T ρ S A s H locs) (hl : lv_has ls 2 [(0, .ref (ρ 0)), (1, .int x1)]) (h : m_value g S x1 = some r) : W p l e (rmN 0 0) s m args below meth c H locs 0 0 (MQ below (Qj Ym D T ρ A S r) args s 0 0 A) (F0 m 0 ls []) := by
  unfold m_value at h
  refine lv_aload_n C.1 C.2.1 dX13_value_0 rfl (lv_at hl 0 rfl) ?_
  refine x_getC C w 8 fM144 obM rfl dX13_value_1 ?_
  refine lv_iload_n C.1 C.2.1 dX13_value_4 rfl (lv_at hl 1 rfl) ?_
  obtain ⟨v_1, hv_1, h⟩ := bnd h
  refine x_iald C w obM8 hv_1 dX13_value_5 ?_
  refine lv_iconst (v := 4) C.1 C.2.1 dX13_value_6 (by decide) ?_
  refine lv_icmp_eq (tgt := 32) C.1 C.2.1 dX13_value_7 (by decide) (fun hc => ?_) (fun hc => ?_)
  · replace h := ift hc h
    refine lv_aload_n C.1 C.2.1 dX13_value_32 rfl (lv_at hl 0 rfl) ?_
    refine x_getC C w 10 fM150 obM rfl dX13_value_33 ?_
    refine lv_iload_n C.1 C.2.1 dX13_value_36 rfl (lv_at hl 1 rfl) ?_
    obtain ⟨v_2, hv_2, h⟩ := bnd h
    refine x_lald C w obM10 hv_2 dX13_value_37 ?_
    refine lv_goto (tgt := 53) C.1 C.2.1 dX13_value_38 (by decide) ?_
    obtain rfl := som h
    exact x_lret C w hr hk dX13_value_53
  · replace h := iff0 hc h
    refine lv_aload_n C.1 C.2.1 dX13_value_10 rfl (lv_at hl 0 rfl) ?_
    refine x_getC C w 8 fM144 obM rfl dX13_value_11 ?_
    refine lv_iload_n C.1 C.2.1 dX13_value_14 rfl (lv_at hl 1 rfl) ?_
    obtain ⟨v_3, hv_3, h⟩ := bnd h
    refine x_iald C w obM8 hv_3 dX13_value_15 ?_
    refine lv_bipush (v := 6) C.1 C.2.1 dX13_value_16 (by decide) ?_
    refine lv_icmp_eq (tgt := 32) C.1 C.2.1 dX13_value_18 (by decide) (fun hc => ?_) (fun hc => ?_)
    · replace h := ift hc h
      refine lv_aload_n C.1 C.2.1 dX13_value_32 rfl (lv_at hl 0 rfl) ?_
      refine x_getC C w 10 fM150 obM rfl dX13_value_33 ?_
      refine lv_iload_n C.1 C.2.1 dX13_value_36 rfl (lv_at hl 1 rfl) ?_
      obtain ⟨v_4, hv_4, h⟩ := bnd h
      refine x_lald C w obM10 hv_4 dX13_value_37 ?_
      refine lv_goto (tgt := 53) C.1 C.2.1 dX13_value_38 (by decide) ?_
      obtain rfl := som h
      exact x_lret C w hr hk dX13_value_53
    · replace h := iff0 hc h
      refine lv_aload_n C.1 C.2.1 dX13_value_21 rfl (lv_at hl 0 rfl) ?_
      refine x_getC C w 8 fM144 obM rfl dX13_value_22 ?_
      refine lv_iload_n C.1 C.2.1 dX13_value_25 rfl (lv_at hl 1 rfl) ?_
      obtain ⟨v_5, hv_5, h⟩ := bnd h
      refine x_iald C w obM8 hv_5 dX13_value_26 ?_
      refine lv_bipush (v := 8) C.1 C.2.1 dX13_value_27 (by decide) ?_
      refine lv_icmp_ne (tgt := 41) C.1 C.2.1 dX13_value_29 (by decide) (fun hc => ?_) (fun hc => ?_)
      · replace h := iff0 hc h
        refine lv_aload_n C.1 C.2.1 dX13_value_41 rfl (lv_at hl 0 rfl) ?_
        refine x_getC C w 32 fM217 obM rfl dX13_value_42 ?_
        refine lv_aload_n C.1 C.2.1 dX13_value_45 rfl (lv_at hl 0 rfl) ?_
        refine x_getC C w 10 fM150 obM rfl dX13_value_46 ?_
        refine lv_iload_n C.1 C.2.1 dX13_value_49 rfl (lv_at hl 1 rfl) ?_
        obtain ⟨v_6, hv_6, h⟩ := bnd h
        refine x_lald C w obM10 hv_6 dX13_value_50 ?_
        refine lv_l2i C.1 C.2.1 dX13_value_51 rfl ?_
        obtain ⟨v_7, hv_7, h⟩ := bnd h
        refine x_lald C w obM32 hv_7 dX13_value_52 ?_
        obtain rfl := som h
        exact x_lret C w hr hk dX13_value_53
      · replace h := ift hc h
        refine lv_aload_n C.1 C.2.1 dX13_value_32 rfl (lv_at hl 0 rfl) ?_
        refine x_getC C w 10 fM150 obM rfl dX13_value_33 ?_
        refine lv_iload_n C.1 C.2.1 dX13_value_36 rfl (lv_at hl 1 rfl) ?_
        obtain ⟨v_8, hv_8, h⟩ := bnd h
        refine x_lald C w obM10 hv_8 dX13_value_37 ?_
        refine lv_goto (tgt := 53) C.1 C.2.1 dX13_value_38 (by decide) ?_
        obtain rfl := som h
        exact x_lret C w hr hk dX13_value_53
end S_value
set_option maxRecDepth 100000 in
theorem k_value (l : Launch) (D : va_G) (T : Cy) (ρ : Nat → Nat) (g sz : Nat) (S : St) {x1 : Int32} {r : Int64} (h : m_value g S x1 = some r) : Mj l Ym D T ρ yX13_value cX13_value 2 (some .long) 0 0 S S r [.ref (ρ 0), .int x1] sz :=
  x_in (by decide) (Nat.le_of_ble_eq_true rfl) (fun p e s m below meth c ls C hr hk w hl => w_value_0 C hr hk w hl h)

theorem dX13_deletes_0 : decode cX13_deletes 0 = .ok (.aload_n 0, 1) := by decide +kernel
theorem dX13_deletes_1 : decode cX13_deletes 1 = .ok (.getfield 205, 3) := by decide +kernel
theorem dX13_deletes_4 : decode cX13_deletes 4 = .ok (.iload_n 2, 1) := by decide +kernel
theorem dX13_deletes_5 : decode cX13_deletes 5 = .ok (.iaload, 1) := by decide +kernel
theorem dX13_deletes_6 : decode cX13_deletes 6 = .ok (.istore_n 3, 1) := by decide +kernel
theorem dX13_deletes_7 : decode cX13_deletes 7 = .ok (.aload_n 0, 1) := by decide +kernel
theorem dX13_deletes_8 : decode cX13_deletes 8 = .ok (.iload_n 1, 1) := by decide +kernel
theorem dX13_deletes_9 : decode cX13_deletes 9 = .ok (.iconst 1, 1) := by decide +kernel
theorem dX13_deletes_10 : decode cX13_deletes 10 = .ok (.iadd, 1) := by decide +kernel
theorem dX13_deletes_11 : decode cX13_deletes 11 = .ok (.invokevirtual 459, 3) := by decide +kernel
theorem dX13_deletes_14 : decode cX13_deletes 14 = .ok (.lstore 4, 2) := by decide +kernel
theorem dX13_deletes_16 : decode cX13_deletes 16 = .ok (.aload_n 0, 1) := by decide +kernel
theorem dX13_deletes_17 : decode cX13_deletes 17 = .ok (.iload_n 1, 1) := by decide +kernel
theorem dX13_deletes_18 : decode cX13_deletes 18 = .ok (.iconst 2, 1) := by decide +kernel
theorem dX13_deletes_19 : decode cX13_deletes 19 = .ok (.iadd, 1) := by decide +kernel
theorem dX13_deletes_20 : decode cX13_deletes 20 = .ok (.invokevirtual 459, 3) := by decide +kernel
theorem dX13_deletes_23 : decode cX13_deletes 23 = .ok (.iload_n 3, 1) := by decide +kernel
theorem dX13_deletes_24 : decode cX13_deletes 24 = .ok (.i2l, 1) := by decide +kernel
theorem dX13_deletes_25 : decode cX13_deletes 25 = .ok (.lcmp, 1) := by decide +kernel
theorem dX13_deletes_26 : decode cX13_deletes 26 = .ok (.ifCond .le 8, 3) := by decide +kernel
theorem dX13_deletes_29 : decode cX13_deletes 29 = .ok (.iload_n 3, 1) := by decide +kernel
theorem dX13_deletes_30 : decode cX13_deletes 30 = .ok (.i2l, 1) := by decide +kernel
theorem dX13_deletes_31 : decode cX13_deletes 31 = .ok (.goto 10, 3) := by decide +kernel
theorem dX13_deletes_34 : decode cX13_deletes 34 = .ok (.aload_n 0, 1) := by decide +kernel
theorem dX13_deletes_35 : decode cX13_deletes 35 = .ok (.iload_n 1, 1) := by decide +kernel
theorem dX13_deletes_36 : decode cX13_deletes 36 = .ok (.iconst 2, 1) := by decide +kernel
theorem dX13_deletes_37 : decode cX13_deletes 37 = .ok (.iadd, 1) := by decide +kernel
theorem dX13_deletes_38 : decode cX13_deletes 38 = .ok (.invokevirtual 459, 3) := by decide +kernel
theorem dX13_deletes_41 : decode cX13_deletes 41 = .ok (.lstore 6, 2) := by decide +kernel
theorem dX13_deletes_43 : decode cX13_deletes 43 = .ok (.aload_n 0, 1) := by decide +kernel
theorem dX13_deletes_44 : decode cX13_deletes 44 = .ok (.lload 4, 2) := by decide +kernel
theorem dX13_deletes_46 : decode cX13_deletes 46 = .ok (.lconst 0, 1) := by decide +kernel
theorem dX13_deletes_47 : decode cX13_deletes 47 = .ok (.lload 6, 2) := by decide +kernel
theorem dX13_deletes_49 : decode cX13_deletes 49 = .ok (.invokestatic 318, 3) := by decide +kernel
theorem dX13_deletes_52 : decode cX13_deletes 52 = .ok (.ifCond .ne 7, 3) := by decide +kernel
theorem dX13_deletes_55 : decode cX13_deletes 55 = .ok (.iconst 1, 1) := by decide +kernel
theorem dX13_deletes_56 : decode cX13_deletes 56 = .ok (.goto 4, 3) := by decide +kernel
theorem dX13_deletes_59 : decode cX13_deletes 59 = .ok (.iconst 0, 1) := by decide +kernel
theorem dX13_deletes_60 : decode cX13_deletes 60 = .ok (.iconst 1, 1) := by decide +kernel
theorem dX13_deletes_61 : decode cX13_deletes 61 = .ok (.invokevirtual 466, 3) := by decide +kernel
theorem dX13_deletes_64 : decode cX13_deletes 64 = .ok (.aload_n 0, 1) := by decide +kernel
theorem dX13_deletes_65 : decode cX13_deletes 65 = .ok (.getfield 398, 3) := by decide +kernel
theorem dX13_deletes_68 : decode cX13_deletes 68 = .ok (.ifCond .eq 4, 3) := by decide +kernel
theorem dX13_deletes_71 : decode cX13_deletes 71 = .ok (.return_, 1) := by decide +kernel
theorem dX13_deletes_72 : decode cX13_deletes 72 = .ok (.lload 6, 2) := by decide +kernel
theorem dX13_deletes_74 : decode cX13_deletes 74 = .ok (.l2i, 1) := by decide +kernel
theorem dX13_deletes_75 : decode cX13_deletes 75 = .ok (.istore 8, 2) := by decide +kernel
theorem dX13_deletes_77 : decode cX13_deletes 77 = .ok (.iload 8, 2) := by decide +kernel
theorem dX13_deletes_79 : decode cX13_deletes 79 = .ok (.iload_n 3, 1) := by decide +kernel
theorem dX13_deletes_80 : decode cX13_deletes 80 = .ok (.if_icmp .ge 42, 3) := by decide +kernel
theorem dX13_deletes_83 : decode cX13_deletes 83 = .ok (.aload_n 0, 1) := by decide +kernel
theorem dX13_deletes_84 : decode cX13_deletes 84 = .ok (.getfield 211, 3) := by decide +kernel
theorem dX13_deletes_87 : decode cX13_deletes 87 = .ok (.sipush 400, 3) := by decide +kernel
theorem dX13_deletes_90 : decode cX13_deletes 90 = .ok (.iload_n 2, 1) := by decide +kernel
theorem dX13_deletes_91 : decode cX13_deletes 91 = .ok (.imul, 1) := by decide +kernel
theorem dX13_deletes_92 : decode cX13_deletes 92 = .ok (.iload 8, 2) := by decide +kernel
theorem dX13_deletes_94 : decode cX13_deletes 94 = .ok (.iadd, 1) := by decide +kernel
theorem dX13_deletes_95 : decode cX13_deletes 95 = .ok (.lload 6, 2) := by decide +kernel
theorem dX13_deletes_97 : decode cX13_deletes 97 = .ok (.lload 4, 2) := by decide +kernel
theorem dX13_deletes_99 : decode cX13_deletes 99 = .ok (.lsub, 1) := by decide +kernel
theorem dX13_deletes_100 : decode cX13_deletes 100 = .ok (.l2i, 1) := by decide +kernel
theorem dX13_deletes_101 : decode cX13_deletes 101 = .ok (.isub, 1) := by decide +kernel
theorem dX13_deletes_102 : decode cX13_deletes 102 = .ok (.aload_n 0, 1) := by decide +kernel
theorem dX13_deletes_103 : decode cX13_deletes 103 = .ok (.getfield 211, 3) := by decide +kernel
theorem dX13_deletes_106 : decode cX13_deletes 106 = .ok (.sipush 400, 3) := by decide +kernel
theorem dX13_deletes_109 : decode cX13_deletes 109 = .ok (.iload_n 2, 1) := by decide +kernel
theorem dX13_deletes_110 : decode cX13_deletes 110 = .ok (.imul, 1) := by decide +kernel
theorem dX13_deletes_111 : decode cX13_deletes 111 = .ok (.iload 8, 2) := by decide +kernel
theorem dX13_deletes_113 : decode cX13_deletes 113 = .ok (.iadd, 1) := by decide +kernel
theorem dX13_deletes_114 : decode cX13_deletes 114 = .ok (.iaload, 1) := by decide +kernel
theorem dX13_deletes_115 : decode cX13_deletes 115 = .ok (.iastore, 1) := by decide +kernel
theorem dX13_deletes_116 : decode cX13_deletes 116 = .ok (.iinc 8 1, 3) := by decide +kernel
theorem dX13_deletes_119 : decode cX13_deletes 119 = .ok (.goto (-42), 3) := by decide +kernel
theorem dX13_deletes_122 : decode cX13_deletes 122 = .ok (.aload_n 0, 1) := by decide +kernel
theorem dX13_deletes_123 : decode cX13_deletes 123 = .ok (.getfield 205, 3) := by decide +kernel
theorem dX13_deletes_126 : decode cX13_deletes 126 = .ok (.iload_n 2, 1) := by decide +kernel
theorem dX13_deletes_127 : decode cX13_deletes 127 = .ok (.iload_n 3, 1) := by decide +kernel
theorem dX13_deletes_128 : decode cX13_deletes 128 = .ok (.lload 6, 2) := by decide +kernel
theorem dX13_deletes_130 : decode cX13_deletes 130 = .ok (.lload 4, 2) := by decide +kernel
theorem dX13_deletes_132 : decode cX13_deletes 132 = .ok (.lsub, 1) := by decide +kernel
theorem dX13_deletes_133 : decode cX13_deletes 133 = .ok (.l2i, 1) := by decide +kernel
theorem dX13_deletes_134 : decode cX13_deletes 134 = .ok (.isub, 1) := by decide +kernel
theorem dX13_deletes_135 : decode cX13_deletes 135 = .ok (.iastore, 1) := by decide +kernel
theorem dX13_deletes_136 : decode cX13_deletes 136 = .ok (.return_, 1) := by decide +kernel
def b_deletes_77 (g : Nat) (k77 : St → Int32 → Int32 → Int64 → Int64 → Int32 → Option St) (S : St) (x2 : Int32) (x3 : Int32) (x4 : Int64) (x6 : Int64) (x8 : Int32) : Option St :=
if x3 ≤ x8 then (
  (tI S 28 x2 (x3 - ((x6 - x4).toInt32))).bind fun S_8 =>
  some S_8
) else (
  (aI S 30 (((400 : Int32) * x2) + x8)).bind fun v_9 =>
  (tI S 30 ((((400 : Int32) * x2) + x8) - ((x6 - x4).toInt32)) v_9).bind fun S_10 =>
  lt (x8 + (1 : Int32)) fun x8_11 =>
  k77 S_10 x2 x3 x4 x6 x8_11
)
def m_deletes_77 (g : Nat) : Nat → St → Int32 → Int32 → Int64 → Int64 → Int32 → Option St
  | 0, _, _, _, _, _, _ => none
  | n + 1, S, x2, x3, x4, x6, x8 => b_deletes_77 g (m_deletes_77 g n) S x2 x3 x4 x6 x8
def m_deletes_60 (g : Nat) (S : St) (x2 : Int32) (x3 : Int32) (x4 : Int64) (x6 : Int64) (y1 : Int32) : Option St :=
(m_refuse g S y1 (1 : Int32)).bind fun S_6 =>
if (gI S_6 0 58) = 0 then (
  lt (x6.toInt32) fun x8_7 =>
  m_deletes_77 g g S_6 x2 x3 x4 x6 x8_7
) else (
  some S_6
)
def m_deletes_41 (g : Nat) (S : St) (x2 : Int32) (x3 : Int32) (x4 : Int64) (y0 : Int64) : Option St :=
(m_isIn g x4 (0 : Int64) y0).bind fun v_5 =>
if v_5 = 0 then (
  m_deletes_60 g S x2 x3 x4 y0 (1 : Int32)
) else (
  m_deletes_60 g S x2 x3 x4 y0 (0 : Int32)
)
def m_deletes (g : Nat) (S : St) (x1 : Int32) (x2 : Int32) : Option St :=
(aI S 28 x2).bind fun v_1 =>
(m_value g S (x1 + (1 : Int32))).bind fun v_2 =>
(m_value g S (x1 + (2 : Int32))).bind fun v_3 =>
if (v_1.toInt64) < v_3 then (
  m_deletes_41 g S x2 v_1 v_2 (v_1.toInt64)
) else (
  (m_value g S (x1 + (2 : Int32))).bind fun v_4 =>
  m_deletes_41 g S x2 v_1 v_2 v_4
)
section S_deletes
variable {p : Program} {l : Launch} {e : Env} {s : State} {m : MethodId} {args : Array Value} {below : List Frame} {meth : Method} {c : Code} {H : Heap} {locs : List Loc} {ls : Array Slot} {D : va_G} {T : Cy} {ρ : Nat → Nat} {A : Nat → Prop}
set_option maxRecDepth 100000 in
set_option maxHeartbeats 4000000 in
theorem wb_deletes_77  {g : Nat} {S : St} {x2 : Int32} {x3 : Int32} {x4 : Int64} {x6 : Int64} {x8 : Int32} (C : CallFix p m c cX13_deletes 9 s args tb RX13) (hr : meth.sig.returnType = none) (hk : meth.locks = false) {S' : St} {k77 : St → Int32 → Int32 → Int64 → Int64 → Int32 → Option St} (kk77 : ∀ (S : St) (x2 : Int32) (x3 : Int32) (x4 : Int64) (x6 : Int64) (x8 : Int32) (H : Heap) (locs : List Loc) (ls : Array Slot), Wn Ym D T ρ S A s H locs → lv_has ls 9 [(0, .ref (ρ 0)), (2, .int x2), (3, .int x3), (4, .long x4), (6, .long x6), (8, .int x8)] → k77 S x2 x3 x4 x6 x8 = some S' → W p l e (rmN 1 25) s m args below meth c H locs 0 0 (MQ below (Qv Ym D T ρ A S') args s 0 0 A) (F0 m 77 ls [])) (w : Wn Ym D T ρ S A s H locs) (hl : lv_has ls 9 [(0, .ref (ρ 0)), (2, .int x2), (3, .int x3), (4, .long x4), (6, .long x6), (8, .int x8)]) (h : b_deletes_77 g k77 S x2 x3 x4 x6 x8 = some S') : W p l e (rmN 1 25) s m args below meth c H locs 0 0 (MQ below (Qv Ym D T ρ A S') args s 0 0 A) (F0 m 77 ls []) := by
  unfold b_deletes_77 at h
  refine lv_iload C.1 C.2.1 dX13_deletes_77 (lv_at hl 5 rfl) ?_
  refine lv_iload_n C.1 C.2.1 dX13_deletes_79 rfl (lv_at hl 2 rfl) ?_
  refine lv_icmp_ge (tgt := 122) C.1 C.2.1 dX13_deletes_80 (by decide) (fun hc => ?_) (fun hc => ?_)
  · replace h := ift hc h
    refine lv_aload_n C.1 C.2.1 dX13_deletes_122 rfl (lv_at hl 0 rfl) ?_
    refine x_getC C w 28 fM205 obM rfl dX13_deletes_123 ?_
    refine lv_iload_n C.1 C.2.1 dX13_deletes_126 rfl (lv_at hl 1 rfl) ?_
    refine lv_iload_n C.1 C.2.1 dX13_deletes_127 rfl (lv_at hl 2 rfl) ?_
    refine lv_lload C.1 C.2.1 dX13_deletes_128 (lv_at hl 4 rfl) ?_
    refine lv_lload C.1 C.2.1 dX13_deletes_130 (lv_at hl 3 rfl) ?_
    refine lv_lsub C.1 C.2.1 dX13_deletes_132 ?_
    refine lv_l2i C.1 C.2.1 dX13_deletes_133 rfl ?_
    refine lv_isub C.1 C.2.1 dX13_deletes_134 ?_
    obtain ⟨S_8, hS_8, h⟩ := bnd h
    refine x_iast C w obM28 hS_8 dX13_deletes_135 (fun H locs w => ?_)
    obtain rfl := som h
    exact x_vret C w hr hk dX13_deletes_136
  · replace h := iff0 hc h
    refine lv_aload_n C.1 C.2.1 dX13_deletes_83 rfl (lv_at hl 0 rfl) ?_
    refine x_getC C w 30 fM211 obM rfl dX13_deletes_84 ?_
    refine lv_sipush (v := 400) C.1 C.2.1 dX13_deletes_87 (by decide) ?_
    refine lv_iload_n C.1 C.2.1 dX13_deletes_90 rfl (lv_at hl 1 rfl) ?_
    refine lv_imul C.1 C.2.1 dX13_deletes_91 ?_
    refine lv_iload C.1 C.2.1 dX13_deletes_92 (lv_at hl 5 rfl) ?_
    refine lv_iadd C.1 C.2.1 dX13_deletes_94 ?_
    refine lv_lload C.1 C.2.1 dX13_deletes_95 (lv_at hl 4 rfl) ?_
    refine lv_lload C.1 C.2.1 dX13_deletes_97 (lv_at hl 3 rfl) ?_
    refine lv_lsub C.1 C.2.1 dX13_deletes_99 ?_
    refine lv_l2i C.1 C.2.1 dX13_deletes_100 rfl ?_
    refine lv_isub C.1 C.2.1 dX13_deletes_101 ?_
    refine lv_aload_n C.1 C.2.1 dX13_deletes_102 rfl (lv_at hl 0 rfl) ?_
    refine x_getC C w 30 fM211 obM rfl dX13_deletes_103 ?_
    refine lv_sipush (v := 400) C.1 C.2.1 dX13_deletes_106 (by decide) ?_
    refine lv_iload_n C.1 C.2.1 dX13_deletes_109 rfl (lv_at hl 1 rfl) ?_
    refine lv_imul C.1 C.2.1 dX13_deletes_110 ?_
    refine lv_iload C.1 C.2.1 dX13_deletes_111 (lv_at hl 5 rfl) ?_
    refine lv_iadd C.1 C.2.1 dX13_deletes_113 ?_
    obtain ⟨v_9, hv_9, h⟩ := bnd h
    refine x_iald C w obM30 hv_9 dX13_deletes_114 ?_
    obtain ⟨S_10, hS_10, h⟩ := bnd h
    refine x_iast C w obM30 hS_10 dX13_deletes_115 (fun H locs w => ?_)
    obtain ⟨x8_11, ex8_11, h⟩ := lt_e h
    refine lv_iinc (v := x8_11) (lv' := [(8, .int x8_11), (0, .ref (ρ 0)), (2, .int x2), (3, .int x3), (4, .long x4), (6, .long x6)]) C.1 C.2.1 dX13_deletes_116 hl (k := 5) rfl (by rw [ex8_11]; rfl) (by decide) rfl (fun ls hl => ?_)
    refine lv_goto (tgt := 77) C.1 C.2.1 dX13_deletes_119 (by decide) ?_
    exact kk77 _ _ _ _ _ _ _ _ _ w (lv_sub hl [1, 2, 3, 4, 5, 0] rfl) h
theorem w_deletes_77 {g : Nat} (C : CallFix p m c cX13_deletes 9 s args tb RX13) (hr : meth.sig.returnType = none) (hk : meth.locks = false) {S' : St} (n : Nat) : ∀ (S : St) (x2 : Int32) (x3 : Int32) (x4 : Int64) (x6 : Int64) (x8 : Int32) (H : Heap) (locs : List Loc) (ls : Array Slot), Wn Ym D T ρ S A s H locs → lv_has ls 9 [(0, .ref (ρ 0)), (2, .int x2), (3, .int x3), (4, .long x4), (6, .long x6), (8, .int x8)] → m_deletes_77 g n S x2 x3 x4 x6 x8 = some S' → W p l e (rmN 1 25) s m args below meth c H locs 0 0 (MQ below (Qv Ym D T ρ A S') args s 0 0 A) (F0 m 77 ls []) := by
  induction n with
  | zero => intro S x2 x3 x4 x6 x8 H locs ls w hl h; exact absurd h (fun q => by cases q)
  | succ n ih => intro S x2 x3 x4 x6 x8 H locs ls w hl h; exact wb_deletes_77 C hr hk ih w hl h
set_option maxRecDepth 100000 in
set_option maxHeartbeats 4000000 in
theorem w_deletes_60  {g : Nat} {S : St} {x2 : Int32} {x3 : Int32} {x4 : Int64} {x6 : Int64} {y1 : Int32} (C : CallFix p m c cX13_deletes 9 s args tb RX13) (hr : meth.sig.returnType = none) (hk : meth.locks = false) {S' : St} (w : Wn Ym D T ρ S A s H locs) (hl : lv_has ls 9 [(0, .ref (ρ 0)), (2, .int x2), (3, .int x3), (4, .long x4), (6, .long x6)]) (h : m_deletes_60 g S x2 x3 x4 x6 y1 = some S') : W p l e (rmN 1 25) s m args below meth c H locs 0 0 (MQ below (Qv Ym D T ρ A S') args s 0 0 A) (F0 m 60 ls [.int y1, .ref (ρ 0)]) := by
  unfold m_deletes_60 at h
  refine lv_iconst (v := 1) C.1 C.2.1 dX13_deletes_60 (by decide) ?_
  obtain ⟨S_6, hS_6, h⟩ := bnd h
  refine x_callVv (q := (RX13, TX13, 68)) (As := [.int y1, .int (1 : Int32)]) (rest := []) C w (k_refuse l D T ρ g H.size S hS_6) vM466 ⟨by decide, by decide⟩ obM (by decide) rfl rfl rfl hl.1 (Nat.le_of_ble_eq_true rfl) ⟨Nat.zero_le _, Nat.zero_le _⟩ dX13_deletes_61 (fun H locs w => ?_)
  refine lv_aload_n C.1 C.2.1 dX13_deletes_64 rfl (lv_at hl 0 rfl) ?_
  refine x_getI C w fM398 obM dX13_deletes_65 ?_
  refine lv_if_eq (tgt := 72) C.1 C.2.1 dX13_deletes_68 (by decide) (fun hc => ?_) (fun hc => ?_)
  · replace h := ift hc h
    refine lv_lload C.1 C.2.1 dX13_deletes_72 (lv_at hl 4 rfl) ?_
    refine lv_l2i C.1 C.2.1 dX13_deletes_74 rfl ?_
    obtain ⟨x8_7, ex8_7, h⟩ := lt_e h
    refine x_nm ex8_7 ?_
    refine lv_istore (lv' := [(8, .int x8_7), (0, .ref (ρ 0)), (2, .int x2), (3, .int x3), (4, .long x4), (6, .long x6)]) C.1 C.2.1 dX13_deletes_75 hl (by decide) rfl (fun ls hl => ?_)
    exact w_deletes_77 C hr hk g _ _ _ _ _ _ _ _ _ w (lv_sub hl [1, 2, 3, 4, 5, 0] rfl) h
  · replace h := iff0 hc h
    obtain rfl := som h
    exact x_vret C w hr hk dX13_deletes_71
set_option maxRecDepth 100000 in
set_option maxHeartbeats 4000000 in
theorem w_deletes_41  {g : Nat} {S : St} {x2 : Int32} {x3 : Int32} {x4 : Int64} {y0 : Int64} (C : CallFix p m c cX13_deletes 9 s args tb RX13) (hr : meth.sig.returnType = none) (hk : meth.locks = false) {S' : St} (w : Wn Ym D T ρ S A s H locs) (hl : lv_has ls 9 [(0, .ref (ρ 0)), (2, .int x2), (3, .int x3), (4, .long x4)]) (h : m_deletes_41 g S x2 x3 x4 y0 = some S') : W p l e (rmN 1 25) s m args below meth c H locs 0 0 (MQ below (Qv Ym D T ρ A S') args s 0 0 A) (F0 m 41 ls [.long y0]) := by
  unfold m_deletes_41 at h
  refine lv_lstore (lv' := [(6, .long y0), (0, .ref (ρ 0)), (2, .int x2), (3, .int x3), (4, .long x4)]) C.1 C.2.1 dX13_deletes_41 hl (by decide) rfl (fun ls hl => ?_)
  refine lv_aload_n C.1 C.2.1 dX13_deletes_43 rfl (lv_at hl 1 rfl) ?_
  refine lv_lload C.1 C.2.1 dX13_deletes_44 (lv_at hl 4 rfl) ?_
  refine lv_lconst (v := 0) C.1 C.2.1 dX13_deletes_46 (by decide) ?_
  refine lv_lload C.1 C.2.1 dX13_deletes_47 (lv_at hl 0 rfl) ?_
  obtain ⟨v_5, hv_5, h⟩ := bnd h
  refine x_callSi (As := [.long x4, .long (0 : Int64), .long y0]) (rest := [.ref (ρ 0)]) C w (k_isIn l D T ρ g H.size S hv_5) vM318 ⟨by decide, by decide⟩ rfl rfl hl.1 (Nat.le_of_ble_eq_true rfl) ⟨Nat.zero_le _, Nat.zero_le _⟩ dX13_deletes_49 (fun H locs w => ?_)
  refine lv_if_ne (tgt := 59) C.1 C.2.1 dX13_deletes_52 (by decide) (fun hc => ?_) (fun hc => ?_)
  · replace h := iff0 hc h
    refine lv_iconst (v := 0) C.1 C.2.1 dX13_deletes_59 (by decide) ?_
    exact w_deletes_60 C hr hk w (lv_sub hl [1, 2, 3, 4, 0] rfl) h
  · replace h := ift hc h
    refine lv_iconst (v := 1) C.1 C.2.1 dX13_deletes_55 (by decide) ?_
    refine lv_goto (tgt := 60) C.1 C.2.1 dX13_deletes_56 (by decide) ?_
    exact w_deletes_60 C hr hk w (lv_sub hl [1, 2, 3, 4, 0] rfl) h
set_option maxRecDepth 100000 in
set_option maxHeartbeats 4000000 in
theorem w_deletes_0  {g : Nat} {S : St} {x1 : Int32} {x2 : Int32} (C : CallFix p m c cX13_deletes 9 s args tb RX13) (hr : meth.sig.returnType = none) (hk : meth.locks = false) {S' : St} (w : Wn Ym D T ρ S A s H locs) (hl : lv_has ls 9 [(0, .ref (ρ 0)), (1, .int x1), (2, .int x2)]) (h : m_deletes g S x1 x2 = some S') : W p l e (rmN 1 25) s m args below meth c H locs 0 0 (MQ below (Qv Ym D T ρ A S') args s 0 0 A) (F0 m 0 ls []) := by
  unfold m_deletes at h
  refine lv_aload_n C.1 C.2.1 dX13_deletes_0 rfl (lv_at hl 0 rfl) ?_
  refine x_getC C w 28 fM205 obM rfl dX13_deletes_1 ?_
  refine lv_iload_n C.1 C.2.1 dX13_deletes_4 rfl (lv_at hl 2 rfl) ?_
  obtain ⟨v_1, hv_1, h⟩ := bnd h
  refine x_iald C w obM28 hv_1 dX13_deletes_5 ?_
  refine lv_istore_n (lv' := [(3, .int v_1), (0, .ref (ρ 0)), (1, .int x1), (2, .int x2)]) C.1 C.2.1 dX13_deletes_6 rfl hl (by decide) rfl (fun ls hl => ?_)
  refine lv_aload_n C.1 C.2.1 dX13_deletes_7 rfl (lv_at hl 1 rfl) ?_
  refine lv_iload_n C.1 C.2.1 dX13_deletes_8 rfl (lv_at hl 2 rfl) ?_
  refine lv_iconst (v := 1) C.1 C.2.1 dX13_deletes_9 (by decide) ?_
  refine lv_iadd C.1 C.2.1 dX13_deletes_10 ?_
  obtain ⟨v_2, hv_2, h⟩ := bnd h
  refine x_callVj (q := (RX13, TX13, 68)) (As := [.int (x1 + (1 : Int32))]) (rest := []) C w (k_value l D T ρ g H.size S hv_2) vM459 ⟨by decide, by decide⟩ obM (by decide) rfl rfl rfl hl.1 (Nat.le_of_ble_eq_true rfl) ⟨Nat.zero_le _, Nat.zero_le _⟩ dX13_deletes_11 (fun H locs w => ?_)
  refine lv_lstore (lv' := [(4, .long v_2), (3, .int v_1), (0, .ref (ρ 0)), (1, .int x1), (2, .int x2)]) C.1 C.2.1 dX13_deletes_14 hl (by decide) rfl (fun ls hl => ?_)
  refine lv_aload_n C.1 C.2.1 dX13_deletes_16 rfl (lv_at hl 2 rfl) ?_
  refine lv_iload_n C.1 C.2.1 dX13_deletes_17 rfl (lv_at hl 3 rfl) ?_
  refine lv_iconst (v := 2) C.1 C.2.1 dX13_deletes_18 (by decide) ?_
  refine lv_iadd C.1 C.2.1 dX13_deletes_19 ?_
  obtain ⟨v_3, hv_3, h⟩ := bnd h
  refine x_callVj (q := (RX13, TX13, 68)) (As := [.int (x1 + (2 : Int32))]) (rest := []) C w (k_value l D T ρ g H.size S hv_3) vM459 ⟨by decide, by decide⟩ obM (by decide) rfl rfl rfl hl.1 (Nat.le_of_ble_eq_true rfl) ⟨Nat.zero_le _, Nat.zero_le _⟩ dX13_deletes_20 (fun H locs w => ?_)
  refine lv_iload_n C.1 C.2.1 dX13_deletes_23 rfl (lv_at hl 1 rfl) ?_
  refine lv_i2l C.1 C.2.1 dX13_deletes_24 rfl ?_
  refine x_l_le (tgt := 34) C dX13_deletes_25 dX13_deletes_26 (by decide) (fun hc => ?_) (fun hc => ?_)
  · replace h := iff0 hc h
    refine lv_aload_n C.1 C.2.1 dX13_deletes_34 rfl (lv_at hl 2 rfl) ?_
    refine lv_iload_n C.1 C.2.1 dX13_deletes_35 rfl (lv_at hl 3 rfl) ?_
    refine lv_iconst (v := 2) C.1 C.2.1 dX13_deletes_36 (by decide) ?_
    refine lv_iadd C.1 C.2.1 dX13_deletes_37 ?_
    obtain ⟨v_4, hv_4, h⟩ := bnd h
    refine x_callVj (q := (RX13, TX13, 68)) (As := [.int (x1 + (2 : Int32))]) (rest := []) C w (k_value l D T ρ g H.size S hv_4) vM459 ⟨by decide, by decide⟩ obM (by decide) rfl rfl rfl hl.1 (Nat.le_of_ble_eq_true rfl) ⟨Nat.zero_le _, Nat.zero_le _⟩ dX13_deletes_38 (fun H locs w => ?_)
    exact w_deletes_41 C hr hk w (lv_sub hl [2, 4, 1, 0] rfl) h
  · replace h := ift hc h
    refine lv_iload_n C.1 C.2.1 dX13_deletes_29 rfl (lv_at hl 1 rfl) ?_
    refine lv_i2l C.1 C.2.1 dX13_deletes_30 rfl ?_
    refine lv_goto (tgt := 41) C.1 C.2.1 dX13_deletes_31 (by decide) ?_
    exact w_deletes_41 C hr hk w (lv_sub hl [2, 4, 1, 0] rfl) h
end S_deletes
set_option maxRecDepth 100000 in
theorem k_deletes (l : Launch) (D : va_G) (T : Cy) (ρ : Nat → Nat) (g sz : Nat) (S : St) {x1 : Int32} {x2 : Int32} {S' : St} (h : m_deletes g S x1 x2 = some S') : Mv l Ym D T ρ yX13_deletes cX13_deletes 9 none 1 25 S S' [.ref (ρ 0), .int x1, .int x2] sz :=
  x_in (by decide) (Nat.le_of_ble_eq_true rfl) (fun p e s m below meth c ls C hr hk w hl => w_deletes_0 C hr hk w hl h)

theorem dX13_emitBuilder_0 : decode cX13_emitBuilder 0 = .ok (.iload_n 2, 1) := by decide +kernel
theorem dX13_emitBuilder_1 : decode cX13_emitBuilder 1 = .ok (.istore 4, 2) := by decide +kernel
theorem dX13_emitBuilder_3 : decode cX13_emitBuilder 3 = .ok (.iload 4, 2) := by decide +kernel
theorem dX13_emitBuilder_5 : decode cX13_emitBuilder 5 = .ok (.iload_n 3, 1) := by decide +kernel
theorem dX13_emitBuilder_6 : decode cX13_emitBuilder 6 = .ok (.if_icmp .ge 26, 3) := by decide +kernel
theorem dX13_emitBuilder_9 : decode cX13_emitBuilder 9 = .ok (.aload_n 0, 1) := by decide +kernel
theorem dX13_emitBuilder_10 : decode cX13_emitBuilder 10 = .ok (.aload_n 0, 1) := by decide +kernel
theorem dX13_emitBuilder_11 : decode cX13_emitBuilder 11 = .ok (.getfield 211, 3) := by decide +kernel
theorem dX13_emitBuilder_14 : decode cX13_emitBuilder 14 = .ok (.sipush 400, 3) := by decide +kernel
theorem dX13_emitBuilder_17 : decode cX13_emitBuilder 17 = .ok (.iload_n 1, 1) := by decide +kernel
theorem dX13_emitBuilder_18 : decode cX13_emitBuilder 18 = .ok (.imul, 1) := by decide +kernel
theorem dX13_emitBuilder_19 : decode cX13_emitBuilder 19 = .ok (.iload 4, 2) := by decide +kernel
theorem dX13_emitBuilder_21 : decode cX13_emitBuilder 21 = .ok (.iadd, 1) := by decide +kernel
theorem dX13_emitBuilder_22 : decode cX13_emitBuilder 22 = .ok (.iaload, 1) := by decide +kernel
theorem dX13_emitBuilder_23 : decode cX13_emitBuilder 23 = .ok (.invokevirtual 437, 3) := by decide +kernel
theorem dX13_emitBuilder_26 : decode cX13_emitBuilder 26 = .ok (.iinc 4 1, 3) := by decide +kernel
theorem dX13_emitBuilder_29 : decode cX13_emitBuilder 29 = .ok (.goto (-26), 3) := by decide +kernel
theorem dX13_emitBuilder_32 : decode cX13_emitBuilder 32 = .ok (.return_, 1) := by decide +kernel
def b_emitBuilder_3 (g : Nat) (k3 : St → Int32 → Int32 → Int32 → Option St) (S : St) (x1 : Int32) (x3 : Int32) (x4 : Int32) : Option St :=
if x3 ≤ x4 then (
  some S
) else (
  (aI S 30 (((400 : Int32) * x1) + x4)).bind fun v_1 =>
  (m_emit g S v_1).bind fun S_2 =>
  lt (x4 + (1 : Int32)) fun x4_3 =>
  k3 S_2 x1 x3 x4_3
)
def m_emitBuilder_3 (g : Nat) : Nat → St → Int32 → Int32 → Int32 → Option St
  | 0, _, _, _, _ => none
  | n + 1, S, x1, x3, x4 => b_emitBuilder_3 g (m_emitBuilder_3 g n) S x1 x3 x4
def m_emitBuilder (g : Nat) (S : St) (x1 : Int32) (x2 : Int32) (x3 : Int32) : Option St :=
m_emitBuilder_3 g g S x1 x3 x2
section S_emitBuilder
variable {p : Program} {l : Launch} {e : Env} {s : State} {m : MethodId} {args : Array Value} {below : List Frame} {meth : Method} {c : Code} {H : Heap} {locs : List Loc} {ls : Array Slot} {D : va_G} {T : Cy} {ρ : Nat → Nat} {A : Nat → Prop}
set_option maxRecDepth 100000 in
set_option maxHeartbeats 4000000 in
theorem wb_emitBuilder_3  {g : Nat} {S : St} {x1 : Int32} {x3 : Int32} {x4 : Int32} (C : CallFix p m c cX13_emitBuilder 5 s args tb RX13) (hr : meth.sig.returnType = none) (hk : meth.locks = false) {S' : St} {k3 : St → Int32 → Int32 → Int32 → Option St} (kk3 : ∀ (S : St) (x1 : Int32) (x3 : Int32) (x4 : Int32) (H : Heap) (locs : List Loc) (ls : Array Slot), Wn Ym D T ρ S A s H locs → lv_has ls 5 [(0, .ref (ρ 0)), (1, .int x1), (3, .int x3), (4, .int x4)] → k3 S x1 x3 x4 = some S' → W p l e (rmN 1 21) s m args below meth c H locs 0 0 (MQ below (Qv Ym D T ρ A S') args s 0 0 A) (F0 m 3 ls [])) (w : Wn Ym D T ρ S A s H locs) (hl : lv_has ls 5 [(0, .ref (ρ 0)), (1, .int x1), (3, .int x3), (4, .int x4)]) (h : b_emitBuilder_3 g k3 S x1 x3 x4 = some S') : W p l e (rmN 1 21) s m args below meth c H locs 0 0 (MQ below (Qv Ym D T ρ A S') args s 0 0 A) (F0 m 3 ls []) := by
  unfold b_emitBuilder_3 at h
  refine lv_iload C.1 C.2.1 dX13_emitBuilder_3 (lv_at hl 3 rfl) ?_
  refine lv_iload_n C.1 C.2.1 dX13_emitBuilder_5 rfl (lv_at hl 2 rfl) ?_
  refine lv_icmp_ge (tgt := 32) C.1 C.2.1 dX13_emitBuilder_6 (by decide) (fun hc => ?_) (fun hc => ?_)
  · replace h := ift hc h
    obtain rfl := som h
    exact x_vret C w hr hk dX13_emitBuilder_32
  · replace h := iff0 hc h
    refine lv_aload_n C.1 C.2.1 dX13_emitBuilder_9 rfl (lv_at hl 0 rfl) ?_
    refine lv_aload_n C.1 C.2.1 dX13_emitBuilder_10 rfl (lv_at hl 0 rfl) ?_
    refine x_getC C w 30 fM211 obM rfl dX13_emitBuilder_11 ?_
    refine lv_sipush (v := 400) C.1 C.2.1 dX13_emitBuilder_14 (by decide) ?_
    refine lv_iload_n C.1 C.2.1 dX13_emitBuilder_17 rfl (lv_at hl 1 rfl) ?_
    refine lv_imul C.1 C.2.1 dX13_emitBuilder_18 ?_
    refine lv_iload C.1 C.2.1 dX13_emitBuilder_19 (lv_at hl 3 rfl) ?_
    refine lv_iadd C.1 C.2.1 dX13_emitBuilder_21 ?_
    obtain ⟨v_1, hv_1, h⟩ := bnd h
    refine x_iald C w obM30 hv_1 dX13_emitBuilder_22 ?_
    obtain ⟨S_2, hS_2, h⟩ := bnd h
    refine x_callVv (q := (RX13, TX13, 68)) (As := [.int v_1]) (rest := []) C w (k_emit l D T ρ g H.size S hS_2) vM437 ⟨by decide, by decide⟩ obM (by decide) rfl rfl rfl hl.1 (Nat.le_of_ble_eq_true rfl) ⟨Nat.zero_le _, Nat.zero_le _⟩ dX13_emitBuilder_23 (fun H locs w => ?_)
    obtain ⟨x4_3, ex4_3, h⟩ := lt_e h
    refine lv_iinc (v := x4_3) (lv' := [(4, .int x4_3), (0, .ref (ρ 0)), (1, .int x1), (3, .int x3)]) C.1 C.2.1 dX13_emitBuilder_26 hl (k := 3) rfl (by rw [ex4_3]; rfl) (by decide) rfl (fun ls hl => ?_)
    refine lv_goto (tgt := 3) C.1 C.2.1 dX13_emitBuilder_29 (by decide) ?_
    exact kk3 _ _ _ _ _ _ _ w (lv_sub hl [1, 2, 3, 0] rfl) h
theorem w_emitBuilder_3 {g : Nat} (C : CallFix p m c cX13_emitBuilder 5 s args tb RX13) (hr : meth.sig.returnType = none) (hk : meth.locks = false) {S' : St} (n : Nat) : ∀ (S : St) (x1 : Int32) (x3 : Int32) (x4 : Int32) (H : Heap) (locs : List Loc) (ls : Array Slot), Wn Ym D T ρ S A s H locs → lv_has ls 5 [(0, .ref (ρ 0)), (1, .int x1), (3, .int x3), (4, .int x4)] → m_emitBuilder_3 g n S x1 x3 x4 = some S' → W p l e (rmN 1 21) s m args below meth c H locs 0 0 (MQ below (Qv Ym D T ρ A S') args s 0 0 A) (F0 m 3 ls []) := by
  induction n with
  | zero => intro S x1 x3 x4 H locs ls w hl h; exact absurd h (fun q => by cases q)
  | succ n ih => intro S x1 x3 x4 H locs ls w hl h; exact wb_emitBuilder_3 C hr hk ih w hl h
set_option maxRecDepth 100000 in
set_option maxHeartbeats 4000000 in
theorem w_emitBuilder_0  {g : Nat} {S : St} {x1 : Int32} {x2 : Int32} {x3 : Int32} (C : CallFix p m c cX13_emitBuilder 5 s args tb RX13) (hr : meth.sig.returnType = none) (hk : meth.locks = false) {S' : St} (w : Wn Ym D T ρ S A s H locs) (hl : lv_has ls 5 [(0, .ref (ρ 0)), (1, .int x1), (2, .int x2), (3, .int x3)]) (h : m_emitBuilder g S x1 x2 x3 = some S') : W p l e (rmN 1 21) s m args below meth c H locs 0 0 (MQ below (Qv Ym D T ρ A S') args s 0 0 A) (F0 m 0 ls []) := by
  unfold m_emitBuilder at h
  refine lv_iload_n C.1 C.2.1 dX13_emitBuilder_0 rfl (lv_at hl 2 rfl) ?_
  refine lv_istore (lv' := [(4, .int x2), (0, .ref (ρ 0)), (1, .int x1), (2, .int x2), (3, .int x3)]) C.1 C.2.1 dX13_emitBuilder_1 hl (by decide) rfl (fun ls hl => ?_)
  exact w_emitBuilder_3 C hr hk g _ _ _ _ _ _ _ w (lv_sub hl [1, 2, 4, 0] rfl) h
end S_emitBuilder
set_option maxRecDepth 100000 in
theorem k_emitBuilder (l : Launch) (D : va_G) (T : Cy) (ρ : Nat → Nat) (g sz : Nat) (S : St) {x1 : Int32} {x2 : Int32} {x3 : Int32} {S' : St} (h : m_emitBuilder g S x1 x2 x3 = some S') : Mv l Ym D T ρ yX13_emitBuilder cX13_emitBuilder 5 none 1 21 S S' [.ref (ρ 0), .int x1, .int x2, .int x3] sz :=
  x_in (by decide) (Nat.le_of_ble_eq_true rfl) (fun p e s m below meth c ls C hr hk w hl => w_emitBuilder_0 C hr hk w hl h)

theorem dX13_checkRoom_0 : decode cX13_checkRoom 0 = .ok (.aload_n 0, 1) := by decide +kernel
theorem dX13_checkRoom_1 : decode cX13_checkRoom 1 = .ok (.aload_n 0, 1) := by decide +kernel
theorem dX13_checkRoom_2 : decode cX13_checkRoom 2 = .ok (.getfield 395, 3) := by decide +kernel
theorem dX13_checkRoom_5 : decode cX13_checkRoom 5 = .ok (.sipush 400, 3) := by decide +kernel
theorem dX13_checkRoom_8 : decode cX13_checkRoom 8 = .ok (.if_icmp .le 7, 3) := by decide +kernel
theorem dX13_checkRoom_11 : decode cX13_checkRoom 11 = .ok (.iconst 1, 1) := by decide +kernel
theorem dX13_checkRoom_12 : decode cX13_checkRoom 12 = .ok (.goto 4, 3) := by decide +kernel
theorem dX13_checkRoom_15 : decode cX13_checkRoom 15 = .ok (.iconst 0, 1) := by decide +kernel
theorem dX13_checkRoom_16 : decode cX13_checkRoom 16 = .ok (.iconst 5, 1) := by decide +kernel
theorem dX13_checkRoom_17 : decode cX13_checkRoom 17 = .ok (.invokevirtual 466, 3) := by decide +kernel
theorem dX13_checkRoom_20 : decode cX13_checkRoom 20 = .ok (.return_, 1) := by decide +kernel
def m_checkRoom_16 (g : Nat) (S : St) (y1 : Int32) : Option St :=
(m_refuse g S y1 (5 : Int32)).bind fun S_1 =>
some S_1
def m_checkRoom (g : Nat) (S : St) : Option St :=
if (gI S 0 57) ≤ (400 : Int32) then (
  m_checkRoom_16 g S (0 : Int32)
) else (
  m_checkRoom_16 g S (1 : Int32)
)
section S_checkRoom
variable {p : Program} {l : Launch} {e : Env} {s : State} {m : MethodId} {args : Array Value} {below : List Frame} {meth : Method} {c : Code} {H : Heap} {locs : List Loc} {ls : Array Slot} {D : va_G} {T : Cy} {ρ : Nat → Nat} {A : Nat → Prop}
set_option maxRecDepth 100000 in
set_option maxHeartbeats 4000000 in
theorem w_checkRoom_16  {g : Nat} {S : St} {y1 : Int32} (C : CallFix p m c cX13_checkRoom 1 s args tb RX13) (hr : meth.sig.returnType = none) (hk : meth.locks = false) {S' : St} (w : Wn Ym D T ρ S A s H locs) (hl : lv_has ls 1 []) (h : m_checkRoom_16 g S y1 = some S') : W p l e (rmN 1 22) s m args below meth c H locs 0 0 (MQ below (Qv Ym D T ρ A S') args s 0 0 A) (F0 m 16 ls [.int y1, .ref (ρ 0)]) := by
  unfold m_checkRoom_16 at h
  refine lv_iconst (v := 5) C.1 C.2.1 dX13_checkRoom_16 (by decide) ?_
  obtain ⟨S_1, hS_1, h⟩ := bnd h
  refine x_callVv (q := (RX13, TX13, 68)) (As := [.int y1, .int (5 : Int32)]) (rest := []) C w (k_refuse l D T ρ g H.size S hS_1) vM466 ⟨by decide, by decide⟩ obM (by decide) rfl rfl rfl hl.1 (Nat.le_of_ble_eq_true rfl) ⟨Nat.zero_le _, Nat.zero_le _⟩ dX13_checkRoom_17 (fun H locs w => ?_)
  obtain rfl := som h
  exact x_vret C w hr hk dX13_checkRoom_20
set_option maxRecDepth 100000 in
set_option maxHeartbeats 4000000 in
theorem w_checkRoom_0  {g : Nat} {S : St} (C : CallFix p m c cX13_checkRoom 1 s args tb RX13) (hr : meth.sig.returnType = none) (hk : meth.locks = false) {S' : St} (w : Wn Ym D T ρ S A s H locs) (hl : lv_has ls 1 [(0, .ref (ρ 0))]) (h : m_checkRoom g S = some S') : W p l e (rmN 1 22) s m args below meth c H locs 0 0 (MQ below (Qv Ym D T ρ A S') args s 0 0 A) (F0 m 0 ls []) := by
  unfold m_checkRoom at h
  refine lv_aload_n C.1 C.2.1 dX13_checkRoom_0 rfl (lv_at hl 0 rfl) ?_
  refine lv_aload_n C.1 C.2.1 dX13_checkRoom_1 rfl (lv_at hl 0 rfl) ?_
  refine x_getI C w fM395 obM dX13_checkRoom_2 ?_
  refine lv_sipush (v := 400) C.1 C.2.1 dX13_checkRoom_5 (by decide) ?_
  refine lv_icmp_le (tgt := 15) C.1 C.2.1 dX13_checkRoom_8 (by decide) (fun hc => ?_) (fun hc => ?_)
  · replace h := ift hc h
    refine lv_iconst (v := 0) C.1 C.2.1 dX13_checkRoom_15 (by decide) ?_
    exact w_checkRoom_16 C hr hk w (lv_sub hl [] rfl) h
  · replace h := iff0 hc h
    refine lv_iconst (v := 1) C.1 C.2.1 dX13_checkRoom_11 (by decide) ?_
    refine lv_goto (tgt := 16) C.1 C.2.1 dX13_checkRoom_12 (by decide) ?_
    exact w_checkRoom_16 C hr hk w (lv_sub hl [] rfl) h
end S_checkRoom
set_option maxRecDepth 100000 in
theorem k_checkRoom (l : Launch) (D : va_G) (T : Cy) (ρ : Nat → Nat) (g sz : Nat) (S : St) {S' : St} (h : m_checkRoom g S = some S') : Mv l Ym D T ρ yX13_checkRoom cX13_checkRoom 1 none 1 22 S S' [.ref (ρ 0)] sz :=
  x_in (by decide) (Nat.le_of_ble_eq_true rfl) (fun p e s m below meth c ls C hr hk w hl => w_checkRoom_0 C hr hk w hl h)

theorem dX13_givesUnits_0 : decode cX13_givesUnits 0 = .ok (.aload_n 0, 1) := by decide +kernel
theorem dX13_givesUnits_1 : decode cX13_givesUnits 1 = .ok (.invokevirtual 525, 3) := by decide +kernel
theorem dX13_givesUnits_4 : decode cX13_givesUnits 4 = .ok (.aload_n 0, 1) := by decide +kernel
theorem dX13_givesUnits_5 : decode cX13_givesUnits 5 = .ok (.getfield 398, 3) := by decide +kernel
theorem dX13_givesUnits_8 : decode cX13_givesUnits 8 = .ok (.ifCond .ne 19, 3) := by decide +kernel
theorem dX13_givesUnits_11 : decode cX13_givesUnits 11 = .ok (.aload_n 0, 1) := by decide +kernel
theorem dX13_givesUnits_12 : decode cX13_givesUnits 12 = .ok (.getfield 199, 3) := by decide +kernel
theorem dX13_givesUnits_15 : decode cX13_givesUnits 15 = .ok (.aload_n 0, 1) := by decide +kernel
theorem dX13_givesUnits_16 : decode cX13_givesUnits 16 = .ok (.getfield 150, 3) := by decide +kernel
theorem dX13_givesUnits_19 : decode cX13_givesUnits 19 = .ok (.iload_n 1, 1) := by decide +kernel
theorem dX13_givesUnits_20 : decode cX13_givesUnits 20 = .ok (.laload, 1) := by decide +kernel
theorem dX13_givesUnits_21 : decode cX13_givesUnits 21 = .ok (.l2i, 1) := by decide +kernel
theorem dX13_givesUnits_22 : decode cX13_givesUnits 22 = .ok (.aload_n 0, 1) := by decide +kernel
theorem dX13_givesUnits_23 : decode cX13_givesUnits 23 = .ok (.invokevirtual 440, 3) := by decide +kernel
theorem dX13_givesUnits_26 : decode cX13_givesUnits 26 = .ok (.iastore, 1) := by decide +kernel
theorem dX13_givesUnits_27 : decode cX13_givesUnits 27 = .ok (.return_, 1) := by decide +kernel
def m_givesUnits (g : Nat) (S : St) (x1 : Int32) : Option St :=
(m_checkRoom g S).bind fun S_1 =>
if (gI S_1 0 58) = 0 then (
  (aJ S_1 10 x1).bind fun v_2 =>
  (m_became g S_1).bind fun (S_3, v_4) =>
  (tI S_3 26 (v_2.toInt32) v_4).bind fun S_5 =>
  some S_5
) else (
  some S_1
)
section S_givesUnits
variable {p : Program} {l : Launch} {e : Env} {s : State} {m : MethodId} {args : Array Value} {below : List Frame} {meth : Method} {c : Code} {H : Heap} {locs : List Loc} {ls : Array Slot} {D : va_G} {T : Cy} {ρ : Nat → Nat} {A : Nat → Prop}
set_option maxRecDepth 100000 in
set_option maxHeartbeats 4000000 in
theorem w_givesUnits_0  {g : Nat} {S : St} {x1 : Int32} (C : CallFix p m c cX13_givesUnits 2 s args tb RX13) (hr : meth.sig.returnType = none) (hk : meth.locks = false) {S' : St} (w : Wn Ym D T ρ S A s H locs) (hl : lv_has ls 2 [(0, .ref (ρ 0)), (1, .int x1)]) (h : m_givesUnits g S x1 = some S') : W p l e (rmN 2 42) s m args below meth c H locs 0 0 (MQ below (Qv Ym D T ρ A S') args s 0 0 A) (F0 m 0 ls []) := by
  unfold m_givesUnits at h
  refine lv_aload_n C.1 C.2.1 dX13_givesUnits_0 rfl (lv_at hl 0 rfl) ?_
  obtain ⟨S_1, hS_1, h⟩ := bnd h
  refine x_callVv (q := (RX13, TX13, 68)) (As := []) (rest := []) C w (k_checkRoom l D T ρ g H.size S hS_1) vM525 ⟨by decide, by decide⟩ obM (by decide) rfl rfl rfl hl.1 (Nat.le_of_ble_eq_true rfl) ⟨Nat.zero_le _, Nat.zero_le _⟩ dX13_givesUnits_1 (fun H locs w => ?_)
  refine lv_aload_n C.1 C.2.1 dX13_givesUnits_4 rfl (lv_at hl 0 rfl) ?_
  refine x_getI C w fM398 obM dX13_givesUnits_5 ?_
  refine lv_if_ne (tgt := 27) C.1 C.2.1 dX13_givesUnits_8 (by decide) (fun hc => ?_) (fun hc => ?_)
  · replace h := iff0 hc h
    obtain rfl := som h
    exact x_vret C w hr hk dX13_givesUnits_27
  · replace h := ift hc h
    refine lv_aload_n C.1 C.2.1 dX13_givesUnits_11 rfl (lv_at hl 0 rfl) ?_
    refine x_getC C w 26 fM199 obM rfl dX13_givesUnits_12 ?_
    refine lv_aload_n C.1 C.2.1 dX13_givesUnits_15 rfl (lv_at hl 0 rfl) ?_
    refine x_getC C w 10 fM150 obM rfl dX13_givesUnits_16 ?_
    refine lv_iload_n C.1 C.2.1 dX13_givesUnits_19 rfl (lv_at hl 1 rfl) ?_
    obtain ⟨v_2, hv_2, h⟩ := bnd h
    refine x_lald C w obM10 hv_2 dX13_givesUnits_20 ?_
    refine lv_l2i C.1 C.2.1 dX13_givesUnits_21 rfl ?_
    refine lv_aload_n C.1 C.2.1 dX13_givesUnits_22 rfl (lv_at hl 0 rfl) ?_
    obtain ⟨⟨S_3, v_4⟩, hv_4, h⟩ := bnd h
    refine x_callVi (q := (RX13, TX13, 68)) (As := []) (rest := [.int (v_2.toInt32), .ref (ρ 26)]) C w (k_became l D T ρ g H.size S_1 hv_4) vM440 ⟨by decide, by decide⟩ obM (by decide) rfl rfl rfl hl.1 (Nat.le_of_ble_eq_true rfl) ⟨Nat.zero_le _, Nat.zero_le _⟩ dX13_givesUnits_23 (fun H locs w => ?_)
    obtain ⟨S_5, hS_5, h⟩ := bnd h
    refine x_iast C w obM26 hS_5 dX13_givesUnits_26 (fun H locs w => ?_)
    obtain rfl := som h
    exact x_vret C w hr hk dX13_givesUnits_27
end S_givesUnits
set_option maxRecDepth 100000 in
theorem k_givesUnits (l : Launch) (D : va_G) (T : Cy) (ρ : Nat → Nat) (g sz : Nat) (S : St) {x1 : Int32} {S' : St} (h : m_givesUnits g S x1 = some S') : Mv l Ym D T ρ yX13_givesUnits cX13_givesUnits 2 none 2 42 S S' [.ref (ρ 0), .int x1] sz :=
  x_in (by decide) (Nat.le_of_ble_eq_true rfl) (fun p e s m below meth c ls C hr hk w hl => w_givesUnits_0 C hr hk w hl h)

theorem dX13_givesWhole_0 : decode cX13_givesWhole 0 = .ok (.aload_n 0, 1) := by decide +kernel
theorem dX13_givesWhole_1 : decode cX13_givesWhole 1 = .ok (.getfield 398, 3) := by decide +kernel
theorem dX13_givesWhole_4 : decode cX13_givesWhole 4 = .ok (.ifCond .ne 16, 3) := by decide +kernel
theorem dX13_givesWhole_7 : decode cX13_givesWhole 7 = .ok (.aload_n 0, 1) := by decide +kernel
theorem dX13_givesWhole_8 : decode cX13_givesWhole 8 = .ok (.getfield 217, 3) := by decide +kernel
theorem dX13_givesWhole_11 : decode cX13_givesWhole 11 = .ok (.aload_n 0, 1) := by decide +kernel
theorem dX13_givesWhole_12 : decode cX13_givesWhole 12 = .ok (.getfield 150, 3) := by decide +kernel
theorem dX13_givesWhole_15 : decode cX13_givesWhole 15 = .ok (.iload_n 1, 1) := by decide +kernel
theorem dX13_givesWhole_16 : decode cX13_givesWhole 16 = .ok (.laload, 1) := by decide +kernel
theorem dX13_givesWhole_17 : decode cX13_givesWhole 17 = .ok (.l2i, 1) := by decide +kernel
theorem dX13_givesWhole_18 : decode cX13_givesWhole 18 = .ok (.lload_n 2, 1) := by decide +kernel
theorem dX13_givesWhole_19 : decode cX13_givesWhole 19 = .ok (.lastore, 1) := by decide +kernel
theorem dX13_givesWhole_20 : decode cX13_givesWhole 20 = .ok (.return_, 1) := by decide +kernel
def m_givesWhole (g : Nat) (S : St) (x1 : Int32) (x2 : Int64) : Option St :=
if (gI S 0 58) = 0 then (
  (aJ S 10 x1).bind fun v_1 =>
  (tJ S 32 (v_1.toInt32) x2).bind fun S_2 =>
  some S_2
) else (
  some S
)
section S_givesWhole
variable {p : Program} {l : Launch} {e : Env} {s : State} {m : MethodId} {args : Array Value} {below : List Frame} {meth : Method} {c : Code} {H : Heap} {locs : List Loc} {ls : Array Slot} {D : va_G} {T : Cy} {ρ : Nat → Nat} {A : Nat → Prop}
set_option maxRecDepth 100000 in
set_option maxHeartbeats 4000000 in
theorem w_givesWhole_0  {g : Nat} {S : St} {x1 : Int32} {x2 : Int64} (C : CallFix p m c cX13_givesWhole 4 s args tb RX13) (hr : meth.sig.returnType = none) (hk : meth.locks = false) {S' : St} (w : Wn Ym D T ρ S A s H locs) (hl : lv_has ls 4 [(0, .ref (ρ 0)), (1, .int x1), (2, .long x2)]) (h : m_givesWhole g S x1 x2 = some S') : W p l e (rmN 0 0) s m args below meth c H locs 0 0 (MQ below (Qv Ym D T ρ A S') args s 0 0 A) (F0 m 0 ls []) := by
  unfold m_givesWhole at h
  refine lv_aload_n C.1 C.2.1 dX13_givesWhole_0 rfl (lv_at hl 0 rfl) ?_
  refine x_getI C w fM398 obM dX13_givesWhole_1 ?_
  refine lv_if_ne (tgt := 20) C.1 C.2.1 dX13_givesWhole_4 (by decide) (fun hc => ?_) (fun hc => ?_)
  · replace h := iff0 hc h
    obtain rfl := som h
    exact x_vret C w hr hk dX13_givesWhole_20
  · replace h := ift hc h
    refine lv_aload_n C.1 C.2.1 dX13_givesWhole_7 rfl (lv_at hl 0 rfl) ?_
    refine x_getC C w 32 fM217 obM rfl dX13_givesWhole_8 ?_
    refine lv_aload_n C.1 C.2.1 dX13_givesWhole_11 rfl (lv_at hl 0 rfl) ?_
    refine x_getC C w 10 fM150 obM rfl dX13_givesWhole_12 ?_
    refine lv_iload_n C.1 C.2.1 dX13_givesWhole_15 rfl (lv_at hl 1 rfl) ?_
    obtain ⟨v_1, hv_1, h⟩ := bnd h
    refine x_lald C w obM10 hv_1 dX13_givesWhole_16 ?_
    refine lv_l2i C.1 C.2.1 dX13_givesWhole_17 rfl ?_
    refine lv_lload_n C.1 C.2.1 dX13_givesWhole_18 rfl (lv_at hl 2 rfl) ?_
    obtain ⟨S_2, hS_2, h⟩ := bnd h
    refine x_last C w obM32 hS_2 dX13_givesWhole_19 (fun H locs w => ?_)
    obtain rfl := som h
    exact x_vret C w hr hk dX13_givesWhole_20
end S_givesWhole
set_option maxRecDepth 100000 in
theorem k_givesWhole (l : Launch) (D : va_G) (T : Cy) (ρ : Nat → Nat) (g sz : Nat) (S : St) {x1 : Int32} {x2 : Int64} {S' : St} (h : m_givesWhole g S x1 x2 = some S') : Mv l Ym D T ρ yX13_givesWhole cX13_givesWhole 4 none 0 0 S S' [.ref (ρ 0), .int x1, .long x2] sz :=
  x_in (by decide) (Nat.le_of_ble_eq_true rfl) (fun p e s m below meth c ls C hr hk w hl => w_givesWhole_0 C hr hk w hl h)

theorem dX13_emitNumber_0 : decode cX13_emitNumber 0 = .ok (.iconst 0, 1) := by decide +kernel
theorem dX13_emitNumber_1 : decode cX13_emitNumber 1 = .ok (.istore 4, 2) := by decide +kernel
theorem dX13_emitNumber_3 : decode cX13_emitNumber 3 = .ok (.lload_n 1, 1) := by decide +kernel
theorem dX13_emitNumber_4 : decode cX13_emitNumber 4 = .ok (.lstore 5, 2) := by decide +kernel
theorem dX13_emitNumber_6 : decode cX13_emitNumber 6 = .ok (.iload 4, 2) := by decide +kernel
theorem dX13_emitNumber_8 : decode cX13_emitNumber 8 = .ok (.ifCond .eq 10, 3) := by decide +kernel
theorem dX13_emitNumber_11 : decode cX13_emitNumber 11 = .ok (.lload 5, 2) := by decide +kernel
theorem dX13_emitNumber_13 : decode cX13_emitNumber 13 = .ok (.lconst 0, 1) := by decide +kernel
theorem dX13_emitNumber_14 : decode cX13_emitNumber 14 = .ok (.lcmp, 1) := by decide +kernel
theorem dX13_emitNumber_15 : decode cX13_emitNumber 15 = .ok (.ifCond .eq 46, 3) := by decide +kernel
theorem dX13_emitNumber_18 : decode cX13_emitNumber 18 = .ok (.lload 5, 2) := by decide +kernel
theorem dX13_emitNumber_20 : decode cX13_emitNumber 20 = .ok (.iload_n 3, 1) := by decide +kernel
theorem dX13_emitNumber_21 : decode cX13_emitNumber 21 = .ok (.i2l, 1) := by decide +kernel
theorem dX13_emitNumber_22 : decode cX13_emitNumber 22 = .ok (.lrem, 1) := by decide +kernel
theorem dX13_emitNumber_23 : decode cX13_emitNumber 23 = .ok (.lstore 7, 2) := by decide +kernel
theorem dX13_emitNumber_25 : decode cX13_emitNumber 25 = .ok (.aload_n 0, 1) := by decide +kernel
theorem dX13_emitNumber_26 : decode cX13_emitNumber 26 = .ok (.getfield 232, 3) := by decide +kernel
theorem dX13_emitNumber_29 : decode cX13_emitNumber 29 = .ok (.iload 4, 2) := by decide +kernel
theorem dX13_emitNumber_31 : decode cX13_emitNumber 31 = .ok (.lload 7, 2) := by decide +kernel
theorem dX13_emitNumber_33 : decode cX13_emitNumber 33 = .ok (.lconst 0, 1) := by decide +kernel
theorem dX13_emitNumber_34 : decode cX13_emitNumber 34 = .ok (.lcmp, 1) := by decide +kernel
theorem dX13_emitNumber_35 : decode cX13_emitNumber 35 = .ok (.ifCond .ge 9, 3) := by decide +kernel
theorem dX13_emitNumber_38 : decode cX13_emitNumber 38 = .ok (.lload 7, 2) := by decide +kernel
theorem dX13_emitNumber_40 : decode cX13_emitNumber 40 = .ok (.lneg, 1) := by decide +kernel
theorem dX13_emitNumber_41 : decode cX13_emitNumber 41 = .ok (.goto 5, 3) := by decide +kernel
theorem dX13_emitNumber_44 : decode cX13_emitNumber 44 = .ok (.lload 7, 2) := by decide +kernel
theorem dX13_emitNumber_46 : decode cX13_emitNumber 46 = .ok (.l2i, 1) := by decide +kernel
theorem dX13_emitNumber_47 : decode cX13_emitNumber 47 = .ok (.iastore, 1) := by decide +kernel
theorem dX13_emitNumber_48 : decode cX13_emitNumber 48 = .ok (.lload 5, 2) := by decide +kernel
theorem dX13_emitNumber_50 : decode cX13_emitNumber 50 = .ok (.iload_n 3, 1) := by decide +kernel
theorem dX13_emitNumber_51 : decode cX13_emitNumber 51 = .ok (.i2l, 1) := by decide +kernel
theorem dX13_emitNumber_52 : decode cX13_emitNumber 52 = .ok (.ldiv, 1) := by decide +kernel
theorem dX13_emitNumber_53 : decode cX13_emitNumber 53 = .ok (.lstore 5, 2) := by decide +kernel
theorem dX13_emitNumber_55 : decode cX13_emitNumber 55 = .ok (.iinc 4 1, 3) := by decide +kernel
theorem dX13_emitNumber_58 : decode cX13_emitNumber 58 = .ok (.goto (-52), 3) := by decide +kernel
theorem dX13_emitNumber_61 : decode cX13_emitNumber 61 = .ok (.lload_n 1, 1) := by decide +kernel
theorem dX13_emitNumber_62 : decode cX13_emitNumber 62 = .ok (.lconst 0, 1) := by decide +kernel
theorem dX13_emitNumber_63 : decode cX13_emitNumber 63 = .ok (.lcmp, 1) := by decide +kernel
theorem dX13_emitNumber_64 : decode cX13_emitNumber 64 = .ok (.ifCond .ge 9, 3) := by decide +kernel
theorem dX13_emitNumber_67 : decode cX13_emitNumber 67 = .ok (.aload_n 0, 1) := by decide +kernel
theorem dX13_emitNumber_68 : decode cX13_emitNumber 68 = .ok (.bipush 45, 2) := by decide +kernel
theorem dX13_emitNumber_70 : decode cX13_emitNumber 70 = .ok (.invokevirtual 437, 3) := by decide +kernel
theorem dX13_emitNumber_73 : decode cX13_emitNumber 73 = .ok (.iload 4, 2) := by decide +kernel
theorem dX13_emitNumber_75 : decode cX13_emitNumber 75 = .ok (.iconst 1, 1) := by decide +kernel
theorem dX13_emitNumber_76 : decode cX13_emitNumber 76 = .ok (.isub, 1) := by decide +kernel
theorem dX13_emitNumber_77 : decode cX13_emitNumber 77 = .ok (.istore 7, 2) := by decide +kernel
theorem dX13_emitNumber_79 : decode cX13_emitNumber 79 = .ok (.iload 7, 2) := by decide +kernel
theorem dX13_emitNumber_81 : decode cX13_emitNumber 81 = .ok (.ifCond .lt 51, 3) := by decide +kernel
theorem dX13_emitNumber_84 : decode cX13_emitNumber 84 = .ok (.aload_n 0, 1) := by decide +kernel
theorem dX13_emitNumber_85 : decode cX13_emitNumber 85 = .ok (.aload_n 0, 1) := by decide +kernel
theorem dX13_emitNumber_86 : decode cX13_emitNumber 86 = .ok (.getfield 232, 3) := by decide +kernel
theorem dX13_emitNumber_89 : decode cX13_emitNumber 89 = .ok (.iload 7, 2) := by decide +kernel
theorem dX13_emitNumber_91 : decode cX13_emitNumber 91 = .ok (.iaload, 1) := by decide +kernel
theorem dX13_emitNumber_92 : decode cX13_emitNumber 92 = .ok (.bipush 10, 2) := by decide +kernel
theorem dX13_emitNumber_94 : decode cX13_emitNumber 94 = .ok (.if_icmp .ge 16, 3) := by decide +kernel
theorem dX13_emitNumber_97 : decode cX13_emitNumber 97 = .ok (.bipush 48, 2) := by decide +kernel
theorem dX13_emitNumber_99 : decode cX13_emitNumber 99 = .ok (.aload_n 0, 1) := by decide +kernel
theorem dX13_emitNumber_100 : decode cX13_emitNumber 100 = .ok (.getfield 232, 3) := by decide +kernel
theorem dX13_emitNumber_103 : decode cX13_emitNumber 103 = .ok (.iload 7, 2) := by decide +kernel
theorem dX13_emitNumber_105 : decode cX13_emitNumber 105 = .ok (.iaload, 1) := by decide +kernel
theorem dX13_emitNumber_106 : decode cX13_emitNumber 106 = .ok (.iadd, 1) := by decide +kernel
theorem dX13_emitNumber_107 : decode cX13_emitNumber 107 = .ok (.goto 16, 3) := by decide +kernel
theorem dX13_emitNumber_110 : decode cX13_emitNumber 110 = .ok (.bipush 97, 2) := by decide +kernel
theorem dX13_emitNumber_112 : decode cX13_emitNumber 112 = .ok (.aload_n 0, 1) := by decide +kernel
theorem dX13_emitNumber_113 : decode cX13_emitNumber 113 = .ok (.getfield 232, 3) := by decide +kernel
theorem dX13_emitNumber_116 : decode cX13_emitNumber 116 = .ok (.iload 7, 2) := by decide +kernel
theorem dX13_emitNumber_118 : decode cX13_emitNumber 118 = .ok (.iaload, 1) := by decide +kernel
theorem dX13_emitNumber_119 : decode cX13_emitNumber 119 = .ok (.iadd, 1) := by decide +kernel
theorem dX13_emitNumber_120 : decode cX13_emitNumber 120 = .ok (.bipush 10, 2) := by decide +kernel
theorem dX13_emitNumber_122 : decode cX13_emitNumber 122 = .ok (.isub, 1) := by decide +kernel
theorem dX13_emitNumber_123 : decode cX13_emitNumber 123 = .ok (.invokevirtual 437, 3) := by decide +kernel
theorem dX13_emitNumber_126 : decode cX13_emitNumber 126 = .ok (.iinc 7 (-1), 3) := by decide +kernel
theorem dX13_emitNumber_129 : decode cX13_emitNumber 129 = .ok (.goto (-50), 3) := by decide +kernel
theorem dX13_emitNumber_132 : decode cX13_emitNumber 132 = .ok (.return_, 1) := by decide +kernel
def m_emitNumber_46 (g : Nat) (k6 : St → Int64 → Int32 → Int32 → Int64 → Option St) (S : St) (x1 : Int64) (x3 : Int32) (x4 : Int32) (x5 : Int64) (y1 : Int32) (y2 : Int64) : Option St :=
(tI S 37 y1 (y2.toInt32)).bind fun S_3 =>
if (x3.toInt64) = 0 then none else
lt (x5 / (x3.toInt64)) fun x5_5 =>
lt (x4 + (1 : Int32)) fun x4_6 =>
k6 S_3 x1 x3 x4_6 x5_5
def m_emitNumber_18 (g : Nat) (k6 : St → Int64 → Int32 → Int32 → Int64 → Option St) (S : St) (x1 : Int64) (x3 : Int32) (x4 : Int32) (x5 : Int64) : Option St :=
if (x3.toInt64) = 0 then none else
lt (x5 - x5 / (x3.toInt64) * (x3.toInt64)) fun x7_2 =>
if x7_2 < (0 : Int64) then (
  m_emitNumber_46 g k6 S x1 x3 x4 x5 x4 (-x7_2)
) else (
  m_emitNumber_46 g k6 S x1 x3 x4 x5 x4 x7_2
)
def m_emitNumber_123 (g : Nat) (k79 : St → Int32 → Option St) (S : St) (x7 : Int32) (y1 : Int32) : Option St :=
(m_emit g S y1).bind fun S_4 =>
lt (x7 + (-1 : Int32)) fun x7_5 =>
k79 S_4 x7_5
def b_emitNumber_79 (g : Nat) (k79 : St → Int32 → Option St) (S : St) (x7 : Int32) : Option St :=
if x7 < 0 then (
  some S
) else (
  (aI S 37 x7).bind fun v_2 =>
  if (10 : Int32) ≤ v_2 then (
    (aI S 37 x7).bind fun v_3 =>
    m_emitNumber_123 g k79 S x7 (((97 : Int32) + v_3) - (10 : Int32))
  ) else (
    (aI S 37 x7).bind fun v_4 =>
    m_emitNumber_123 g k79 S x7 ((48 : Int32) + v_4)
  )
)
def m_emitNumber_79 (g : Nat) : Nat → St → Int32 → Option St
  | 0, _, _ => none
  | n + 1, S, x7 => b_emitNumber_79 g (m_emitNumber_79 g n) S x7
def b_emitNumber_6 (g : Nat) (k6 : St → Int64 → Int32 → Int32 → Int64 → Option St) (S : St) (x1 : Int64) (x3 : Int32) (x4 : Int32) (x5 : Int64) : Option St :=
if x4 = 0 then (
  m_emitNumber_18 g k6 S x1 x3 x4 x5
) else (
  if x5 = (0 : Int64) then (
    if x1 < (0 : Int64) then (
      (m_emit g S (45 : Int32)).bind fun S_2 =>
      lt (x4 - (1 : Int32)) fun x7_3 =>
      m_emitNumber_79 g g S_2 x7_3
    ) else (
      lt (x4 - (1 : Int32)) fun x7_1 =>
      m_emitNumber_79 g g S x7_1
    )
  ) else (
    m_emitNumber_18 g k6 S x1 x3 x4 x5
  )
)
def m_emitNumber_6 (g : Nat) : Nat → St → Int64 → Int32 → Int32 → Int64 → Option St
  | 0, _, _, _, _, _ => none
  | n + 1, S, x1, x3, x4, x5 => b_emitNumber_6 g (m_emitNumber_6 g n) S x1 x3 x4 x5
def m_emitNumber (g : Nat) (S : St) (x1 : Int64) (x3 : Int32) : Option St :=
m_emitNumber_6 g g S x1 x3 (0 : Int32) x1
section S_emitNumber
variable {p : Program} {l : Launch} {e : Env} {s : State} {m : MethodId} {args : Array Value} {below : List Frame} {meth : Method} {c : Code} {H : Heap} {locs : List Loc} {ls : Array Slot} {D : va_G} {T : Cy} {ρ : Nat → Nat} {A : Nat → Prop}
set_option maxRecDepth 100000 in
set_option maxHeartbeats 4000000 in
theorem w_emitNumber_46  {g : Nat} {S : St} {x1 : Int64} {x3 : Int32} {x4 : Int32} {x5 : Int64} {y1 : Int32} {y2 : Int64} (C : CallFix p m c cX13_emitNumber 9 s args tb RX13) (hr : meth.sig.returnType = none) (hk : meth.locks = false) {S' : St} {k6 : St → Int64 → Int32 → Int32 → Int64 → Option St} (kk6 : ∀ (S : St) (x1 : Int64) (x3 : Int32) (x4 : Int32) (x5 : Int64) (H : Heap) (locs : List Loc) (ls : Array Slot), Wn Ym D T ρ S A s H locs → lv_has ls 9 [(0, .ref (ρ 0)), (1, .long x1), (3, .int x3), (4, .int x4), (5, .long x5)] → k6 S x1 x3 x4 x5 = some S' → W p l e (rmN 1 21) s m args below meth c H locs 0 0 (MQ below (Qv Ym D T ρ A S') args s 0 0 A) (F0 m 6 ls [])) (w : Wn Ym D T ρ S A s H locs) (hl : lv_has ls 9 [(0, .ref (ρ 0)), (1, .long x1), (3, .int x3), (4, .int x4), (5, .long x5)]) (h : m_emitNumber_46 g k6 S x1 x3 x4 x5 y1 y2 = some S') : W p l e (rmN 1 21) s m args below meth c H locs 0 0 (MQ below (Qv Ym D T ρ A S') args s 0 0 A) (F0 m 46 ls [.long y2, .int y1, .ref (ρ 37)]) := by
  unfold m_emitNumber_46 at h
  refine lv_l2i C.1 C.2.1 dX13_emitNumber_46 rfl ?_
  obtain ⟨S_3, hS_3, h⟩ := bnd h
  refine x_iast C w obM37 hS_3 dX13_emitNumber_47 (fun H locs w => ?_)
  refine lv_lload C.1 C.2.1 dX13_emitNumber_48 (lv_at hl 4 rfl) ?_
  refine lv_iload_n C.1 C.2.1 dX13_emitNumber_50 rfl (lv_at hl 2 rfl) ?_
  refine lv_i2l C.1 C.2.1 dX13_emitNumber_51 rfl ?_
  by_cases hz_4 : (x3.toInt64) = 0
  · exact absurd (ift hz_4 h) (fun q => by cases q)
  replace h := iff0 hz_4 h
  refine lv_ldiv C.1 C.2.1 dX13_emitNumber_52 hz_4 ?_
  obtain ⟨x5_5, ex5_5, h⟩ := lt_e h
  refine x_nmL ex5_5 ?_
  refine lv_lstore (lv' := [(5, .long x5_5), (0, .ref (ρ 0)), (1, .long x1), (3, .int x3), (4, .int x4)]) C.1 C.2.1 dX13_emitNumber_53 hl (by decide) rfl (fun ls hl => ?_)
  obtain ⟨x4_6, ex4_6, h⟩ := lt_e h
  refine lv_iinc (v := x4_6) (lv' := [(4, .int x4_6), (5, .long x5_5), (0, .ref (ρ 0)), (1, .long x1), (3, .int x3)]) C.1 C.2.1 dX13_emitNumber_55 hl (k := 4) rfl (by rw [ex4_6]; rfl) (by decide) rfl (fun ls hl => ?_)
  refine lv_goto (tgt := 6) C.1 C.2.1 dX13_emitNumber_58 (by decide) ?_
  exact kk6 _ _ _ _ _ _ _ _ w (lv_sub hl [2, 3, 4, 0, 1] rfl) h
set_option maxRecDepth 100000 in
set_option maxHeartbeats 4000000 in
theorem w_emitNumber_18  {g : Nat} {S : St} {x1 : Int64} {x3 : Int32} {x4 : Int32} {x5 : Int64} (C : CallFix p m c cX13_emitNumber 9 s args tb RX13) (hr : meth.sig.returnType = none) (hk : meth.locks = false) {S' : St} {k6 : St → Int64 → Int32 → Int32 → Int64 → Option St} (kk6 : ∀ (S : St) (x1 : Int64) (x3 : Int32) (x4 : Int32) (x5 : Int64) (H : Heap) (locs : List Loc) (ls : Array Slot), Wn Ym D T ρ S A s H locs → lv_has ls 9 [(0, .ref (ρ 0)), (1, .long x1), (3, .int x3), (4, .int x4), (5, .long x5)] → k6 S x1 x3 x4 x5 = some S' → W p l e (rmN 1 21) s m args below meth c H locs 0 0 (MQ below (Qv Ym D T ρ A S') args s 0 0 A) (F0 m 6 ls [])) (w : Wn Ym D T ρ S A s H locs) (hl : lv_has ls 9 [(0, .ref (ρ 0)), (1, .long x1), (3, .int x3), (4, .int x4), (5, .long x5)]) (h : m_emitNumber_18 g k6 S x1 x3 x4 x5 = some S') : W p l e (rmN 1 21) s m args below meth c H locs 0 0 (MQ below (Qv Ym D T ρ A S') args s 0 0 A) (F0 m 18 ls []) := by
  unfold m_emitNumber_18 at h
  refine lv_lload C.1 C.2.1 dX13_emitNumber_18 (lv_at hl 4 rfl) ?_
  refine lv_iload_n C.1 C.2.1 dX13_emitNumber_20 rfl (lv_at hl 2 rfl) ?_
  refine lv_i2l C.1 C.2.1 dX13_emitNumber_21 rfl ?_
  by_cases hz_1 : (x3.toInt64) = 0
  · exact absurd (ift hz_1 h) (fun q => by cases q)
  replace h := iff0 hz_1 h
  refine lv_lrem C.1 C.2.1 dX13_emitNumber_22 hz_1 ?_
  obtain ⟨x7_2, ex7_2, h⟩ := lt_e h
  refine x_nmL ex7_2 ?_
  refine lv_lstore (lv' := [(7, .long x7_2), (0, .ref (ρ 0)), (1, .long x1), (3, .int x3), (4, .int x4), (5, .long x5)]) C.1 C.2.1 dX13_emitNumber_23 hl (by decide) rfl (fun ls hl => ?_)
  refine lv_aload_n C.1 C.2.1 dX13_emitNumber_25 rfl (lv_at hl 1 rfl) ?_
  refine x_getC C w 37 fM232 obM rfl dX13_emitNumber_26 ?_
  refine lv_iload C.1 C.2.1 dX13_emitNumber_29 (lv_at hl 4 rfl) ?_
  refine lv_lload C.1 C.2.1 dX13_emitNumber_31 (lv_at hl 0 rfl) ?_
  refine lv_lconst (v := 0) C.1 C.2.1 dX13_emitNumber_33 (by decide) ?_
  refine x_l_ge (tgt := 44) C dX13_emitNumber_34 dX13_emitNumber_35 (by decide) (fun hc => ?_) (fun hc => ?_)
  · replace h := iff0 hc h
    refine lv_lload C.1 C.2.1 dX13_emitNumber_44 (lv_at hl 0 rfl) ?_
    exact w_emitNumber_46 C hr hk kk6 w (lv_sub hl [1, 2, 3, 4, 5] rfl) h
  · replace h := ift hc h
    refine lv_lload C.1 C.2.1 dX13_emitNumber_38 (lv_at hl 0 rfl) ?_
    refine lv_lneg C.1 C.2.1 dX13_emitNumber_40 ?_
    refine lv_goto (tgt := 46) C.1 C.2.1 dX13_emitNumber_41 (by decide) ?_
    exact w_emitNumber_46 C hr hk kk6 w (lv_sub hl [1, 2, 3, 4, 5] rfl) h
set_option maxRecDepth 100000 in
set_option maxHeartbeats 4000000 in
theorem w_emitNumber_123  {g : Nat} {S : St} {x7 : Int32} {y1 : Int32} (C : CallFix p m c cX13_emitNumber 9 s args tb RX13) (hr : meth.sig.returnType = none) (hk : meth.locks = false) {S' : St} {k79 : St → Int32 → Option St} (kk79 : ∀ (S : St) (x7 : Int32) (H : Heap) (locs : List Loc) (ls : Array Slot), Wn Ym D T ρ S A s H locs → lv_has ls 9 [(0, .ref (ρ 0)), (7, .int x7)] → k79 S x7 = some S' → W p l e (rmN 1 21) s m args below meth c H locs 0 0 (MQ below (Qv Ym D T ρ A S') args s 0 0 A) (F0 m 79 ls [])) (w : Wn Ym D T ρ S A s H locs) (hl : lv_has ls 9 [(0, .ref (ρ 0)), (7, .int x7)]) (h : m_emitNumber_123 g k79 S x7 y1 = some S') : W p l e (rmN 1 21) s m args below meth c H locs 0 0 (MQ below (Qv Ym D T ρ A S') args s 0 0 A) (F0 m 123 ls [.int y1, .ref (ρ 0)]) := by
  unfold m_emitNumber_123 at h
  obtain ⟨S_4, hS_4, h⟩ := bnd h
  refine x_callVv (q := (RX13, TX13, 68)) (As := [.int y1]) (rest := []) C w (k_emit l D T ρ g H.size S hS_4) vM437 ⟨by decide, by decide⟩ obM (by decide) rfl rfl rfl hl.1 (Nat.le_of_ble_eq_true rfl) ⟨Nat.zero_le _, Nat.zero_le _⟩ dX13_emitNumber_123 (fun H locs w => ?_)
  obtain ⟨x7_5, ex7_5, h⟩ := lt_e h
  refine lv_iinc (v := x7_5) (lv' := [(7, .int x7_5), (0, .ref (ρ 0))]) C.1 C.2.1 dX13_emitNumber_126 hl (k := 1) rfl (by rw [ex7_5]; rfl) (by decide) rfl (fun ls hl => ?_)
  refine lv_goto (tgt := 79) C.1 C.2.1 dX13_emitNumber_129 (by decide) ?_
  exact kk79 _ _ _ _ _ w (lv_sub hl [1, 0] rfl) h
set_option maxRecDepth 100000 in
set_option maxHeartbeats 4000000 in
theorem wb_emitNumber_79  {g : Nat} {S : St} {x7 : Int32} (C : CallFix p m c cX13_emitNumber 9 s args tb RX13) (hr : meth.sig.returnType = none) (hk : meth.locks = false) {S' : St} {k79 : St → Int32 → Option St} (kk79 : ∀ (S : St) (x7 : Int32) (H : Heap) (locs : List Loc) (ls : Array Slot), Wn Ym D T ρ S A s H locs → lv_has ls 9 [(0, .ref (ρ 0)), (7, .int x7)] → k79 S x7 = some S' → W p l e (rmN 1 21) s m args below meth c H locs 0 0 (MQ below (Qv Ym D T ρ A S') args s 0 0 A) (F0 m 79 ls [])) (w : Wn Ym D T ρ S A s H locs) (hl : lv_has ls 9 [(0, .ref (ρ 0)), (7, .int x7)]) (h : b_emitNumber_79 g k79 S x7 = some S') : W p l e (rmN 1 21) s m args below meth c H locs 0 0 (MQ below (Qv Ym D T ρ A S') args s 0 0 A) (F0 m 79 ls []) := by
  unfold b_emitNumber_79 at h
  refine lv_iload C.1 C.2.1 dX13_emitNumber_79 (lv_at hl 1 rfl) ?_
  refine lv_if_lt (tgt := 132) C.1 C.2.1 dX13_emitNumber_81 (by decide) (fun hc => ?_) (fun hc => ?_)
  · replace h := ift hc h
    obtain rfl := som h
    exact x_vret C w hr hk dX13_emitNumber_132
  · replace h := iff0 hc h
    refine lv_aload_n C.1 C.2.1 dX13_emitNumber_84 rfl (lv_at hl 0 rfl) ?_
    refine lv_aload_n C.1 C.2.1 dX13_emitNumber_85 rfl (lv_at hl 0 rfl) ?_
    refine x_getC C w 37 fM232 obM rfl dX13_emitNumber_86 ?_
    refine lv_iload C.1 C.2.1 dX13_emitNumber_89 (lv_at hl 1 rfl) ?_
    obtain ⟨v_2, hv_2, h⟩ := bnd h
    refine x_iald C w obM37 hv_2 dX13_emitNumber_91 ?_
    refine lv_bipush (v := 10) C.1 C.2.1 dX13_emitNumber_92 (by decide) ?_
    refine lv_icmp_ge (tgt := 110) C.1 C.2.1 dX13_emitNumber_94 (by decide) (fun hc => ?_) (fun hc => ?_)
    · replace h := ift hc h
      refine lv_bipush (v := 97) C.1 C.2.1 dX13_emitNumber_110 (by decide) ?_
      refine lv_aload_n C.1 C.2.1 dX13_emitNumber_112 rfl (lv_at hl 0 rfl) ?_
      refine x_getC C w 37 fM232 obM rfl dX13_emitNumber_113 ?_
      refine lv_iload C.1 C.2.1 dX13_emitNumber_116 (lv_at hl 1 rfl) ?_
      obtain ⟨v_3, hv_3, h⟩ := bnd h
      refine x_iald C w obM37 hv_3 dX13_emitNumber_118 ?_
      refine lv_iadd C.1 C.2.1 dX13_emitNumber_119 ?_
      refine lv_bipush (v := 10) C.1 C.2.1 dX13_emitNumber_120 (by decide) ?_
      refine lv_isub C.1 C.2.1 dX13_emitNumber_122 ?_
      exact w_emitNumber_123 C hr hk kk79 w (lv_sub hl [0, 1] rfl) h
    · replace h := iff0 hc h
      refine lv_bipush (v := 48) C.1 C.2.1 dX13_emitNumber_97 (by decide) ?_
      refine lv_aload_n C.1 C.2.1 dX13_emitNumber_99 rfl (lv_at hl 0 rfl) ?_
      refine x_getC C w 37 fM232 obM rfl dX13_emitNumber_100 ?_
      refine lv_iload C.1 C.2.1 dX13_emitNumber_103 (lv_at hl 1 rfl) ?_
      obtain ⟨v_4, hv_4, h⟩ := bnd h
      refine x_iald C w obM37 hv_4 dX13_emitNumber_105 ?_
      refine lv_iadd C.1 C.2.1 dX13_emitNumber_106 ?_
      refine lv_goto (tgt := 123) C.1 C.2.1 dX13_emitNumber_107 (by decide) ?_
      exact w_emitNumber_123 C hr hk kk79 w (lv_sub hl [0, 1] rfl) h
theorem w_emitNumber_79 {g : Nat} (C : CallFix p m c cX13_emitNumber 9 s args tb RX13) (hr : meth.sig.returnType = none) (hk : meth.locks = false) {S' : St} (n : Nat) : ∀ (S : St) (x7 : Int32) (H : Heap) (locs : List Loc) (ls : Array Slot), Wn Ym D T ρ S A s H locs → lv_has ls 9 [(0, .ref (ρ 0)), (7, .int x7)] → m_emitNumber_79 g n S x7 = some S' → W p l e (rmN 1 21) s m args below meth c H locs 0 0 (MQ below (Qv Ym D T ρ A S') args s 0 0 A) (F0 m 79 ls []) := by
  induction n with
  | zero => intro S x7 H locs ls w hl h; exact absurd h (fun q => by cases q)
  | succ n ih => intro S x7 H locs ls w hl h; exact wb_emitNumber_79 C hr hk ih w hl h
set_option maxRecDepth 100000 in
set_option maxHeartbeats 4000000 in
theorem wb_emitNumber_6  {g : Nat} {S : St} {x1 : Int64} {x3 : Int32} {x4 : Int32} {x5 : Int64} (C : CallFix p m c cX13_emitNumber 9 s args tb RX13) (hr : meth.sig.returnType = none) (hk : meth.locks = false) {S' : St} {k6 : St → Int64 → Int32 → Int32 → Int64 → Option St} (kk6 : ∀ (S : St) (x1 : Int64) (x3 : Int32) (x4 : Int32) (x5 : Int64) (H : Heap) (locs : List Loc) (ls : Array Slot), Wn Ym D T ρ S A s H locs → lv_has ls 9 [(0, .ref (ρ 0)), (1, .long x1), (3, .int x3), (4, .int x4), (5, .long x5)] → k6 S x1 x3 x4 x5 = some S' → W p l e (rmN 1 21) s m args below meth c H locs 0 0 (MQ below (Qv Ym D T ρ A S') args s 0 0 A) (F0 m 6 ls [])) (w : Wn Ym D T ρ S A s H locs) (hl : lv_has ls 9 [(0, .ref (ρ 0)), (1, .long x1), (3, .int x3), (4, .int x4), (5, .long x5)]) (h : b_emitNumber_6 g k6 S x1 x3 x4 x5 = some S') : W p l e (rmN 1 21) s m args below meth c H locs 0 0 (MQ below (Qv Ym D T ρ A S') args s 0 0 A) (F0 m 6 ls []) := by
  unfold b_emitNumber_6 at h
  refine lv_iload C.1 C.2.1 dX13_emitNumber_6 (lv_at hl 3 rfl) ?_
  refine lv_if_eq (tgt := 18) C.1 C.2.1 dX13_emitNumber_8 (by decide) (fun hc => ?_) (fun hc => ?_)
  · replace h := ift hc h
    exact w_emitNumber_18 C hr hk kk6 w (lv_sub hl [0, 1, 2, 3, 4] rfl) h
  · replace h := iff0 hc h
    refine lv_lload C.1 C.2.1 dX13_emitNumber_11 (lv_at hl 4 rfl) ?_
    refine lv_lconst (v := 0) C.1 C.2.1 dX13_emitNumber_13 (by decide) ?_
    refine x_l_eq (tgt := 61) C dX13_emitNumber_14 dX13_emitNumber_15 (by decide) (fun hc => ?_) (fun hc => ?_)
    · replace h := ift hc h
      refine lv_lload_n C.1 C.2.1 dX13_emitNumber_61 rfl (lv_at hl 1 rfl) ?_
      refine lv_lconst (v := 0) C.1 C.2.1 dX13_emitNumber_62 (by decide) ?_
      refine x_l_ge (tgt := 73) C dX13_emitNumber_63 dX13_emitNumber_64 (by decide) (fun hc => ?_) (fun hc => ?_)
      · replace h := iff0 hc h
        refine lv_iload C.1 C.2.1 dX13_emitNumber_73 (lv_at hl 3 rfl) ?_
        refine lv_iconst (v := 1) C.1 C.2.1 dX13_emitNumber_75 (by decide) ?_
        refine lv_isub C.1 C.2.1 dX13_emitNumber_76 ?_
        obtain ⟨x7_1, ex7_1, h⟩ := lt_e h
        refine x_nm ex7_1 ?_
        refine lv_istore (lv' := [(7, .int x7_1), (0, .ref (ρ 0)), (1, .long x1), (3, .int x3), (4, .int x4), (5, .long x5)]) C.1 C.2.1 dX13_emitNumber_77 hl (by decide) rfl (fun ls hl => ?_)
        exact w_emitNumber_79 C hr hk g _ _ _ _ _ w (lv_sub hl [1, 0] rfl) h
      · replace h := ift hc h
        refine lv_aload_n C.1 C.2.1 dX13_emitNumber_67 rfl (lv_at hl 0 rfl) ?_
        refine lv_bipush (v := 45) C.1 C.2.1 dX13_emitNumber_68 (by decide) ?_
        obtain ⟨S_2, hS_2, h⟩ := bnd h
        refine x_callVv (q := (RX13, TX13, 68)) (As := [.int (45 : Int32)]) (rest := []) C w (k_emit l D T ρ g H.size S hS_2) vM437 ⟨by decide, by decide⟩ obM (by decide) rfl rfl rfl hl.1 (Nat.le_of_ble_eq_true rfl) ⟨Nat.zero_le _, Nat.zero_le _⟩ dX13_emitNumber_70 (fun H locs w => ?_)
        refine lv_iload C.1 C.2.1 dX13_emitNumber_73 (lv_at hl 3 rfl) ?_
        refine lv_iconst (v := 1) C.1 C.2.1 dX13_emitNumber_75 (by decide) ?_
        refine lv_isub C.1 C.2.1 dX13_emitNumber_76 ?_
        obtain ⟨x7_3, ex7_3, h⟩ := lt_e h
        refine x_nm ex7_3 ?_
        refine lv_istore (lv' := [(7, .int x7_3), (0, .ref (ρ 0)), (1, .long x1), (3, .int x3), (4, .int x4), (5, .long x5)]) C.1 C.2.1 dX13_emitNumber_77 hl (by decide) rfl (fun ls hl => ?_)
        exact w_emitNumber_79 C hr hk g _ _ _ _ _ w (lv_sub hl [1, 0] rfl) h
    · replace h := iff0 hc h
      exact w_emitNumber_18 C hr hk kk6 w (lv_sub hl [0, 1, 2, 3, 4] rfl) h
theorem w_emitNumber_6 {g : Nat} (C : CallFix p m c cX13_emitNumber 9 s args tb RX13) (hr : meth.sig.returnType = none) (hk : meth.locks = false) {S' : St} (n : Nat) : ∀ (S : St) (x1 : Int64) (x3 : Int32) (x4 : Int32) (x5 : Int64) (H : Heap) (locs : List Loc) (ls : Array Slot), Wn Ym D T ρ S A s H locs → lv_has ls 9 [(0, .ref (ρ 0)), (1, .long x1), (3, .int x3), (4, .int x4), (5, .long x5)] → m_emitNumber_6 g n S x1 x3 x4 x5 = some S' → W p l e (rmN 1 21) s m args below meth c H locs 0 0 (MQ below (Qv Ym D T ρ A S') args s 0 0 A) (F0 m 6 ls []) := by
  induction n with
  | zero => intro S x1 x3 x4 x5 H locs ls w hl h; exact absurd h (fun q => by cases q)
  | succ n ih => intro S x1 x3 x4 x5 H locs ls w hl h; exact wb_emitNumber_6 C hr hk ih w hl h
set_option maxRecDepth 100000 in
set_option maxHeartbeats 4000000 in
theorem w_emitNumber_0  {g : Nat} {S : St} {x1 : Int64} {x3 : Int32} (C : CallFix p m c cX13_emitNumber 9 s args tb RX13) (hr : meth.sig.returnType = none) (hk : meth.locks = false) {S' : St} (w : Wn Ym D T ρ S A s H locs) (hl : lv_has ls 9 [(0, .ref (ρ 0)), (1, .long x1), (3, .int x3)]) (h : m_emitNumber g S x1 x3 = some S') : W p l e (rmN 1 21) s m args below meth c H locs 0 0 (MQ below (Qv Ym D T ρ A S') args s 0 0 A) (F0 m 0 ls []) := by
  unfold m_emitNumber at h
  refine lv_iconst (v := 0) C.1 C.2.1 dX13_emitNumber_0 (by decide) ?_
  refine lv_istore (lv' := [(4, .int (0 : Int32)), (0, .ref (ρ 0)), (1, .long x1), (3, .int x3)]) C.1 C.2.1 dX13_emitNumber_1 hl (by decide) rfl (fun ls hl => ?_)
  refine lv_lload_n C.1 C.2.1 dX13_emitNumber_3 rfl (lv_at hl 2 rfl) ?_
  refine lv_lstore (lv' := [(5, .long x1), (4, .int (0 : Int32)), (0, .ref (ρ 0)), (1, .long x1), (3, .int x3)]) C.1 C.2.1 dX13_emitNumber_4 hl (by decide) rfl (fun ls hl => ?_)
  exact w_emitNumber_6 C hr hk g _ _ _ _ _ _ _ _ w (lv_sub hl [2, 3, 4, 1, 0] rfl) h
end S_emitNumber
set_option maxRecDepth 100000 in
theorem k_emitNumber (l : Launch) (D : va_G) (T : Cy) (ρ : Nat → Nat) (g sz : Nat) (S : St) {x1 : Int64} {x3 : Int32} {S' : St} (h : m_emitNumber g S x1 x3 = some S') : Mv l Ym D T ρ yX13_emitNumber cX13_emitNumber 9 none 1 21 S S' [.ref (ρ 0), .long x1, .int x3] sz :=
  x_in (by decide) (Nat.le_of_ble_eq_true rfl) (fun p e s m below meth c ls C hr hk w hl => w_emitNumber_0 C hr hk w hl h)

theorem dX13_emitPoint_0 : decode cX13_emitPoint 0 = .ok (.aload_n 0, 1) := by decide +kernel
theorem dX13_emitPoint_1 : decode cX13_emitPoint 1 = .ok (.lload_n 1, 1) := by decide +kernel
theorem dX13_emitPoint_2 : decode cX13_emitPoint 2 = .ok (.lconst 0, 1) := by decide +kernel
theorem dX13_emitPoint_3 : decode cX13_emitPoint 3 = .ok (.ldc2_w 473, 3) := by decide +kernel
theorem dX13_emitPoint_6 : decode cX13_emitPoint 6 = .ok (.invokestatic 318, 3) := by decide +kernel
theorem dX13_emitPoint_9 : decode cX13_emitPoint 9 = .ok (.ifCond .ne 7, 3) := by decide +kernel
theorem dX13_emitPoint_12 : decode cX13_emitPoint 12 = .ok (.iconst 1, 1) := by decide +kernel
theorem dX13_emitPoint_13 : decode cX13_emitPoint 13 = .ok (.goto 4, 3) := by decide +kernel
theorem dX13_emitPoint_16 : decode cX13_emitPoint 16 = .ok (.iconst 0, 1) := by decide +kernel
theorem dX13_emitPoint_17 : decode cX13_emitPoint 17 = .ok (.iconst 3, 1) := by decide +kernel
theorem dX13_emitPoint_18 : decode cX13_emitPoint 18 = .ok (.invokevirtual 466, 3) := by decide +kernel
theorem dX13_emitPoint_21 : decode cX13_emitPoint 21 = .ok (.aload_n 0, 1) := by decide +kernel
theorem dX13_emitPoint_22 : decode cX13_emitPoint 22 = .ok (.getfield 398, 3) := by decide +kernel
theorem dX13_emitPoint_25 : decode cX13_emitPoint 25 = .ok (.ifCond .eq 4, 3) := by decide +kernel
theorem dX13_emitPoint_28 : decode cX13_emitPoint 28 = .ok (.return_, 1) := by decide +kernel
theorem dX13_emitPoint_29 : decode cX13_emitPoint 29 = .ok (.lload_n 1, 1) := by decide +kernel
theorem dX13_emitPoint_30 : decode cX13_emitPoint 30 = .ok (.l2i, 1) := by decide +kernel
theorem dX13_emitPoint_31 : decode cX13_emitPoint 31 = .ok (.istore_n 3, 1) := by decide +kernel
theorem dX13_emitPoint_32 : decode cX13_emitPoint 32 = .ok (.iload_n 3, 1) := by decide +kernel
theorem dX13_emitPoint_33 : decode cX13_emitPoint 33 = .ok (.ldc_w 475, 3) := by decide +kernel
theorem dX13_emitPoint_36 : decode cX13_emitPoint 36 = .ok (.if_icmp .ge 9, 3) := by decide +kernel
theorem dX13_emitPoint_39 : decode cX13_emitPoint 39 = .ok (.aload_n 0, 1) := by decide +kernel
theorem dX13_emitPoint_40 : decode cX13_emitPoint 40 = .ok (.iload_n 3, 1) := by decide +kernel
theorem dX13_emitPoint_41 : decode cX13_emitPoint 41 = .ok (.invokevirtual 437, 3) := by decide +kernel
theorem dX13_emitPoint_44 : decode cX13_emitPoint 44 = .ok (.return_, 1) := by decide +kernel
theorem dX13_emitPoint_45 : decode cX13_emitPoint 45 = .ok (.aload_n 0, 1) := by decide +kernel
theorem dX13_emitPoint_46 : decode cX13_emitPoint 46 = .ok (.ldc_w 476, 3) := by decide +kernel
theorem dX13_emitPoint_49 : decode cX13_emitPoint 49 = .ok (.iload_n 3, 1) := by decide +kernel
theorem dX13_emitPoint_50 : decode cX13_emitPoint 50 = .ok (.ldc_w 475, 3) := by decide +kernel
theorem dX13_emitPoint_53 : decode cX13_emitPoint 53 = .ok (.isub, 1) := by decide +kernel
theorem dX13_emitPoint_54 : decode cX13_emitPoint 54 = .ok (.sipush 1024, 3) := by decide +kernel
theorem dX13_emitPoint_57 : decode cX13_emitPoint 57 = .ok (.idiv, 1) := by decide +kernel
theorem dX13_emitPoint_58 : decode cX13_emitPoint 58 = .ok (.iadd, 1) := by decide +kernel
theorem dX13_emitPoint_59 : decode cX13_emitPoint 59 = .ok (.invokevirtual 437, 3) := by decide +kernel
theorem dX13_emitPoint_62 : decode cX13_emitPoint 62 = .ok (.aload_n 0, 1) := by decide +kernel
theorem dX13_emitPoint_63 : decode cX13_emitPoint 63 = .ok (.ldc_w 477, 3) := by decide +kernel
theorem dX13_emitPoint_66 : decode cX13_emitPoint 66 = .ok (.iload_n 3, 1) := by decide +kernel
theorem dX13_emitPoint_67 : decode cX13_emitPoint 67 = .ok (.ldc_w 475, 3) := by decide +kernel
theorem dX13_emitPoint_70 : decode cX13_emitPoint 70 = .ok (.isub, 1) := by decide +kernel
theorem dX13_emitPoint_71 : decode cX13_emitPoint 71 = .ok (.sipush 1024, 3) := by decide +kernel
theorem dX13_emitPoint_74 : decode cX13_emitPoint 74 = .ok (.irem, 1) := by decide +kernel
theorem dX13_emitPoint_75 : decode cX13_emitPoint 75 = .ok (.iadd, 1) := by decide +kernel
theorem dX13_emitPoint_76 : decode cX13_emitPoint 76 = .ok (.invokevirtual 437, 3) := by decide +kernel
theorem dX13_emitPoint_79 : decode cX13_emitPoint 79 = .ok (.return_, 1) := by decide +kernel
def m_emitPoint_17 (g : Nat) (S : St) (x1 : Int64) (y1 : Int32) : Option St :=
(m_refuse g S y1 (3 : Int32)).bind fun S_2 =>
if (gI S_2 0 58) = 0 then (
  lt (x1.toInt32) fun x3_3 =>
  if (65536 : Int32) ≤ x3_3 then (
    (m_emit g S_2 ((55296 : Int32) + ((x3_3 - (65536 : Int32)) / (1024 : Int32)))).bind fun S_4 =>
    (m_emit g S_4 ((56320 : Int32) + ((x3_3 - (65536 : Int32)) - (x3_3 - (65536 : Int32)) / (1024 : Int32) * (1024 : Int32)))).bind fun S_5 =>
    some S_5
  ) else (
    (m_emit g S_2 x3_3).bind fun S_6 =>
    some S_6
  )
) else (
  some S_2
)
def m_emitPoint (g : Nat) (S : St) (x1 : Int64) : Option St :=
(m_isIn g x1 (0 : Int64) (1114111 : Int64)).bind fun v_1 =>
if v_1 = 0 then (
  m_emitPoint_17 g S x1 (1 : Int32)
) else (
  m_emitPoint_17 g S x1 (0 : Int32)
)
section S_emitPoint
variable {p : Program} {l : Launch} {e : Env} {s : State} {m : MethodId} {args : Array Value} {below : List Frame} {meth : Method} {c : Code} {H : Heap} {locs : List Loc} {ls : Array Slot} {D : va_G} {T : Cy} {ρ : Nat → Nat} {A : Nat → Prop}
set_option maxRecDepth 100000 in
set_option maxHeartbeats 4000000 in
theorem w_emitPoint_17  {g : Nat} {S : St} {x1 : Int64} {y1 : Int32} (C : CallFix p m c cX13_emitPoint 4 s args tb RX13) (hr : meth.sig.returnType = none) (hk : meth.locks = false) {S' : St} (w : Wn Ym D T ρ S A s H locs) (hl : lv_has ls 4 [(0, .ref (ρ 0)), (1, .long x1)]) (h : m_emitPoint_17 g S x1 y1 = some S') : W p l e (rmN 1 25) s m args below meth c H locs 0 0 (MQ below (Qv Ym D T ρ A S') args s 0 0 A) (F0 m 17 ls [.int y1, .ref (ρ 0)]) := by
  unfold m_emitPoint_17 at h
  refine lv_iconst (v := 3) C.1 C.2.1 dX13_emitPoint_17 (by decide) ?_
  obtain ⟨S_2, hS_2, h⟩ := bnd h
  refine x_callVv (q := (RX13, TX13, 68)) (As := [.int y1, .int (3 : Int32)]) (rest := []) C w (k_refuse l D T ρ g H.size S hS_2) vM466 ⟨by decide, by decide⟩ obM (by decide) rfl rfl rfl hl.1 (Nat.le_of_ble_eq_true rfl) ⟨Nat.zero_le _, Nat.zero_le _⟩ dX13_emitPoint_18 (fun H locs w => ?_)
  refine lv_aload_n C.1 C.2.1 dX13_emitPoint_21 rfl (lv_at hl 0 rfl) ?_
  refine x_getI C w fM398 obM dX13_emitPoint_22 ?_
  refine lv_if_eq (tgt := 29) C.1 C.2.1 dX13_emitPoint_25 (by decide) (fun hc => ?_) (fun hc => ?_)
  · replace h := ift hc h
    refine lv_lload_n C.1 C.2.1 dX13_emitPoint_29 rfl (lv_at hl 1 rfl) ?_
    refine lv_l2i C.1 C.2.1 dX13_emitPoint_30 rfl ?_
    obtain ⟨x3_3, ex3_3, h⟩ := lt_e h
    refine x_nm ex3_3 ?_
    refine lv_istore_n (lv' := [(3, .int x3_3), (0, .ref (ρ 0)), (1, .long x1)]) C.1 C.2.1 dX13_emitPoint_31 rfl hl (by decide) rfl (fun ls hl => ?_)
    refine lv_iload_n C.1 C.2.1 dX13_emitPoint_32 rfl (lv_at hl 0 rfl) ?_
    refine lv_ldcw C.1 C.2.1 C.2.2.2.1 (C.2.2.2.2 _ nM475) dX13_emitPoint_33 ?_
    refine lv_icmp_ge (tgt := 45) C.1 C.2.1 dX13_emitPoint_36 (by decide) (fun hc => ?_) (fun hc => ?_)
    · replace h := ift hc h
      refine lv_aload_n C.1 C.2.1 dX13_emitPoint_45 rfl (lv_at hl 1 rfl) ?_
      refine lv_ldcw C.1 C.2.1 C.2.2.2.1 (C.2.2.2.2 _ nM476) dX13_emitPoint_46 ?_
      refine lv_iload_n C.1 C.2.1 dX13_emitPoint_49 rfl (lv_at hl 0 rfl) ?_
      refine lv_ldcw C.1 C.2.1 C.2.2.2.1 (C.2.2.2.2 _ nM475) dX13_emitPoint_50 ?_
      refine lv_isub C.1 C.2.1 dX13_emitPoint_53 ?_
      refine lv_sipush (v := 1024) C.1 C.2.1 dX13_emitPoint_54 (by decide) ?_
      refine lv_idiv C.1 C.2.1 dX13_emitPoint_57 (by decide) ?_
      refine lv_iadd C.1 C.2.1 dX13_emitPoint_58 ?_
      obtain ⟨S_4, hS_4, h⟩ := bnd h
      refine x_callVv (q := (RX13, TX13, 68)) (As := [.int ((55296 : Int32) + ((x3_3 - (65536 : Int32)) / (1024 : Int32)))]) (rest := []) C w (k_emit l D T ρ g H.size S_2 hS_4) vM437 ⟨by decide, by decide⟩ obM (by decide) rfl rfl rfl hl.1 (Nat.le_of_ble_eq_true rfl) ⟨Nat.zero_le _, Nat.zero_le _⟩ dX13_emitPoint_59 (fun H locs w => ?_)
      refine lv_aload_n C.1 C.2.1 dX13_emitPoint_62 rfl (lv_at hl 1 rfl) ?_
      refine lv_ldcw C.1 C.2.1 C.2.2.2.1 (C.2.2.2.2 _ nM477) dX13_emitPoint_63 ?_
      refine lv_iload_n C.1 C.2.1 dX13_emitPoint_66 rfl (lv_at hl 0 rfl) ?_
      refine lv_ldcw C.1 C.2.1 C.2.2.2.1 (C.2.2.2.2 _ nM475) dX13_emitPoint_67 ?_
      refine lv_isub C.1 C.2.1 dX13_emitPoint_70 ?_
      refine lv_sipush (v := 1024) C.1 C.2.1 dX13_emitPoint_71 (by decide) ?_
      refine lv_irem C.1 C.2.1 dX13_emitPoint_74 (by decide) ?_
      refine lv_iadd C.1 C.2.1 dX13_emitPoint_75 ?_
      obtain ⟨S_5, hS_5, h⟩ := bnd h
      refine x_callVv (q := (RX13, TX13, 68)) (As := [.int ((56320 : Int32) + ((x3_3 - (65536 : Int32)) - (x3_3 - (65536 : Int32)) / (1024 : Int32) * (1024 : Int32)))]) (rest := []) C w (k_emit l D T ρ g H.size S_4 hS_5) vM437 ⟨by decide, by decide⟩ obM (by decide) rfl rfl rfl hl.1 (Nat.le_of_ble_eq_true rfl) ⟨Nat.zero_le _, Nat.zero_le _⟩ dX13_emitPoint_76 (fun H locs w => ?_)
      obtain rfl := som h
      exact x_vret C w hr hk dX13_emitPoint_79
    · replace h := iff0 hc h
      refine lv_aload_n C.1 C.2.1 dX13_emitPoint_39 rfl (lv_at hl 1 rfl) ?_
      refine lv_iload_n C.1 C.2.1 dX13_emitPoint_40 rfl (lv_at hl 0 rfl) ?_
      obtain ⟨S_6, hS_6, h⟩ := bnd h
      refine x_callVv (q := (RX13, TX13, 68)) (As := [.int x3_3]) (rest := []) C w (k_emit l D T ρ g H.size S_2 hS_6) vM437 ⟨by decide, by decide⟩ obM (by decide) rfl rfl rfl hl.1 (Nat.le_of_ble_eq_true rfl) ⟨Nat.zero_le _, Nat.zero_le _⟩ dX13_emitPoint_41 (fun H locs w => ?_)
      obtain rfl := som h
      exact x_vret C w hr hk dX13_emitPoint_44
  · replace h := iff0 hc h
    obtain rfl := som h
    exact x_vret C w hr hk dX13_emitPoint_28
set_option maxRecDepth 100000 in
set_option maxHeartbeats 4000000 in
theorem w_emitPoint_0  {g : Nat} {S : St} {x1 : Int64} (C : CallFix p m c cX13_emitPoint 4 s args tb RX13) (hr : meth.sig.returnType = none) (hk : meth.locks = false) {S' : St} (w : Wn Ym D T ρ S A s H locs) (hl : lv_has ls 4 [(0, .ref (ρ 0)), (1, .long x1)]) (h : m_emitPoint g S x1 = some S') : W p l e (rmN 1 25) s m args below meth c H locs 0 0 (MQ below (Qv Ym D T ρ A S') args s 0 0 A) (F0 m 0 ls []) := by
  unfold m_emitPoint at h
  refine lv_aload_n C.1 C.2.1 dX13_emitPoint_0 rfl (lv_at hl 0 rfl) ?_
  refine lv_lload_n C.1 C.2.1 dX13_emitPoint_1 rfl (lv_at hl 1 rfl) ?_
  refine lv_lconst (v := 0) C.1 C.2.1 dX13_emitPoint_2 (by decide) ?_
  refine lv_ldc2 C.1 C.2.1 C.2.2.2.1 (C.2.2.2.2 _ nM473) dX13_emitPoint_3 ?_
  obtain ⟨v_1, hv_1, h⟩ := bnd h
  refine x_callSi (As := [.long x1, .long (0 : Int64), .long (1114111 : Int64)]) (rest := [.ref (ρ 0)]) C w (k_isIn l D T ρ g H.size S hv_1) vM318 ⟨by decide, by decide⟩ rfl rfl hl.1 (Nat.le_of_ble_eq_true rfl) ⟨Nat.zero_le _, Nat.zero_le _⟩ dX13_emitPoint_6 (fun H locs w => ?_)
  refine lv_if_ne (tgt := 16) C.1 C.2.1 dX13_emitPoint_9 (by decide) (fun hc => ?_) (fun hc => ?_)
  · replace h := iff0 hc h
    refine lv_iconst (v := 0) C.1 C.2.1 dX13_emitPoint_16 (by decide) ?_
    exact w_emitPoint_17 C hr hk w (lv_sub hl [0, 1] rfl) h
  · replace h := ift hc h
    refine lv_iconst (v := 1) C.1 C.2.1 dX13_emitPoint_12 (by decide) ?_
    refine lv_goto (tgt := 17) C.1 C.2.1 dX13_emitPoint_13 (by decide) ?_
    exact w_emitPoint_17 C hr hk w (lv_sub hl [0, 1] rfl) h
end S_emitPoint
set_option maxRecDepth 100000 in
theorem k_emitPoint (l : Launch) (D : va_G) (T : Cy) (ρ : Nat → Nat) (g sz : Nat) (S : St) {x1 : Int64} {S' : St} (h : m_emitPoint g S x1 = some S') : Mv l Ym D T ρ yX13_emitPoint cX13_emitPoint 4 none 1 25 S S' [.ref (ρ 0), .long x1] sz :=
  x_in (by decide) (Nat.le_of_ble_eq_true rfl) (fun p e s m below meth c ls C hr hk w hl => w_emitPoint_0 C hr hk w hl h)

theorem dX13_unitAt_0 : decode cX13_unitAt 0 = .ok (.aload_n 0, 1) := by decide +kernel
theorem dX13_unitAt_1 : decode cX13_unitAt 1 = .ok (.getfield 187, 3) := by decide +kernel
theorem dX13_unitAt_4 : decode cX13_unitAt 4 = .ok (.aload_n 0, 1) := by decide +kernel
theorem dX13_unitAt_5 : decode cX13_unitAt 5 = .ok (.getfield 190, 3) := by decide +kernel
theorem dX13_unitAt_8 : decode cX13_unitAt 8 = .ok (.iload_n 1, 1) := by decide +kernel
theorem dX13_unitAt_9 : decode cX13_unitAt 9 = .ok (.iaload, 1) := by decide +kernel
theorem dX13_unitAt_10 : decode cX13_unitAt 10 = .ok (.iload_n 2, 1) := by decide +kernel
theorem dX13_unitAt_11 : decode cX13_unitAt 11 = .ok (.iadd, 1) := by decide +kernel
theorem dX13_unitAt_12 : decode cX13_unitAt 12 = .ok (.iaload, 1) := by decide +kernel
theorem dX13_unitAt_13 : decode cX13_unitAt 13 = .ok (.ireturn, 1) := by decide +kernel
def m_unitAt (g : Nat) (S : St) (x1 : Int32) (x2 : Int32) : Option Int32 :=
(aI S 23 x1).bind fun v_1 =>
(aI S 22 (v_1 + x2)).bind fun v_2 =>
some v_2
section S_unitAt
variable {p : Program} {l : Launch} {e : Env} {s : State} {m : MethodId} {args : Array Value} {below : List Frame} {meth : Method} {c : Code} {H : Heap} {locs : List Loc} {ls : Array Slot} {D : va_G} {T : Cy} {ρ : Nat → Nat} {A : Nat → Prop}
set_option maxRecDepth 100000 in
set_option maxHeartbeats 4000000 in
theorem w_unitAt_0  {g : Nat} {S : St} {x1 : Int32} {x2 : Int32} (C : CallFix p m c cX13_unitAt 3 s args tb RX13) (hr : meth.sig.returnType = (some .int)) (hk : meth.locks = false) {r : Int32} (w : Wn Ym D T ρ S A s H locs) (hl : lv_has ls 3 [(0, .ref (ρ 0)), (1, .int x1), (2, .int x2)]) (h : m_unitAt g S x1 x2 = some r) : W p l e (rmN 0 0) s m args below meth c H locs 0 0 (MQ below (Qi Ym D T ρ A S r) args s 0 0 A) (F0 m 0 ls []) := by
  unfold m_unitAt at h
  refine lv_aload_n C.1 C.2.1 dX13_unitAt_0 rfl (lv_at hl 0 rfl) ?_
  refine x_getC C w 22 fM187 obM rfl dX13_unitAt_1 ?_
  refine lv_aload_n C.1 C.2.1 dX13_unitAt_4 rfl (lv_at hl 0 rfl) ?_
  refine x_getC C w 23 fM190 obM rfl dX13_unitAt_5 ?_
  refine lv_iload_n C.1 C.2.1 dX13_unitAt_8 rfl (lv_at hl 1 rfl) ?_
  obtain ⟨v_1, hv_1, h⟩ := bnd h
  refine x_iald C w obM23 hv_1 dX13_unitAt_9 ?_
  refine lv_iload_n C.1 C.2.1 dX13_unitAt_10 rfl (lv_at hl 2 rfl) ?_
  refine lv_iadd C.1 C.2.1 dX13_unitAt_11 ?_
  obtain ⟨v_2, hv_2, h⟩ := bnd h
  refine x_iald C w obM22 hv_2 dX13_unitAt_12 ?_
  obtain rfl := som h
  exact x_iret C w hr hk dX13_unitAt_13
end S_unitAt
set_option maxRecDepth 100000 in
theorem k_unitAt (l : Launch) (D : va_G) (T : Cy) (ρ : Nat → Nat) (g sz : Nat) (S : St) {x1 : Int32} {x2 : Int32} {r : Int32} (h : m_unitAt g S x1 x2 = some r) : Mi l Ym D T ρ yX13_unitAt cX13_unitAt 3 (some .int) 0 0 S S r [.ref (ρ 0), .int x1, .int x2] sz :=
  x_in (by decide) (Nat.le_of_ble_eq_true rfl) (fun p e s m below meth c ls C hr hk w hl => w_unitAt_0 C hr hk w hl h)

theorem dX13_emitText_0 : decode cX13_emitText 0 = .ok (.iload_n 2, 1) := by decide +kernel
theorem dX13_emitText_1 : decode cX13_emitText 1 = .ok (.istore 4, 2) := by decide +kernel
theorem dX13_emitText_3 : decode cX13_emitText 3 = .ok (.iload 4, 2) := by decide +kernel
theorem dX13_emitText_5 : decode cX13_emitText 5 = .ok (.iload_n 3, 1) := by decide +kernel
theorem dX13_emitText_6 : decode cX13_emitText 6 = .ok (.if_icmp .ge 20, 3) := by decide +kernel
theorem dX13_emitText_9 : decode cX13_emitText 9 = .ok (.aload_n 0, 1) := by decide +kernel
theorem dX13_emitText_10 : decode cX13_emitText 10 = .ok (.aload_n 0, 1) := by decide +kernel
theorem dX13_emitText_11 : decode cX13_emitText 11 = .ok (.iload_n 1, 1) := by decide +kernel
theorem dX13_emitText_12 : decode cX13_emitText 12 = .ok (.iload 4, 2) := by decide +kernel
theorem dX13_emitText_14 : decode cX13_emitText 14 = .ok (.invokevirtual 470, 3) := by decide +kernel
theorem dX13_emitText_17 : decode cX13_emitText 17 = .ok (.invokevirtual 437, 3) := by decide +kernel
theorem dX13_emitText_20 : decode cX13_emitText 20 = .ok (.iinc 4 1, 3) := by decide +kernel
theorem dX13_emitText_23 : decode cX13_emitText 23 = .ok (.goto (-20), 3) := by decide +kernel
theorem dX13_emitText_26 : decode cX13_emitText 26 = .ok (.return_, 1) := by decide +kernel
def b_emitText_3 (g : Nat) (k3 : St → Int32 → Int32 → Int32 → Option St) (S : St) (x1 : Int32) (x3 : Int32) (x4 : Int32) : Option St :=
if x3 ≤ x4 then (
  some S
) else (
  (m_unitAt g S x1 x4).bind fun v_1 =>
  (m_emit g S v_1).bind fun S_2 =>
  lt (x4 + (1 : Int32)) fun x4_3 =>
  k3 S_2 x1 x3 x4_3
)
def m_emitText_3 (g : Nat) : Nat → St → Int32 → Int32 → Int32 → Option St
  | 0, _, _, _, _ => none
  | n + 1, S, x1, x3, x4 => b_emitText_3 g (m_emitText_3 g n) S x1 x3 x4
def m_emitText (g : Nat) (S : St) (x1 : Int32) (x2 : Int32) (x3 : Int32) : Option St :=
m_emitText_3 g g S x1 x3 x2
section S_emitText
variable {p : Program} {l : Launch} {e : Env} {s : State} {m : MethodId} {args : Array Value} {below : List Frame} {meth : Method} {c : Code} {H : Heap} {locs : List Loc} {ls : Array Slot} {D : va_G} {T : Cy} {ρ : Nat → Nat} {A : Nat → Prop}
set_option maxRecDepth 100000 in
set_option maxHeartbeats 4000000 in
theorem wb_emitText_3  {g : Nat} {S : St} {x1 : Int32} {x3 : Int32} {x4 : Int32} (C : CallFix p m c cX13_emitText 5 s args tb RX13) (hr : meth.sig.returnType = none) (hk : meth.locks = false) {S' : St} {k3 : St → Int32 → Int32 → Int32 → Option St} (kk3 : ∀ (S : St) (x1 : Int32) (x3 : Int32) (x4 : Int32) (H : Heap) (locs : List Loc) (ls : Array Slot), Wn Ym D T ρ S A s H locs → lv_has ls 5 [(0, .ref (ρ 0)), (1, .int x1), (3, .int x3), (4, .int x4)] → k3 S x1 x3 x4 = some S' → W p l e (rmN 1 22) s m args below meth c H locs 0 0 (MQ below (Qv Ym D T ρ A S') args s 0 0 A) (F0 m 3 ls [])) (w : Wn Ym D T ρ S A s H locs) (hl : lv_has ls 5 [(0, .ref (ρ 0)), (1, .int x1), (3, .int x3), (4, .int x4)]) (h : b_emitText_3 g k3 S x1 x3 x4 = some S') : W p l e (rmN 1 22) s m args below meth c H locs 0 0 (MQ below (Qv Ym D T ρ A S') args s 0 0 A) (F0 m 3 ls []) := by
  unfold b_emitText_3 at h
  refine lv_iload C.1 C.2.1 dX13_emitText_3 (lv_at hl 3 rfl) ?_
  refine lv_iload_n C.1 C.2.1 dX13_emitText_5 rfl (lv_at hl 2 rfl) ?_
  refine lv_icmp_ge (tgt := 26) C.1 C.2.1 dX13_emitText_6 (by decide) (fun hc => ?_) (fun hc => ?_)
  · replace h := ift hc h
    obtain rfl := som h
    exact x_vret C w hr hk dX13_emitText_26
  · replace h := iff0 hc h
    refine lv_aload_n C.1 C.2.1 dX13_emitText_9 rfl (lv_at hl 0 rfl) ?_
    refine lv_aload_n C.1 C.2.1 dX13_emitText_10 rfl (lv_at hl 0 rfl) ?_
    refine lv_iload_n C.1 C.2.1 dX13_emitText_11 rfl (lv_at hl 1 rfl) ?_
    refine lv_iload C.1 C.2.1 dX13_emitText_12 (lv_at hl 3 rfl) ?_
    obtain ⟨v_1, hv_1, h⟩ := bnd h
    refine x_callVi (q := (RX13, TX13, 68)) (As := [.int x1, .int x4]) (rest := [.ref (ρ 0)]) C w (k_unitAt l D T ρ g H.size S hv_1) vM470 ⟨by decide, by decide⟩ obM (by decide) rfl rfl rfl hl.1 (Nat.le_of_ble_eq_true rfl) ⟨Nat.zero_le _, Nat.zero_le _⟩ dX13_emitText_14 (fun H locs w => ?_)
    obtain ⟨S_2, hS_2, h⟩ := bnd h
    refine x_callVv (q := (RX13, TX13, 68)) (As := [.int v_1]) (rest := []) C w (k_emit l D T ρ g H.size S hS_2) vM437 ⟨by decide, by decide⟩ obM (by decide) rfl rfl rfl hl.1 (Nat.le_of_ble_eq_true rfl) ⟨Nat.zero_le _, Nat.zero_le _⟩ dX13_emitText_17 (fun H locs w => ?_)
    obtain ⟨x4_3, ex4_3, h⟩ := lt_e h
    refine lv_iinc (v := x4_3) (lv' := [(4, .int x4_3), (0, .ref (ρ 0)), (1, .int x1), (3, .int x3)]) C.1 C.2.1 dX13_emitText_20 hl (k := 3) rfl (by rw [ex4_3]; rfl) (by decide) rfl (fun ls hl => ?_)
    refine lv_goto (tgt := 3) C.1 C.2.1 dX13_emitText_23 (by decide) ?_
    exact kk3 _ _ _ _ _ _ _ w (lv_sub hl [1, 2, 3, 0] rfl) h
theorem w_emitText_3 {g : Nat} (C : CallFix p m c cX13_emitText 5 s args tb RX13) (hr : meth.sig.returnType = none) (hk : meth.locks = false) {S' : St} (n : Nat) : ∀ (S : St) (x1 : Int32) (x3 : Int32) (x4 : Int32) (H : Heap) (locs : List Loc) (ls : Array Slot), Wn Ym D T ρ S A s H locs → lv_has ls 5 [(0, .ref (ρ 0)), (1, .int x1), (3, .int x3), (4, .int x4)] → m_emitText_3 g n S x1 x3 x4 = some S' → W p l e (rmN 1 22) s m args below meth c H locs 0 0 (MQ below (Qv Ym D T ρ A S') args s 0 0 A) (F0 m 3 ls []) := by
  induction n with
  | zero => intro S x1 x3 x4 H locs ls w hl h; exact absurd h (fun q => by cases q)
  | succ n ih => intro S x1 x3 x4 H locs ls w hl h; exact wb_emitText_3 C hr hk ih w hl h
set_option maxRecDepth 100000 in
set_option maxHeartbeats 4000000 in
theorem w_emitText_0  {g : Nat} {S : St} {x1 : Int32} {x2 : Int32} {x3 : Int32} (C : CallFix p m c cX13_emitText 5 s args tb RX13) (hr : meth.sig.returnType = none) (hk : meth.locks = false) {S' : St} (w : Wn Ym D T ρ S A s H locs) (hl : lv_has ls 5 [(0, .ref (ρ 0)), (1, .int x1), (2, .int x2), (3, .int x3)]) (h : m_emitText g S x1 x2 x3 = some S') : W p l e (rmN 1 22) s m args below meth c H locs 0 0 (MQ below (Qv Ym D T ρ A S') args s 0 0 A) (F0 m 0 ls []) := by
  unfold m_emitText at h
  refine lv_iload_n C.1 C.2.1 dX13_emitText_0 rfl (lv_at hl 2 rfl) ?_
  refine lv_istore (lv' := [(4, .int x2), (0, .ref (ρ 0)), (1, .int x1), (2, .int x2), (3, .int x3)]) C.1 C.2.1 dX13_emitText_1 hl (by decide) rfl (fun ls hl => ?_)
  exact w_emitText_3 C hr hk g _ _ _ _ _ _ _ w (lv_sub hl [1, 2, 4, 0] rfl) h
end S_emitText
set_option maxRecDepth 100000 in
theorem k_emitText (l : Launch) (D : va_G) (T : Cy) (ρ : Nat → Nat) (g sz : Nat) (S : St) {x1 : Int32} {x2 : Int32} {x3 : Int32} {S' : St} (h : m_emitText g S x1 x2 x3 = some S') : Mv l Ym D T ρ yX13_emitText cX13_emitText 5 none 1 22 S S' [.ref (ρ 0), .int x1, .int x2, .int x3] sz :=
  x_in (by decide) (Nat.le_of_ble_eq_true rfl) (fun p e s m below meth c ls C hr hk w hl => w_emitText_0 C hr hk w hl h)

theorem dX13_emitTruth_0 : decode cX13_emitTruth 0 = .ok (.aload_n 0, 1) := by decide +kernel
theorem dX13_emitTruth_1 : decode cX13_emitTruth 1 = .ok (.iload_n 1, 1) := by decide +kernel
theorem dX13_emitTruth_2 : decode cX13_emitTruth 2 = .ok (.ifCond .eq 8, 3) := by decide +kernel
theorem dX13_emitTruth_5 : decode cX13_emitTruth 5 = .ok (.bipush 116, 2) := by decide +kernel
theorem dX13_emitTruth_7 : decode cX13_emitTruth 7 = .ok (.goto 5, 3) := by decide +kernel
theorem dX13_emitTruth_10 : decode cX13_emitTruth 10 = .ok (.bipush 102, 2) := by decide +kernel
theorem dX13_emitTruth_12 : decode cX13_emitTruth 12 = .ok (.invokevirtual 437, 3) := by decide +kernel
theorem dX13_emitTruth_15 : decode cX13_emitTruth 15 = .ok (.aload_n 0, 1) := by decide +kernel
theorem dX13_emitTruth_16 : decode cX13_emitTruth 16 = .ok (.iload_n 1, 1) := by decide +kernel
theorem dX13_emitTruth_17 : decode cX13_emitTruth 17 = .ok (.ifCond .eq 8, 3) := by decide +kernel
theorem dX13_emitTruth_20 : decode cX13_emitTruth 20 = .ok (.bipush 114, 2) := by decide +kernel
theorem dX13_emitTruth_22 : decode cX13_emitTruth 22 = .ok (.goto 5, 3) := by decide +kernel
theorem dX13_emitTruth_25 : decode cX13_emitTruth 25 = .ok (.bipush 97, 2) := by decide +kernel
theorem dX13_emitTruth_27 : decode cX13_emitTruth 27 = .ok (.invokevirtual 437, 3) := by decide +kernel
theorem dX13_emitTruth_30 : decode cX13_emitTruth 30 = .ok (.aload_n 0, 1) := by decide +kernel
theorem dX13_emitTruth_31 : decode cX13_emitTruth 31 = .ok (.iload_n 1, 1) := by decide +kernel
theorem dX13_emitTruth_32 : decode cX13_emitTruth 32 = .ok (.ifCond .eq 8, 3) := by decide +kernel
theorem dX13_emitTruth_35 : decode cX13_emitTruth 35 = .ok (.bipush 117, 2) := by decide +kernel
theorem dX13_emitTruth_37 : decode cX13_emitTruth 37 = .ok (.goto 5, 3) := by decide +kernel
theorem dX13_emitTruth_40 : decode cX13_emitTruth 40 = .ok (.bipush 108, 2) := by decide +kernel
theorem dX13_emitTruth_42 : decode cX13_emitTruth 42 = .ok (.invokevirtual 437, 3) := by decide +kernel
theorem dX13_emitTruth_45 : decode cX13_emitTruth 45 = .ok (.aload_n 0, 1) := by decide +kernel
theorem dX13_emitTruth_46 : decode cX13_emitTruth 46 = .ok (.iload_n 1, 1) := by decide +kernel
theorem dX13_emitTruth_47 : decode cX13_emitTruth 47 = .ok (.ifCond .eq 8, 3) := by decide +kernel
theorem dX13_emitTruth_50 : decode cX13_emitTruth 50 = .ok (.bipush 101, 2) := by decide +kernel
theorem dX13_emitTruth_52 : decode cX13_emitTruth 52 = .ok (.goto 5, 3) := by decide +kernel
theorem dX13_emitTruth_55 : decode cX13_emitTruth 55 = .ok (.bipush 115, 2) := by decide +kernel
theorem dX13_emitTruth_57 : decode cX13_emitTruth 57 = .ok (.invokevirtual 437, 3) := by decide +kernel
theorem dX13_emitTruth_60 : decode cX13_emitTruth 60 = .ok (.iload_n 1, 1) := by decide +kernel
theorem dX13_emitTruth_61 : decode cX13_emitTruth 61 = .ok (.ifCond .ne 9, 3) := by decide +kernel
theorem dX13_emitTruth_64 : decode cX13_emitTruth 64 = .ok (.aload_n 0, 1) := by decide +kernel
theorem dX13_emitTruth_65 : decode cX13_emitTruth 65 = .ok (.bipush 101, 2) := by decide +kernel
theorem dX13_emitTruth_67 : decode cX13_emitTruth 67 = .ok (.invokevirtual 437, 3) := by decide +kernel
theorem dX13_emitTruth_70 : decode cX13_emitTruth 70 = .ok (.return_, 1) := by decide +kernel
def m_emitTruth_57 (g : Nat) (S : St) (x1 : Int32) (y1 : Int32) : Option St :=
(m_emit g S y1).bind fun S_4 =>
if x1 = 0 then (
  (m_emit g S_4 (101 : Int32)).bind fun S_5 =>
  some S_5
) else (
  some S_4
)
def m_emitTruth_42 (g : Nat) (S : St) (x1 : Int32) (y1 : Int32) : Option St :=
(m_emit g S y1).bind fun S_3 =>
if x1 = 0 then (
  m_emitTruth_57 g S_3 x1 (115 : Int32)
) else (
  m_emitTruth_57 g S_3 x1 (101 : Int32)
)
def m_emitTruth_27 (g : Nat) (S : St) (x1 : Int32) (y1 : Int32) : Option St :=
(m_emit g S y1).bind fun S_2 =>
if x1 = 0 then (
  m_emitTruth_42 g S_2 x1 (108 : Int32)
) else (
  m_emitTruth_42 g S_2 x1 (117 : Int32)
)
def m_emitTruth_12 (g : Nat) (S : St) (x1 : Int32) (y1 : Int32) : Option St :=
(m_emit g S y1).bind fun S_1 =>
if x1 = 0 then (
  m_emitTruth_27 g S_1 x1 (97 : Int32)
) else (
  m_emitTruth_27 g S_1 x1 (114 : Int32)
)
def m_emitTruth (g : Nat) (S : St) (x1 : Int32) : Option St :=
if x1 = 0 then (
  m_emitTruth_12 g S x1 (102 : Int32)
) else (
  m_emitTruth_12 g S x1 (116 : Int32)
)
section S_emitTruth
variable {p : Program} {l : Launch} {e : Env} {s : State} {m : MethodId} {args : Array Value} {below : List Frame} {meth : Method} {c : Code} {H : Heap} {locs : List Loc} {ls : Array Slot} {D : va_G} {T : Cy} {ρ : Nat → Nat} {A : Nat → Prop}
set_option maxRecDepth 100000 in
set_option maxHeartbeats 4000000 in
theorem w_emitTruth_57  {g : Nat} {S : St} {x1 : Int32} {y1 : Int32} (C : CallFix p m c cX13_emitTruth 2 s args tb RX13) (hr : meth.sig.returnType = none) (hk : meth.locks = false) {S' : St} (w : Wn Ym D T ρ S A s H locs) (hl : lv_has ls 2 [(0, .ref (ρ 0)), (1, .int x1)]) (h : m_emitTruth_57 g S x1 y1 = some S') : W p l e (rmN 1 21) s m args below meth c H locs 0 0 (MQ below (Qv Ym D T ρ A S') args s 0 0 A) (F0 m 57 ls [.int y1, .ref (ρ 0)]) := by
  unfold m_emitTruth_57 at h
  obtain ⟨S_4, hS_4, h⟩ := bnd h
  refine x_callVv (q := (RX13, TX13, 68)) (As := [.int y1]) (rest := []) C w (k_emit l D T ρ g H.size S hS_4) vM437 ⟨by decide, by decide⟩ obM (by decide) rfl rfl rfl hl.1 (Nat.le_of_ble_eq_true rfl) ⟨Nat.zero_le _, Nat.zero_le _⟩ dX13_emitTruth_57 (fun H locs w => ?_)
  refine lv_iload_n C.1 C.2.1 dX13_emitTruth_60 rfl (lv_at hl 1 rfl) ?_
  refine lv_if_ne (tgt := 70) C.1 C.2.1 dX13_emitTruth_61 (by decide) (fun hc => ?_) (fun hc => ?_)
  · replace h := iff0 hc h
    obtain rfl := som h
    exact x_vret C w hr hk dX13_emitTruth_70
  · replace h := ift hc h
    refine lv_aload_n C.1 C.2.1 dX13_emitTruth_64 rfl (lv_at hl 0 rfl) ?_
    refine lv_bipush (v := 101) C.1 C.2.1 dX13_emitTruth_65 (by decide) ?_
    obtain ⟨S_5, hS_5, h⟩ := bnd h
    refine x_callVv (q := (RX13, TX13, 68)) (As := [.int (101 : Int32)]) (rest := []) C w (k_emit l D T ρ g H.size S_4 hS_5) vM437 ⟨by decide, by decide⟩ obM (by decide) rfl rfl rfl hl.1 (Nat.le_of_ble_eq_true rfl) ⟨Nat.zero_le _, Nat.zero_le _⟩ dX13_emitTruth_67 (fun H locs w => ?_)
    obtain rfl := som h
    exact x_vret C w hr hk dX13_emitTruth_70
set_option maxRecDepth 100000 in
set_option maxHeartbeats 4000000 in
theorem w_emitTruth_42  {g : Nat} {S : St} {x1 : Int32} {y1 : Int32} (C : CallFix p m c cX13_emitTruth 2 s args tb RX13) (hr : meth.sig.returnType = none) (hk : meth.locks = false) {S' : St} (w : Wn Ym D T ρ S A s H locs) (hl : lv_has ls 2 [(0, .ref (ρ 0)), (1, .int x1)]) (h : m_emitTruth_42 g S x1 y1 = some S') : W p l e (rmN 1 21) s m args below meth c H locs 0 0 (MQ below (Qv Ym D T ρ A S') args s 0 0 A) (F0 m 42 ls [.int y1, .ref (ρ 0)]) := by
  unfold m_emitTruth_42 at h
  obtain ⟨S_3, hS_3, h⟩ := bnd h
  refine x_callVv (q := (RX13, TX13, 68)) (As := [.int y1]) (rest := []) C w (k_emit l D T ρ g H.size S hS_3) vM437 ⟨by decide, by decide⟩ obM (by decide) rfl rfl rfl hl.1 (Nat.le_of_ble_eq_true rfl) ⟨Nat.zero_le _, Nat.zero_le _⟩ dX13_emitTruth_42 (fun H locs w => ?_)
  refine lv_aload_n C.1 C.2.1 dX13_emitTruth_45 rfl (lv_at hl 0 rfl) ?_
  refine lv_iload_n C.1 C.2.1 dX13_emitTruth_46 rfl (lv_at hl 1 rfl) ?_
  refine lv_if_eq (tgt := 55) C.1 C.2.1 dX13_emitTruth_47 (by decide) (fun hc => ?_) (fun hc => ?_)
  · replace h := ift hc h
    refine lv_bipush (v := 115) C.1 C.2.1 dX13_emitTruth_55 (by decide) ?_
    exact w_emitTruth_57 C hr hk w (lv_sub hl [0, 1] rfl) h
  · replace h := iff0 hc h
    refine lv_bipush (v := 101) C.1 C.2.1 dX13_emitTruth_50 (by decide) ?_
    refine lv_goto (tgt := 57) C.1 C.2.1 dX13_emitTruth_52 (by decide) ?_
    exact w_emitTruth_57 C hr hk w (lv_sub hl [0, 1] rfl) h
set_option maxRecDepth 100000 in
set_option maxHeartbeats 4000000 in
theorem w_emitTruth_27  {g : Nat} {S : St} {x1 : Int32} {y1 : Int32} (C : CallFix p m c cX13_emitTruth 2 s args tb RX13) (hr : meth.sig.returnType = none) (hk : meth.locks = false) {S' : St} (w : Wn Ym D T ρ S A s H locs) (hl : lv_has ls 2 [(0, .ref (ρ 0)), (1, .int x1)]) (h : m_emitTruth_27 g S x1 y1 = some S') : W p l e (rmN 1 21) s m args below meth c H locs 0 0 (MQ below (Qv Ym D T ρ A S') args s 0 0 A) (F0 m 27 ls [.int y1, .ref (ρ 0)]) := by
  unfold m_emitTruth_27 at h
  obtain ⟨S_2, hS_2, h⟩ := bnd h
  refine x_callVv (q := (RX13, TX13, 68)) (As := [.int y1]) (rest := []) C w (k_emit l D T ρ g H.size S hS_2) vM437 ⟨by decide, by decide⟩ obM (by decide) rfl rfl rfl hl.1 (Nat.le_of_ble_eq_true rfl) ⟨Nat.zero_le _, Nat.zero_le _⟩ dX13_emitTruth_27 (fun H locs w => ?_)
  refine lv_aload_n C.1 C.2.1 dX13_emitTruth_30 rfl (lv_at hl 0 rfl) ?_
  refine lv_iload_n C.1 C.2.1 dX13_emitTruth_31 rfl (lv_at hl 1 rfl) ?_
  refine lv_if_eq (tgt := 40) C.1 C.2.1 dX13_emitTruth_32 (by decide) (fun hc => ?_) (fun hc => ?_)
  · replace h := ift hc h
    refine lv_bipush (v := 108) C.1 C.2.1 dX13_emitTruth_40 (by decide) ?_
    exact w_emitTruth_42 C hr hk w (lv_sub hl [0, 1] rfl) h
  · replace h := iff0 hc h
    refine lv_bipush (v := 117) C.1 C.2.1 dX13_emitTruth_35 (by decide) ?_
    refine lv_goto (tgt := 42) C.1 C.2.1 dX13_emitTruth_37 (by decide) ?_
    exact w_emitTruth_42 C hr hk w (lv_sub hl [0, 1] rfl) h
set_option maxRecDepth 100000 in
set_option maxHeartbeats 4000000 in
theorem w_emitTruth_12  {g : Nat} {S : St} {x1 : Int32} {y1 : Int32} (C : CallFix p m c cX13_emitTruth 2 s args tb RX13) (hr : meth.sig.returnType = none) (hk : meth.locks = false) {S' : St} (w : Wn Ym D T ρ S A s H locs) (hl : lv_has ls 2 [(0, .ref (ρ 0)), (1, .int x1)]) (h : m_emitTruth_12 g S x1 y1 = some S') : W p l e (rmN 1 21) s m args below meth c H locs 0 0 (MQ below (Qv Ym D T ρ A S') args s 0 0 A) (F0 m 12 ls [.int y1, .ref (ρ 0)]) := by
  unfold m_emitTruth_12 at h
  obtain ⟨S_1, hS_1, h⟩ := bnd h
  refine x_callVv (q := (RX13, TX13, 68)) (As := [.int y1]) (rest := []) C w (k_emit l D T ρ g H.size S hS_1) vM437 ⟨by decide, by decide⟩ obM (by decide) rfl rfl rfl hl.1 (Nat.le_of_ble_eq_true rfl) ⟨Nat.zero_le _, Nat.zero_le _⟩ dX13_emitTruth_12 (fun H locs w => ?_)
  refine lv_aload_n C.1 C.2.1 dX13_emitTruth_15 rfl (lv_at hl 0 rfl) ?_
  refine lv_iload_n C.1 C.2.1 dX13_emitTruth_16 rfl (lv_at hl 1 rfl) ?_
  refine lv_if_eq (tgt := 25) C.1 C.2.1 dX13_emitTruth_17 (by decide) (fun hc => ?_) (fun hc => ?_)
  · replace h := ift hc h
    refine lv_bipush (v := 97) C.1 C.2.1 dX13_emitTruth_25 (by decide) ?_
    exact w_emitTruth_27 C hr hk w (lv_sub hl [0, 1] rfl) h
  · replace h := iff0 hc h
    refine lv_bipush (v := 114) C.1 C.2.1 dX13_emitTruth_20 (by decide) ?_
    refine lv_goto (tgt := 27) C.1 C.2.1 dX13_emitTruth_22 (by decide) ?_
    exact w_emitTruth_27 C hr hk w (lv_sub hl [0, 1] rfl) h
set_option maxRecDepth 100000 in
set_option maxHeartbeats 4000000 in
theorem w_emitTruth_0  {g : Nat} {S : St} {x1 : Int32} (C : CallFix p m c cX13_emitTruth 2 s args tb RX13) (hr : meth.sig.returnType = none) (hk : meth.locks = false) {S' : St} (w : Wn Ym D T ρ S A s H locs) (hl : lv_has ls 2 [(0, .ref (ρ 0)), (1, .int x1)]) (h : m_emitTruth g S x1 = some S') : W p l e (rmN 1 21) s m args below meth c H locs 0 0 (MQ below (Qv Ym D T ρ A S') args s 0 0 A) (F0 m 0 ls []) := by
  unfold m_emitTruth at h
  refine lv_aload_n C.1 C.2.1 dX13_emitTruth_0 rfl (lv_at hl 0 rfl) ?_
  refine lv_iload_n C.1 C.2.1 dX13_emitTruth_1 rfl (lv_at hl 1 rfl) ?_
  refine lv_if_eq (tgt := 10) C.1 C.2.1 dX13_emitTruth_2 (by decide) (fun hc => ?_) (fun hc => ?_)
  · replace h := ift hc h
    refine lv_bipush (v := 102) C.1 C.2.1 dX13_emitTruth_10 (by decide) ?_
    exact w_emitTruth_12 C hr hk w (lv_sub hl [0, 1] rfl) h
  · replace h := iff0 hc h
    refine lv_bipush (v := 116) C.1 C.2.1 dX13_emitTruth_5 (by decide) ?_
    refine lv_goto (tgt := 12) C.1 C.2.1 dX13_emitTruth_7 (by decide) ?_
    exact w_emitTruth_12 C hr hk w (lv_sub hl [0, 1] rfl) h
end S_emitTruth
set_option maxRecDepth 100000 in
theorem k_emitTruth (l : Launch) (D : va_G) (T : Cy) (ρ : Nat → Nat) (g sz : Nat) (S : St) {x1 : Int32} {S' : St} (h : m_emitTruth g S x1 = some S') : Mv l Ym D T ρ yX13_emitTruth cX13_emitTruth 2 none 1 21 S S' [.ref (ρ 0), .int x1] sz :=
  x_in (by decide) (Nat.le_of_ble_eq_true rfl) (fun p e s m below meth c ls C hr hk w hl => w_emitTruth_0 C hr hk w hl h)

theorem dX13_text_0 : decode cX13_text 0 = .ok (.aload_n 0, 1) := by decide +kernel
theorem dX13_text_1 : decode cX13_text 1 = .ok (.getfield 144, 3) := by decide +kernel
theorem dX13_text_4 : decode cX13_text 4 = .ok (.iload_n 1, 1) := by decide +kernel
theorem dX13_text_5 : decode cX13_text 5 = .ok (.iaload, 1) := by decide +kernel
theorem dX13_text_6 : decode cX13_text 6 = .ok (.ifCond .ne 18, 3) := by decide +kernel
theorem dX13_text_9 : decode cX13_text 9 = .ok (.aload_n 0, 1) := by decide +kernel
theorem dX13_text_10 : decode cX13_text 10 = .ok (.getfield 199, 3) := by decide +kernel
theorem dX13_text_13 : decode cX13_text 13 = .ok (.aload_n 0, 1) := by decide +kernel
theorem dX13_text_14 : decode cX13_text 14 = .ok (.getfield 150, 3) := by decide +kernel
theorem dX13_text_17 : decode cX13_text 17 = .ok (.iload_n 1, 1) := by decide +kernel
theorem dX13_text_18 : decode cX13_text 18 = .ok (.laload, 1) := by decide +kernel
theorem dX13_text_19 : decode cX13_text 19 = .ok (.l2i, 1) := by decide +kernel
theorem dX13_text_20 : decode cX13_text 20 = .ok (.iaload, 1) := by decide +kernel
theorem dX13_text_21 : decode cX13_text 21 = .ok (.goto 15, 3) := by decide +kernel
theorem dX13_text_24 : decode cX13_text 24 = .ok (.aload_n 0, 1) := by decide +kernel
theorem dX13_text_25 : decode cX13_text 25 = .ok (.getfield 168, 3) := by decide +kernel
theorem dX13_text_28 : decode cX13_text 28 = .ok (.aload_n 0, 1) := by decide +kernel
theorem dX13_text_29 : decode cX13_text 29 = .ok (.getfield 150, 3) := by decide +kernel
theorem dX13_text_32 : decode cX13_text 32 = .ok (.iload_n 1, 1) := by decide +kernel
theorem dX13_text_33 : decode cX13_text 33 = .ok (.laload, 1) := by decide +kernel
theorem dX13_text_34 : decode cX13_text 34 = .ok (.l2i, 1) := by decide +kernel
theorem dX13_text_35 : decode cX13_text 35 = .ok (.iaload, 1) := by decide +kernel
theorem dX13_text_36 : decode cX13_text 36 = .ok (.istore_n 2, 1) := by decide +kernel
theorem dX13_text_37 : decode cX13_text 37 = .ok (.iload_n 2, 1) := by decide +kernel
theorem dX13_text_38 : decode cX13_text 38 = .ok (.ireturn, 1) := by decide +kernel
def m_text (g : Nat) (S : St) (x1 : Int32) : Option Int32 :=
(aI S 8 x1).bind fun v_1 =>
if v_1 = 0 then (
  (aJ S 10 x1).bind fun v_4 =>
  (aI S 26 (v_4.toInt32)).bind fun v_5 =>
  some v_5
) else (
  (aJ S 10 x1).bind fun v_2 =>
  (aI S 16 (v_2.toInt32)).bind fun v_3 =>
  some v_3
)
section S_text
variable {p : Program} {l : Launch} {e : Env} {s : State} {m : MethodId} {args : Array Value} {below : List Frame} {meth : Method} {c : Code} {H : Heap} {locs : List Loc} {ls : Array Slot} {D : va_G} {T : Cy} {ρ : Nat → Nat} {A : Nat → Prop}
set_option maxRecDepth 100000 in
set_option maxHeartbeats 4000000 in
theorem w_text_0  {g : Nat} {S : St} {x1 : Int32} (C : CallFix p m c cX13_text 3 s args tb RX13) (hr : meth.sig.returnType = (some .int)) (hk : meth.locks = false) {r : Int32} (w : Wn Ym D T ρ S A s H locs) (hl : lv_has ls 3 [(0, .ref (ρ 0)), (1, .int x1)]) (h : m_text g S x1 = some r) : W p l e (rmN 0 0) s m args below meth c H locs 0 0 (MQ below (Qi Ym D T ρ A S r) args s 0 0 A) (F0 m 0 ls []) := by
  unfold m_text at h
  refine lv_aload_n C.1 C.2.1 dX13_text_0 rfl (lv_at hl 0 rfl) ?_
  refine x_getC C w 8 fM144 obM rfl dX13_text_1 ?_
  refine lv_iload_n C.1 C.2.1 dX13_text_4 rfl (lv_at hl 1 rfl) ?_
  obtain ⟨v_1, hv_1, h⟩ := bnd h
  refine x_iald C w obM8 hv_1 dX13_text_5 ?_
  refine lv_if_ne (tgt := 24) C.1 C.2.1 dX13_text_6 (by decide) (fun hc => ?_) (fun hc => ?_)
  · replace h := iff0 hc h
    refine lv_aload_n C.1 C.2.1 dX13_text_24 rfl (lv_at hl 0 rfl) ?_
    refine x_getC C w 16 fM168 obM rfl dX13_text_25 ?_
    refine lv_aload_n C.1 C.2.1 dX13_text_28 rfl (lv_at hl 0 rfl) ?_
    refine x_getC C w 10 fM150 obM rfl dX13_text_29 ?_
    refine lv_iload_n C.1 C.2.1 dX13_text_32 rfl (lv_at hl 1 rfl) ?_
    obtain ⟨v_2, hv_2, h⟩ := bnd h
    refine x_lald C w obM10 hv_2 dX13_text_33 ?_
    refine lv_l2i C.1 C.2.1 dX13_text_34 rfl ?_
    obtain ⟨v_3, hv_3, h⟩ := bnd h
    refine x_iald C w obM16 hv_3 dX13_text_35 ?_
    refine lv_istore_n (lv' := [(2, .int v_3), (0, .ref (ρ 0)), (1, .int x1)]) C.1 C.2.1 dX13_text_36 rfl hl (by decide) rfl (fun ls hl => ?_)
    refine lv_iload_n C.1 C.2.1 dX13_text_37 rfl (lv_at hl 0 rfl) ?_
    obtain rfl := som h
    exact x_iret C w hr hk dX13_text_38
  · replace h := ift hc h
    refine lv_aload_n C.1 C.2.1 dX13_text_9 rfl (lv_at hl 0 rfl) ?_
    refine x_getC C w 26 fM199 obM rfl dX13_text_10 ?_
    refine lv_aload_n C.1 C.2.1 dX13_text_13 rfl (lv_at hl 0 rfl) ?_
    refine x_getC C w 10 fM150 obM rfl dX13_text_14 ?_
    refine lv_iload_n C.1 C.2.1 dX13_text_17 rfl (lv_at hl 1 rfl) ?_
    obtain ⟨v_4, hv_4, h⟩ := bnd h
    refine x_lald C w obM10 hv_4 dX13_text_18 ?_
    refine lv_l2i C.1 C.2.1 dX13_text_19 rfl ?_
    obtain ⟨v_5, hv_5, h⟩ := bnd h
    refine x_iald C w obM26 hv_5 dX13_text_20 ?_
    refine lv_goto (tgt := 36) C.1 C.2.1 dX13_text_21 (by decide) ?_
    refine lv_istore_n (lv' := [(2, .int v_5), (0, .ref (ρ 0)), (1, .int x1)]) C.1 C.2.1 dX13_text_36 rfl hl (by decide) rfl (fun ls hl => ?_)
    refine lv_iload_n C.1 C.2.1 dX13_text_37 rfl (lv_at hl 0 rfl) ?_
    obtain rfl := som h
    exact x_iret C w hr hk dX13_text_38
end S_text
set_option maxRecDepth 100000 in
theorem k_text (l : Launch) (D : va_G) (T : Cy) (ρ : Nat → Nat) (g sz : Nat) (S : St) {x1 : Int32} {r : Int32} (h : m_text g S x1 = some r) : Mi l Ym D T ρ yX13_text cX13_text 3 (some .int) 0 0 S S r [.ref (ρ 0), .int x1] sz :=
  x_in (by decide) (Nat.le_of_ble_eq_true rfl) (fun p e s m below meth c ls C hr hk w hl => w_text_0 C hr hk w hl h)

theorem dX13_emitX_0 : decode cX13_emitX 0 = .ok (.aload_n 0, 1) := by decide +kernel
theorem dX13_emitX_1 : decode cX13_emitX 1 = .ok (.getfield 144, 3) := by decide +kernel
theorem dX13_emitX_4 : decode cX13_emitX 4 = .ok (.iload_n 1, 1) := by decide +kernel
theorem dX13_emitX_5 : decode cX13_emitX 5 = .ok (.iaload, 1) := by decide +kernel
theorem dX13_emitX_6 : decode cX13_emitX 6 = .ok (.istore_n 2, 1) := by decide +kernel
theorem dX13_emitX_7 : decode cX13_emitX 7 = .ok (.iload_n 2, 1) := by decide +kernel
theorem dX13_emitX_8 : decode cX13_emitX 8 = .ok (.ifCond .ne 38, 3) := by decide +kernel
theorem dX13_emitX_11 : decode cX13_emitX 11 = .ok (.aload_n 0, 1) := by decide +kernel
theorem dX13_emitX_12 : decode cX13_emitX 12 = .ok (.iload_n 1, 1) := by decide +kernel
theorem dX13_emitX_13 : decode cX13_emitX 13 = .ok (.invokevirtual 463, 3) := by decide +kernel
theorem dX13_emitX_16 : decode cX13_emitX 16 = .ok (.ifCond .ge 30, 3) := by decide +kernel
theorem dX13_emitX_19 : decode cX13_emitX 19 = .ok (.aload_n 0, 1) := by decide +kernel
theorem dX13_emitX_20 : decode cX13_emitX 20 = .ok (.bipush 110, 2) := by decide +kernel
theorem dX13_emitX_22 : decode cX13_emitX 22 = .ok (.invokevirtual 437, 3) := by decide +kernel
theorem dX13_emitX_25 : decode cX13_emitX 25 = .ok (.aload_n 0, 1) := by decide +kernel
theorem dX13_emitX_26 : decode cX13_emitX 26 = .ok (.bipush 117, 2) := by decide +kernel
theorem dX13_emitX_28 : decode cX13_emitX 28 = .ok (.invokevirtual 437, 3) := by decide +kernel
theorem dX13_emitX_31 : decode cX13_emitX 31 = .ok (.aload_n 0, 1) := by decide +kernel
theorem dX13_emitX_32 : decode cX13_emitX 32 = .ok (.bipush 108, 2) := by decide +kernel
theorem dX13_emitX_34 : decode cX13_emitX 34 = .ok (.invokevirtual 437, 3) := by decide +kernel
theorem dX13_emitX_37 : decode cX13_emitX 37 = .ok (.aload_n 0, 1) := by decide +kernel
theorem dX13_emitX_38 : decode cX13_emitX 38 = .ok (.bipush 108, 2) := by decide +kernel
theorem dX13_emitX_40 : decode cX13_emitX 40 = .ok (.invokevirtual 437, 3) := by decide +kernel
theorem dX13_emitX_43 : decode cX13_emitX 43 = .ok (.goto 154, 3) := by decide +kernel
theorem dX13_emitX_46 : decode cX13_emitX 46 = .ok (.iload_n 2, 1) := by decide +kernel
theorem dX13_emitX_47 : decode cX13_emitX 47 = .ok (.ifCond .eq 8, 3) := by decide +kernel
theorem dX13_emitX_50 : decode cX13_emitX 50 = .ok (.iload_n 2, 1) := by decide +kernel
theorem dX13_emitX_51 : decode cX13_emitX 51 = .ok (.iconst 3, 1) := by decide +kernel
theorem dX13_emitX_52 : decode cX13_emitX 52 = .ok (.if_icmp .ne 26, 3) := by decide +kernel
theorem dX13_emitX_55 : decode cX13_emitX 55 = .ok (.aload_n 0, 1) := by decide +kernel
theorem dX13_emitX_56 : decode cX13_emitX 56 = .ok (.aload_n 0, 1) := by decide +kernel
theorem dX13_emitX_57 : decode cX13_emitX 57 = .ok (.iload_n 1, 1) := by decide +kernel
theorem dX13_emitX_58 : decode cX13_emitX 58 = .ok (.invokevirtual 463, 3) := by decide +kernel
theorem dX13_emitX_61 : decode cX13_emitX 61 = .ok (.iconst 0, 1) := by decide +kernel
theorem dX13_emitX_62 : decode cX13_emitX 62 = .ok (.aload_n 0, 1) := by decide +kernel
theorem dX13_emitX_63 : decode cX13_emitX 63 = .ok (.getfield 193, 3) := by decide +kernel
theorem dX13_emitX_66 : decode cX13_emitX 66 = .ok (.aload_n 0, 1) := by decide +kernel
theorem dX13_emitX_67 : decode cX13_emitX 67 = .ok (.iload_n 1, 1) := by decide +kernel
theorem dX13_emitX_68 : decode cX13_emitX 68 = .ok (.invokevirtual 463, 3) := by decide +kernel
theorem dX13_emitX_71 : decode cX13_emitX 71 = .ok (.iaload, 1) := by decide +kernel
theorem dX13_emitX_72 : decode cX13_emitX 72 = .ok (.invokevirtual 478, 3) := by decide +kernel
theorem dX13_emitX_75 : decode cX13_emitX 75 = .ok (.goto 122, 3) := by decide +kernel
theorem dX13_emitX_78 : decode cX13_emitX 78 = .ok (.iload_n 2, 1) := by decide +kernel
theorem dX13_emitX_79 : decode cX13_emitX 79 = .ok (.iconst 1, 1) := by decide +kernel
theorem dX13_emitX_80 : decode cX13_emitX 80 = .ok (.if_icmp .eq 8, 3) := by decide +kernel
theorem dX13_emitX_83 : decode cX13_emitX 83 = .ok (.iload_n 2, 1) := by decide +kernel
theorem dX13_emitX_84 : decode cX13_emitX 84 = .ok (.iconst 4, 1) := by decide +kernel
theorem dX13_emitX_85 : decode cX13_emitX 85 = .ok (.if_icmp .ne 17, 3) := by decide +kernel
theorem dX13_emitX_88 : decode cX13_emitX 88 = .ok (.aload_n 0, 1) := by decide +kernel
theorem dX13_emitX_89 : decode cX13_emitX 89 = .ok (.aload_n 0, 1) := by decide +kernel
theorem dX13_emitX_90 : decode cX13_emitX 90 = .ok (.iload_n 1, 1) := by decide +kernel
theorem dX13_emitX_91 : decode cX13_emitX 91 = .ok (.invokevirtual 459, 3) := by decide +kernel
theorem dX13_emitX_94 : decode cX13_emitX 94 = .ok (.bipush 10, 2) := by decide +kernel
theorem dX13_emitX_96 : decode cX13_emitX 96 = .ok (.invokevirtual 481, 3) := by decide +kernel
theorem dX13_emitX_99 : decode cX13_emitX 99 = .ok (.goto 98, 3) := by decide +kernel
theorem dX13_emitX_102 : decode cX13_emitX 102 = .ok (.iload_n 2, 1) := by decide +kernel
theorem dX13_emitX_103 : decode cX13_emitX 103 = .ok (.iconst 5, 1) := by decide +kernel
theorem dX13_emitX_104 : decode cX13_emitX 104 = .ok (.if_icmp .eq 9, 3) := by decide +kernel
theorem dX13_emitX_107 : decode cX13_emitX 107 = .ok (.iload_n 2, 1) := by decide +kernel
theorem dX13_emitX_108 : decode cX13_emitX 108 = .ok (.bipush 6, 2) := by decide +kernel
theorem dX13_emitX_110 : decode cX13_emitX 110 = .ok (.if_icmp .ne 15, 3) := by decide +kernel
theorem dX13_emitX_113 : decode cX13_emitX 113 = .ok (.aload_n 0, 1) := by decide +kernel
theorem dX13_emitX_114 : decode cX13_emitX 114 = .ok (.aload_n 0, 1) := by decide +kernel
theorem dX13_emitX_115 : decode cX13_emitX 115 = .ok (.iload_n 1, 1) := by decide +kernel
theorem dX13_emitX_116 : decode cX13_emitX 116 = .ok (.invokevirtual 459, 3) := by decide +kernel
theorem dX13_emitX_119 : decode cX13_emitX 119 = .ok (.invokevirtual 485, 3) := by decide +kernel
theorem dX13_emitX_122 : decode cX13_emitX 122 = .ok (.goto 75, 3) := by decide +kernel
theorem dX13_emitX_125 : decode cX13_emitX 125 = .ok (.iload_n 2, 1) := by decide +kernel
theorem dX13_emitX_126 : decode cX13_emitX 126 = .ok (.iconst 2, 1) := by decide +kernel
theorem dX13_emitX_127 : decode cX13_emitX 127 = .ok (.if_icmp .ne 51, 3) := by decide +kernel
theorem dX13_emitX_130 : decode cX13_emitX 130 = .ok (.aload_n 0, 1) := by decide +kernel
theorem dX13_emitX_131 : decode cX13_emitX 131 = .ok (.getfield 150, 3) := by decide +kernel
theorem dX13_emitX_134 : decode cX13_emitX 134 = .ok (.iload_n 1, 1) := by decide +kernel
theorem dX13_emitX_135 : decode cX13_emitX 135 = .ok (.laload, 1) := by decide +kernel
theorem dX13_emitX_136 : decode cX13_emitX 136 = .ok (.l2i, 1) := by decide +kernel
theorem dX13_emitX_137 : decode cX13_emitX 137 = .ok (.istore_n 3, 1) := by decide +kernel
theorem dX13_emitX_138 : decode cX13_emitX 138 = .ok (.iconst 0, 1) := by decide +kernel
theorem dX13_emitX_139 : decode cX13_emitX 139 = .ok (.istore 4, 2) := by decide +kernel
theorem dX13_emitX_141 : decode cX13_emitX 141 = .ok (.iload 4, 2) := by decide +kernel
theorem dX13_emitX_143 : decode cX13_emitX 143 = .ok (.aload_n 0, 1) := by decide +kernel
theorem dX13_emitX_144 : decode cX13_emitX 144 = .ok (.getfield 205, 3) := by decide +kernel
theorem dX13_emitX_147 : decode cX13_emitX 147 = .ok (.iload_n 3, 1) := by decide +kernel
theorem dX13_emitX_148 : decode cX13_emitX 148 = .ok (.iaload, 1) := by decide +kernel
theorem dX13_emitX_149 : decode cX13_emitX 149 = .ok (.if_icmp .ge 26, 3) := by decide +kernel
theorem dX13_emitX_152 : decode cX13_emitX 152 = .ok (.aload_n 0, 1) := by decide +kernel
theorem dX13_emitX_153 : decode cX13_emitX 153 = .ok (.aload_n 0, 1) := by decide +kernel
theorem dX13_emitX_154 : decode cX13_emitX 154 = .ok (.getfield 211, 3) := by decide +kernel
theorem dX13_emitX_157 : decode cX13_emitX 157 = .ok (.sipush 400, 3) := by decide +kernel
theorem dX13_emitX_160 : decode cX13_emitX 160 = .ok (.iload_n 3, 1) := by decide +kernel
theorem dX13_emitX_161 : decode cX13_emitX 161 = .ok (.imul, 1) := by decide +kernel
theorem dX13_emitX_162 : decode cX13_emitX 162 = .ok (.iload 4, 2) := by decide +kernel
theorem dX13_emitX_164 : decode cX13_emitX 164 = .ok (.iadd, 1) := by decide +kernel
theorem dX13_emitX_165 : decode cX13_emitX 165 = .ok (.iaload, 1) := by decide +kernel
theorem dX13_emitX_166 : decode cX13_emitX 166 = .ok (.invokevirtual 437, 3) := by decide +kernel
theorem dX13_emitX_169 : decode cX13_emitX 169 = .ok (.iinc 4 1, 3) := by decide +kernel
theorem dX13_emitX_172 : decode cX13_emitX 172 = .ok (.goto (-31), 3) := by decide +kernel
theorem dX13_emitX_175 : decode cX13_emitX 175 = .ok (.goto 22, 3) := by decide +kernel
theorem dX13_emitX_178 : decode cX13_emitX 178 = .ok (.aload_n 0, 1) := by decide +kernel
theorem dX13_emitX_179 : decode cX13_emitX 179 = .ok (.aload_n 0, 1) := by decide +kernel
theorem dX13_emitX_180 : decode cX13_emitX 180 = .ok (.iload_n 1, 1) := by decide +kernel
theorem dX13_emitX_181 : decode cX13_emitX 181 = .ok (.invokevirtual 459, 3) := by decide +kernel
theorem dX13_emitX_184 : decode cX13_emitX 184 = .ok (.lconst 0, 1) := by decide +kernel
theorem dX13_emitX_185 : decode cX13_emitX 185 = .ok (.lcmp, 1) := by decide +kernel
theorem dX13_emitX_186 : decode cX13_emitX 186 = .ok (.ifCond .eq 7, 3) := by decide +kernel
theorem dX13_emitX_189 : decode cX13_emitX 189 = .ok (.iconst 1, 1) := by decide +kernel
theorem dX13_emitX_190 : decode cX13_emitX 190 = .ok (.goto 4, 3) := by decide +kernel
theorem dX13_emitX_193 : decode cX13_emitX 193 = .ok (.iconst 0, 1) := by decide +kernel
theorem dX13_emitX_194 : decode cX13_emitX 194 = .ok (.invokevirtual 489, 3) := by decide +kernel
theorem dX13_emitX_197 : decode cX13_emitX 197 = .ok (.return_, 1) := by decide +kernel
def m_emitX_55 (g : Nat) (S : St) (x1 : Int32) : Option St :=
(m_text g S x1).bind fun v_2 =>
(m_text g S x1).bind fun v_3 =>
(aI S 24 v_3).bind fun v_4 =>
(m_emitText g S v_2 (0 : Int32) v_4).bind fun S_5 =>
some S_5
def m_emitX_88 (g : Nat) (S : St) (x1 : Int32) : Option St :=
(m_value g S x1).bind fun v_2 =>
(m_emitNumber g S v_2 (10 : Int32)).bind fun S_3 =>
some S_3
def m_emitX_113 (g : Nat) (S : St) (x1 : Int32) : Option St :=
(m_value g S x1).bind fun v_2 =>
(m_emitPoint g S v_2).bind fun S_3 =>
some S_3
def m_emitX_194 (g : Nat) (S : St) (y1 : Int32) : Option St :=
(m_emitTruth g S y1).bind fun S_3 =>
some S_3
def b_emitX_141 (g : Nat) (k141 : St → Int32 → Int32 → Option St) (S : St) (x3 : Int32) (x4 : Int32) : Option St :=
(aI S 28 x3).bind fun v_5 =>
if v_5 ≤ x4 then (
  some S
) else (
  (aI S 30 (((400 : Int32) * x3) + x4)).bind fun v_6 =>
  (m_emit g S v_6).bind fun S_7 =>
  lt (x4 + (1 : Int32)) fun x4_8 =>
  k141 S_7 x3 x4_8
)
def m_emitX_141 (g : Nat) : Nat → St → Int32 → Int32 → Option St
  | 0, _, _, _ => none
  | n + 1, S, x3, x4 => b_emitX_141 g (m_emitX_141 g n) S x3 x4
def m_emitX_46 (g : Nat) (S : St) (x1 : Int32) (x2 : Int32) : Option St :=
if x2 = 0 then (
  m_emitX_55 g S x1
) else (
  if x2 = (3 : Int32) then (
    m_emitX_55 g S x1
  ) else (
    if x2 = (1 : Int32) then (
      m_emitX_88 g S x1
    ) else (
      if x2 = (4 : Int32) then (
        m_emitX_88 g S x1
      ) else (
        if x2 = (5 : Int32) then (
          m_emitX_113 g S x1
        ) else (
          if x2 = (6 : Int32) then (
            m_emitX_113 g S x1
          ) else (
            if x2 = (2 : Int32) then (
              (aJ S 10 x1).bind fun v_3 =>
              lt (v_3.toInt32) fun x3_4 =>
              m_emitX_141 g g S x3_4 (0 : Int32)
            ) else (
              (m_value g S x1).bind fun v_2 =>
              if v_2 = (0 : Int64) then (
                m_emitX_194 g S (0 : Int32)
              ) else (
                m_emitX_194 g S (1 : Int32)
              )
            )
          )
        )
      )
    )
  )
)
def m_emitX (g : Nat) (S : St) (x1 : Int32) : Option St :=
(aI S 8 x1).bind fun v_1 =>
if v_1 = 0 then (
  (m_text g S x1).bind fun v_2 =>
  if 0 ≤ v_2 then (
    m_emitX_46 g S x1 v_1
  ) else (
    (m_emit g S (110 : Int32)).bind fun S_3 =>
    (m_emit g S_3 (117 : Int32)).bind fun S_4 =>
    (m_emit g S_4 (108 : Int32)).bind fun S_5 =>
    (m_emit g S_5 (108 : Int32)).bind fun S_6 =>
    some S_6
  )
) else (
  m_emitX_46 g S x1 v_1
)
section S_emitX
variable {p : Program} {l : Launch} {e : Env} {s : State} {m : MethodId} {args : Array Value} {below : List Frame} {meth : Method} {c : Code} {H : Heap} {locs : List Loc} {ls : Array Slot} {D : va_G} {T : Cy} {ρ : Nat → Nat} {A : Nat → Prop}
set_option maxRecDepth 100000 in
set_option maxHeartbeats 4000000 in
theorem w_emitX_55  {g : Nat} {S : St} {x1 : Int32} (C : CallFix p m c cX13_emitX 5 s args tb RX13) (hr : meth.sig.returnType = none) (hk : meth.locks = false) {S' : St} (w : Wn Ym D T ρ S A s H locs) (hl : lv_has ls 5 [(0, .ref (ρ 0)), (1, .int x1)]) (h : m_emitX_55 g S x1 = some S') : W p l e (rmN 2 49) s m args below meth c H locs 0 0 (MQ below (Qv Ym D T ρ A S') args s 0 0 A) (F0 m 55 ls []) := by
  unfold m_emitX_55 at h
  refine lv_aload_n C.1 C.2.1 dX13_emitX_55 rfl (lv_at hl 0 rfl) ?_
  refine lv_aload_n C.1 C.2.1 dX13_emitX_56 rfl (lv_at hl 0 rfl) ?_
  refine lv_iload_n C.1 C.2.1 dX13_emitX_57 rfl (lv_at hl 1 rfl) ?_
  obtain ⟨v_2, hv_2, h⟩ := bnd h
  refine x_callVi (q := (RX13, TX13, 68)) (As := [.int x1]) (rest := [.ref (ρ 0)]) C w (k_text l D T ρ g H.size S hv_2) vM463 ⟨by decide, by decide⟩ obM (by decide) rfl rfl rfl hl.1 (Nat.le_of_ble_eq_true rfl) ⟨Nat.zero_le _, Nat.zero_le _⟩ dX13_emitX_58 (fun H locs w => ?_)
  refine lv_iconst (v := 0) C.1 C.2.1 dX13_emitX_61 (by decide) ?_
  refine lv_aload_n C.1 C.2.1 dX13_emitX_62 rfl (lv_at hl 0 rfl) ?_
  refine x_getC C w 24 fM193 obM rfl dX13_emitX_63 ?_
  refine lv_aload_n C.1 C.2.1 dX13_emitX_66 rfl (lv_at hl 0 rfl) ?_
  refine lv_iload_n C.1 C.2.1 dX13_emitX_67 rfl (lv_at hl 1 rfl) ?_
  obtain ⟨v_3, hv_3, h⟩ := bnd h
  refine x_callVi (q := (RX13, TX13, 68)) (As := [.int x1]) (rest := [.ref (ρ 24), .int (0 : Int32), .int v_2, .ref (ρ 0)]) C w (k_text l D T ρ g H.size S hv_3) vM463 ⟨by decide, by decide⟩ obM (by decide) rfl rfl rfl hl.1 (Nat.le_of_ble_eq_true rfl) ⟨Nat.zero_le _, Nat.zero_le _⟩ dX13_emitX_68 (fun H locs w => ?_)
  obtain ⟨v_4, hv_4, h⟩ := bnd h
  refine x_iald C w obM24 hv_4 dX13_emitX_71 ?_
  obtain ⟨S_5, hS_5, h⟩ := bnd h
  refine x_callVv (q := (RX13, TX13, 68)) (As := [.int v_2, .int (0 : Int32), .int v_4]) (rest := []) C w (k_emitText l D T ρ g H.size S hS_5) vM478 ⟨by decide, by decide⟩ obM (by decide) rfl rfl rfl hl.1 (Nat.le_of_ble_eq_true rfl) ⟨Nat.zero_le _, Nat.zero_le _⟩ dX13_emitX_72 (fun H locs w => ?_)
  refine lv_goto (tgt := 197) C.1 C.2.1 dX13_emitX_75 (by decide) ?_
  obtain rfl := som h
  exact x_vret C w hr hk dX13_emitX_197
set_option maxRecDepth 100000 in
set_option maxHeartbeats 4000000 in
theorem w_emitX_88  {g : Nat} {S : St} {x1 : Int32} (C : CallFix p m c cX13_emitX 5 s args tb RX13) (hr : meth.sig.returnType = none) (hk : meth.locks = false) {S' : St} (w : Wn Ym D T ρ S A s H locs) (hl : lv_has ls 5 [(0, .ref (ρ 0)), (1, .int x1)]) (h : m_emitX_88 g S x1 = some S') : W p l e (rmN 2 49) s m args below meth c H locs 0 0 (MQ below (Qv Ym D T ρ A S') args s 0 0 A) (F0 m 88 ls []) := by
  unfold m_emitX_88 at h
  refine lv_aload_n C.1 C.2.1 dX13_emitX_88 rfl (lv_at hl 0 rfl) ?_
  refine lv_aload_n C.1 C.2.1 dX13_emitX_89 rfl (lv_at hl 0 rfl) ?_
  refine lv_iload_n C.1 C.2.1 dX13_emitX_90 rfl (lv_at hl 1 rfl) ?_
  obtain ⟨v_2, hv_2, h⟩ := bnd h
  refine x_callVj (q := (RX13, TX13, 68)) (As := [.int x1]) (rest := [.ref (ρ 0)]) C w (k_value l D T ρ g H.size S hv_2) vM459 ⟨by decide, by decide⟩ obM (by decide) rfl rfl rfl hl.1 (Nat.le_of_ble_eq_true rfl) ⟨Nat.zero_le _, Nat.zero_le _⟩ dX13_emitX_91 (fun H locs w => ?_)
  refine lv_bipush (v := 10) C.1 C.2.1 dX13_emitX_94 (by decide) ?_
  obtain ⟨S_3, hS_3, h⟩ := bnd h
  refine x_callVv (q := (RX13, TX13, 68)) (As := [.long v_2, .int (10 : Int32)]) (rest := []) C w (k_emitNumber l D T ρ g H.size S hS_3) vM481 ⟨by decide, by decide⟩ obM (by decide) rfl rfl rfl hl.1 (Nat.le_of_ble_eq_true rfl) ⟨Nat.zero_le _, Nat.zero_le _⟩ dX13_emitX_96 (fun H locs w => ?_)
  refine lv_goto (tgt := 197) C.1 C.2.1 dX13_emitX_99 (by decide) ?_
  obtain rfl := som h
  exact x_vret C w hr hk dX13_emitX_197
set_option maxRecDepth 100000 in
set_option maxHeartbeats 4000000 in
theorem w_emitX_113  {g : Nat} {S : St} {x1 : Int32} (C : CallFix p m c cX13_emitX 5 s args tb RX13) (hr : meth.sig.returnType = none) (hk : meth.locks = false) {S' : St} (w : Wn Ym D T ρ S A s H locs) (hl : lv_has ls 5 [(0, .ref (ρ 0)), (1, .int x1)]) (h : m_emitX_113 g S x1 = some S') : W p l e (rmN 2 49) s m args below meth c H locs 0 0 (MQ below (Qv Ym D T ρ A S') args s 0 0 A) (F0 m 113 ls []) := by
  unfold m_emitX_113 at h
  refine lv_aload_n C.1 C.2.1 dX13_emitX_113 rfl (lv_at hl 0 rfl) ?_
  refine lv_aload_n C.1 C.2.1 dX13_emitX_114 rfl (lv_at hl 0 rfl) ?_
  refine lv_iload_n C.1 C.2.1 dX13_emitX_115 rfl (lv_at hl 1 rfl) ?_
  obtain ⟨v_2, hv_2, h⟩ := bnd h
  refine x_callVj (q := (RX13, TX13, 68)) (As := [.int x1]) (rest := [.ref (ρ 0)]) C w (k_value l D T ρ g H.size S hv_2) vM459 ⟨by decide, by decide⟩ obM (by decide) rfl rfl rfl hl.1 (Nat.le_of_ble_eq_true rfl) ⟨Nat.zero_le _, Nat.zero_le _⟩ dX13_emitX_116 (fun H locs w => ?_)
  obtain ⟨S_3, hS_3, h⟩ := bnd h
  refine x_callVv (q := (RX13, TX13, 68)) (As := [.long v_2]) (rest := []) C w (k_emitPoint l D T ρ g H.size S hS_3) vM485 ⟨by decide, by decide⟩ obM (by decide) rfl rfl rfl hl.1 (Nat.le_of_ble_eq_true rfl) ⟨Nat.zero_le _, Nat.zero_le _⟩ dX13_emitX_119 (fun H locs w => ?_)
  refine lv_goto (tgt := 197) C.1 C.2.1 dX13_emitX_122 (by decide) ?_
  obtain rfl := som h
  exact x_vret C w hr hk dX13_emitX_197
set_option maxRecDepth 100000 in
set_option maxHeartbeats 4000000 in
theorem w_emitX_194  {g : Nat} {S : St} {y1 : Int32} (C : CallFix p m c cX13_emitX 5 s args tb RX13) (hr : meth.sig.returnType = none) (hk : meth.locks = false) {S' : St} (w : Wn Ym D T ρ S A s H locs) (hl : lv_has ls 5 []) (h : m_emitX_194 g S y1 = some S') : W p l e (rmN 2 49) s m args below meth c H locs 0 0 (MQ below (Qv Ym D T ρ A S') args s 0 0 A) (F0 m 194 ls [.int y1, .ref (ρ 0)]) := by
  unfold m_emitX_194 at h
  obtain ⟨S_3, hS_3, h⟩ := bnd h
  refine x_callVv (q := (RX13, TX13, 68)) (As := [.int y1]) (rest := []) C w (k_emitTruth l D T ρ g H.size S hS_3) vM489 ⟨by decide, by decide⟩ obM (by decide) rfl rfl rfl hl.1 (Nat.le_of_ble_eq_true rfl) ⟨Nat.zero_le _, Nat.zero_le _⟩ dX13_emitX_194 (fun H locs w => ?_)
  obtain rfl := som h
  exact x_vret C w hr hk dX13_emitX_197
set_option maxRecDepth 100000 in
set_option maxHeartbeats 4000000 in
theorem wb_emitX_141  {g : Nat} {S : St} {x3 : Int32} {x4 : Int32} (C : CallFix p m c cX13_emitX 5 s args tb RX13) (hr : meth.sig.returnType = none) (hk : meth.locks = false) {S' : St} {k141 : St → Int32 → Int32 → Option St} (kk141 : ∀ (S : St) (x3 : Int32) (x4 : Int32) (H : Heap) (locs : List Loc) (ls : Array Slot), Wn Ym D T ρ S A s H locs → lv_has ls 5 [(0, .ref (ρ 0)), (3, .int x3), (4, .int x4)] → k141 S x3 x4 = some S' → W p l e (rmN 2 49) s m args below meth c H locs 0 0 (MQ below (Qv Ym D T ρ A S') args s 0 0 A) (F0 m 141 ls [])) (w : Wn Ym D T ρ S A s H locs) (hl : lv_has ls 5 [(0, .ref (ρ 0)), (3, .int x3), (4, .int x4)]) (h : b_emitX_141 g k141 S x3 x4 = some S') : W p l e (rmN 2 49) s m args below meth c H locs 0 0 (MQ below (Qv Ym D T ρ A S') args s 0 0 A) (F0 m 141 ls []) := by
  unfold b_emitX_141 at h
  refine lv_iload C.1 C.2.1 dX13_emitX_141 (lv_at hl 2 rfl) ?_
  refine lv_aload_n C.1 C.2.1 dX13_emitX_143 rfl (lv_at hl 0 rfl) ?_
  refine x_getC C w 28 fM205 obM rfl dX13_emitX_144 ?_
  refine lv_iload_n C.1 C.2.1 dX13_emitX_147 rfl (lv_at hl 1 rfl) ?_
  obtain ⟨v_5, hv_5, h⟩ := bnd h
  refine x_iald C w obM28 hv_5 dX13_emitX_148 ?_
  refine lv_icmp_ge (tgt := 175) C.1 C.2.1 dX13_emitX_149 (by decide) (fun hc => ?_) (fun hc => ?_)
  · replace h := ift hc h
    refine lv_goto (tgt := 197) C.1 C.2.1 dX13_emitX_175 (by decide) ?_
    obtain rfl := som h
    exact x_vret C w hr hk dX13_emitX_197
  · replace h := iff0 hc h
    refine lv_aload_n C.1 C.2.1 dX13_emitX_152 rfl (lv_at hl 0 rfl) ?_
    refine lv_aload_n C.1 C.2.1 dX13_emitX_153 rfl (lv_at hl 0 rfl) ?_
    refine x_getC C w 30 fM211 obM rfl dX13_emitX_154 ?_
    refine lv_sipush (v := 400) C.1 C.2.1 dX13_emitX_157 (by decide) ?_
    refine lv_iload_n C.1 C.2.1 dX13_emitX_160 rfl (lv_at hl 1 rfl) ?_
    refine lv_imul C.1 C.2.1 dX13_emitX_161 ?_
    refine lv_iload C.1 C.2.1 dX13_emitX_162 (lv_at hl 2 rfl) ?_
    refine lv_iadd C.1 C.2.1 dX13_emitX_164 ?_
    obtain ⟨v_6, hv_6, h⟩ := bnd h
    refine x_iald C w obM30 hv_6 dX13_emitX_165 ?_
    obtain ⟨S_7, hS_7, h⟩ := bnd h
    refine x_callVv (q := (RX13, TX13, 68)) (As := [.int v_6]) (rest := []) C w (k_emit l D T ρ g H.size S hS_7) vM437 ⟨by decide, by decide⟩ obM (by decide) rfl rfl rfl hl.1 (Nat.le_of_ble_eq_true rfl) ⟨Nat.zero_le _, Nat.zero_le _⟩ dX13_emitX_166 (fun H locs w => ?_)
    obtain ⟨x4_8, ex4_8, h⟩ := lt_e h
    refine lv_iinc (v := x4_8) (lv' := [(4, .int x4_8), (0, .ref (ρ 0)), (3, .int x3)]) C.1 C.2.1 dX13_emitX_169 hl (k := 2) rfl (by rw [ex4_8]; rfl) (by decide) rfl (fun ls hl => ?_)
    refine lv_goto (tgt := 141) C.1 C.2.1 dX13_emitX_172 (by decide) ?_
    exact kk141 _ _ _ _ _ _ w (lv_sub hl [1, 2, 0] rfl) h
theorem w_emitX_141 {g : Nat} (C : CallFix p m c cX13_emitX 5 s args tb RX13) (hr : meth.sig.returnType = none) (hk : meth.locks = false) {S' : St} (n : Nat) : ∀ (S : St) (x3 : Int32) (x4 : Int32) (H : Heap) (locs : List Loc) (ls : Array Slot), Wn Ym D T ρ S A s H locs → lv_has ls 5 [(0, .ref (ρ 0)), (3, .int x3), (4, .int x4)] → m_emitX_141 g n S x3 x4 = some S' → W p l e (rmN 2 49) s m args below meth c H locs 0 0 (MQ below (Qv Ym D T ρ A S') args s 0 0 A) (F0 m 141 ls []) := by
  induction n with
  | zero => intro S x3 x4 H locs ls w hl h; exact absurd h (fun q => by cases q)
  | succ n ih => intro S x3 x4 H locs ls w hl h; exact wb_emitX_141 C hr hk ih w hl h
set_option maxRecDepth 100000 in
set_option maxHeartbeats 4000000 in
theorem w_emitX_46  {g : Nat} {S : St} {x1 : Int32} {x2 : Int32} (C : CallFix p m c cX13_emitX 5 s args tb RX13) (hr : meth.sig.returnType = none) (hk : meth.locks = false) {S' : St} (w : Wn Ym D T ρ S A s H locs) (hl : lv_has ls 5 [(0, .ref (ρ 0)), (1, .int x1), (2, .int x2)]) (h : m_emitX_46 g S x1 x2 = some S') : W p l e (rmN 2 49) s m args below meth c H locs 0 0 (MQ below (Qv Ym D T ρ A S') args s 0 0 A) (F0 m 46 ls []) := by
  unfold m_emitX_46 at h
  refine lv_iload_n C.1 C.2.1 dX13_emitX_46 rfl (lv_at hl 2 rfl) ?_
  refine lv_if_eq (tgt := 55) C.1 C.2.1 dX13_emitX_47 (by decide) (fun hc => ?_) (fun hc => ?_)
  · replace h := ift hc h
    exact w_emitX_55 C hr hk w (lv_sub hl [0, 1] rfl) h
  · replace h := iff0 hc h
    refine lv_iload_n C.1 C.2.1 dX13_emitX_50 rfl (lv_at hl 2 rfl) ?_
    refine lv_iconst (v := 3) C.1 C.2.1 dX13_emitX_51 (by decide) ?_
    refine lv_icmp_ne (tgt := 78) C.1 C.2.1 dX13_emitX_52 (by decide) (fun hc => ?_) (fun hc => ?_)
    · replace h := iff0 hc h
      refine lv_iload_n C.1 C.2.1 dX13_emitX_78 rfl (lv_at hl 2 rfl) ?_
      refine lv_iconst (v := 1) C.1 C.2.1 dX13_emitX_79 (by decide) ?_
      refine lv_icmp_eq (tgt := 88) C.1 C.2.1 dX13_emitX_80 (by decide) (fun hc => ?_) (fun hc => ?_)
      · replace h := ift hc h
        exact w_emitX_88 C hr hk w (lv_sub hl [0, 1] rfl) h
      · replace h := iff0 hc h
        refine lv_iload_n C.1 C.2.1 dX13_emitX_83 rfl (lv_at hl 2 rfl) ?_
        refine lv_iconst (v := 4) C.1 C.2.1 dX13_emitX_84 (by decide) ?_
        refine lv_icmp_ne (tgt := 102) C.1 C.2.1 dX13_emitX_85 (by decide) (fun hc => ?_) (fun hc => ?_)
        · replace h := iff0 hc h
          refine lv_iload_n C.1 C.2.1 dX13_emitX_102 rfl (lv_at hl 2 rfl) ?_
          refine lv_iconst (v := 5) C.1 C.2.1 dX13_emitX_103 (by decide) ?_
          refine lv_icmp_eq (tgt := 113) C.1 C.2.1 dX13_emitX_104 (by decide) (fun hc => ?_) (fun hc => ?_)
          · replace h := ift hc h
            exact w_emitX_113 C hr hk w (lv_sub hl [0, 1] rfl) h
          · replace h := iff0 hc h
            refine lv_iload_n C.1 C.2.1 dX13_emitX_107 rfl (lv_at hl 2 rfl) ?_
            refine lv_bipush (v := 6) C.1 C.2.1 dX13_emitX_108 (by decide) ?_
            refine lv_icmp_ne (tgt := 125) C.1 C.2.1 dX13_emitX_110 (by decide) (fun hc => ?_) (fun hc => ?_)
            · replace h := iff0 hc h
              refine lv_iload_n C.1 C.2.1 dX13_emitX_125 rfl (lv_at hl 2 rfl) ?_
              refine lv_iconst (v := 2) C.1 C.2.1 dX13_emitX_126 (by decide) ?_
              refine lv_icmp_ne (tgt := 178) C.1 C.2.1 dX13_emitX_127 (by decide) (fun hc => ?_) (fun hc => ?_)
              · replace h := iff0 hc h
                refine lv_aload_n C.1 C.2.1 dX13_emitX_178 rfl (lv_at hl 0 rfl) ?_
                refine lv_aload_n C.1 C.2.1 dX13_emitX_179 rfl (lv_at hl 0 rfl) ?_
                refine lv_iload_n C.1 C.2.1 dX13_emitX_180 rfl (lv_at hl 1 rfl) ?_
                obtain ⟨v_2, hv_2, h⟩ := bnd h
                refine x_callVj (q := (RX13, TX13, 68)) (As := [.int x1]) (rest := [.ref (ρ 0)]) C w (k_value l D T ρ g H.size S hv_2) vM459 ⟨by decide, by decide⟩ obM (by decide) rfl rfl rfl hl.1 (Nat.le_of_ble_eq_true rfl) ⟨Nat.zero_le _, Nat.zero_le _⟩ dX13_emitX_181 (fun H locs w => ?_)
                refine lv_lconst (v := 0) C.1 C.2.1 dX13_emitX_184 (by decide) ?_
                refine x_l_eq (tgt := 193) C dX13_emitX_185 dX13_emitX_186 (by decide) (fun hc => ?_) (fun hc => ?_)
                · replace h := ift hc h
                  refine lv_iconst (v := 0) C.1 C.2.1 dX13_emitX_193 (by decide) ?_
                  exact w_emitX_194 C hr hk w (lv_sub hl [] rfl) h
                · replace h := iff0 hc h
                  refine lv_iconst (v := 1) C.1 C.2.1 dX13_emitX_189 (by decide) ?_
                  refine lv_goto (tgt := 194) C.1 C.2.1 dX13_emitX_190 (by decide) ?_
                  exact w_emitX_194 C hr hk w (lv_sub hl [] rfl) h
              · replace h := ift hc h
                refine lv_aload_n C.1 C.2.1 dX13_emitX_130 rfl (lv_at hl 0 rfl) ?_
                refine x_getC C w 10 fM150 obM rfl dX13_emitX_131 ?_
                refine lv_iload_n C.1 C.2.1 dX13_emitX_134 rfl (lv_at hl 1 rfl) ?_
                obtain ⟨v_3, hv_3, h⟩ := bnd h
                refine x_lald C w obM10 hv_3 dX13_emitX_135 ?_
                refine lv_l2i C.1 C.2.1 dX13_emitX_136 rfl ?_
                obtain ⟨x3_4, ex3_4, h⟩ := lt_e h
                refine x_nm ex3_4 ?_
                refine lv_istore_n (lv' := [(3, .int x3_4), (0, .ref (ρ 0)), (1, .int x1), (2, .int x2)]) C.1 C.2.1 dX13_emitX_137 rfl hl (by decide) rfl (fun ls hl => ?_)
                refine lv_iconst (v := 0) C.1 C.2.1 dX13_emitX_138 (by decide) ?_
                refine lv_istore (lv' := [(4, .int (0 : Int32)), (3, .int x3_4), (0, .ref (ρ 0)), (1, .int x1), (2, .int x2)]) C.1 C.2.1 dX13_emitX_139 hl (by decide) rfl (fun ls hl => ?_)
                exact w_emitX_141 C hr hk g _ _ _ _ _ _ w (lv_sub hl [2, 1, 0] rfl) h
            · replace h := ift hc h
              exact w_emitX_113 C hr hk w (lv_sub hl [0, 1] rfl) h
        · replace h := ift hc h
          exact w_emitX_88 C hr hk w (lv_sub hl [0, 1] rfl) h
    · replace h := ift hc h
      exact w_emitX_55 C hr hk w (lv_sub hl [0, 1] rfl) h
set_option maxRecDepth 100000 in
set_option maxHeartbeats 4000000 in
theorem w_emitX_0  {g : Nat} {S : St} {x1 : Int32} (C : CallFix p m c cX13_emitX 5 s args tb RX13) (hr : meth.sig.returnType = none) (hk : meth.locks = false) {S' : St} (w : Wn Ym D T ρ S A s H locs) (hl : lv_has ls 5 [(0, .ref (ρ 0)), (1, .int x1)]) (h : m_emitX g S x1 = some S') : W p l e (rmN 2 49) s m args below meth c H locs 0 0 (MQ below (Qv Ym D T ρ A S') args s 0 0 A) (F0 m 0 ls []) := by
  unfold m_emitX at h
  refine lv_aload_n C.1 C.2.1 dX13_emitX_0 rfl (lv_at hl 0 rfl) ?_
  refine x_getC C w 8 fM144 obM rfl dX13_emitX_1 ?_
  refine lv_iload_n C.1 C.2.1 dX13_emitX_4 rfl (lv_at hl 1 rfl) ?_
  obtain ⟨v_1, hv_1, h⟩ := bnd h
  refine x_iald C w obM8 hv_1 dX13_emitX_5 ?_
  refine lv_istore_n (lv' := [(2, .int v_1), (0, .ref (ρ 0)), (1, .int x1)]) C.1 C.2.1 dX13_emitX_6 rfl hl (by decide) rfl (fun ls hl => ?_)
  refine lv_iload_n C.1 C.2.1 dX13_emitX_7 rfl (lv_at hl 0 rfl) ?_
  refine lv_if_ne (tgt := 46) C.1 C.2.1 dX13_emitX_8 (by decide) (fun hc => ?_) (fun hc => ?_)
  · replace h := iff0 hc h
    exact w_emitX_46 C hr hk w (lv_sub hl [1, 2, 0] rfl) h
  · replace h := ift hc h
    refine lv_aload_n C.1 C.2.1 dX13_emitX_11 rfl (lv_at hl 1 rfl) ?_
    refine lv_iload_n C.1 C.2.1 dX13_emitX_12 rfl (lv_at hl 2 rfl) ?_
    obtain ⟨v_2, hv_2, h⟩ := bnd h
    refine x_callVi (q := (RX13, TX13, 68)) (As := [.int x1]) (rest := []) C w (k_text l D T ρ g H.size S hv_2) vM463 ⟨by decide, by decide⟩ obM (by decide) rfl rfl rfl hl.1 (Nat.le_of_ble_eq_true rfl) ⟨Nat.zero_le _, Nat.zero_le _⟩ dX13_emitX_13 (fun H locs w => ?_)
    refine lv_if_ge (tgt := 46) C.1 C.2.1 dX13_emitX_16 (by decide) (fun hc => ?_) (fun hc => ?_)
    · replace h := ift hc h
      exact w_emitX_46 C hr hk w (lv_sub hl [1, 2, 0] rfl) h
    · replace h := iff0 hc h
      refine lv_aload_n C.1 C.2.1 dX13_emitX_19 rfl (lv_at hl 1 rfl) ?_
      refine lv_bipush (v := 110) C.1 C.2.1 dX13_emitX_20 (by decide) ?_
      obtain ⟨S_3, hS_3, h⟩ := bnd h
      refine x_callVv (q := (RX13, TX13, 68)) (As := [.int (110 : Int32)]) (rest := []) C w (k_emit l D T ρ g H.size S hS_3) vM437 ⟨by decide, by decide⟩ obM (by decide) rfl rfl rfl hl.1 (Nat.le_of_ble_eq_true rfl) ⟨Nat.zero_le _, Nat.zero_le _⟩ dX13_emitX_22 (fun H locs w => ?_)
      refine lv_aload_n C.1 C.2.1 dX13_emitX_25 rfl (lv_at hl 1 rfl) ?_
      refine lv_bipush (v := 117) C.1 C.2.1 dX13_emitX_26 (by decide) ?_
      obtain ⟨S_4, hS_4, h⟩ := bnd h
      refine x_callVv (q := (RX13, TX13, 68)) (As := [.int (117 : Int32)]) (rest := []) C w (k_emit l D T ρ g H.size S_3 hS_4) vM437 ⟨by decide, by decide⟩ obM (by decide) rfl rfl rfl hl.1 (Nat.le_of_ble_eq_true rfl) ⟨Nat.zero_le _, Nat.zero_le _⟩ dX13_emitX_28 (fun H locs w => ?_)
      refine lv_aload_n C.1 C.2.1 dX13_emitX_31 rfl (lv_at hl 1 rfl) ?_
      refine lv_bipush (v := 108) C.1 C.2.1 dX13_emitX_32 (by decide) ?_
      obtain ⟨S_5, hS_5, h⟩ := bnd h
      refine x_callVv (q := (RX13, TX13, 68)) (As := [.int (108 : Int32)]) (rest := []) C w (k_emit l D T ρ g H.size S_4 hS_5) vM437 ⟨by decide, by decide⟩ obM (by decide) rfl rfl rfl hl.1 (Nat.le_of_ble_eq_true rfl) ⟨Nat.zero_le _, Nat.zero_le _⟩ dX13_emitX_34 (fun H locs w => ?_)
      refine lv_aload_n C.1 C.2.1 dX13_emitX_37 rfl (lv_at hl 1 rfl) ?_
      refine lv_bipush (v := 108) C.1 C.2.1 dX13_emitX_38 (by decide) ?_
      obtain ⟨S_6, hS_6, h⟩ := bnd h
      refine x_callVv (q := (RX13, TX13, 68)) (As := [.int (108 : Int32)]) (rest := []) C w (k_emit l D T ρ g H.size S_5 hS_6) vM437 ⟨by decide, by decide⟩ obM (by decide) rfl rfl rfl hl.1 (Nat.le_of_ble_eq_true rfl) ⟨Nat.zero_le _, Nat.zero_le _⟩ dX13_emitX_40 (fun H locs w => ?_)
      refine lv_goto (tgt := 197) C.1 C.2.1 dX13_emitX_43 (by decide) ?_
      obtain rfl := som h
      exact x_vret C w hr hk dX13_emitX_197
end S_emitX
set_option maxRecDepth 100000 in
theorem k_emitX (l : Launch) (D : va_G) (T : Cy) (ρ : Nat → Nat) (g sz : Nat) (S : St) {x1 : Int32} {S' : St} (h : m_emitX g S x1 = some S') : Mv l Ym D T ρ yX13_emitX cX13_emitX 5 none 2 49 S S' [.ref (ρ 0), .int x1] sz :=
  x_in (by decide) (Nat.le_of_ble_eq_true rfl) (fun p e s m below meth c ls C hr hk w hl => w_emitX_0 C hr hk w hl h)
