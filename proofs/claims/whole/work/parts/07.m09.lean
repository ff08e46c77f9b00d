theorem dX13_reckons_0 : decode cX13_reckons 0 = .ok (.iload_n 1, 1) := by decide +kernel
theorem dX13_reckons_1 : decode cX13_reckons 1 = .ok (.bipush 45, 2) := by decide +kernel
theorem dX13_reckons_3 : decode cX13_reckons 3 = .ok (.if_icmp .ne 38, 3) := by decide +kernel
theorem dX13_reckons_6 : decode cX13_reckons 6 = .ok (.iconst 1, 1) := by decide +kernel
theorem dX13_reckons_7 : decode cX13_reckons 7 = .ok (.istore 4, 2) := by decide +kernel
theorem dX13_reckons_9 : decode cX13_reckons 9 = .ok (.iload 4, 2) := by decide +kernel
theorem dX13_reckons_11 : decode cX13_reckons 11 = .ok (.iload_n 3, 1) := by decide +kernel
theorem dX13_reckons_12 : decode cX13_reckons 12 = .ok (.if_icmp .ge 21, 3) := by decide +kernel
theorem dX13_reckons_15 : decode cX13_reckons 15 = .ok (.aload_n 0, 1) := by decide +kernel
theorem dX13_reckons_16 : decode cX13_reckons 16 = .ok (.aload_n 0, 1) := by decide +kernel
theorem dX13_reckons_17 : decode cX13_reckons 17 = .ok (.iload_n 2, 1) := by decide +kernel
theorem dX13_reckons_18 : decode cX13_reckons 18 = .ok (.iload 4, 2) := by decide +kernel
theorem dX13_reckons_20 : decode cX13_reckons 20 = .ok (.iadd, 1) := by decide +kernel
theorem dX13_reckons_21 : decode cX13_reckons 21 = .ok (.invokevirtual 459, 3) := by decide +kernel
theorem dX13_reckons_24 : decode cX13_reckons 24 = .ok (.invokevirtual 485, 3) := by decide +kernel
theorem dX13_reckons_27 : decode cX13_reckons 27 = .ok (.iinc 4 1, 3) := by decide +kernel
theorem dX13_reckons_30 : decode cX13_reckons 30 = .ok (.goto (-21), 3) := by decide +kernel
theorem dX13_reckons_33 : decode cX13_reckons 33 = .ok (.aload_n 0, 1) := by decide +kernel
theorem dX13_reckons_34 : decode cX13_reckons 34 = .ok (.iload_n 2, 1) := by decide +kernel
theorem dX13_reckons_35 : decode cX13_reckons 35 = .ok (.invokevirtual 614, 3) := by decide +kernel
theorem dX13_reckons_38 : decode cX13_reckons 38 = .ok (.goto 232, 3) := by decide +kernel
theorem dX13_reckons_41 : decode cX13_reckons 41 = .ok (.iload_n 1, 1) := by decide +kernel
theorem dX13_reckons_42 : decode cX13_reckons 42 = .ok (.bipush 46, 2) := by decide +kernel
theorem dX13_reckons_44 : decode cX13_reckons 44 = .ok (.if_icmp .ne 53, 3) := by decide +kernel
theorem dX13_reckons_47 : decode cX13_reckons 47 = .ok (.aload_n 0, 1) := by decide +kernel
theorem dX13_reckons_48 : decode cX13_reckons 48 = .ok (.iload_n 2, 1) := by decide +kernel
theorem dX13_reckons_49 : decode cX13_reckons 49 = .ok (.iconst 2, 1) := by decide +kernel
theorem dX13_reckons_50 : decode cX13_reckons 50 = .ok (.iadd, 1) := by decide +kernel
theorem dX13_reckons_51 : decode cX13_reckons 51 = .ok (.invokevirtual 459, 3) := by decide +kernel
theorem dX13_reckons_54 : decode cX13_reckons 54 = .ok (.lstore 4, 2) := by decide +kernel
theorem dX13_reckons_56 : decode cX13_reckons 56 = .ok (.aload_n 0, 1) := by decide +kernel
theorem dX13_reckons_57 : decode cX13_reckons 57 = .ok (.aload_n 0, 1) := by decide +kernel
theorem dX13_reckons_58 : decode cX13_reckons 58 = .ok (.iload_n 2, 1) := by decide +kernel
theorem dX13_reckons_59 : decode cX13_reckons 59 = .ok (.iconst 1, 1) := by decide +kernel
theorem dX13_reckons_60 : decode cX13_reckons 60 = .ok (.iadd, 1) := by decide +kernel
theorem dX13_reckons_61 : decode cX13_reckons 61 = .ok (.invokevirtual 459, 3) := by decide +kernel
theorem dX13_reckons_64 : decode cX13_reckons 64 = .ok (.lload 4, 2) := by decide +kernel
theorem dX13_reckons_66 : decode cX13_reckons 66 = .ok (.ldc2_w 684, 3) := by decide +kernel
theorem dX13_reckons_69 : decode cX13_reckons 69 = .ok (.ldc2_w 686, 3) := by decide +kernel
theorem dX13_reckons_72 : decode cX13_reckons 72 = .ok (.invokestatic 318, 3) := by decide +kernel
theorem dX13_reckons_75 : decode cX13_reckons 75 = .ok (.ifCond .eq 9, 3) := by decide +kernel
theorem dX13_reckons_78 : decode cX13_reckons 78 = .ok (.lload 4, 2) := by decide +kernel
theorem dX13_reckons_80 : decode cX13_reckons 80 = .ok (.l2i, 1) := by decide +kernel
theorem dX13_reckons_81 : decode cX13_reckons 81 = .ok (.goto 5, 3) := by decide +kernel
theorem dX13_reckons_84 : decode cX13_reckons 84 = .ok (.bipush 10, 2) := by decide +kernel
theorem dX13_reckons_86 : decode cX13_reckons 86 = .ok (.invokevirtual 481, 3) := by decide +kernel
theorem dX13_reckons_89 : decode cX13_reckons 89 = .ok (.aload_n 0, 1) := by decide +kernel
theorem dX13_reckons_90 : decode cX13_reckons 90 = .ok (.iload_n 2, 1) := by decide +kernel
theorem dX13_reckons_91 : decode cX13_reckons 91 = .ok (.invokevirtual 614, 3) := by decide +kernel
theorem dX13_reckons_94 : decode cX13_reckons 94 = .ok (.goto 176, 3) := by decide +kernel
theorem dX13_reckons_97 : decode cX13_reckons 97 = .ok (.iload_n 1, 1) := by decide +kernel
theorem dX13_reckons_98 : decode cX13_reckons 98 = .ok (.bipush 48, 2) := by decide +kernel
theorem dX13_reckons_100 : decode cX13_reckons 100 = .ok (.if_icmp .gt 12, 3) := by decide +kernel
theorem dX13_reckons_103 : decode cX13_reckons 103 = .ok (.aload_n 0, 1) := by decide +kernel
theorem dX13_reckons_104 : decode cX13_reckons 104 = .ok (.iload_n 1, 1) := by decide +kernel
theorem dX13_reckons_105 : decode cX13_reckons 105 = .ok (.iload_n 2, 1) := by decide +kernel
theorem dX13_reckons_106 : decode cX13_reckons 106 = .ok (.invokevirtual 688, 3) := by decide +kernel
theorem dX13_reckons_109 : decode cX13_reckons 109 = .ok (.goto 161, 3) := by decide +kernel
theorem dX13_reckons_112 : decode cX13_reckons 112 = .ok (.iload_n 1, 1) := by decide +kernel
theorem dX13_reckons_113 : decode cX13_reckons 113 = .ok (.bipush 49, 2) := by decide +kernel
theorem dX13_reckons_115 : decode cX13_reckons 115 = .ok (.if_icmp .ne 39, 3) := by decide +kernel
theorem dX13_reckons_118 : decode cX13_reckons 118 = .ok (.aload_n 0, 1) := by decide +kernel
theorem dX13_reckons_119 : decode cX13_reckons 119 = .ok (.iload_n 2, 1) := by decide +kernel
theorem dX13_reckons_120 : decode cX13_reckons 120 = .ok (.iconst 1, 1) := by decide +kernel
theorem dX13_reckons_121 : decode cX13_reckons 121 = .ok (.iadd, 1) := by decide +kernel
theorem dX13_reckons_122 : decode cX13_reckons 122 = .ok (.invokevirtual 463, 3) := by decide +kernel
theorem dX13_reckons_125 : decode cX13_reckons 125 = .ok (.istore 4, 2) := by decide +kernel
theorem dX13_reckons_127 : decode cX13_reckons 127 = .ok (.aload_n 0, 1) := by decide +kernel
theorem dX13_reckons_128 : decode cX13_reckons 128 = .ok (.iload_n 2, 1) := by decide +kernel
theorem dX13_reckons_129 : decode cX13_reckons 129 = .ok (.iload 4, 2) := by decide +kernel
theorem dX13_reckons_131 : decode cX13_reckons 131 = .ok (.ifCond .lt 16, 3) := by decide +kernel
theorem dX13_reckons_134 : decode cX13_reckons 134 = .ok (.aload_n 0, 1) := by decide +kernel
theorem dX13_reckons_135 : decode cX13_reckons 135 = .ok (.iload 4, 2) := by decide +kernel
theorem dX13_reckons_137 : decode cX13_reckons 137 = .ok (.invokevirtual 691, 3) := by decide +kernel
theorem dX13_reckons_140 : decode cX13_reckons 140 = .ok (.ifCond .eq 7, 3) := by decide +kernel
theorem dX13_reckons_143 : decode cX13_reckons 143 = .ok (.lconst 1, 1) := by decide +kernel
theorem dX13_reckons_144 : decode cX13_reckons 144 = .ok (.goto 4, 3) := by decide +kernel
theorem dX13_reckons_147 : decode cX13_reckons 147 = .ok (.lconst 0, 1) := by decide +kernel
theorem dX13_reckons_148 : decode cX13_reckons 148 = .ok (.invokevirtual 567, 3) := by decide +kernel
theorem dX13_reckons_151 : decode cX13_reckons 151 = .ok (.goto 119, 3) := by decide +kernel
theorem dX13_reckons_154 : decode cX13_reckons 154 = .ok (.iload_n 1, 1) := by decide +kernel
theorem dX13_reckons_155 : decode cX13_reckons 155 = .ok (.bipush 55, 2) := by decide +kernel
theorem dX13_reckons_157 : decode cX13_reckons 157 = .ok (.if_icmp .ne 57, 3) := by decide +kernel
theorem dX13_reckons_160 : decode cX13_reckons 160 = .ok (.aload_n 0, 1) := by decide +kernel
theorem dX13_reckons_161 : decode cX13_reckons 161 = .ok (.aload_n 0, 1) := by decide +kernel
theorem dX13_reckons_162 : decode cX13_reckons 162 = .ok (.getfield 422, 3) := by decide +kernel
theorem dX13_reckons_165 : decode cX13_reckons 165 = .ok (.bipush 30, 2) := by decide +kernel
theorem dX13_reckons_167 : decode cX13_reckons 167 = .ok (.if_icmp .ne 7, 3) := by decide +kernel
theorem dX13_reckons_170 : decode cX13_reckons 170 = .ok (.iconst 1, 1) := by decide +kernel
theorem dX13_reckons_171 : decode cX13_reckons 171 = .ok (.goto 4, 3) := by decide +kernel
theorem dX13_reckons_174 : decode cX13_reckons 174 = .ok (.iconst 0, 1) := by decide +kernel
theorem dX13_reckons_175 : decode cX13_reckons 175 = .ok (.iconst 5, 1) := by decide +kernel
theorem dX13_reckons_176 : decode cX13_reckons 176 = .ok (.invokevirtual 466, 3) := by decide +kernel
theorem dX13_reckons_179 : decode cX13_reckons 179 = .ok (.aload_n 0, 1) := by decide +kernel
theorem dX13_reckons_180 : decode cX13_reckons 180 = .ok (.getfield 398, 3) := by decide +kernel
theorem dX13_reckons_183 : decode cX13_reckons 183 = .ok (.ifCond .eq 4, 3) := by decide +kernel
theorem dX13_reckons_186 : decode cX13_reckons 186 = .ok (.return_, 1) := by decide +kernel
theorem dX13_reckons_187 : decode cX13_reckons 187 = .ok (.aload_n 0, 1) := by decide +kernel
theorem dX13_reckons_188 : decode cX13_reckons 188 = .ok (.getfield 220, 3) := by decide +kernel
theorem dX13_reckons_191 : decode cX13_reckons 191 = .ok (.aload_n 0, 1) := by decide +kernel
theorem dX13_reckons_192 : decode cX13_reckons 192 = .ok (.getfield 422, 3) := by decide +kernel
theorem dX13_reckons_195 : decode cX13_reckons 195 = .ok (.aload_n 0, 1) := by decide +kernel
theorem dX13_reckons_196 : decode cX13_reckons 196 = .ok (.iload_n 2, 1) := by decide +kernel
theorem dX13_reckons_197 : decode cX13_reckons 197 = .ok (.invokevirtual 459, 3) := by decide +kernel
theorem dX13_reckons_200 : decode cX13_reckons 200 = .ok (.lastore, 1) := by decide +kernel
theorem dX13_reckons_201 : decode cX13_reckons 201 = .ok (.aload_n 0, 1) := by decide +kernel
theorem dX13_reckons_202 : decode cX13_reckons 202 = .ok (.dup, 1) := by decide +kernel
theorem dX13_reckons_203 : decode cX13_reckons 203 = .ok (.getfield 422, 3) := by decide +kernel
theorem dX13_reckons_206 : decode cX13_reckons 206 = .ok (.iconst 1, 1) := by decide +kernel
theorem dX13_reckons_207 : decode cX13_reckons 207 = .ok (.iadd, 1) := by decide +kernel
theorem dX13_reckons_208 : decode cX13_reckons 208 = .ok (.putfield 422, 3) := by decide +kernel
theorem dX13_reckons_211 : decode cX13_reckons 211 = .ok (.goto 59, 3) := by decide +kernel
theorem dX13_reckons_214 : decode cX13_reckons 214 = .ok (.aload_n 0, 1) := by decide +kernel
theorem dX13_reckons_215 : decode cX13_reckons 215 = .ok (.iload_n 2, 1) := by decide +kernel
theorem dX13_reckons_216 : decode cX13_reckons 216 = .ok (.iconst 1, 1) := by decide +kernel
theorem dX13_reckons_217 : decode cX13_reckons 217 = .ok (.iadd, 1) := by decide +kernel
theorem dX13_reckons_218 : decode cX13_reckons 218 = .ok (.invokevirtual 459, 3) := by decide +kernel
theorem dX13_reckons_221 : decode cX13_reckons 221 = .ok (.lstore 4, 2) := by decide +kernel
theorem dX13_reckons_223 : decode cX13_reckons 223 = .ok (.aload_n 0, 1) := by decide +kernel
theorem dX13_reckons_224 : decode cX13_reckons 224 = .ok (.iload_n 2, 1) := by decide +kernel
theorem dX13_reckons_225 : decode cX13_reckons 225 = .ok (.iconst 2, 1) := by decide +kernel
theorem dX13_reckons_226 : decode cX13_reckons 226 = .ok (.iadd, 1) := by decide +kernel
theorem dX13_reckons_227 : decode cX13_reckons 227 = .ok (.invokevirtual 459, 3) := by decide +kernel
theorem dX13_reckons_230 : decode cX13_reckons 230 = .ok (.lstore 6, 2) := by decide +kernel
theorem dX13_reckons_232 : decode cX13_reckons 232 = .ok (.aload_n 0, 1) := by decide +kernel
theorem dX13_reckons_233 : decode cX13_reckons 233 = .ok (.iload_n 2, 1) := by decide +kernel
theorem dX13_reckons_234 : decode cX13_reckons 234 = .ok (.iload_n 1, 1) := by decide +kernel
theorem dX13_reckons_235 : decode cX13_reckons 235 = .ok (.bipush 50, 2) := by decide +kernel
theorem dX13_reckons_237 : decode cX13_reckons 237 = .ok (.if_icmp .ne 11, 3) := by decide +kernel
theorem dX13_reckons_240 : decode cX13_reckons 240 = .ok (.lload 4, 2) := by decide +kernel
theorem dX13_reckons_242 : decode cX13_reckons 242 = .ok (.lload 6, 2) := by decide +kernel
theorem dX13_reckons_244 : decode cX13_reckons 244 = .ok (.ladd, 1) := by decide +kernel
theorem dX13_reckons_245 : decode cX13_reckons 245 = .ok (.goto 22, 3) := by decide +kernel
theorem dX13_reckons_248 : decode cX13_reckons 248 = .ok (.iload_n 1, 1) := by decide +kernel
theorem dX13_reckons_249 : decode cX13_reckons 249 = .ok (.bipush 51, 2) := by decide +kernel
theorem dX13_reckons_251 : decode cX13_reckons 251 = .ok (.if_icmp .ne 11, 3) := by decide +kernel
theorem dX13_reckons_254 : decode cX13_reckons 254 = .ok (.lload 4, 2) := by decide +kernel
theorem dX13_reckons_256 : decode cX13_reckons 256 = .ok (.lload 6, 2) := by decide +kernel
theorem dX13_reckons_258 : decode cX13_reckons 258 = .ok (.lsub, 1) := by decide +kernel
theorem dX13_reckons_259 : decode cX13_reckons 259 = .ok (.goto 8, 3) := by decide +kernel
theorem dX13_reckons_262 : decode cX13_reckons 262 = .ok (.lload 4, 2) := by decide +kernel
theorem dX13_reckons_264 : decode cX13_reckons 264 = .ok (.lload 6, 2) := by decide +kernel
theorem dX13_reckons_266 : decode cX13_reckons 266 = .ok (.lmul, 1) := by decide +kernel
theorem dX13_reckons_267 : decode cX13_reckons 267 = .ok (.invokevirtual 567, 3) := by decide +kernel
theorem dX13_reckons_270 : decode cX13_reckons 270 = .ok (.return_, 1) := by decide +kernel
def m_reckons_267 (g : Nat) (S : St) (y1 : Int32) (y2 : Int64) : Option St :=
(m_givesWhole g S y1 y2).bind fun S_3 =>
some S_3
def m_reckons_175 (g : Nat) (S : St) (x2 : Int32) (y1 : Int32) : Option St :=
(m_refuse g S y1 (5 : Int32)).bind fun S_3 =>
if (gI S_3 0 58) = 0 then (
  (m_value g S_3 x2).bind fun v_4 =>
  (tJ S_3 33 (gI S_3 0 51) v_4).bind fun S_5 =>
  lt (sI S_5 0 51 ((gI S_5 0 51) + (1 : Int32))) fun S_6 =>
  some S_6
) else (
  some S_3
)
def m_reckons_148 (g : Nat) (S : St) (y1 : Int32) (y2 : Int64) : Option St :=
(m_givesWhole g S y1 y2).bind fun S_4 =>
some S_4
def m_reckons_147 (g : Nat) (S : St) (y1 : Int32) : Option St :=
m_reckons_148 g S y1 (0 : Int64)
def m_reckons_86 (g : Nat) (S : St) (x2 : Int32) (y1 : Int64) (y2 : Int32) : Option St :=
(m_emitNumber g S y1 y2).bind fun S_10 =>
(m_givesUnits g S_10 x2).bind fun S_11 =>
some S_11
def b_reckons_9 (g : Nat) (k9 : St → Int32 → Int32 → Int32 → Option St) (S : St) (x2 : Int32) (x3 : Int32) (x4 : Int32) : Option St :=
if x3 ≤ x4 then (
  (m_givesUnits g S x2).bind fun S_10 =>
  some S_10
) else (
  (m_value g S (x2 + x4)).bind fun v_11 =>
  (m_emitPoint g S v_11).bind fun S_12 =>
  lt (x4 + (1 : Int32)) fun x4_13 =>
  k9 S_12 x2 x3 x4_13
)
def m_reckons_9 (g : Nat) : Nat → St → Int32 → Int32 → Int32 → Option St
  | 0, _, _, _, _ => none
  | n + 1, S, x2, x3, x4 => b_reckons_9 g (m_reckons_9 g n) S x2 x3 x4
def m_reckons (g : Nat) (S : St) (x1 : Int32) (x2 : Int32) (x3 : Int32) : Option St :=
if x1 = (45 : Int32) then (
  m_reckons_9 g g S x2 x3 (1 : Int32)
) else (
  if x1 = (46 : Int32) then (
    (m_value g S (x2 + (2 : Int32))).bind fun v_7 =>
    (m_value g S (x2 + (1 : Int32))).bind fun v_8 =>
    (m_isIn g v_7 (2 : Int64) (36 : Int64)).bind fun v_9 =>
    if v_9 = 0 then (
      m_reckons_86 g S x2 v_8 (10 : Int32)
    ) else (
      m_reckons_86 g S x2 v_8 (v_7.toInt32)
    )
  ) else (
    if (48 : Int32) < x1 then (
      if x1 = (49 : Int32) then (
        (m_text g S (x2 + (1 : Int32))).bind fun v_3 =>
        if v_3 < 0 then (
          m_reckons_147 g S x2
        ) else (
          (m_isTrue g S v_3).bind fun (S_4, v_5) =>
          if v_5 = 0 then (
            m_reckons_147 g S_4 x2
          ) else (
            m_reckons_148 g S_4 x2 (1 : Int64)
          )
        )
      ) else (
        if x1 = (55 : Int32) then (
          if (gI S 0 51) = (30 : Int32) then (
            m_reckons_175 g S x2 (1 : Int32)
          ) else (
            m_reckons_175 g S x2 (0 : Int32)
          )
        ) else (
          (m_value g S (x2 + (1 : Int32))).bind fun v_1 =>
          (m_value g S (x2 + (2 : Int32))).bind fun v_2 =>
          if x1 = (50 : Int32) then (
            m_reckons_267 g S x2 (v_1 + v_2)
          ) else (
            if x1 = (51 : Int32) then (
              m_reckons_267 g S x2 (v_1 - v_2)
            ) else (
              m_reckons_267 g S x2 (v_1 * v_2)
            )
          )
        )
      )
    ) else (
      (m_parses g S x1 x2).bind fun S_6 =>
      some S_6
    )
  )
)
section S_reckons
variable {p : Program} {l : Launch} {e : Env} {s : State} {m : MethodId} {args : Array Value} {below : List Frame} {meth : Method} {c : Code} {H : Heap} {locs : List Loc} {ls : Array Slot} {D : va_G} {T : Cy} {ρ : Nat → Nat} {A : Nat → Prop}
set_option maxRecDepth 100000 in
set_option maxHeartbeats 4000000 in
theorem w_reckons_267  {g : Nat} {S : St} {y1 : Int32} {y2 : Int64} (C : CallFix p m c cX13_reckons 8 s args tb RX13) (hr : meth.sig.returnType = none) (hk : meth.locks = false) {S' : St} (w : Wn Ym D T ρ S A s H locs) (hl : lv_has ls 8 []) (h : m_reckons_267 g S y1 y2 = some S') : W p l e (rmN 4 88) s m args below meth c H locs 0 0 (MQ below (Qv Ym D T ρ A S') args s 0 0 A) (F0 m 267 ls [.long y2, .int y1, .ref (ρ 0)]) := by
  unfold m_reckons_267 at h
  obtain ⟨S_3, hS_3, h⟩ := bnd h
  refine x_callVv (q := (RX13, TX13, 68)) (As := [.int y1, .long y2]) (rest := []) C w (k_givesWhole l D T ρ g H.size S hS_3) vM567 ⟨by decide, by decide⟩ obM (by decide) rfl rfl rfl hl.1 (Nat.le_of_ble_eq_true rfl) ⟨Nat.zero_le _, Nat.zero_le _⟩ dX13_reckons_267 (fun H locs w => ?_)
  obtain rfl := som h
  exact x_vret C w hr hk dX13_reckons_270
set_option maxRecDepth 100000 in
set_option maxHeartbeats 4000000 in
theorem w_reckons_175  {g : Nat} {S : St} {x2 : Int32} {y1 : Int32} (C : CallFix p m c cX13_reckons 8 s args tb RX13) (hr : meth.sig.returnType = none) (hk : meth.locks = false) {S' : St} (w : Wn Ym D T ρ S A s H locs) (hl : lv_has ls 8 [(0, .ref (ρ 0)), (2, .int x2)]) (h : m_reckons_175 g S x2 y1 = some S') : W p l e (rmN 4 88) s m args below meth c H locs 0 0 (MQ below (Qv Ym D T ρ A S') args s 0 0 A) (F0 m 175 ls [.int y1, .ref (ρ 0)]) := by
  unfold m_reckons_175 at h
  refine lv_iconst (v := 5) C.1 C.2.1 dX13_reckons_175 (by decide) ?_
  obtain ⟨S_3, hS_3, h⟩ := bnd h
  refine x_callVv (q := (RX13, TX13, 68)) (As := [.int y1, .int (5 : Int32)]) (rest := []) C w (k_refuse l D T ρ g H.size S hS_3) vM466 ⟨by decide, by decide⟩ obM (by decide) rfl rfl rfl hl.1 (Nat.le_of_ble_eq_true rfl) ⟨Nat.zero_le _, Nat.zero_le _⟩ dX13_reckons_176 (fun H locs w => ?_)
  refine lv_aload_n C.1 C.2.1 dX13_reckons_179 rfl (lv_at hl 0 rfl) ?_
  refine x_getI C w fM398 obM dX13_reckons_180 ?_
  refine lv_if_eq (tgt := 187) C.1 C.2.1 dX13_reckons_183 (by decide) (fun hc => ?_) (fun hc => ?_)
  · replace h := ift hc h
    refine lv_aload_n C.1 C.2.1 dX13_reckons_187 rfl (lv_at hl 0 rfl) ?_
    refine x_getC C w 33 fM220 obM rfl dX13_reckons_188 ?_
    refine lv_aload_n C.1 C.2.1 dX13_reckons_191 rfl (lv_at hl 0 rfl) ?_
    refine x_getI C w fM422 obM dX13_reckons_192 ?_
    refine lv_aload_n C.1 C.2.1 dX13_reckons_195 rfl (lv_at hl 0 rfl) ?_
    refine lv_iload_n C.1 C.2.1 dX13_reckons_196 rfl (lv_at hl 1 rfl) ?_
    obtain ⟨v_4, hv_4, h⟩ := bnd h
    refine x_callVj (q := (RX13, TX13, 68)) (As := [.int x2]) (rest := [.int (gI S_3 0 51), .ref (ρ 33)]) C w (k_value l D T ρ g H.size S_3 hv_4) vM459 ⟨by decide, by decide⟩ obM (by decide) rfl rfl rfl hl.1 (Nat.le_of_ble_eq_true rfl) ⟨Nat.zero_le _, Nat.zero_le _⟩ dX13_reckons_197 (fun H locs w => ?_)
    obtain ⟨S_5, hS_5, h⟩ := bnd h
    refine x_last C w obM33 hS_5 dX13_reckons_200 (fun H locs w => ?_)
    refine lv_aload_n C.1 C.2.1 dX13_reckons_201 rfl (lv_at hl 0 rfl) ?_
    refine lv_dup C.1 C.2.1 dX13_reckons_202 rfl ?_
    refine x_getI C w fM422 obM dX13_reckons_203 ?_
    refine lv_iconst (v := 1) C.1 C.2.1 dX13_reckons_206 (by decide) ?_
    refine lv_iadd C.1 C.2.1 dX13_reckons_207 ?_
    obtain ⟨S_6, eS_6, h⟩ := lt_e h
    refine y_putI C w eS_6 fM422 pM51 obM dX13_reckons_208 (fun H locs w => ?_)
    refine lv_goto (tgt := 270) C.1 C.2.1 dX13_reckons_211 (by decide) ?_
    obtain rfl := som h
    exact x_vret C w hr hk dX13_reckons_270
  · replace h := iff0 hc h
    obtain rfl := som h
    exact x_vret C w hr hk dX13_reckons_186
set_option maxRecDepth 100000 in
set_option maxHeartbeats 4000000 in
theorem w_reckons_148  {g : Nat} {S : St} {y1 : Int32} {y2 : Int64} (C : CallFix p m c cX13_reckons 8 s args tb RX13) (hr : meth.sig.returnType = none) (hk : meth.locks = false) {S' : St} (w : Wn Ym D T ρ S A s H locs) (hl : lv_has ls 8 []) (h : m_reckons_148 g S y1 y2 = some S') : W p l e (rmN 4 88) s m args below meth c H locs 0 0 (MQ below (Qv Ym D T ρ A S') args s 0 0 A) (F0 m 148 ls [.long y2, .int y1, .ref (ρ 0)]) := by
  unfold m_reckons_148 at h
  obtain ⟨S_4, hS_4, h⟩ := bnd h
  refine x_callVv (q := (RX13, TX13, 68)) (As := [.int y1, .long y2]) (rest := []) C w (k_givesWhole l D T ρ g H.size S hS_4) vM567 ⟨by decide, by decide⟩ obM (by decide) rfl rfl rfl hl.1 (Nat.le_of_ble_eq_true rfl) ⟨Nat.zero_le _, Nat.zero_le _⟩ dX13_reckons_148 (fun H locs w => ?_)
  refine lv_goto (tgt := 270) C.1 C.2.1 dX13_reckons_151 (by decide) ?_
  obtain rfl := som h
  exact x_vret C w hr hk dX13_reckons_270
set_option maxRecDepth 100000 in
set_option maxHeartbeats 4000000 in
theorem w_reckons_147  {g : Nat} {S : St} {y1 : Int32} (C : CallFix p m c cX13_reckons 8 s args tb RX13) (hr : meth.sig.returnType = none) (hk : meth.locks = false) {S' : St} (w : Wn Ym D T ρ S A s H locs) (hl : lv_has ls 8 []) (h : m_reckons_147 g S y1 = some S') : W p l e (rmN 4 88) s m args below meth c H locs 0 0 (MQ below (Qv Ym D T ρ A S') args s 0 0 A) (F0 m 147 ls [.int y1, .ref (ρ 0)]) := by
  unfold m_reckons_147 at h
  refine lv_lconst (v := 0) C.1 C.2.1 dX13_reckons_147 (by decide) ?_
  exact w_reckons_148 C hr hk w (lv_sub hl [] rfl) h
set_option maxRecDepth 100000 in
set_option maxHeartbeats 4000000 in
theorem w_reckons_86  {g : Nat} {S : St} {x2 : Int32} {y1 : Int64} {y2 : Int32} (C : CallFix p m c cX13_reckons 8 s args tb RX13) (hr : meth.sig.returnType = none) (hk : meth.locks = false) {S' : St} (w : Wn Ym D T ρ S A s H locs) (hl : lv_has ls 8 [(0, .ref (ρ 0)), (2, .int x2)]) (h : m_reckons_86 g S x2 y1 y2 = some S') : W p l e (rmN 4 88) s m args below meth c H locs 0 0 (MQ below (Qv Ym D T ρ A S') args s 0 0 A) (F0 m 86 ls [.int y2, .long y1, .ref (ρ 0)]) := by
  unfold m_reckons_86 at h
  obtain ⟨S_10, hS_10, h⟩ := bnd h
  refine x_callVv (q := (RX13, TX13, 68)) (As := [.long y1, .int y2]) (rest := []) C w (k_emitNumber l D T ρ g H.size S hS_10) vM481 ⟨by decide, by decide⟩ obM (by decide) rfl rfl rfl hl.1 (Nat.le_of_ble_eq_true rfl) ⟨Nat.zero_le _, Nat.zero_le _⟩ dX13_reckons_86 (fun H locs w => ?_)
  refine lv_aload_n C.1 C.2.1 dX13_reckons_89 rfl (lv_at hl 0 rfl) ?_
  refine lv_iload_n C.1 C.2.1 dX13_reckons_90 rfl (lv_at hl 1 rfl) ?_
  obtain ⟨S_11, hS_11, h⟩ := bnd h
  refine x_callVv (q := (RX13, TX13, 68)) (As := [.int x2]) (rest := []) C w (k_givesUnits l D T ρ g H.size S_10 hS_11) vM614 ⟨by decide, by decide⟩ obM (by decide) rfl rfl rfl hl.1 (Nat.le_of_ble_eq_true rfl) ⟨Nat.zero_le _, Nat.zero_le _⟩ dX13_reckons_91 (fun H locs w => ?_)
  refine lv_goto (tgt := 270) C.1 C.2.1 dX13_reckons_94 (by decide) ?_
  obtain rfl := som h
  exact x_vret C w hr hk dX13_reckons_270
set_option maxRecDepth 100000 in
set_option maxHeartbeats 4000000 in
theorem wb_reckons_9  {g : Nat} {S : St} {x2 : Int32} {x3 : Int32} {x4 : Int32} (C : CallFix p m c cX13_reckons 8 s args tb RX13) (hr : meth.sig.returnType = none) (hk : meth.locks = false) {S' : St} {k9 : St → Int32 → Int32 → Int32 → Option St} (kk9 : ∀ (S : St) (x2 : Int32) (x3 : Int32) (x4 : Int32) (H : Heap) (locs : List Loc) (ls : Array Slot), Wn Ym D T ρ S A s H locs → lv_has ls 8 [(0, .ref (ρ 0)), (2, .int x2), (3, .int x3), (4, .int x4)] → k9 S x2 x3 x4 = some S' → W p l e (rmN 4 88) s m args below meth c H locs 0 0 (MQ below (Qv Ym D T ρ A S') args s 0 0 A) (F0 m 9 ls [])) (w : Wn Ym D T ρ S A s H locs) (hl : lv_has ls 8 [(0, .ref (ρ 0)), (2, .int x2), (3, .int x3), (4, .int x4)]) (h : b_reckons_9 g k9 S x2 x3 x4 = some S') : W p l e (rmN 4 88) s m args below meth c H locs 0 0 (MQ below (Qv Ym D T ρ A S') args s 0 0 A) (F0 m 9 ls []) := by
  unfold b_reckons_9 at h
  refine lv_iload C.1 C.2.1 dX13_reckons_9 (lv_at hl 3 rfl) ?_
  refine lv_iload_n C.1 C.2.1 dX13_reckons_11 rfl (lv_at hl 2 rfl) ?_
  refine lv_icmp_ge (tgt := 33) C.1 C.2.1 dX13_reckons_12 (by decide) (fun hc => ?_) (fun hc => ?_)
  · replace h := ift hc h
    refine lv_aload_n C.1 C.2.1 dX13_reckons_33 rfl (lv_at hl 0 rfl) ?_
    refine lv_iload_n C.1 C.2.1 dX13_reckons_34 rfl (lv_at hl 1 rfl) ?_
    obtain ⟨S_10, hS_10, h⟩ := bnd h
    refine x_callVv (q := (RX13, TX13, 68)) (As := [.int x2]) (rest := []) C w (k_givesUnits l D T ρ g H.size S hS_10) vM614 ⟨by decide, by decide⟩ obM (by decide) rfl rfl rfl hl.1 (Nat.le_of_ble_eq_true rfl) ⟨Nat.zero_le _, Nat.zero_le _⟩ dX13_reckons_35 (fun H locs w => ?_)
    refine lv_goto (tgt := 270) C.1 C.2.1 dX13_reckons_38 (by decide) ?_
    obtain rfl := som h
    exact x_vret C w hr hk dX13_reckons_270
  · replace h := iff0 hc h
    refine lv_aload_n C.1 C.2.1 dX13_reckons_15 rfl (lv_at hl 0 rfl) ?_
    refine lv_aload_n C.1 C.2.1 dX13_reckons_16 rfl (lv_at hl 0 rfl) ?_
    refine lv_iload_n C.1 C.2.1 dX13_reckons_17 rfl (lv_at hl 1 rfl) ?_
    refine lv_iload C.1 C.2.1 dX13_reckons_18 (lv_at hl 3 rfl) ?_
    refine lv_iadd C.1 C.2.1 dX13_reckons_20 ?_
    obtain ⟨v_11, hv_11, h⟩ := bnd h
    refine x_callVj (q := (RX13, TX13, 68)) (As := [.int (x2 + x4)]) (rest := [.ref (ρ 0)]) C w (k_value l D T ρ g H.size S hv_11) vM459 ⟨by decide, by decide⟩ obM (by decide) rfl rfl rfl hl.1 (Nat.le_of_ble_eq_true rfl) ⟨Nat.zero_le _, Nat.zero_le _⟩ dX13_reckons_21 (fun H locs w => ?_)
    obtain ⟨S_12, hS_12, h⟩ := bnd h
    refine x_callVv (q := (RX13, TX13, 68)) (As := [.long v_11]) (rest := []) C w (k_emitPoint l D T ρ g H.size S hS_12) vM485 ⟨by decide, by decide⟩ obM (by decide) rfl rfl rfl hl.1 (Nat.le_of_ble_eq_true rfl) ⟨Nat.zero_le _, Nat.zero_le _⟩ dX13_reckons_24 (fun H locs w => ?_)
    obtain ⟨x4_13, ex4_13, h⟩ := lt_e h
    refine lv_iinc (v := x4_13) (lv' := [(4, .int x4_13), (0, .ref (ρ 0)), (2, .int x2), (3, .int x3)]) C.1 C.2.1 dX13_reckons_27 hl (k := 3) rfl (by rw [ex4_13]; rfl) (by decide) rfl (fun ls hl => ?_)
    refine lv_goto (tgt := 9) C.1 C.2.1 dX13_reckons_30 (by decide) ?_
    exact kk9 _ _ _ _ _ _ _ w (lv_sub hl [1, 2, 3, 0] rfl) h
theorem w_reckons_9 {g : Nat} (C : CallFix p m c cX13_reckons 8 s args tb RX13) (hr : meth.sig.returnType = none) (hk : meth.locks = false) {S' : St} (n : Nat) : ∀ (S : St) (x2 : Int32) (x3 : Int32) (x4 : Int32) (H : Heap) (locs : List Loc) (ls : Array Slot), Wn Ym D T ρ S A s H locs → lv_has ls 8 [(0, .ref (ρ 0)), (2, .int x2), (3, .int x3), (4, .int x4)] → m_reckons_9 g n S x2 x3 x4 = some S' → W p l e (rmN 4 88) s m args below meth c H locs 0 0 (MQ below (Qv Ym D T ρ A S') args s 0 0 A) (F0 m 9 ls []) := by
  induction n with
  | zero => intro S x2 x3 x4 H locs ls w hl h; exact absurd h (fun q => by cases q)
  | succ n ih => intro S x2 x3 x4 H locs ls w hl h; exact wb_reckons_9 C hr hk ih w hl h
set_option maxRecDepth 100000 in
set_option maxHeartbeats 4000000 in
theorem w_reckons_0  {g : Nat} {S : St} {x1 : Int32} {x2 : Int32} {x3 : Int32} (C : CallFix p m c cX13_reckons 8 s args tb RX13) (hr : meth.sig.returnType = none) (hk : meth.locks = false) {S' : St} (w : Wn Ym D T ρ S A s H locs) (hl : lv_has ls 8 [(0, .ref (ρ 0)), (1, .int x1), (2, .int x2), (3, .int x3)]) (h : m_reckons g S x1 x2 x3 = some S') : W p l e (rmN 4 88) s m args below meth c H locs 0 0 (MQ below (Qv Ym D T ρ A S') args s 0 0 A) (F0 m 0 ls []) := by
  unfold m_reckons at h
  refine lv_iload_n C.1 C.2.1 dX13_reckons_0 rfl (lv_at hl 1 rfl) ?_
  refine lv_bipush (v := 45) C.1 C.2.1 dX13_reckons_1 (by decide) ?_
  refine lv_icmp_ne (tgt := 41) C.1 C.2.1 dX13_reckons_3 (by decide) (fun hc => ?_) (fun hc => ?_)
  · replace h := iff0 hc h
    refine lv_iload_n C.1 C.2.1 dX13_reckons_41 rfl (lv_at hl 1 rfl) ?_
    refine lv_bipush (v := 46) C.1 C.2.1 dX13_reckons_42 (by decide) ?_
    refine lv_icmp_ne (tgt := 97) C.1 C.2.1 dX13_reckons_44 (by decide) (fun hc => ?_) (fun hc => ?_)
    · replace h := iff0 hc h
      refine lv_iload_n C.1 C.2.1 dX13_reckons_97 rfl (lv_at hl 1 rfl) ?_
      refine lv_bipush (v := 48) C.1 C.2.1 dX13_reckons_98 (by decide) ?_
      refine lv_icmp_gt (tgt := 112) C.1 C.2.1 dX13_reckons_100 (by decide) (fun hc => ?_) (fun hc => ?_)
      · replace h := ift hc h
        refine lv_iload_n C.1 C.2.1 dX13_reckons_112 rfl (lv_at hl 1 rfl) ?_
        refine lv_bipush (v := 49) C.1 C.2.1 dX13_reckons_113 (by decide) ?_
        refine lv_icmp_ne (tgt := 154) C.1 C.2.1 dX13_reckons_115 (by decide) (fun hc => ?_) (fun hc => ?_)
        · replace h := iff0 hc h
          refine lv_iload_n C.1 C.2.1 dX13_reckons_154 rfl (lv_at hl 1 rfl) ?_
          refine lv_bipush (v := 55) C.1 C.2.1 dX13_reckons_155 (by decide) ?_
          refine lv_icmp_ne (tgt := 214) C.1 C.2.1 dX13_reckons_157 (by decide) (fun hc => ?_) (fun hc => ?_)
          · replace h := iff0 hc h
            refine lv_aload_n C.1 C.2.1 dX13_reckons_214 rfl (lv_at hl 0 rfl) ?_
            refine lv_iload_n C.1 C.2.1 dX13_reckons_215 rfl (lv_at hl 2 rfl) ?_
            refine lv_iconst (v := 1) C.1 C.2.1 dX13_reckons_216 (by decide) ?_
            refine lv_iadd C.1 C.2.1 dX13_reckons_217 ?_
            obtain ⟨v_1, hv_1, h⟩ := bnd h
            refine x_callVj (q := (RX13, TX13, 68)) (As := [.int (x2 + (1 : Int32))]) (rest := []) C w (k_value l D T ρ g H.size S hv_1) vM459 ⟨by decide, by decide⟩ obM (by decide) rfl rfl rfl hl.1 (Nat.le_of_ble_eq_true rfl) ⟨Nat.zero_le _, Nat.zero_le _⟩ dX13_reckons_218 (fun H locs w => ?_)
            refine lv_lstore (lv' := [(4, .long v_1), (0, .ref (ρ 0)), (1, .int x1), (2, .int x2), (3, .int x3)]) C.1 C.2.1 dX13_reckons_221 hl (by decide) rfl (fun ls hl => ?_)
            refine lv_aload_n C.1 C.2.1 dX13_reckons_223 rfl (lv_at hl 1 rfl) ?_
            refine lv_iload_n C.1 C.2.1 dX13_reckons_224 rfl (lv_at hl 3 rfl) ?_
            refine lv_iconst (v := 2) C.1 C.2.1 dX13_reckons_225 (by decide) ?_
            refine lv_iadd C.1 C.2.1 dX13_reckons_226 ?_
            obtain ⟨v_2, hv_2, h⟩ := bnd h
            refine x_callVj (q := (RX13, TX13, 68)) (As := [.int (x2 + (2 : Int32))]) (rest := []) C w (k_value l D T ρ g H.size S hv_2) vM459 ⟨by decide, by decide⟩ obM (by decide) rfl rfl rfl hl.1 (Nat.le_of_ble_eq_true rfl) ⟨Nat.zero_le _, Nat.zero_le _⟩ dX13_reckons_227 (fun H locs w => ?_)
            refine lv_lstore (lv' := [(6, .long v_2), (4, .long v_1), (0, .ref (ρ 0)), (1, .int x1), (2, .int x2), (3, .int x3)]) C.1 C.2.1 dX13_reckons_230 hl (by decide) rfl (fun ls hl => ?_)
            refine lv_aload_n C.1 C.2.1 dX13_reckons_232 rfl (lv_at hl 2 rfl) ?_
            refine lv_iload_n C.1 C.2.1 dX13_reckons_233 rfl (lv_at hl 4 rfl) ?_
            refine lv_iload_n C.1 C.2.1 dX13_reckons_234 rfl (lv_at hl 3 rfl) ?_
            refine lv_bipush (v := 50) C.1 C.2.1 dX13_reckons_235 (by decide) ?_
            refine lv_icmp_ne (tgt := 248) C.1 C.2.1 dX13_reckons_237 (by decide) (fun hc => ?_) (fun hc => ?_)
            · replace h := iff0 hc h
              refine lv_iload_n C.1 C.2.1 dX13_reckons_248 rfl (lv_at hl 3 rfl) ?_
              refine lv_bipush (v := 51) C.1 C.2.1 dX13_reckons_249 (by decide) ?_
              refine lv_icmp_ne (tgt := 262) C.1 C.2.1 dX13_reckons_251 (by decide) (fun hc => ?_) (fun hc => ?_)
              · replace h := iff0 hc h
                refine lv_lload C.1 C.2.1 dX13_reckons_262 (lv_at hl 1 rfl) ?_
                refine lv_lload C.1 C.2.1 dX13_reckons_264 (lv_at hl 0 rfl) ?_
                refine lv_lmul C.1 C.2.1 dX13_reckons_266 ?_
                exact w_reckons_267 C hr hk w (lv_sub hl [] rfl) h
              · replace h := ift hc h
                refine lv_lload C.1 C.2.1 dX13_reckons_254 (lv_at hl 1 rfl) ?_
                refine lv_lload C.1 C.2.1 dX13_reckons_256 (lv_at hl 0 rfl) ?_
                refine lv_lsub C.1 C.2.1 dX13_reckons_258 ?_
                refine lv_goto (tgt := 267) C.1 C.2.1 dX13_reckons_259 (by decide) ?_
                exact w_reckons_267 C hr hk w (lv_sub hl [] rfl) h
            · replace h := ift hc h
              refine lv_lload C.1 C.2.1 dX13_reckons_240 (lv_at hl 1 rfl) ?_
              refine lv_lload C.1 C.2.1 dX13_reckons_242 (lv_at hl 0 rfl) ?_
              refine lv_ladd C.1 C.2.1 dX13_reckons_244 ?_
              refine lv_goto (tgt := 267) C.1 C.2.1 dX13_reckons_245 (by decide) ?_
              exact w_reckons_267 C hr hk w (lv_sub hl [] rfl) h
          · replace h := ift hc h
            refine lv_aload_n C.1 C.2.1 dX13_reckons_160 rfl (lv_at hl 0 rfl) ?_
            refine lv_aload_n C.1 C.2.1 dX13_reckons_161 rfl (lv_at hl 0 rfl) ?_
            refine x_getI C w fM422 obM dX13_reckons_162 ?_
            refine lv_bipush (v := 30) C.1 C.2.1 dX13_reckons_165 (by decide) ?_
            refine lv_icmp_ne (tgt := 174) C.1 C.2.1 dX13_reckons_167 (by decide) (fun hc => ?_) (fun hc => ?_)
            · replace h := iff0 hc h
              refine lv_iconst (v := 0) C.1 C.2.1 dX13_reckons_174 (by decide) ?_
              exact w_reckons_175 C hr hk w (lv_sub hl [0, 2] rfl) h
            · replace h := ift hc h
              refine lv_iconst (v := 1) C.1 C.2.1 dX13_reckons_170 (by decide) ?_
              refine lv_goto (tgt := 175) C.1 C.2.1 dX13_reckons_171 (by decide) ?_
              exact w_reckons_175 C hr hk w (lv_sub hl [0, 2] rfl) h
        · replace h := ift hc h
          refine lv_aload_n C.1 C.2.1 dX13_reckons_118 rfl (lv_at hl 0 rfl) ?_
          refine lv_iload_n C.1 C.2.1 dX13_reckons_119 rfl (lv_at hl 2 rfl) ?_
          refine lv_iconst (v := 1) C.1 C.2.1 dX13_reckons_120 (by decide) ?_
          refine lv_iadd C.1 C.2.1 dX13_reckons_121 ?_
          obtain ⟨v_3, hv_3, h⟩ := bnd h
          refine x_callVi (q := (RX13, TX13, 68)) (As := [.int (x2 + (1 : Int32))]) (rest := []) C w (k_text l D T ρ g H.size S hv_3) vM463 ⟨by decide, by decide⟩ obM (by decide) rfl rfl rfl hl.1 (Nat.le_of_ble_eq_true rfl) ⟨Nat.zero_le _, Nat.zero_le _⟩ dX13_reckons_122 (fun H locs w => ?_)
          refine lv_istore (lv' := [(4, .int v_3), (0, .ref (ρ 0)), (1, .int x1), (2, .int x2), (3, .int x3)]) C.1 C.2.1 dX13_reckons_125 hl (by decide) rfl (fun ls hl => ?_)
          refine lv_aload_n C.1 C.2.1 dX13_reckons_127 rfl (lv_at hl 1 rfl) ?_
          refine lv_iload_n C.1 C.2.1 dX13_reckons_128 rfl (lv_at hl 3 rfl) ?_
          refine lv_iload C.1 C.2.1 dX13_reckons_129 (lv_at hl 0 rfl) ?_
          refine lv_if_lt (tgt := 147) C.1 C.2.1 dX13_reckons_131 (by decide) (fun hc => ?_) (fun hc => ?_)
          · replace h := ift hc h
            exact w_reckons_147 C hr hk w (lv_sub hl [] rfl) h
          · replace h := iff0 hc h
            refine lv_aload_n C.1 C.2.1 dX13_reckons_134 rfl (lv_at hl 1 rfl) ?_
            refine lv_iload C.1 C.2.1 dX13_reckons_135 (lv_at hl 0 rfl) ?_
            obtain ⟨⟨S_4, v_5⟩, hv_5, h⟩ := bnd h
            refine x_callVi (q := (RX13, TX13, 68)) (As := [.int v_3]) (rest := [.int x2, .ref (ρ 0)]) C w (k_isTrue l D T ρ g H.size S hv_5) vM691 ⟨by decide, by decide⟩ obM (by decide) rfl rfl rfl hl.1 (Nat.le_of_ble_eq_true rfl) ⟨Nat.zero_le _, Nat.zero_le _⟩ dX13_reckons_137 (fun H locs w => ?_)
            refine lv_if_eq (tgt := 147) C.1 C.2.1 dX13_reckons_140 (by decide) (fun hc => ?_) (fun hc => ?_)
            · replace h := ift hc h
              exact w_reckons_147 C hr hk w (lv_sub hl [] rfl) h
            · replace h := iff0 hc h
              refine lv_lconst (v := 1) C.1 C.2.1 dX13_reckons_143 (by decide) ?_
              refine lv_goto (tgt := 148) C.1 C.2.1 dX13_reckons_144 (by decide) ?_
              exact w_reckons_148 C hr hk w (lv_sub hl [] rfl) h
      · replace h := iff0 hc h
        refine lv_aload_n C.1 C.2.1 dX13_reckons_103 rfl (lv_at hl 0 rfl) ?_
        refine lv_iload_n C.1 C.2.1 dX13_reckons_104 rfl (lv_at hl 1 rfl) ?_
        refine lv_iload_n C.1 C.2.1 dX13_reckons_105 rfl (lv_at hl 2 rfl) ?_
        obtain ⟨S_6, hS_6, h⟩ := bnd h
        refine x_callVv (q := (RX13, TX13, 68)) (As := [.int x1, .int x2]) (rest := []) C w (k_parses l D T ρ g H.size S hS_6) vM688 ⟨by decide, by decide⟩ obM (by decide) rfl rfl rfl hl.1 (Nat.le_of_ble_eq_true rfl) ⟨Nat.zero_le _, Nat.zero_le _⟩ dX13_reckons_106 (fun H locs w => ?_)
        refine lv_goto (tgt := 270) C.1 C.2.1 dX13_reckons_109 (by decide) ?_
        obtain rfl := som h
        exact x_vret C w hr hk dX13_reckons_270
    · replace h := ift hc h
      refine lv_aload_n C.1 C.2.1 dX13_reckons_47 rfl (lv_at hl 0 rfl) ?_
      refine lv_iload_n C.1 C.2.1 dX13_reckons_48 rfl (lv_at hl 2 rfl) ?_
      refine lv_iconst (v := 2) C.1 C.2.1 dX13_reckons_49 (by decide) ?_
      refine lv_iadd C.1 C.2.1 dX13_reckons_50 ?_
      obtain ⟨v_7, hv_7, h⟩ := bnd h
      refine x_callVj (q := (RX13, TX13, 68)) (As := [.int (x2 + (2 : Int32))]) (rest := []) C w (k_value l D T ρ g H.size S hv_7) vM459 ⟨by decide, by decide⟩ obM (by decide) rfl rfl rfl hl.1 (Nat.le_of_ble_eq_true rfl) ⟨Nat.zero_le _, Nat.zero_le _⟩ dX13_reckons_51 (fun H locs w => ?_)
      refine lv_lstore (lv' := [(4, .long v_7), (0, .ref (ρ 0)), (1, .int x1), (2, .int x2), (3, .int x3)]) C.1 C.2.1 dX13_reckons_54 hl (by decide) rfl (fun ls hl => ?_)
      refine lv_aload_n C.1 C.2.1 dX13_reckons_56 rfl (lv_at hl 1 rfl) ?_
      refine lv_aload_n C.1 C.2.1 dX13_reckons_57 rfl (lv_at hl 1 rfl) ?_
      refine lv_iload_n C.1 C.2.1 dX13_reckons_58 rfl (lv_at hl 3 rfl) ?_
      refine lv_iconst (v := 1) C.1 C.2.1 dX13_reckons_59 (by decide) ?_
      refine lv_iadd C.1 C.2.1 dX13_reckons_60 ?_
      obtain ⟨v_8, hv_8, h⟩ := bnd h
      refine x_callVj (q := (RX13, TX13, 68)) (As := [.int (x2 + (1 : Int32))]) (rest := [.ref (ρ 0)]) C w (k_value l D T ρ g H.size S hv_8) vM459 ⟨by decide, by decide⟩ obM (by decide) rfl rfl rfl hl.1 (Nat.le_of_ble_eq_true rfl) ⟨Nat.zero_le _, Nat.zero_le _⟩ dX13_reckons_61 (fun H locs w => ?_)
      refine lv_lload C.1 C.2.1 dX13_reckons_64 (lv_at hl 0 rfl) ?_
      refine lv_ldc2 C.1 C.2.1 C.2.2.2.1 (C.2.2.2.2 _ nM684) dX13_reckons_66 ?_
      refine lv_ldc2 C.1 C.2.1 C.2.2.2.1 (C.2.2.2.2 _ nM686) dX13_reckons_69 ?_
      obtain ⟨v_9, hv_9, h⟩ := bnd h
      refine x_callSi (As := [.long v_7, .long (2 : Int64), .long (36 : Int64)]) (rest := [.long v_8, .ref (ρ 0)]) C w (k_isIn l D T ρ g H.size S hv_9) vM318 ⟨by decide, by decide⟩ rfl rfl hl.1 (Nat.le_of_ble_eq_true rfl) ⟨Nat.zero_le _, Nat.zero_le _⟩ dX13_reckons_72 (fun H locs w => ?_)
      refine lv_if_eq (tgt := 84) C.1 C.2.1 dX13_reckons_75 (by decide) (fun hc => ?_) (fun hc => ?_)
      · replace h := ift hc h
        refine lv_bipush (v := 10) C.1 C.2.1 dX13_reckons_84 (by decide) ?_
        exact w_reckons_86 C hr hk w (lv_sub hl [1, 3] rfl) h
      · replace h := iff0 hc h
        refine lv_lload C.1 C.2.1 dX13_reckons_78 (lv_at hl 0 rfl) ?_
        refine lv_l2i C.1 C.2.1 dX13_reckons_80 rfl ?_
        refine lv_goto (tgt := 86) C.1 C.2.1 dX13_reckons_81 (by decide) ?_
        exact w_reckons_86 C hr hk w (lv_sub hl [1, 3] rfl) h
  · replace h := ift hc h
    refine lv_iconst (v := 1) C.1 C.2.1 dX13_reckons_6 (by decide) ?_
    refine lv_istore (lv' := [(4, .int (1 : Int32)), (0, .ref (ρ 0)), (1, .int x1), (2, .int x2), (3, .int x3)]) C.1 C.2.1 dX13_reckons_7 hl (by decide) rfl (fun ls hl => ?_)
    exact w_reckons_9 C hr hk g _ _ _ _ _ _ _ w (lv_sub hl [1, 3, 4, 0] rfl) h
end S_reckons
set_option maxRecDepth 100000 in
theorem k_reckons (l : Launch) (D : va_G) (T : Cy) (ρ : Nat → Nat) (g sz : Nat) (S : St) {x1 : Int32} {x2 : Int32} {x3 : Int32} {S' : St} (h : m_reckons g S x1 x2 x3 = some S') : Mv l Ym D T ρ yX13_reckons cX13_reckons 8 none 4 88 S S' [.ref (ρ 0), .int x1, .int x2, .int x3] sz :=
  x_in (by decide) (Nat.le_of_ble_eq_true rfl) (fun p e s m below meth c ls C hr hk w hl => w_reckons_0 C hr hk w hl h)

theorem dX13_point_0 : decode cX13_point 0 = .ok (.lload_n 2, 1) := by decide +kernel
theorem dX13_point_1 : decode cX13_point 1 = .ok (.lconst 0, 1) := by decide +kernel
theorem dX13_point_2 : decode cX13_point 2 = .ok (.ldc2_w 473, 3) := by decide +kernel
theorem dX13_point_5 : decode cX13_point 5 = .ok (.invokestatic 318, 3) := by decide +kernel
theorem dX13_point_8 : decode cX13_point 8 = .ok (.ifCond .ne 7, 3) := by decide +kernel
theorem dX13_point_11 : decode cX13_point 11 = .ok (.ldc2_w 631, 3) := by decide +kernel
theorem dX13_point_14 : decode cX13_point 14 = .ok (.lreturn, 1) := by decide +kernel
theorem dX13_point_15 : decode cX13_point 15 = .ok (.iconst 0, 1) := by decide +kernel
theorem dX13_point_16 : decode cX13_point 16 = .ok (.istore 6, 2) := by decide +kernel
theorem dX13_point_18 : decode cX13_point 18 = .ok (.iload 6, 2) := by decide +kernel
theorem dX13_point_20 : decode cX13_point 20 = .ok (.aload_n 0, 1) := by decide +kernel
theorem dX13_point_21 : decode cX13_point 21 = .ok (.getfield 193, 3) := by decide +kernel
theorem dX13_point_24 : decode cX13_point 24 = .ok (.iload_n 1, 1) := by decide +kernel
theorem dX13_point_25 : decode cX13_point 25 = .ok (.iaload, 1) := by decide +kernel
theorem dX13_point_26 : decode cX13_point 26 = .ok (.if_icmp .ge 93, 3) := by decide +kernel
theorem dX13_point_29 : decode cX13_point 29 = .ok (.lload_n 2, 1) := by decide +kernel
theorem dX13_point_30 : decode cX13_point 30 = .ok (.ldc2_w 513, 3) := by decide +kernel
theorem dX13_point_33 : decode cX13_point 33 = .ok (.lcmp, 1) := by decide +kernel
theorem dX13_point_34 : decode cX13_point 34 = .ok (.ifCond .ge 7, 3) := by decide +kernel
theorem dX13_point_37 : decode cX13_point 37 = .ok (.iconst 1, 1) := by decide +kernel
theorem dX13_point_38 : decode cX13_point 38 = .ok (.goto 16, 3) := by decide +kernel
theorem dX13_point_41 : decode cX13_point 41 = .ok (.aload_n 0, 1) := by decide +kernel
theorem dX13_point_42 : decode cX13_point 42 = .ok (.iload_n 1, 1) := by decide +kernel
theorem dX13_point_43 : decode cX13_point 43 = .ok (.iload 6, 2) := by decide +kernel
theorem dX13_point_45 : decode cX13_point 45 = .ok (.aload_n 0, 1) := by decide +kernel
theorem dX13_point_46 : decode cX13_point 46 = .ok (.getfield 193, 3) := by decide +kernel
theorem dX13_point_49 : decode cX13_point 49 = .ok (.iload_n 1, 1) := by decide +kernel
theorem dX13_point_50 : decode cX13_point 50 = .ok (.iaload, 1) := by decide +kernel
theorem dX13_point_51 : decode cX13_point 51 = .ok (.invokevirtual 589, 3) := by decide +kernel
theorem dX13_point_54 : decode cX13_point 54 = .ok (.istore 7, 2) := by decide +kernel
theorem dX13_point_56 : decode cX13_point 56 = .ok (.iload 7, 2) := by decide +kernel
theorem dX13_point_58 : decode cX13_point 58 = .ok (.lload_n 2, 1) := by decide +kernel
theorem dX13_point_59 : decode cX13_point 59 = .ok (.ldc2_w 513, 3) := by decide +kernel
theorem dX13_point_62 : decode cX13_point 62 = .ok (.lcmp, 1) := by decide +kernel
theorem dX13_point_63 : decode cX13_point 63 = .ok (.ifCond .ge 7, 3) := by decide +kernel
theorem dX13_point_66 : decode cX13_point 66 = .ok (.iconst 1, 1) := by decide +kernel
theorem dX13_point_67 : decode cX13_point 67 = .ok (.goto 4, 3) := by decide +kernel
theorem dX13_point_70 : decode cX13_point 70 = .ok (.iconst 2, 1) := by decide +kernel
theorem dX13_point_71 : decode cX13_point 71 = .ok (.if_icmp .ne 21, 3) := by decide +kernel
theorem dX13_point_74 : decode cX13_point 74 = .ok (.aload_n 0, 1) := by decide +kernel
theorem dX13_point_75 : decode cX13_point 75 = .ok (.iload_n 1, 1) := by decide +kernel
theorem dX13_point_76 : decode cX13_point 76 = .ok (.iload 6, 2) := by decide +kernel
theorem dX13_point_78 : decode cX13_point 78 = .ok (.iload 7, 2) := by decide +kernel
theorem dX13_point_80 : decode cX13_point 80 = .ok (.invokevirtual 592, 3) := by decide +kernel
theorem dX13_point_83 : decode cX13_point 83 = .ok (.lload_n 2, 1) := by decide +kernel
theorem dX13_point_84 : decode cX13_point 84 = .ok (.lcmp, 1) := by decide +kernel
theorem dX13_point_85 : decode cX13_point 85 = .ok (.ifCond .ne 7, 3) := by decide +kernel
theorem dX13_point_88 : decode cX13_point 88 = .ok (.iconst 1, 1) := by decide +kernel
theorem dX13_point_89 : decode cX13_point 89 = .ok (.goto 4, 3) := by decide +kernel
theorem dX13_point_92 : decode cX13_point 92 = .ok (.iconst 0, 1) := by decide +kernel
theorem dX13_point_93 : decode cX13_point 93 = .ok (.istore 8, 2) := by decide +kernel
theorem dX13_point_95 : decode cX13_point 95 = .ok (.iload 8, 2) := by decide +kernel
theorem dX13_point_97 : decode cX13_point 97 = .ok (.ifCond .eq 16, 3) := by decide +kernel
theorem dX13_point_100 : decode cX13_point 100 = .ok (.iload 6, 2) := by decide +kernel
theorem dX13_point_102 : decode cX13_point 102 = .ok (.i2l, 1) := by decide +kernel
theorem dX13_point_103 : decode cX13_point 103 = .ok (.lload 4, 2) := by decide +kernel
theorem dX13_point_105 : decode cX13_point 105 = .ok (.lcmp, 1) := by decide +kernel
theorem dX13_point_106 : decode cX13_point 106 = .ok (.ifCond .lt 7, 3) := by decide +kernel
theorem dX13_point_109 : decode cX13_point 109 = .ok (.iload 6, 2) := by decide +kernel
theorem dX13_point_111 : decode cX13_point 111 = .ok (.i2l, 1) := by decide +kernel
theorem dX13_point_112 : decode cX13_point 112 = .ok (.lreturn, 1) := by decide +kernel
theorem dX13_point_113 : decode cX13_point 113 = .ok (.iinc 6 1, 3) := by decide +kernel
theorem dX13_point_116 : decode cX13_point 116 = .ok (.goto (-98), 3) := by decide +kernel
theorem dX13_point_119 : decode cX13_point 119 = .ok (.ldc2_w 631, 3) := by decide +kernel
theorem dX13_point_122 : decode cX13_point 122 = .ok (.lreturn, 1) := by decide +kernel
def m_point_93 (g : Nat) (S : St) (k18 : Int32 → Int64 → Int64 → Int32 → Option Int64) (x1 : Int32) (x2 : Int64) (x4 : Int64) (x6 : Int32) (y0 : Int32) : Option Int64 :=
if y0 = 0 then (
  lt (x6 + (1 : Int32)) fun x6_5 =>
  k18 x1 x2 x4 x6_5
) else (
  if (x6.toInt64) < x4 then (
    lt (x6 + (1 : Int32)) fun x6_6 =>
    k18 x1 x2 x4 x6_6
  ) else (
    some (x6.toInt64)
  )
)
def m_point_92 (g : Nat) (S : St) (k18 : Int32 → Int64 → Int64 → Int32 → Option Int64) (x1 : Int32) (x2 : Int64) (x4 : Int64) (x6 : Int32) : Option Int64 :=
m_point_93 g S k18 x1 x2 x4 x6 (0 : Int32)
def m_point_71 (g : Nat) (S : St) (k18 : Int32 → Int64 → Int64 → Int32 → Option Int64) (x1 : Int32) (x2 : Int64) (x4 : Int64) (x6 : Int32) (x7 : Int32) (y0 : Int32) (y1 : Int32) : Option Int64 :=
if y0 = y1 then (
  (m_pointAt g S x1 x6 x7).bind fun v_5 =>
  if v_5 = x2 then (
    m_point_93 g S k18 x1 x2 x4 x6 (1 : Int32)
  ) else (
    m_point_92 g S k18 x1 x2 x4 x6
  )
) else (
  m_point_92 g S k18 x1 x2 x4 x6
)
def m_point_54 (g : Nat) (S : St) (k18 : Int32 → Int64 → Int64 → Int32 → Option Int64) (x1 : Int32) (x2 : Int64) (x4 : Int64) (x6 : Int32) (y0 : Int32) : Option Int64 :=
if x2 < (65536 : Int64) then (
  m_point_71 g S k18 x1 x2 x4 x6 y0 y0 (1 : Int32)
) else (
  m_point_71 g S k18 x1 x2 x4 x6 y0 y0 (2 : Int32)
)
def b_point_18 (g : Nat) (S : St) (k18 : Int32 → Int64 → Int64 → Int32 → Option Int64) (x1 : Int32) (x2 : Int64) (x4 : Int64) (x6 : Int32) : Option Int64 :=
(aI S 24 x1).bind fun v_2 =>
if v_2 ≤ x6 then (
  some (-1 : Int64)
) else (
  if x2 < (65536 : Int64) then (
    m_point_54 g S k18 x1 x2 x4 x6 (1 : Int32)
  ) else (
    (aI S 24 x1).bind fun v_3 =>
    (m_pointSize g S x1 x6 v_3).bind fun v_4 =>
    m_point_54 g S k18 x1 x2 x4 x6 v_4
  )
)
def m_point_18 (g : Nat) (S : St) : Nat → Int32 → Int64 → Int64 → Int32 → Option Int64
  | 0, _, _, _, _ => none
  | n + 1, x1, x2, x4, x6 => b_point_18 g S (m_point_18 g S n) x1 x2 x4 x6
def m_point (g : Nat) (S : St) (x1 : Int32) (x2 : Int64) (x4 : Int64) : Option Int64 :=
(m_isIn g x2 (0 : Int64) (1114111 : Int64)).bind fun v_1 =>
if v_1 = 0 then (
  some (-1 : Int64)
) else (
  m_point_18 g S g x1 x2 x4 (0 : Int32)
)
section S_point
variable {p : Program} {l : Launch} {e : Env} {s : State} {m : MethodId} {args : Array Value} {below : List Frame} {meth : Method} {c : Code} {H : Heap} {locs : List Loc} {ls : Array Slot} {D : va_G} {T : Cy} {ρ : Nat → Nat} {A : Nat → Prop}
set_option maxRecDepth 100000 in
set_option maxHeartbeats 4000000 in
theorem w_point_93  {g : Nat} {S : St} {x1 : Int32} {x2 : Int64} {x4 : Int64} {x6 : Int32} {y0 : Int32} (C : CallFix p m c cX13_point 9 s args tb RX13) (hr : meth.sig.returnType = (some .long)) (hk : meth.locks = false) {r : Int64} {k18 : Int32 → Int64 → Int64 → Int32 → Option Int64} (kk18 : ∀ (x1 : Int32) (x2 : Int64) (x4 : Int64) (x6 : Int32) (H : Heap) (locs : List Loc) (ls : Array Slot), Wn Ym D T ρ S A s H locs → lv_has ls 9 [(0, .ref (ρ 0)), (1, .int x1), (2, .long x2), (4, .long x4), (6, .int x6)] → k18 x1 x2 x4 x6 = some r → W p l e (rmN 2 45) s m args below meth c H locs 0 0 (MQ below (Qj Ym D T ρ A S r) args s 0 0 A) (F0 m 18 ls [])) (w : Wn Ym D T ρ S A s H locs) (hl : lv_has ls 9 [(0, .ref (ρ 0)), (1, .int x1), (2, .long x2), (4, .long x4), (6, .int x6)]) (h : m_point_93 g S k18 x1 x2 x4 x6 y0 = some r) : W p l e (rmN 2 45) s m args below meth c H locs 0 0 (MQ below (Qj Ym D T ρ A S r) args s 0 0 A) (F0 m 93 ls [.int y0]) := by
  unfold m_point_93 at h
  refine lv_istore (lv' := [(8, .int y0), (0, .ref (ρ 0)), (1, .int x1), (2, .long x2), (4, .long x4), (6, .int x6)]) C.1 C.2.1 dX13_point_93 hl (by decide) rfl (fun ls hl => ?_)
  refine lv_iload C.1 C.2.1 dX13_point_95 (lv_at hl 0 rfl) ?_
  refine lv_if_eq (tgt := 113) C.1 C.2.1 dX13_point_97 (by decide) (fun hc => ?_) (fun hc => ?_)
  · replace h := ift hc h
    obtain ⟨x6_5, ex6_5, h⟩ := lt_e h
    refine lv_iinc (v := x6_5) (lv' := [(6, .int x6_5), (8, .int y0), (0, .ref (ρ 0)), (1, .int x1), (2, .long x2), (4, .long x4)]) C.1 C.2.1 dX13_point_113 hl (k := 5) rfl (by rw [ex6_5]; rfl) (by decide) rfl (fun ls hl => ?_)
    refine lv_goto (tgt := 18) C.1 C.2.1 dX13_point_116 (by decide) ?_
    exact kk18 _ _ _ _ _ _ _ w (lv_sub hl [2, 3, 4, 5, 0] rfl) h
  · replace h := iff0 hc h
    refine lv_iload C.1 C.2.1 dX13_point_100 (lv_at hl 5 rfl) ?_
    refine lv_i2l C.1 C.2.1 dX13_point_102 rfl ?_
    refine lv_lload C.1 C.2.1 dX13_point_103 (lv_at hl 4 rfl) ?_
    refine x_l_lt (tgt := 113) C dX13_point_105 dX13_point_106 (by decide) (fun hc => ?_) (fun hc => ?_)
    · replace h := ift hc h
      obtain ⟨x6_6, ex6_6, h⟩ := lt_e h
      refine lv_iinc (v := x6_6) (lv' := [(6, .int x6_6), (8, .int y0), (0, .ref (ρ 0)), (1, .int x1), (2, .long x2), (4, .long x4)]) C.1 C.2.1 dX13_point_113 hl (k := 5) rfl (by rw [ex6_6]; rfl) (by decide) rfl (fun ls hl => ?_)
      refine lv_goto (tgt := 18) C.1 C.2.1 dX13_point_116 (by decide) ?_
      exact kk18 _ _ _ _ _ _ _ w (lv_sub hl [2, 3, 4, 5, 0] rfl) h
    · replace h := iff0 hc h
      refine lv_iload C.1 C.2.1 dX13_point_109 (lv_at hl 5 rfl) ?_
      refine lv_i2l C.1 C.2.1 dX13_point_111 rfl ?_
      obtain rfl := som h
      exact x_lret C w hr hk dX13_point_112
set_option maxRecDepth 100000 in
set_option maxHeartbeats 4000000 in
theorem w_point_92  {g : Nat} {S : St} {x1 : Int32} {x2 : Int64} {x4 : Int64} {x6 : Int32} (C : CallFix p m c cX13_point 9 s args tb RX13) (hr : meth.sig.returnType = (some .long)) (hk : meth.locks = false) {r : Int64} {k18 : Int32 → Int64 → Int64 → Int32 → Option Int64} (kk18 : ∀ (x1 : Int32) (x2 : Int64) (x4 : Int64) (x6 : Int32) (H : Heap) (locs : List Loc) (ls : Array Slot), Wn Ym D T ρ S A s H locs → lv_has ls 9 [(0, .ref (ρ 0)), (1, .int x1), (2, .long x2), (4, .long x4), (6, .int x6)] → k18 x1 x2 x4 x6 = some r → W p l e (rmN 2 45) s m args below meth c H locs 0 0 (MQ below (Qj Ym D T ρ A S r) args s 0 0 A) (F0 m 18 ls [])) (w : Wn Ym D T ρ S A s H locs) (hl : lv_has ls 9 [(0, .ref (ρ 0)), (1, .int x1), (2, .long x2), (4, .long x4), (6, .int x6)]) (h : m_point_92 g S k18 x1 x2 x4 x6 = some r) : W p l e (rmN 2 45) s m args below meth c H locs 0 0 (MQ below (Qj Ym D T ρ A S r) args s 0 0 A) (F0 m 92 ls []) := by
  unfold m_point_92 at h
  refine lv_iconst (v := 0) C.1 C.2.1 dX13_point_92 (by decide) ?_
  exact w_point_93 C hr hk kk18 w (lv_sub hl [0, 1, 2, 3, 4] rfl) h
set_option maxRecDepth 100000 in
set_option maxHeartbeats 4000000 in
theorem w_point_71  {g : Nat} {S : St} {x1 : Int32} {x2 : Int64} {x4 : Int64} {x6 : Int32} {x7 : Int32} {y0 : Int32} {y1 : Int32} (C : CallFix p m c cX13_point 9 s args tb RX13) (hr : meth.sig.returnType = (some .long)) (hk : meth.locks = false) {r : Int64} {k18 : Int32 → Int64 → Int64 → Int32 → Option Int64} (kk18 : ∀ (x1 : Int32) (x2 : Int64) (x4 : Int64) (x6 : Int32) (H : Heap) (locs : List Loc) (ls : Array Slot), Wn Ym D T ρ S A s H locs → lv_has ls 9 [(0, .ref (ρ 0)), (1, .int x1), (2, .long x2), (4, .long x4), (6, .int x6)] → k18 x1 x2 x4 x6 = some r → W p l e (rmN 2 45) s m args below meth c H locs 0 0 (MQ below (Qj Ym D T ρ A S r) args s 0 0 A) (F0 m 18 ls [])) (w : Wn Ym D T ρ S A s H locs) (hl : lv_has ls 9 [(0, .ref (ρ 0)), (1, .int x1), (2, .long x2), (4, .long x4), (6, .int x6), (7, .int x7)]) (h : m_point_71 g S k18 x1 x2 x4 x6 x7 y0 y1 = some r) : W p l e (rmN 2 45) s m args below meth c H locs 0 0 (MQ below (Qj Ym D T ρ A S r) args s 0 0 A) (F0 m 71 ls [.int y1, .int y0]) := by
  unfold m_point_71 at h
  refine lv_icmp_ne (tgt := 92) C.1 C.2.1 dX13_point_71 (by decide) (fun hc => ?_) (fun hc => ?_)
  · replace h := iff0 hc h
    exact w_point_92 C hr hk kk18 w (lv_sub hl [0, 1, 2, 3, 4] rfl) h
  · replace h := ift hc h
    refine lv_aload_n C.1 C.2.1 dX13_point_74 rfl (lv_at hl 0 rfl) ?_
    refine lv_iload_n C.1 C.2.1 dX13_point_75 rfl (lv_at hl 1 rfl) ?_
    refine lv_iload C.1 C.2.1 dX13_point_76 (lv_at hl 4 rfl) ?_
    refine lv_iload C.1 C.2.1 dX13_point_78 (lv_at hl 5 rfl) ?_
    obtain ⟨v_5, hv_5, h⟩ := bnd h
    refine x_callVj (q := (RX13, TX13, 68)) (As := [.int x1, .int x6, .int x7]) (rest := []) C w (k_pointAt l D T ρ g H.size S hv_5) vM592 ⟨by decide, by decide⟩ obM (by decide) rfl rfl rfl hl.1 (Nat.le_of_ble_eq_true rfl) ⟨Nat.zero_le _, Nat.zero_le _⟩ dX13_point_80 (fun H locs w => ?_)
    refine lv_lload_n C.1 C.2.1 dX13_point_83 rfl (lv_at hl 2 rfl) ?_
    refine x_l_ne (tgt := 92) C dX13_point_84 dX13_point_85 (by decide) (fun hc => ?_) (fun hc => ?_)
    · replace h := iff0 hc h
      exact w_point_92 C hr hk kk18 w (lv_sub hl [0, 1, 2, 3, 4] rfl) h
    · replace h := ift hc h
      refine lv_iconst (v := 1) C.1 C.2.1 dX13_point_88 (by decide) ?_
      refine lv_goto (tgt := 93) C.1 C.2.1 dX13_point_89 (by decide) ?_
      exact w_point_93 C hr hk kk18 w (lv_sub hl [0, 1, 2, 3, 4] rfl) h
set_option maxRecDepth 100000 in
set_option maxHeartbeats 4000000 in
theorem w_point_54  {g : Nat} {S : St} {x1 : Int32} {x2 : Int64} {x4 : Int64} {x6 : Int32} {y0 : Int32} (C : CallFix p m c cX13_point 9 s args tb RX13) (hr : meth.sig.returnType = (some .long)) (hk : meth.locks = false) {r : Int64} {k18 : Int32 → Int64 → Int64 → Int32 → Option Int64} (kk18 : ∀ (x1 : Int32) (x2 : Int64) (x4 : Int64) (x6 : Int32) (H : Heap) (locs : List Loc) (ls : Array Slot), Wn Ym D T ρ S A s H locs → lv_has ls 9 [(0, .ref (ρ 0)), (1, .int x1), (2, .long x2), (4, .long x4), (6, .int x6)] → k18 x1 x2 x4 x6 = some r → W p l e (rmN 2 45) s m args below meth c H locs 0 0 (MQ below (Qj Ym D T ρ A S r) args s 0 0 A) (F0 m 18 ls [])) (w : Wn Ym D T ρ S A s H locs) (hl : lv_has ls 9 [(0, .ref (ρ 0)), (1, .int x1), (2, .long x2), (4, .long x4), (6, .int x6)]) (h : m_point_54 g S k18 x1 x2 x4 x6 y0 = some r) : W p l e (rmN 2 45) s m args below meth c H locs 0 0 (MQ below (Qj Ym D T ρ A S r) args s 0 0 A) (F0 m 54 ls [.int y0]) := by
  unfold m_point_54 at h
  refine lv_istore (lv' := [(7, .int y0), (0, .ref (ρ 0)), (1, .int x1), (2, .long x2), (4, .long x4), (6, .int x6)]) C.1 C.2.1 dX13_point_54 hl (by decide) rfl (fun ls hl => ?_)
  refine lv_iload C.1 C.2.1 dX13_point_56 (lv_at hl 0 rfl) ?_
  refine lv_lload_n C.1 C.2.1 dX13_point_58 rfl (lv_at hl 3 rfl) ?_
  refine lv_ldc2 C.1 C.2.1 C.2.2.2.1 (C.2.2.2.2 _ nM513) dX13_point_59 ?_
  refine x_l_ge (tgt := 70) C dX13_point_62 dX13_point_63 (by decide) (fun hc => ?_) (fun hc => ?_)
  · replace h := iff0 hc h
    refine lv_iconst (v := 2) C.1 C.2.1 dX13_point_70 (by decide) ?_
    exact w_point_71 C hr hk kk18 w (lv_sub hl [1, 2, 3, 4, 5, 0] rfl) h
  · replace h := ift hc h
    refine lv_iconst (v := 1) C.1 C.2.1 dX13_point_66 (by decide) ?_
    refine lv_goto (tgt := 71) C.1 C.2.1 dX13_point_67 (by decide) ?_
    exact w_point_71 C hr hk kk18 w (lv_sub hl [1, 2, 3, 4, 5, 0] rfl) h
set_option maxRecDepth 100000 in
set_option maxHeartbeats 4000000 in
theorem wb_point_18  {g : Nat} {S : St} {x1 : Int32} {x2 : Int64} {x4 : Int64} {x6 : Int32} (C : CallFix p m c cX13_point 9 s args tb RX13) (hr : meth.sig.returnType = (some .long)) (hk : meth.locks = false) {r : Int64} {k18 : Int32 → Int64 → Int64 → Int32 → Option Int64} (kk18 : ∀ (x1 : Int32) (x2 : Int64) (x4 : Int64) (x6 : Int32) (H : Heap) (locs : List Loc) (ls : Array Slot), Wn Ym D T ρ S A s H locs → lv_has ls 9 [(0, .ref (ρ 0)), (1, .int x1), (2, .long x2), (4, .long x4), (6, .int x6)] → k18 x1 x2 x4 x6 = some r → W p l e (rmN 2 45) s m args below meth c H locs 0 0 (MQ below (Qj Ym D T ρ A S r) args s 0 0 A) (F0 m 18 ls [])) (w : Wn Ym D T ρ S A s H locs) (hl : lv_has ls 9 [(0, .ref (ρ 0)), (1, .int x1), (2, .long x2), (4, .long x4), (6, .int x6)]) (h : b_point_18 g S k18 x1 x2 x4 x6 = some r) : W p l e (rmN 2 45) s m args below meth c H locs 0 0 (MQ below (Qj Ym D T ρ A S r) args s 0 0 A) (F0 m 18 ls []) := by
  unfold b_point_18 at h
  refine lv_iload C.1 C.2.1 dX13_point_18 (lv_at hl 4 rfl) ?_
  refine lv_aload_n C.1 C.2.1 dX13_point_20 rfl (lv_at hl 0 rfl) ?_
  refine x_getC C w 24 fM193 obM rfl dX13_point_21 ?_
  refine lv_iload_n C.1 C.2.1 dX13_point_24 rfl (lv_at hl 1 rfl) ?_
  obtain ⟨v_2, hv_2, h⟩ := bnd h
  refine x_iald C w obM24 hv_2 dX13_point_25 ?_
  refine lv_icmp_ge (tgt := 119) C.1 C.2.1 dX13_point_26 (by decide) (fun hc => ?_) (fun hc => ?_)
  · replace h := ift hc h
    refine lv_ldc2 C.1 C.2.1 C.2.2.2.1 (C.2.2.2.2 _ nM631) dX13_point_119 ?_
    obtain rfl := som h
    exact x_lret C w hr hk dX13_point_122
  · replace h := iff0 hc h
    refine lv_lload_n C.1 C.2.1 dX13_point_29 rfl (lv_at hl 2 rfl) ?_
    refine lv_ldc2 C.1 C.2.1 C.2.2.2.1 (C.2.2.2.2 _ nM513) dX13_point_30 ?_
    refine x_l_ge (tgt := 41) C dX13_point_33 dX13_point_34 (by decide) (fun hc => ?_) (fun hc => ?_)
    · replace h := iff0 hc h
      refine lv_aload_n C.1 C.2.1 dX13_point_41 rfl (lv_at hl 0 rfl) ?_
      refine lv_iload_n C.1 C.2.1 dX13_point_42 rfl (lv_at hl 1 rfl) ?_
      refine lv_iload C.1 C.2.1 dX13_point_43 (lv_at hl 4 rfl) ?_
      refine lv_aload_n C.1 C.2.1 dX13_point_45 rfl (lv_at hl 0 rfl) ?_
      refine x_getC C w 24 fM193 obM rfl dX13_point_46 ?_
      refine lv_iload_n C.1 C.2.1 dX13_point_49 rfl (lv_at hl 1 rfl) ?_
      obtain ⟨v_3, hv_3, h⟩ := bnd h
      refine x_iald C w obM24 hv_3 dX13_point_50 ?_
      obtain ⟨v_4, hv_4, h⟩ := bnd h
      refine x_callVi (q := (RX13, TX13, 68)) (As := [.int x1, .int x6, .int v_3]) (rest := []) C w (k_pointSize l D T ρ g H.size S hv_4) vM589 ⟨by decide, by decide⟩ obM (by decide) rfl rfl rfl hl.1 (Nat.le_of_ble_eq_true rfl) ⟨Nat.zero_le _, Nat.zero_le _⟩ dX13_point_51 (fun H locs w => ?_)
      exact w_point_54 C hr hk kk18 w (lv_sub hl [0, 1, 2, 3, 4] rfl) h
    · replace h := ift hc h
      refine lv_iconst (v := 1) C.1 C.2.1 dX13_point_37 (by decide) ?_
      refine lv_goto (tgt := 54) C.1 C.2.1 dX13_point_38 (by decide) ?_
      exact w_point_54 C hr hk kk18 w (lv_sub hl [0, 1, 2, 3, 4] rfl) h
theorem w_point_18 {g : Nat} {S : St} (C : CallFix p m c cX13_point 9 s args tb RX13) (hr : meth.sig.returnType = (some .long)) (hk : meth.locks = false) {r : Int64} (n : Nat) : ∀ (x1 : Int32) (x2 : Int64) (x4 : Int64) (x6 : Int32) (H : Heap) (locs : List Loc) (ls : Array Slot), Wn Ym D T ρ S A s H locs → lv_has ls 9 [(0, .ref (ρ 0)), (1, .int x1), (2, .long x2), (4, .long x4), (6, .int x6)] → m_point_18 g S n x1 x2 x4 x6 = some r → W p l e (rmN 2 45) s m args below meth c H locs 0 0 (MQ below (Qj Ym D T ρ A S r) args s 0 0 A) (F0 m 18 ls []) := by
  induction n with
  | zero => intro x1 x2 x4 x6 H locs ls w hl h; exact absurd h (fun q => by cases q)
  | succ n ih => intro x1 x2 x4 x6 H locs ls w hl h; exact wb_point_18 C hr hk ih w hl h
set_option maxRecDepth 100000 in
set_option maxHeartbeats 4000000 in
theorem w_point_0  {g : Nat} {S : St} {x1 : Int32} {x2 : Int64} {x4 : Int64} (C : CallFix p m c cX13_point 9 s args tb RX13) (hr : meth.sig.returnType = (some .long)) (hk : meth.locks = false) {r : Int64} (w : Wn Ym D T ρ S A s H locs) (hl : lv_has ls 9 [(0, .ref (ρ 0)), (1, .int x1), (2, .long x2), (4, .long x4)]) (h : m_point g S x1 x2 x4 = some r) : W p l e (rmN 2 45) s m args below meth c H locs 0 0 (MQ below (Qj Ym D T ρ A S r) args s 0 0 A) (F0 m 0 ls []) := by
  unfold m_point at h
  refine lv_lload_n C.1 C.2.1 dX13_point_0 rfl (lv_at hl 2 rfl) ?_
  refine lv_lconst (v := 0) C.1 C.2.1 dX13_point_1 (by decide) ?_
  refine lv_ldc2 C.1 C.2.1 C.2.2.2.1 (C.2.2.2.2 _ nM473) dX13_point_2 ?_
  obtain ⟨v_1, hv_1, h⟩ := bnd h
  refine x_callSi (As := [.long x2, .long (0 : Int64), .long (1114111 : Int64)]) (rest := []) C w (k_isIn l D T ρ g H.size S hv_1) vM318 ⟨by decide, by decide⟩ rfl rfl hl.1 (Nat.le_of_ble_eq_true rfl) ⟨Nat.zero_le _, Nat.zero_le _⟩ dX13_point_5 (fun H locs w => ?_)
  refine lv_if_ne (tgt := 15) C.1 C.2.1 dX13_point_8 (by decide) (fun hc => ?_) (fun hc => ?_)
  · replace h := iff0 hc h
    refine lv_iconst (v := 0) C.1 C.2.1 dX13_point_15 (by decide) ?_
    refine lv_istore (lv' := [(6, .int (0 : Int32)), (0, .ref (ρ 0)), (1, .int x1), (2, .long x2), (4, .long x4)]) C.1 C.2.1 dX13_point_16 hl (by decide) rfl (fun ls hl => ?_)
    exact w_point_18 C hr hk g _ _ _ _ _ _ _ w (lv_sub hl [1, 2, 3, 4, 0] rfl) h
  · replace h := ift hc h
    refine lv_ldc2 C.1 C.2.1 C.2.2.2.1 (C.2.2.2.2 _ nM631) dX13_point_11 ?_
    obtain rfl := som h
    exact x_lret C w hr hk dX13_point_14
end S_point
set_option maxRecDepth 100000 in
theorem k_point (l : Launch) (D : va_G) (T : Cy) (ρ : Nat → Nat) (g sz : Nat) (S : St) {x1 : Int32} {x2 : Int64} {x4 : Int64} {r : Int64} (h : m_point g S x1 x2 x4 = some r) : Mj l Ym D T ρ yX13_point cX13_point 9 (some .long) 2 45 S S r [.ref (ρ 0), .int x1, .long x2, .long x4] sz :=
  x_in (by decide) (Nat.le_of_ble_eq_true rfl) (fun p e s m below meth c ls C hr hk w hl => w_point_0 C hr hk w hl h)

theorem dX13_seeks_0 : decode cX13_seeks 0 = .ok (.aload_n 0, 1) := by decide +kernel
theorem dX13_seeks_1 : decode cX13_seeks 1 = .ok (.iload_n 2, 1) := by decide +kernel
theorem dX13_seeks_2 : decode cX13_seeks 2 = .ok (.iconst 1, 1) := by decide +kernel
theorem dX13_seeks_3 : decode cX13_seeks 3 = .ok (.iadd, 1) := by decide +kernel
theorem dX13_seeks_4 : decode cX13_seeks 4 = .ok (.invokevirtual 558, 3) := by decide +kernel
theorem dX13_seeks_7 : decode cX13_seeks 7 = .ok (.istore_n 3, 1) := by decide +kernel
theorem dX13_seeks_8 : decode cX13_seeks 8 = .ok (.iload_n 1, 1) := by decide +kernel
theorem dX13_seeks_9 : decode cX13_seeks 9 = .ok (.bipush 24, 2) := by decide +kernel
theorem dX13_seeks_11 : decode cX13_seeks 11 = .ok (.if_icmp .ne 7, 3) := by decide +kernel
theorem dX13_seeks_14 : decode cX13_seeks 14 = .ok (.iconst 0, 1) := by decide +kernel
theorem dX13_seeks_15 : decode cX13_seeks 15 = .ok (.goto 10, 3) := by decide +kernel
theorem dX13_seeks_18 : decode cX13_seeks 18 = .ok (.aload_n 0, 1) := by decide +kernel
theorem dX13_seeks_19 : decode cX13_seeks 19 = .ok (.iload_n 2, 1) := by decide +kernel
theorem dX13_seeks_20 : decode cX13_seeks 20 = .ok (.iconst 2, 1) := by decide +kernel
theorem dX13_seeks_21 : decode cX13_seeks 21 = .ok (.iadd, 1) := by decide +kernel
theorem dX13_seeks_22 : decode cX13_seeks 22 = .ok (.invokevirtual 558, 3) := by decide +kernel
theorem dX13_seeks_25 : decode cX13_seeks 25 = .ok (.istore 4, 2) := by decide +kernel
theorem dX13_seeks_27 : decode cX13_seeks 27 = .ok (.aload_n 0, 1) := by decide +kernel
theorem dX13_seeks_28 : decode cX13_seeks 28 = .ok (.getfield 398, 3) := by decide +kernel
theorem dX13_seeks_31 : decode cX13_seeks 31 = .ok (.ifCond .eq 4, 3) := by decide +kernel
theorem dX13_seeks_34 : decode cX13_seeks 34 = .ok (.return_, 1) := by decide +kernel
theorem dX13_seeks_35 : decode cX13_seeks 35 = .ok (.aload_n 0, 1) := by decide +kernel
theorem dX13_seeks_36 : decode cX13_seeks 36 = .ok (.getfield 193, 3) := by decide +kernel
theorem dX13_seeks_39 : decode cX13_seeks 39 = .ok (.iload_n 3, 1) := by decide +kernel
theorem dX13_seeks_40 : decode cX13_seeks 40 = .ok (.iaload, 1) := by decide +kernel
theorem dX13_seeks_41 : decode cX13_seeks 41 = .ok (.istore 5, 2) := by decide +kernel
theorem dX13_seeks_43 : decode cX13_seeks 43 = .ok (.aload_n 0, 1) := by decide +kernel
theorem dX13_seeks_44 : decode cX13_seeks 44 = .ok (.getfield 193, 3) := by decide +kernel
theorem dX13_seeks_47 : decode cX13_seeks 47 = .ok (.iload 4, 2) := by decide +kernel
theorem dX13_seeks_49 : decode cX13_seeks 49 = .ok (.iaload, 1) := by decide +kernel
theorem dX13_seeks_50 : decode cX13_seeks 50 = .ok (.istore 6, 2) := by decide +kernel
theorem dX13_seeks_52 : decode cX13_seeks 52 = .ok (.ldc2_w 631, 3) := by decide +kernel
theorem dX13_seeks_55 : decode cX13_seeks 55 = .ok (.lstore 7, 2) := by decide +kernel
theorem dX13_seeks_57 : decode cX13_seeks 57 = .ok (.iload_n 1, 1) := by decide +kernel
theorem dX13_seeks_58 : decode cX13_seeks 58 = .ok (.bipush 24, 2) := by decide +kernel
theorem dX13_seeks_60 : decode cX13_seeks 60 = .ok (.if_icmp .ne 27, 3) := by decide +kernel
theorem dX13_seeks_63 : decode cX13_seeks 63 = .ok (.aload_n 0, 1) := by decide +kernel
theorem dX13_seeks_64 : decode cX13_seeks 64 = .ok (.iload_n 3, 1) := by decide +kernel
theorem dX13_seeks_65 : decode cX13_seeks 65 = .ok (.aload_n 0, 1) := by decide +kernel
theorem dX13_seeks_66 : decode cX13_seeks 66 = .ok (.iload_n 2, 1) := by decide +kernel
theorem dX13_seeks_67 : decode cX13_seeks 67 = .ok (.iconst 2, 1) := by decide +kernel
theorem dX13_seeks_68 : decode cX13_seeks 68 = .ok (.iadd, 1) := by decide +kernel
theorem dX13_seeks_69 : decode cX13_seeks 69 = .ok (.invokevirtual 459, 3) := by decide +kernel
theorem dX13_seeks_72 : decode cX13_seeks 72 = .ok (.aload_n 0, 1) := by decide +kernel
theorem dX13_seeks_73 : decode cX13_seeks 73 = .ok (.iload_n 2, 1) := by decide +kernel
theorem dX13_seeks_74 : decode cX13_seeks 74 = .ok (.iconst 3, 1) := by decide +kernel
theorem dX13_seeks_75 : decode cX13_seeks 75 = .ok (.iadd, 1) := by decide +kernel
theorem dX13_seeks_76 : decode cX13_seeks 76 = .ok (.invokevirtual 459, 3) := by decide +kernel
theorem dX13_seeks_79 : decode cX13_seeks 79 = .ok (.invokevirtual 633, 3) := by decide +kernel
theorem dX13_seeks_82 : decode cX13_seeks 82 = .ok (.lstore 7, 2) := by decide +kernel
theorem dX13_seeks_84 : decode cX13_seeks 84 = .ok (.goto 174, 3) := by decide +kernel
theorem dX13_seeks_87 : decode cX13_seeks 87 = .ok (.iload_n 1, 1) := by decide +kernel
theorem dX13_seeks_88 : decode cX13_seeks 88 = .ok (.bipush 25, 2) := by decide +kernel
theorem dX13_seeks_90 : decode cX13_seeks 90 = .ok (.if_icmp .ne 30, 3) := by decide +kernel
theorem dX13_seeks_93 : decode cX13_seeks 93 = .ok (.aload_n 0, 1) := by decide +kernel
theorem dX13_seeks_94 : decode cX13_seeks 94 = .ok (.iload 4, 2) := by decide +kernel
theorem dX13_seeks_96 : decode cX13_seeks 96 = .ok (.iload_n 3, 1) := by decide +kernel
theorem dX13_seeks_97 : decode cX13_seeks 97 = .ok (.aload_n 0, 1) := by decide +kernel
theorem dX13_seeks_98 : decode cX13_seeks 98 = .ok (.iload_n 2, 1) := by decide +kernel
theorem dX13_seeks_99 : decode cX13_seeks 99 = .ok (.iconst 3, 1) := by decide +kernel
theorem dX13_seeks_100 : decode cX13_seeks 100 = .ok (.iadd, 1) := by decide +kernel
theorem dX13_seeks_101 : decode cX13_seeks 101 = .ok (.invokevirtual 459, 3) := by decide +kernel
theorem dX13_seeks_104 : decode cX13_seeks 104 = .ok (.invokevirtual 625, 3) := by decide +kernel
theorem dX13_seeks_107 : decode cX13_seeks 107 = .ok (.ifCond .eq 7, 3) := by decide +kernel
theorem dX13_seeks_110 : decode cX13_seeks 110 = .ok (.lconst 1, 1) := by decide +kernel
theorem dX13_seeks_111 : decode cX13_seeks 111 = .ok (.goto 4, 3) := by decide +kernel
theorem dX13_seeks_114 : decode cX13_seeks 114 = .ok (.lconst 0, 1) := by decide +kernel
theorem dX13_seeks_115 : decode cX13_seeks 115 = .ok (.lstore 7, 2) := by decide +kernel
theorem dX13_seeks_117 : decode cX13_seeks 117 = .ok (.goto 141, 3) := by decide +kernel
theorem dX13_seeks_120 : decode cX13_seeks 120 = .ok (.iload_n 1, 1) := by decide +kernel
theorem dX13_seeks_121 : decode cX13_seeks 121 = .ok (.bipush 26, 2) := by decide +kernel
theorem dX13_seeks_123 : decode cX13_seeks 123 = .ok (.if_icmp .ne 29, 3) := by decide +kernel
theorem dX13_seeks_126 : decode cX13_seeks 126 = .ok (.aload_n 0, 1) := by decide +kernel
theorem dX13_seeks_127 : decode cX13_seeks 127 = .ok (.iload 4, 2) := by decide +kernel
theorem dX13_seeks_129 : decode cX13_seeks 129 = .ok (.iload_n 3, 1) := by decide +kernel
theorem dX13_seeks_130 : decode cX13_seeks 130 = .ok (.iload 5, 2) := by decide +kernel
theorem dX13_seeks_132 : decode cX13_seeks 132 = .ok (.iload 6, 2) := by decide +kernel
theorem dX13_seeks_134 : decode cX13_seeks 134 = .ok (.isub, 1) := by decide +kernel
theorem dX13_seeks_135 : decode cX13_seeks 135 = .ok (.i2l, 1) := by decide +kernel
theorem dX13_seeks_136 : decode cX13_seeks 136 = .ok (.invokevirtual 625, 3) := by decide +kernel
theorem dX13_seeks_139 : decode cX13_seeks 139 = .ok (.ifCond .eq 7, 3) := by decide +kernel
theorem dX13_seeks_142 : decode cX13_seeks 142 = .ok (.lconst 1, 1) := by decide +kernel
theorem dX13_seeks_143 : decode cX13_seeks 143 = .ok (.goto 4, 3) := by decide +kernel
theorem dX13_seeks_146 : decode cX13_seeks 146 = .ok (.lconst 0, 1) := by decide +kernel
theorem dX13_seeks_147 : decode cX13_seeks 147 = .ok (.lstore 7, 2) := by decide +kernel
theorem dX13_seeks_149 : decode cX13_seeks 149 = .ok (.goto 109, 3) := by decide +kernel
theorem dX13_seeks_152 : decode cX13_seeks 152 = .ok (.aload_n 0, 1) := by decide +kernel
theorem dX13_seeks_153 : decode cX13_seeks 153 = .ok (.iload_n 2, 1) := by decide +kernel
theorem dX13_seeks_154 : decode cX13_seeks 154 = .ok (.iconst 3, 1) := by decide +kernel
theorem dX13_seeks_155 : decode cX13_seeks 155 = .ok (.iadd, 1) := by decide +kernel
theorem dX13_seeks_156 : decode cX13_seeks 156 = .ok (.invokevirtual 459, 3) := by decide +kernel
theorem dX13_seeks_159 : decode cX13_seeks 159 = .ok (.lstore 9, 2) := by decide +kernel
theorem dX13_seeks_161 : decode cX13_seeks 161 = .ok (.iconst 0, 1) := by decide +kernel
theorem dX13_seeks_162 : decode cX13_seeks 162 = .ok (.istore 11, 2) := by decide +kernel
theorem dX13_seeks_164 : decode cX13_seeks 164 = .ok (.iload 11, 2) := by decide +kernel
theorem dX13_seeks_166 : decode cX13_seeks 166 = .ok (.iload 5, 2) := by decide +kernel
theorem dX13_seeks_168 : decode cX13_seeks 168 = .ok (.if_icmp .gt 90, 3) := by decide +kernel
theorem dX13_seeks_171 : decode cX13_seeks 171 = .ok (.aload_n 0, 1) := by decide +kernel
theorem dX13_seeks_172 : decode cX13_seeks 172 = .ok (.iload 4, 2) := by decide +kernel
theorem dX13_seeks_174 : decode cX13_seeks 174 = .ok (.iload_n 3, 1) := by decide +kernel
theorem dX13_seeks_175 : decode cX13_seeks 175 = .ok (.iload 11, 2) := by decide +kernel
theorem dX13_seeks_177 : decode cX13_seeks 177 = .ok (.i2l, 1) := by decide +kernel
theorem dX13_seeks_178 : decode cX13_seeks 178 = .ok (.invokevirtual 625, 3) := by decide +kernel
theorem dX13_seeks_181 : decode cX13_seeks 181 = .ok (.istore 12, 2) := by decide +kernel
theorem dX13_seeks_183 : decode cX13_seeks 183 = .ok (.iload_n 1, 1) := by decide +kernel
theorem dX13_seeks_184 : decode cX13_seeks 184 = .ok (.bipush 22, 2) := by decide +kernel
theorem dX13_seeks_186 : decode cX13_seeks 186 = .ok (.if_icmp .ne 41, 3) := by decide +kernel
theorem dX13_seeks_189 : decode cX13_seeks 189 = .ok (.iload 12, 2) := by decide +kernel
theorem dX13_seeks_191 : decode cX13_seeks 191 = .ok (.ifCond .eq 36, 3) := by decide +kernel
theorem dX13_seeks_194 : decode cX13_seeks 194 = .ok (.lload 7, 2) := by decide +kernel
theorem dX13_seeks_196 : decode cX13_seeks 196 = .ok (.lconst 0, 1) := by decide +kernel
theorem dX13_seeks_197 : decode cX13_seeks 197 = .ok (.lcmp, 1) := by decide +kernel
theorem dX13_seeks_198 : decode cX13_seeks 198 = .ok (.ifCond .ge 29, 3) := by decide +kernel
theorem dX13_seeks_201 : decode cX13_seeks 201 = .ok (.iload 11, 2) := by decide +kernel
theorem dX13_seeks_203 : decode cX13_seeks 203 = .ok (.i2l, 1) := by decide +kernel
theorem dX13_seeks_204 : decode cX13_seeks 204 = .ok (.lload 9, 2) := by decide +kernel
theorem dX13_seeks_206 : decode cX13_seeks 206 = .ok (.lcmp, 1) := by decide +kernel
theorem dX13_seeks_207 : decode cX13_seeks 207 = .ok (.ifCond .ge 15, 3) := by decide +kernel
theorem dX13_seeks_210 : decode cX13_seeks 210 = .ok (.iload 6, 2) := by decide +kernel
theorem dX13_seeks_212 : decode cX13_seeks 212 = .ok (.ifCond .ne 15, 3) := by decide +kernel
theorem dX13_seeks_215 : decode cX13_seeks 215 = .ok (.iload 11, 2) := by decide +kernel
theorem dX13_seeks_217 : decode cX13_seeks 217 = .ok (.iload 5, 2) := by decide +kernel
theorem dX13_seeks_219 : decode cX13_seeks 219 = .ok (.if_icmp .ne 8, 3) := by decide +kernel
theorem dX13_seeks_222 : decode cX13_seeks 222 = .ok (.iload 11, 2) := by decide +kernel
theorem dX13_seeks_224 : decode cX13_seeks 224 = .ok (.i2l, 1) := by decide +kernel
theorem dX13_seeks_225 : decode cX13_seeks 225 = .ok (.lstore 7, 2) := by decide +kernel
theorem dX13_seeks_227 : decode cX13_seeks 227 = .ok (.iload_n 1, 1) := by decide +kernel
theorem dX13_seeks_228 : decode cX13_seeks 228 = .ok (.bipush 23, 2) := by decide +kernel
theorem dX13_seeks_230 : decode cX13_seeks 230 = .ok (.if_icmp .ne 22, 3) := by decide +kernel
theorem dX13_seeks_233 : decode cX13_seeks 233 = .ok (.iload 12, 2) := by decide +kernel
theorem dX13_seeks_235 : decode cX13_seeks 235 = .ok (.ifCond .eq 17, 3) := by decide +kernel
theorem dX13_seeks_238 : decode cX13_seeks 238 = .ok (.iload 11, 2) := by decide +kernel
theorem dX13_seeks_240 : decode cX13_seeks 240 = .ok (.i2l, 1) := by decide +kernel
theorem dX13_seeks_241 : decode cX13_seeks 241 = .ok (.lload 9, 2) := by decide +kernel
theorem dX13_seeks_243 : decode cX13_seeks 243 = .ok (.lcmp, 1) := by decide +kernel
theorem dX13_seeks_244 : decode cX13_seeks 244 = .ok (.ifCond .gt 8, 3) := by decide +kernel
theorem dX13_seeks_247 : decode cX13_seeks 247 = .ok (.iload 11, 2) := by decide +kernel
theorem dX13_seeks_249 : decode cX13_seeks 249 = .ok (.i2l, 1) := by decide +kernel
theorem dX13_seeks_250 : decode cX13_seeks 250 = .ok (.lstore 7, 2) := by decide +kernel
theorem dX13_seeks_252 : decode cX13_seeks 252 = .ok (.iinc 11 1, 3) := by decide +kernel
theorem dX13_seeks_255 : decode cX13_seeks 255 = .ok (.goto (-91), 3) := by decide +kernel
theorem dX13_seeks_258 : decode cX13_seeks 258 = .ok (.aload_n 0, 1) := by decide +kernel
theorem dX13_seeks_259 : decode cX13_seeks 259 = .ok (.iload_n 2, 1) := by decide +kernel
theorem dX13_seeks_260 : decode cX13_seeks 260 = .ok (.lload 7, 2) := by decide +kernel
theorem dX13_seeks_262 : decode cX13_seeks 262 = .ok (.invokevirtual 567, 3) := by decide +kernel
theorem dX13_seeks_265 : decode cX13_seeks 265 = .ok (.return_, 1) := by decide +kernel
def m_seeks_258 (g : Nat) (S : St) (x2 : Int32) (x7 : Int64) : Option St :=
(m_givesWhole g S x2 x7).bind fun S_8 =>
some S_8
def m_seeks_227 (g : Nat) (k164 : St → Int32 → Int32 → Int32 → Int32 → Int32 → Int32 → Int64 → Int64 → Int32 → Option St) (S : St) (x1 : Int32) (x2 : Int32) (x3 : Int32) (x4 : Int32) (x5 : Int32) (x6 : Int32) (x7 : Int64) (x9 : Int64) (x11 : Int32) (x12 : Int32) : Option St :=
if x1 = (23 : Int32) then (
  if x12 = 0 then (
    lt (x11 + (1 : Int32)) fun x11_10 =>
    k164 S x1 x2 x3 x4 x5 x6 x7 x9 x11_10
  ) else (
    if x9 < (x11.toInt64) then (
      lt (x11 + (1 : Int32)) fun x11_11 =>
      k164 S x1 x2 x3 x4 x5 x6 x7 x9 x11_11
    ) else (
      lt (x11.toInt64) fun x7_12 =>
      lt (x11 + (1 : Int32)) fun x11_13 =>
      k164 S x1 x2 x3 x4 x5 x6 x7_12 x9 x11_13
    )
  )
) else (
  lt (x11 + (1 : Int32)) fun x11_9 =>
  k164 S x1 x2 x3 x4 x5 x6 x7 x9 x11_9
)
def m_seeks_222 (g : Nat) (k164 : St → Int32 → Int32 → Int32 → Int32 → Int32 → Int32 → Int64 → Int64 → Int32 → Option St) (S : St) (x1 : Int32) (x2 : Int32) (x3 : Int32) (x4 : Int32) (x5 : Int32) (x6 : Int32) (x9 : Int64) (x11 : Int32) (x12 : Int32) : Option St :=
lt (x11.toInt64) fun x7_9 =>
m_seeks_227 g k164 S x1 x2 x3 x4 x5 x6 x7_9 x9 x11 x12
def b_seeks_164 (g : Nat) (k164 : St → Int32 → Int32 → Int32 → Int32 → Int32 → Int32 → Int64 → Int64 → Int32 → Option St) (S : St) (x1 : Int32) (x2 : Int32) (x3 : Int32) (x4 : Int32) (x5 : Int32) (x6 : Int32) (x7 : Int64) (x9 : Int64) (x11 : Int32) : Option St :=
if x5 < x11 then (
  m_seeks_258 g S x2 x7
) else (
  (m_stands g S x4 x3 (x11.toInt64)).bind fun v_8 =>
  if x1 = (22 : Int32) then (
    if v_8 = 0 then (
      m_seeks_227 g k164 S x1 x2 x3 x4 x5 x6 x7 x9 x11 v_8
    ) else (
      if x7 < (0 : Int64) then (
        if (x11.toInt64) < x9 then (
          if x6 = 0 then (
            if x11 = x5 then (
              m_seeks_222 g k164 S x1 x2 x3 x4 x5 x6 x9 x11 v_8
            ) else (
              m_seeks_227 g k164 S x1 x2 x3 x4 x5 x6 x7 x9 x11 v_8
            )
          ) else (
            m_seeks_227 g k164 S x1 x2 x3 x4 x5 x6 x7 x9 x11 v_8
          )
        ) else (
          m_seeks_222 g k164 S x1 x2 x3 x4 x5 x6 x9 x11 v_8
        )
      ) else (
        m_seeks_227 g k164 S x1 x2 x3 x4 x5 x6 x7 x9 x11 v_8
      )
    )
  ) else (
    m_seeks_227 g k164 S x1 x2 x3 x4 x5 x6 x7 x9 x11 v_8
  )
)
def m_seeks_164 (g : Nat) : Nat → St → Int32 → Int32 → Int32 → Int32 → Int32 → Int32 → Int64 → Int64 → Int32 → Option St
  | 0, _, _, _, _, _, _, _, _, _, _ => none
  | n + 1, S, x1, x2, x3, x4, x5, x6, x7, x9, x11 => b_seeks_164 g (m_seeks_164 g n) S x1 x2 x3 x4 x5 x6 x7 x9 x11
def m_seeks_147 (g : Nat) (S : St) (x2 : Int32) (y0 : Int64) : Option St :=
m_seeks_258 g S x2 y0
def m_seeks_115 (g : Nat) (S : St) (x2 : Int32) (y0 : Int64) : Option St :=
m_seeks_258 g S x2 y0
def m_seeks_25 (g : Nat) (S : St) (x1 : Int32) (x2 : Int32) (x3 : Int32) (y0 : Int32) : Option St :=
if (gI S 0 58) = 0 then (
  (aI S 24 x3).bind fun v_5 =>
  (aI S 24 y0).bind fun v_6 =>
  if x1 = (24 : Int32) then (
    (m_value g S (x2 + (2 : Int32))).bind fun v_11 =>
    (m_value g S (x2 + (3 : Int32))).bind fun v_12 =>
    (m_point g S x3 v_11 v_12).bind fun v_13 =>
    m_seeks_258 g S x2 v_13
  ) else (
    if x1 = (25 : Int32) then (
      (m_value g S (x2 + (3 : Int32))).bind fun v_9 =>
      (m_stands g S y0 x3 v_9).bind fun v_10 =>
      if v_10 = 0 then (
        m_seeks_115 g S x2 (0 : Int64)
      ) else (
        m_seeks_115 g S x2 (1 : Int64)
      )
    ) else (
      if x1 = (26 : Int32) then (
        (m_stands g S y0 x3 ((v_5 - v_6).toInt64)).bind fun v_8 =>
        if v_8 = 0 then (
          m_seeks_147 g S x2 (0 : Int64)
        ) else (
          m_seeks_147 g S x2 (1 : Int64)
        )
      ) else (
        (m_value g S (x2 + (3 : Int32))).bind fun v_7 =>
        m_seeks_164 g g S x1 x2 x3 y0 v_5 v_6 (-1 : Int64) v_7 (0 : Int32)
      )
    )
  )
) else (
  some S
)
def m_seeks (g : Nat) (S : St) (x1 : Int32) (x2 : Int32) : Option St :=
(m_textAt g S (x2 + (1 : Int32))).bind fun (S_1, v_2) =>
if x1 = (24 : Int32) then (
  m_seeks_25 g S_1 x1 x2 v_2 (0 : Int32)
) else (
  (m_textAt g S_1 (x2 + (2 : Int32))).bind fun (S_3, v_4) =>
  m_seeks_25 g S_3 x1 x2 v_2 v_4
)
section S_seeks
variable {p : Program} {l : Launch} {e : Env} {s : State} {m : MethodId} {args : Array Value} {below : List Frame} {meth : Method} {c : Code} {H : Heap} {locs : List Loc} {ls : Array Slot} {D : va_G} {T : Cy} {ρ : Nat → Nat} {A : Nat → Prop}
set_option maxRecDepth 100000 in
set_option maxHeartbeats 4000000 in
theorem w_seeks_258  {g : Nat} {S : St} {x2 : Int32} {x7 : Int64} (C : CallFix p m c cX13_seeks 13 s args tb RX13) (hr : meth.sig.returnType = none) (hk : meth.locks = false) {S' : St} (w : Wn Ym D T ρ S A s H locs) (hl : lv_has ls 13 [(0, .ref (ρ 0)), (2, .int x2), (7, .long x7)]) (h : m_seeks_258 g S x2 x7 = some S') : W p l e (rmN 3 73) s m args below meth c H locs 0 0 (MQ below (Qv Ym D T ρ A S') args s 0 0 A) (F0 m 258 ls []) := by
  unfold m_seeks_258 at h
  refine lv_aload_n C.1 C.2.1 dX13_seeks_258 rfl (lv_at hl 0 rfl) ?_
  refine lv_iload_n C.1 C.2.1 dX13_seeks_259 rfl (lv_at hl 1 rfl) ?_
  refine lv_lload C.1 C.2.1 dX13_seeks_260 (lv_at hl 2 rfl) ?_
  obtain ⟨S_8, hS_8, h⟩ := bnd h
  refine x_callVv (q := (RX13, TX13, 68)) (As := [.int x2, .long x7]) (rest := []) C w (k_givesWhole l D T ρ g H.size S hS_8) vM567 ⟨by decide, by decide⟩ obM (by decide) rfl rfl rfl hl.1 (Nat.le_of_ble_eq_true rfl) ⟨Nat.zero_le _, Nat.zero_le _⟩ dX13_seeks_262 (fun H locs w => ?_)
  obtain rfl := som h
  exact x_vret C w hr hk dX13_seeks_265
set_option maxRecDepth 100000 in
set_option maxHeartbeats 4000000 in
theorem w_seeks_227  {g : Nat} {S : St} {x1 : Int32} {x2 : Int32} {x3 : Int32} {x4 : Int32} {x5 : Int32} {x6 : Int32} {x7 : Int64} {x9 : Int64} {x11 : Int32} {x12 : Int32} (C : CallFix p m c cX13_seeks 13 s args tb RX13) (hr : meth.sig.returnType = none) (hk : meth.locks = false) {S' : St} {k164 : St → Int32 → Int32 → Int32 → Int32 → Int32 → Int32 → Int64 → Int64 → Int32 → Option St} (kk164 : ∀ (S : St) (x1 : Int32) (x2 : Int32) (x3 : Int32) (x4 : Int32) (x5 : Int32) (x6 : Int32) (x7 : Int64) (x9 : Int64) (x11 : Int32) (H : Heap) (locs : List Loc) (ls : Array Slot), Wn Ym D T ρ S A s H locs → lv_has ls 13 [(0, .ref (ρ 0)), (1, .int x1), (2, .int x2), (3, .int x3), (4, .int x4), (5, .int x5), (6, .int x6), (7, .long x7), (9, .long x9), (11, .int x11)] → k164 S x1 x2 x3 x4 x5 x6 x7 x9 x11 = some S' → W p l e (rmN 3 73) s m args below meth c H locs 0 0 (MQ below (Qv Ym D T ρ A S') args s 0 0 A) (F0 m 164 ls [])) (w : Wn Ym D T ρ S A s H locs) (hl : lv_has ls 13 [(0, .ref (ρ 0)), (1, .int x1), (2, .int x2), (3, .int x3), (4, .int x4), (5, .int x5), (6, .int x6), (7, .long x7), (9, .long x9), (11, .int x11), (12, .int x12)]) (h : m_seeks_227 g k164 S x1 x2 x3 x4 x5 x6 x7 x9 x11 x12 = some S') : W p l e (rmN 3 73) s m args below meth c H locs 0 0 (MQ below (Qv Ym D T ρ A S') args s 0 0 A) (F0 m 227 ls []) := by
  unfold m_seeks_227 at h
  refine lv_iload_n C.1 C.2.1 dX13_seeks_227 rfl (lv_at hl 1 rfl) ?_
  refine lv_bipush (v := 23) C.1 C.2.1 dX13_seeks_228 (by decide) ?_
  refine lv_icmp_ne (tgt := 252) C.1 C.2.1 dX13_seeks_230 (by decide) (fun hc => ?_) (fun hc => ?_)
  · replace h := iff0 hc h
    obtain ⟨x11_9, ex11_9, h⟩ := lt_e h
    refine lv_iinc (v := x11_9) (lv' := [(11, .int x11_9), (0, .ref (ρ 0)), (1, .int x1), (2, .int x2), (3, .int x3), (4, .int x4), (5, .int x5), (6, .int x6), (7, .long x7), (9, .long x9), (12, .int x12)]) C.1 C.2.1 dX13_seeks_252 hl (k := 9) rfl (by rw [ex11_9]; rfl) (by decide) rfl (fun ls hl => ?_)
    refine lv_goto (tgt := 164) C.1 C.2.1 dX13_seeks_255 (by decide) ?_
    exact kk164 _ _ _ _ _ _ _ _ _ _ _ _ _ w (lv_sub hl [1, 2, 3, 4, 5, 6, 7, 8, 9, 0] rfl) h
  · replace h := ift hc h
    refine lv_iload C.1 C.2.1 dX13_seeks_233 (lv_at hl 10 rfl) ?_
    refine lv_if_eq (tgt := 252) C.1 C.2.1 dX13_seeks_235 (by decide) (fun hc => ?_) (fun hc => ?_)
    · replace h := ift hc h
      obtain ⟨x11_10, ex11_10, h⟩ := lt_e h
      refine lv_iinc (v := x11_10) (lv' := [(11, .int x11_10), (0, .ref (ρ 0)), (1, .int x1), (2, .int x2), (3, .int x3), (4, .int x4), (5, .int x5), (6, .int x6), (7, .long x7), (9, .long x9), (12, .int x12)]) C.1 C.2.1 dX13_seeks_252 hl (k := 9) rfl (by rw [ex11_10]; rfl) (by decide) rfl (fun ls hl => ?_)
      refine lv_goto (tgt := 164) C.1 C.2.1 dX13_seeks_255 (by decide) ?_
      exact kk164 _ _ _ _ _ _ _ _ _ _ _ _ _ w (lv_sub hl [1, 2, 3, 4, 5, 6, 7, 8, 9, 0] rfl) h
    · replace h := iff0 hc h
      refine lv_iload C.1 C.2.1 dX13_seeks_238 (lv_at hl 9 rfl) ?_
      refine lv_i2l C.1 C.2.1 dX13_seeks_240 rfl ?_
      refine lv_lload C.1 C.2.1 dX13_seeks_241 (lv_at hl 8 rfl) ?_
      refine x_l_gt (tgt := 252) C dX13_seeks_243 dX13_seeks_244 (by decide) (fun hc => ?_) (fun hc => ?_)
      · replace h := ift hc h
        obtain ⟨x11_11, ex11_11, h⟩ := lt_e h
        refine lv_iinc (v := x11_11) (lv' := [(11, .int x11_11), (0, .ref (ρ 0)), (1, .int x1), (2, .int x2), (3, .int x3), (4, .int x4), (5, .int x5), (6, .int x6), (7, .long x7), (9, .long x9), (12, .int x12)]) C.1 C.2.1 dX13_seeks_252 hl (k := 9) rfl (by rw [ex11_11]; rfl) (by decide) rfl (fun ls hl => ?_)
        refine lv_goto (tgt := 164) C.1 C.2.1 dX13_seeks_255 (by decide) ?_
        exact kk164 _ _ _ _ _ _ _ _ _ _ _ _ _ w (lv_sub hl [1, 2, 3, 4, 5, 6, 7, 8, 9, 0] rfl) h
      · replace h := iff0 hc h
        refine lv_iload C.1 C.2.1 dX13_seeks_247 (lv_at hl 9 rfl) ?_
        refine lv_i2l C.1 C.2.1 dX13_seeks_249 rfl ?_
        obtain ⟨x7_12, ex7_12, h⟩ := lt_e h
        refine x_nmL ex7_12 ?_
        refine lv_lstore (lv' := [(7, .long x7_12), (0, .ref (ρ 0)), (1, .int x1), (2, .int x2), (3, .int x3), (4, .int x4), (5, .int x5), (6, .int x6), (9, .long x9), (11, .int x11), (12, .int x12)]) C.1 C.2.1 dX13_seeks_250 hl (by decide) rfl (fun ls hl => ?_)
        obtain ⟨x11_13, ex11_13, h⟩ := lt_e h
        refine lv_iinc (v := x11_13) (lv' := [(11, .int x11_13), (7, .long x7_12), (0, .ref (ρ 0)), (1, .int x1), (2, .int x2), (3, .int x3), (4, .int x4), (5, .int x5), (6, .int x6), (9, .long x9), (12, .int x12)]) C.1 C.2.1 dX13_seeks_252 hl (k := 9) rfl (by rw [ex11_13]; rfl) (by decide) rfl (fun ls hl => ?_)
        refine lv_goto (tgt := 164) C.1 C.2.1 dX13_seeks_255 (by decide) ?_
        exact kk164 _ _ _ _ _ _ _ _ _ _ _ _ _ w (lv_sub hl [2, 3, 4, 5, 6, 7, 8, 1, 9, 0] rfl) h
set_option maxRecDepth 100000 in
set_option maxHeartbeats 4000000 in
theorem w_seeks_222  {g : Nat} {S : St} {x1 : Int32} {x2 : Int32} {x3 : Int32} {x4 : Int32} {x5 : Int32} {x6 : Int32} {x9 : Int64} {x11 : Int32} {x12 : Int32} (C : CallFix p m c cX13_seeks 13 s args tb RX13) (hr : meth.sig.returnType = none) (hk : meth.locks = false) {S' : St} {k164 : St → Int32 → Int32 → Int32 → Int32 → Int32 → Int32 → Int64 → Int64 → Int32 → Option St} (kk164 : ∀ (S : St) (x1 : Int32) (x2 : Int32) (x3 : Int32) (x4 : Int32) (x5 : Int32) (x6 : Int32) (x7 : Int64) (x9 : Int64) (x11 : Int32) (H : Heap) (locs : List Loc) (ls : Array Slot), Wn Ym D T ρ S A s H locs → lv_has ls 13 [(0, .ref (ρ 0)), (1, .int x1), (2, .int x2), (3, .int x3), (4, .int x4), (5, .int x5), (6, .int x6), (7, .long x7), (9, .long x9), (11, .int x11)] → k164 S x1 x2 x3 x4 x5 x6 x7 x9 x11 = some S' → W p l e (rmN 3 73) s m args below meth c H locs 0 0 (MQ below (Qv Ym D T ρ A S') args s 0 0 A) (F0 m 164 ls [])) (w : Wn Ym D T ρ S A s H locs) (hl : lv_has ls 13 [(0, .ref (ρ 0)), (1, .int x1), (2, .int x2), (3, .int x3), (4, .int x4), (5, .int x5), (6, .int x6), (9, .long x9), (11, .int x11), (12, .int x12)]) (h : m_seeks_222 g k164 S x1 x2 x3 x4 x5 x6 x9 x11 x12 = some S') : W p l e (rmN 3 73) s m args below meth c H locs 0 0 (MQ below (Qv Ym D T ρ A S') args s 0 0 A) (F0 m 222 ls []) := by
  unfold m_seeks_222 at h
  refine lv_iload C.1 C.2.1 dX13_seeks_222 (lv_at hl 8 rfl) ?_
  refine lv_i2l C.1 C.2.1 dX13_seeks_224 rfl ?_
  obtain ⟨x7_9, ex7_9, h⟩ := lt_e h
  refine x_nmL ex7_9 ?_
  refine lv_lstore (lv' := [(7, .long x7_9), (0, .ref (ρ 0)), (1, .int x1), (2, .int x2), (3, .int x3), (4, .int x4), (5, .int x5), (6, .int x6), (9, .long x9), (11, .int x11), (12, .int x12)]) C.1 C.2.1 dX13_seeks_225 hl (by decide) rfl (fun ls hl => ?_)
  exact w_seeks_227 C hr hk kk164 w (lv_sub hl [1, 2, 3, 4, 5, 6, 7, 0, 8, 9, 10] rfl) h
set_option maxRecDepth 100000 in
set_option maxHeartbeats 4000000 in
theorem wb_seeks_164  {g : Nat} {S : St} {x1 : Int32} {x2 : Int32} {x3 : Int32} {x4 : Int32} {x5 : Int32} {x6 : Int32} {x7 : Int64} {x9 : Int64} {x11 : Int32} (C : CallFix p m c cX13_seeks 13 s args tb RX13) (hr : meth.sig.returnType = none) (hk : meth.locks = false) {S' : St} {k164 : St → Int32 → Int32 → Int32 → Int32 → Int32 → Int32 → Int64 → Int64 → Int32 → Option St} (kk164 : ∀ (S : St) (x1 : Int32) (x2 : Int32) (x3 : Int32) (x4 : Int32) (x5 : Int32) (x6 : Int32) (x7 : Int64) (x9 : Int64) (x11 : Int32) (H : Heap) (locs : List Loc) (ls : Array Slot), Wn Ym D T ρ S A s H locs → lv_has ls 13 [(0, .ref (ρ 0)), (1, .int x1), (2, .int x2), (3, .int x3), (4, .int x4), (5, .int x5), (6, .int x6), (7, .long x7), (9, .long x9), (11, .int x11)] → k164 S x1 x2 x3 x4 x5 x6 x7 x9 x11 = some S' → W p l e (rmN 3 73) s m args below meth c H locs 0 0 (MQ below (Qv Ym D T ρ A S') args s 0 0 A) (F0 m 164 ls [])) (w : Wn Ym D T ρ S A s H locs) (hl : lv_has ls 13 [(0, .ref (ρ 0)), (1, .int x1), (2, .int x2), (3, .int x3), (4, .int x4), (5, .int x5), (6, .int x6), (7, .long x7), (9, .long x9), (11, .int x11)]) (h : b_seeks_164 g k164 S x1 x2 x3 x4 x5 x6 x7 x9 x11 = some S') : W p l e (rmN 3 73) s m args below meth c H locs 0 0 (MQ below (Qv Ym D T ρ A S') args s 0 0 A) (F0 m 164 ls []) := by
  unfold b_seeks_164 at h
  refine lv_iload C.1 C.2.1 dX13_seeks_164 (lv_at hl 9 rfl) ?_
  refine lv_iload C.1 C.2.1 dX13_seeks_166 (lv_at hl 5 rfl) ?_
  refine lv_icmp_gt (tgt := 258) C.1 C.2.1 dX13_seeks_168 (by decide) (fun hc => ?_) (fun hc => ?_)
  · replace h := ift hc h
    exact w_seeks_258 C hr hk w (lv_sub hl [0, 2, 7] rfl) h
  · replace h := iff0 hc h
    refine lv_aload_n C.1 C.2.1 dX13_seeks_171 rfl (lv_at hl 0 rfl) ?_
    refine lv_iload C.1 C.2.1 dX13_seeks_172 (lv_at hl 4 rfl) ?_
    refine lv_iload_n C.1 C.2.1 dX13_seeks_174 rfl (lv_at hl 3 rfl) ?_
    refine lv_iload C.1 C.2.1 dX13_seeks_175 (lv_at hl 9 rfl) ?_
    refine lv_i2l C.1 C.2.1 dX13_seeks_177 rfl ?_
    obtain ⟨v_8, hv_8, h⟩ := bnd h
    refine x_callVi (q := (RX13, TX13, 68)) (As := [.int x4, .int x3, .long (x11.toInt64)]) (rest := []) C w (k_stands l D T ρ g H.size S hv_8) vM625 ⟨by decide, by decide⟩ obM (by decide) rfl rfl rfl hl.1 (Nat.le_of_ble_eq_true rfl) ⟨Nat.zero_le _, Nat.zero_le _⟩ dX13_seeks_178 (fun H locs w => ?_)
    refine lv_istore (lv' := [(12, .int v_8), (0, .ref (ρ 0)), (1, .int x1), (2, .int x2), (3, .int x3), (4, .int x4), (5, .int x5), (6, .int x6), (7, .long x7), (9, .long x9), (11, .int x11)]) C.1 C.2.1 dX13_seeks_181 hl (by decide) rfl (fun ls hl => ?_)
    refine lv_iload_n C.1 C.2.1 dX13_seeks_183 rfl (lv_at hl 2 rfl) ?_
    refine lv_bipush (v := 22) C.1 C.2.1 dX13_seeks_184 (by decide) ?_
    refine lv_icmp_ne (tgt := 227) C.1 C.2.1 dX13_seeks_186 (by decide) (fun hc => ?_) (fun hc => ?_)
    · replace h := iff0 hc h
      exact w_seeks_227 C hr hk kk164 w (lv_sub hl [1, 2, 3, 4, 5, 6, 7, 8, 9, 10, 0] rfl) h
    · replace h := ift hc h
      refine lv_iload C.1 C.2.1 dX13_seeks_189 (lv_at hl 0 rfl) ?_
      refine lv_if_eq (tgt := 227) C.1 C.2.1 dX13_seeks_191 (by decide) (fun hc => ?_) (fun hc => ?_)
      · replace h := ift hc h
        exact w_seeks_227 C hr hk kk164 w (lv_sub hl [1, 2, 3, 4, 5, 6, 7, 8, 9, 10, 0] rfl) h
      · replace h := iff0 hc h
        refine lv_lload C.1 C.2.1 dX13_seeks_194 (lv_at hl 8 rfl) ?_
        refine lv_lconst (v := 0) C.1 C.2.1 dX13_seeks_196 (by decide) ?_
        refine x_l_ge (tgt := 227) C dX13_seeks_197 dX13_seeks_198 (by decide) (fun hc => ?_) (fun hc => ?_)
        · replace h := iff0 hc h
          exact w_seeks_227 C hr hk kk164 w (lv_sub hl [1, 2, 3, 4, 5, 6, 7, 8, 9, 10, 0] rfl) h
        · replace h := ift hc h
          refine lv_iload C.1 C.2.1 dX13_seeks_201 (lv_at hl 10 rfl) ?_
          refine lv_i2l C.1 C.2.1 dX13_seeks_203 rfl ?_
          refine lv_lload C.1 C.2.1 dX13_seeks_204 (lv_at hl 9 rfl) ?_
          refine x_l_ge (tgt := 222) C dX13_seeks_206 dX13_seeks_207 (by decide) (fun hc => ?_) (fun hc => ?_)
          · replace h := iff0 hc h
            exact w_seeks_222 C hr hk kk164 w (lv_sub hl [1, 2, 3, 4, 5, 6, 7, 9, 10, 0] rfl) h
          · replace h := ift hc h
            refine lv_iload C.1 C.2.1 dX13_seeks_210 (lv_at hl 7 rfl) ?_
            refine lv_if_ne (tgt := 227) C.1 C.2.1 dX13_seeks_212 (by decide) (fun hc => ?_) (fun hc => ?_)
            · replace h := iff0 hc h
              exact w_seeks_227 C hr hk kk164 w (lv_sub hl [1, 2, 3, 4, 5, 6, 7, 8, 9, 10, 0] rfl) h
            · replace h := ift hc h
              refine lv_iload C.1 C.2.1 dX13_seeks_215 (lv_at hl 10 rfl) ?_
              refine lv_iload C.1 C.2.1 dX13_seeks_217 (lv_at hl 6 rfl) ?_
              refine lv_icmp_ne (tgt := 227) C.1 C.2.1 dX13_seeks_219 (by decide) (fun hc => ?_) (fun hc => ?_)
              · replace h := iff0 hc h
                exact w_seeks_227 C hr hk kk164 w (lv_sub hl [1, 2, 3, 4, 5, 6, 7, 8, 9, 10, 0] rfl) h
              · replace h := ift hc h
                exact w_seeks_222 C hr hk kk164 w (lv_sub hl [1, 2, 3, 4, 5, 6, 7, 9, 10, 0] rfl) h
theorem w_seeks_164 {g : Nat} (C : CallFix p m c cX13_seeks 13 s args tb RX13) (hr : meth.sig.returnType = none) (hk : meth.locks = false) {S' : St} (n : Nat) : ∀ (S : St) (x1 : Int32) (x2 : Int32) (x3 : Int32) (x4 : Int32) (x5 : Int32) (x6 : Int32) (x7 : Int64) (x9 : Int64) (x11 : Int32) (H : Heap) (locs : List Loc) (ls : Array Slot), Wn Ym D T ρ S A s H locs → lv_has ls 13 [(0, .ref (ρ 0)), (1, .int x1), (2, .int x2), (3, .int x3), (4, .int x4), (5, .int x5), (6, .int x6), (7, .long x7), (9, .long x9), (11, .int x11)] → m_seeks_164 g n S x1 x2 x3 x4 x5 x6 x7 x9 x11 = some S' → W p l e (rmN 3 73) s m args below meth c H locs 0 0 (MQ below (Qv Ym D T ρ A S') args s 0 0 A) (F0 m 164 ls []) := by
  induction n with
  | zero => intro S x1 x2 x3 x4 x5 x6 x7 x9 x11 H locs ls w hl h; exact absurd h (fun q => by cases q)
  | succ n ih => intro S x1 x2 x3 x4 x5 x6 x7 x9 x11 H locs ls w hl h; exact wb_seeks_164 C hr hk ih w hl h
set_option maxRecDepth 100000 in
set_option maxHeartbeats 4000000 in
theorem w_seeks_147  {g : Nat} {S : St} {x2 : Int32} {y0 : Int64} (C : CallFix p m c cX13_seeks 13 s args tb RX13) (hr : meth.sig.returnType = none) (hk : meth.locks = false) {S' : St} (w : Wn Ym D T ρ S A s H locs) (hl : lv_has ls 13 [(0, .ref (ρ 0)), (2, .int x2)]) (h : m_seeks_147 g S x2 y0 = some S') : W p l e (rmN 3 73) s m args below meth c H locs 0 0 (MQ below (Qv Ym D T ρ A S') args s 0 0 A) (F0 m 147 ls [.long y0]) := by
  unfold m_seeks_147 at h
  refine lv_lstore (lv' := [(7, .long y0), (0, .ref (ρ 0)), (2, .int x2)]) C.1 C.2.1 dX13_seeks_147 hl (by decide) rfl (fun ls hl => ?_)
  refine lv_goto (tgt := 258) C.1 C.2.1 dX13_seeks_149 (by decide) ?_
  exact w_seeks_258 C hr hk w (lv_sub hl [1, 2, 0] rfl) h
set_option maxRecDepth 100000 in
set_option maxHeartbeats 4000000 in
theorem w_seeks_115  {g : Nat} {S : St} {x2 : Int32} {y0 : Int64} (C : CallFix p m c cX13_seeks 13 s args tb RX13) (hr : meth.sig.returnType = none) (hk : meth.locks = false) {S' : St} (w : Wn Ym D T ρ S A s H locs) (hl : lv_has ls 13 [(0, .ref (ρ 0)), (2, .int x2)]) (h : m_seeks_115 g S x2 y0 = some S') : W p l e (rmN 3 73) s m args below meth c H locs 0 0 (MQ below (Qv Ym D T ρ A S') args s 0 0 A) (F0 m 115 ls [.long y0]) := by
  unfold m_seeks_115 at h
  refine lv_lstore (lv' := [(7, .long y0), (0, .ref (ρ 0)), (2, .int x2)]) C.1 C.2.1 dX13_seeks_115 hl (by decide) rfl (fun ls hl => ?_)
  refine lv_goto (tgt := 258) C.1 C.2.1 dX13_seeks_117 (by decide) ?_
  exact w_seeks_258 C hr hk w (lv_sub hl [1, 2, 0] rfl) h
set_option maxRecDepth 100000 in
set_option maxHeartbeats 4000000 in
theorem w_seeks_25  {g : Nat} {S : St} {x1 : Int32} {x2 : Int32} {x3 : Int32} {y0 : Int32} (C : CallFix p m c cX13_seeks 13 s args tb RX13) (hr : meth.sig.returnType = none) (hk : meth.locks = false) {S' : St} (w : Wn Ym D T ρ S A s H locs) (hl : lv_has ls 13 [(0, .ref (ρ 0)), (1, .int x1), (2, .int x2), (3, .int x3)]) (h : m_seeks_25 g S x1 x2 x3 y0 = some S') : W p l e (rmN 3 73) s m args below meth c H locs 0 0 (MQ below (Qv Ym D T ρ A S') args s 0 0 A) (F0 m 25 ls [.int y0]) := by
  unfold m_seeks_25 at h
  refine lv_istore (lv' := [(4, .int y0), (0, .ref (ρ 0)), (1, .int x1), (2, .int x2), (3, .int x3)]) C.1 C.2.1 dX13_seeks_25 hl (by decide) rfl (fun ls hl => ?_)
  refine lv_aload_n C.1 C.2.1 dX13_seeks_27 rfl (lv_at hl 1 rfl) ?_
  refine x_getI C w fM398 obM dX13_seeks_28 ?_
  refine lv_if_eq (tgt := 35) C.1 C.2.1 dX13_seeks_31 (by decide) (fun hc => ?_) (fun hc => ?_)
  · replace h := ift hc h
    refine lv_aload_n C.1 C.2.1 dX13_seeks_35 rfl (lv_at hl 1 rfl) ?_
    refine x_getC C w 24 fM193 obM rfl dX13_seeks_36 ?_
    refine lv_iload_n C.1 C.2.1 dX13_seeks_39 rfl (lv_at hl 4 rfl) ?_
    obtain ⟨v_5, hv_5, h⟩ := bnd h
    refine x_iald C w obM24 hv_5 dX13_seeks_40 ?_
    refine lv_istore (lv' := [(5, .int v_5), (4, .int y0), (0, .ref (ρ 0)), (1, .int x1), (2, .int x2), (3, .int x3)]) C.1 C.2.1 dX13_seeks_41 hl (by decide) rfl (fun ls hl => ?_)
    refine lv_aload_n C.1 C.2.1 dX13_seeks_43 rfl (lv_at hl 2 rfl) ?_
    refine x_getC C w 24 fM193 obM rfl dX13_seeks_44 ?_
    refine lv_iload C.1 C.2.1 dX13_seeks_47 (lv_at hl 1 rfl) ?_
    obtain ⟨v_6, hv_6, h⟩ := bnd h
    refine x_iald C w obM24 hv_6 dX13_seeks_49 ?_
    refine lv_istore (lv' := [(6, .int v_6), (5, .int v_5), (4, .int y0), (0, .ref (ρ 0)), (1, .int x1), (2, .int x2), (3, .int x3)]) C.1 C.2.1 dX13_seeks_50 hl (by decide) rfl (fun ls hl => ?_)
    refine lv_ldc2 C.1 C.2.1 C.2.2.2.1 (C.2.2.2.2 _ nM631) dX13_seeks_52 ?_
    refine lv_lstore (lv' := [(7, .long (-1 : Int64)), (6, .int v_6), (5, .int v_5), (4, .int y0), (0, .ref (ρ 0)), (1, .int x1), (2, .int x2), (3, .int x3)]) C.1 C.2.1 dX13_seeks_55 hl (by decide) rfl (fun ls hl => ?_)
    refine lv_iload_n C.1 C.2.1 dX13_seeks_57 rfl (lv_at hl 5 rfl) ?_
    refine lv_bipush (v := 24) C.1 C.2.1 dX13_seeks_58 (by decide) ?_
    refine lv_icmp_ne (tgt := 87) C.1 C.2.1 dX13_seeks_60 (by decide) (fun hc => ?_) (fun hc => ?_)
    · replace h := iff0 hc h
      refine lv_iload_n C.1 C.2.1 dX13_seeks_87 rfl (lv_at hl 5 rfl) ?_
      refine lv_bipush (v := 25) C.1 C.2.1 dX13_seeks_88 (by decide) ?_
      refine lv_icmp_ne (tgt := 120) C.1 C.2.1 dX13_seeks_90 (by decide) (fun hc => ?_) (fun hc => ?_)
      · replace h := iff0 hc h
        refine lv_iload_n C.1 C.2.1 dX13_seeks_120 rfl (lv_at hl 5 rfl) ?_
        refine lv_bipush (v := 26) C.1 C.2.1 dX13_seeks_121 (by decide) ?_
        refine lv_icmp_ne (tgt := 152) C.1 C.2.1 dX13_seeks_123 (by decide) (fun hc => ?_) (fun hc => ?_)
        · replace h := iff0 hc h
          refine lv_aload_n C.1 C.2.1 dX13_seeks_152 rfl (lv_at hl 4 rfl) ?_
          refine lv_iload_n C.1 C.2.1 dX13_seeks_153 rfl (lv_at hl 6 rfl) ?_
          refine lv_iconst (v := 3) C.1 C.2.1 dX13_seeks_154 (by decide) ?_
          refine lv_iadd C.1 C.2.1 dX13_seeks_155 ?_
          obtain ⟨v_7, hv_7, h⟩ := bnd h
          refine x_callVj (q := (RX13, TX13, 68)) (As := [.int (x2 + (3 : Int32))]) (rest := []) C w (k_value l D T ρ g H.size S hv_7) vM459 ⟨by decide, by decide⟩ obM (by decide) rfl rfl rfl hl.1 (Nat.le_of_ble_eq_true rfl) ⟨Nat.zero_le _, Nat.zero_le _⟩ dX13_seeks_156 (fun H locs w => ?_)
          refine lv_lstore (lv' := [(9, .long v_7), (7, .long (-1 : Int64)), (6, .int v_6), (5, .int v_5), (4, .int y0), (0, .ref (ρ 0)), (1, .int x1), (2, .int x2), (3, .int x3)]) C.1 C.2.1 dX13_seeks_159 hl (by decide) rfl (fun ls hl => ?_)
          refine lv_iconst (v := 0) C.1 C.2.1 dX13_seeks_161 (by decide) ?_
          refine lv_istore (lv' := [(11, .int (0 : Int32)), (9, .long v_7), (7, .long (-1 : Int64)), (6, .int v_6), (5, .int v_5), (4, .int y0), (0, .ref (ρ 0)), (1, .int x1), (2, .int x2), (3, .int x3)]) C.1 C.2.1 dX13_seeks_162 hl (by decide) rfl (fun ls hl => ?_)
          exact w_seeks_164 C hr hk g _ _ _ _ _ _ _ _ _ _ _ _ _ w (lv_sub hl [6, 7, 8, 9, 5, 4, 3, 2, 1, 0] rfl) h
        · replace h := ift hc h
          refine lv_aload_n C.1 C.2.1 dX13_seeks_126 rfl (lv_at hl 4 rfl) ?_
          refine lv_iload C.1 C.2.1 dX13_seeks_127 (lv_at hl 3 rfl) ?_
          refine lv_iload_n C.1 C.2.1 dX13_seeks_129 rfl (lv_at hl 7 rfl) ?_
          refine lv_iload C.1 C.2.1 dX13_seeks_130 (lv_at hl 2 rfl) ?_
          refine lv_iload C.1 C.2.1 dX13_seeks_132 (lv_at hl 1 rfl) ?_
          refine lv_isub C.1 C.2.1 dX13_seeks_134 ?_
          refine lv_i2l C.1 C.2.1 dX13_seeks_135 rfl ?_
          obtain ⟨v_8, hv_8, h⟩ := bnd h
          refine x_callVi (q := (RX13, TX13, 68)) (As := [.int y0, .int x3, .long ((v_5 - v_6).toInt64)]) (rest := []) C w (k_stands l D T ρ g H.size S hv_8) vM625 ⟨by decide, by decide⟩ obM (by decide) rfl rfl rfl hl.1 (Nat.le_of_ble_eq_true rfl) ⟨Nat.zero_le _, Nat.zero_le _⟩ dX13_seeks_136 (fun H locs w => ?_)
          refine lv_if_eq (tgt := 146) C.1 C.2.1 dX13_seeks_139 (by decide) (fun hc => ?_) (fun hc => ?_)
          · replace h := ift hc h
            refine lv_lconst (v := 0) C.1 C.2.1 dX13_seeks_146 (by decide) ?_
            exact w_seeks_147 C hr hk w (lv_sub hl [4, 6] rfl) h
          · replace h := iff0 hc h
            refine lv_lconst (v := 1) C.1 C.2.1 dX13_seeks_142 (by decide) ?_
            refine lv_goto (tgt := 147) C.1 C.2.1 dX13_seeks_143 (by decide) ?_
            exact w_seeks_147 C hr hk w (lv_sub hl [4, 6] rfl) h
      · replace h := ift hc h
        refine lv_aload_n C.1 C.2.1 dX13_seeks_93 rfl (lv_at hl 4 rfl) ?_
        refine lv_iload C.1 C.2.1 dX13_seeks_94 (lv_at hl 3 rfl) ?_
        refine lv_iload_n C.1 C.2.1 dX13_seeks_96 rfl (lv_at hl 7 rfl) ?_
        refine lv_aload_n C.1 C.2.1 dX13_seeks_97 rfl (lv_at hl 4 rfl) ?_
        refine lv_iload_n C.1 C.2.1 dX13_seeks_98 rfl (lv_at hl 6 rfl) ?_
        refine lv_iconst (v := 3) C.1 C.2.1 dX13_seeks_99 (by decide) ?_
        refine lv_iadd C.1 C.2.1 dX13_seeks_100 ?_
        obtain ⟨v_9, hv_9, h⟩ := bnd h
        refine x_callVj (q := (RX13, TX13, 68)) (As := [.int (x2 + (3 : Int32))]) (rest := [.int x3, .int y0, .ref (ρ 0)]) C w (k_value l D T ρ g H.size S hv_9) vM459 ⟨by decide, by decide⟩ obM (by decide) rfl rfl rfl hl.1 (Nat.le_of_ble_eq_true rfl) ⟨Nat.zero_le _, Nat.zero_le _⟩ dX13_seeks_101 (fun H locs w => ?_)
        obtain ⟨v_10, hv_10, h⟩ := bnd h
        refine x_callVi (q := (RX13, TX13, 68)) (As := [.int y0, .int x3, .long v_9]) (rest := []) C w (k_stands l D T ρ g H.size S hv_10) vM625 ⟨by decide, by decide⟩ obM (by decide) rfl rfl rfl hl.1 (Nat.le_of_ble_eq_true rfl) ⟨Nat.zero_le _, Nat.zero_le _⟩ dX13_seeks_104 (fun H locs w => ?_)
        refine lv_if_eq (tgt := 114) C.1 C.2.1 dX13_seeks_107 (by decide) (fun hc => ?_) (fun hc => ?_)
        · replace h := ift hc h
          refine lv_lconst (v := 0) C.1 C.2.1 dX13_seeks_114 (by decide) ?_
          exact w_seeks_115 C hr hk w (lv_sub hl [4, 6] rfl) h
        · replace h := iff0 hc h
          refine lv_lconst (v := 1) C.1 C.2.1 dX13_seeks_110 (by decide) ?_
          refine lv_goto (tgt := 115) C.1 C.2.1 dX13_seeks_111 (by decide) ?_
          exact w_seeks_115 C hr hk w (lv_sub hl [4, 6] rfl) h
    · replace h := ift hc h
      refine lv_aload_n C.1 C.2.1 dX13_seeks_63 rfl (lv_at hl 4 rfl) ?_
      refine lv_iload_n C.1 C.2.1 dX13_seeks_64 rfl (lv_at hl 7 rfl) ?_
      refine lv_aload_n C.1 C.2.1 dX13_seeks_65 rfl (lv_at hl 4 rfl) ?_
      refine lv_iload_n C.1 C.2.1 dX13_seeks_66 rfl (lv_at hl 6 rfl) ?_
      refine lv_iconst (v := 2) C.1 C.2.1 dX13_seeks_67 (by decide) ?_
      refine lv_iadd C.1 C.2.1 dX13_seeks_68 ?_
      obtain ⟨v_11, hv_11, h⟩ := bnd h
      refine x_callVj (q := (RX13, TX13, 68)) (As := [.int (x2 + (2 : Int32))]) (rest := [.int x3, .ref (ρ 0)]) C w (k_value l D T ρ g H.size S hv_11) vM459 ⟨by decide, by decide⟩ obM (by decide) rfl rfl rfl hl.1 (Nat.le_of_ble_eq_true rfl) ⟨Nat.zero_le _, Nat.zero_le _⟩ dX13_seeks_69 (fun H locs w => ?_)
      refine lv_aload_n C.1 C.2.1 dX13_seeks_72 rfl (lv_at hl 4 rfl) ?_
      refine lv_iload_n C.1 C.2.1 dX13_seeks_73 rfl (lv_at hl 6 rfl) ?_
      refine lv_iconst (v := 3) C.1 C.2.1 dX13_seeks_74 (by decide) ?_
      refine lv_iadd C.1 C.2.1 dX13_seeks_75 ?_
      obtain ⟨v_12, hv_12, h⟩ := bnd h
      refine x_callVj (q := (RX13, TX13, 68)) (As := [.int (x2 + (3 : Int32))]) (rest := [.long v_11, .int x3, .ref (ρ 0)]) C w (k_value l D T ρ g H.size S hv_12) vM459 ⟨by decide, by decide⟩ obM (by decide) rfl rfl rfl hl.1 (Nat.le_of_ble_eq_true rfl) ⟨Nat.zero_le _, Nat.zero_le _⟩ dX13_seeks_76 (fun H locs w => ?_)
      obtain ⟨v_13, hv_13, h⟩ := bnd h
      refine x_callVj (q := (RX13, TX13, 68)) (As := [.int x3, .long v_11, .long v_12]) (rest := []) C w (k_point l D T ρ g H.size S hv_13) vM633 ⟨by decide, by decide⟩ obM (by decide) rfl rfl rfl hl.1 (Nat.le_of_ble_eq_true rfl) ⟨Nat.zero_le _, Nat.zero_le _⟩ dX13_seeks_79 (fun H locs w => ?_)
      refine lv_lstore (lv' := [(7, .long v_13), (6, .int v_6), (5, .int v_5), (4, .int y0), (0, .ref (ρ 0)), (1, .int x1), (2, .int x2), (3, .int x3)]) C.1 C.2.1 dX13_seeks_82 hl (by decide) rfl (fun ls hl => ?_)
      refine lv_goto (tgt := 258) C.1 C.2.1 dX13_seeks_84 (by decide) ?_
      exact w_seeks_258 C hr hk w (lv_sub hl [4, 6, 0] rfl) h
  · replace h := iff0 hc h
    obtain rfl := som h
    exact x_vret C w hr hk dX13_seeks_34
set_option maxRecDepth 100000 in
set_option maxHeartbeats 4000000 in
theorem w_seeks_0  {g : Nat} {S : St} {x1 : Int32} {x2 : Int32} (C : CallFix p m c cX13_seeks 13 s args tb RX13) (hr : meth.sig.returnType = none) (hk : meth.locks = false) {S' : St} (w : Wn Ym D T ρ S A s H locs) (hl : lv_has ls 13 [(0, .ref (ρ 0)), (1, .int x1), (2, .int x2)]) (h : m_seeks g S x1 x2 = some S') : W p l e (rmN 3 73) s m args below meth c H locs 0 0 (MQ below (Qv Ym D T ρ A S') args s 0 0 A) (F0 m 0 ls []) := by
  unfold m_seeks at h
  refine lv_aload_n C.1 C.2.1 dX13_seeks_0 rfl (lv_at hl 0 rfl) ?_
  refine lv_iload_n C.1 C.2.1 dX13_seeks_1 rfl (lv_at hl 2 rfl) ?_
  refine lv_iconst (v := 1) C.1 C.2.1 dX13_seeks_2 (by decide) ?_
  refine lv_iadd C.1 C.2.1 dX13_seeks_3 ?_
  obtain ⟨⟨S_1, v_2⟩, hv_2, h⟩ := bnd h
  refine x_callVi (q := (RX13, TX13, 68)) (As := [.int (x2 + (1 : Int32))]) (rest := []) C w (k_textAt l D T ρ g H.size S hv_2) vM558 ⟨by decide, by decide⟩ obM (by decide) rfl rfl rfl hl.1 (Nat.le_of_ble_eq_true rfl) ⟨Nat.zero_le _, Nat.zero_le _⟩ dX13_seeks_4 (fun H locs w => ?_)
  refine lv_istore_n (lv' := [(3, .int v_2), (0, .ref (ρ 0)), (1, .int x1), (2, .int x2)]) C.1 C.2.1 dX13_seeks_7 rfl hl (by decide) rfl (fun ls hl => ?_)
  refine lv_iload_n C.1 C.2.1 dX13_seeks_8 rfl (lv_at hl 2 rfl) ?_
  refine lv_bipush (v := 24) C.1 C.2.1 dX13_seeks_9 (by decide) ?_
  refine lv_icmp_ne (tgt := 18) C.1 C.2.1 dX13_seeks_11 (by decide) (fun hc => ?_) (fun hc => ?_)
  · replace h := iff0 hc h
    refine lv_aload_n C.1 C.2.1 dX13_seeks_18 rfl (lv_at hl 1 rfl) ?_
    refine lv_iload_n C.1 C.2.1 dX13_seeks_19 rfl (lv_at hl 3 rfl) ?_
    refine lv_iconst (v := 2) C.1 C.2.1 dX13_seeks_20 (by decide) ?_
    refine lv_iadd C.1 C.2.1 dX13_seeks_21 ?_
    obtain ⟨⟨S_3, v_4⟩, hv_4, h⟩ := bnd h
    refine x_callVi (q := (RX13, TX13, 68)) (As := [.int (x2 + (2 : Int32))]) (rest := []) C w (k_textAt l D T ρ g H.size S_1 hv_4) vM558 ⟨by decide, by decide⟩ obM (by decide) rfl rfl rfl hl.1 (Nat.le_of_ble_eq_true rfl) ⟨Nat.zero_le _, Nat.zero_le _⟩ dX13_seeks_22 (fun H locs w => ?_)
    exact w_seeks_25 C hr hk w (lv_sub hl [1, 2, 3, 0] rfl) h
  · replace h := ift hc h
    refine lv_iconst (v := 0) C.1 C.2.1 dX13_seeks_14 (by decide) ?_
    refine lv_goto (tgt := 25) C.1 C.2.1 dX13_seeks_15 (by decide) ?_
    exact w_seeks_25 C hr hk w (lv_sub hl [1, 2, 3, 0] rfl) h
end S_seeks
set_option maxRecDepth 100000 in
theorem k_seeks (l : Launch) (D : va_G) (T : Cy) (ρ : Nat → Nat) (g sz : Nat) (S : St) {x1 : Int32} {x2 : Int32} {S' : St} (h : m_seeks g S x1 x2 = some S') : Mv l Ym D T ρ yX13_seeks cX13_seeks 13 none 3 73 S S' [.ref (ρ 0), .int x1, .int x2] sz :=
  x_in (by decide) (Nat.le_of_ble_eq_true rfl) (fun p e s m below meth c ls C hr hk w hl => w_seeks_0 C hr hk w hl h)

theorem dX13_does_0 : decode cX13_does 0 = .ok (.aload_n 0, 1) := by decide +kernel
theorem dX13_does_1 : decode cX13_does 1 = .ok (.iconst 0, 1) := by decide +kernel
theorem dX13_does_2 : decode cX13_does 2 = .ok (.putfield 395, 3) := by decide +kernel
theorem dX13_does_5 : decode cX13_does 5 = .ok (.iload_n 1, 1) := by decide +kernel
theorem dX13_does_6 : decode cX13_does 6 = .ok (.iconst 4, 1) := by decide +kernel
theorem dX13_does_7 : decode cX13_does 7 = .ok (.if_icmp .gt 13, 3) := by decide +kernel
theorem dX13_does_10 : decode cX13_does 10 = .ok (.aload_n 0, 1) := by decide +kernel
theorem dX13_does_11 : decode cX13_does 11 = .ok (.iload_n 1, 1) := by decide +kernel
theorem dX13_does_12 : decode cX13_does 12 = .ok (.iload_n 2, 1) := by decide +kernel
theorem dX13_does_13 : decode cX13_does 13 = .ok (.iload_n 3, 1) := by decide +kernel
theorem dX13_does_14 : decode cX13_does 14 = .ok (.invokevirtual 528, 3) := by decide +kernel
theorem dX13_does_17 : decode cX13_does 17 = .ok (.goto 112, 3) := by decide +kernel
theorem dX13_does_20 : decode cX13_does 20 = .ok (.iload_n 1, 1) := by decide +kernel
theorem dX13_does_21 : decode cX13_does 21 = .ok (.bipush 10, 2) := by decide +kernel
theorem dX13_does_23 : decode cX13_does 23 = .ok (.if_icmp .gt 12, 3) := by decide +kernel
theorem dX13_does_26 : decode cX13_does 26 = .ok (.aload_n 0, 1) := by decide +kernel
theorem dX13_does_27 : decode cX13_does 27 = .ok (.iload_n 1, 1) := by decide +kernel
theorem dX13_does_28 : decode cX13_does 28 = .ok (.iload_n 2, 1) := by decide +kernel
theorem dX13_does_29 : decode cX13_does 29 = .ok (.invokevirtual 531, 3) := by decide +kernel
theorem dX13_does_32 : decode cX13_does 32 = .ok (.goto 97, 3) := by decide +kernel
theorem dX13_does_35 : decode cX13_does 35 = .ok (.iload_n 1, 1) := by decide +kernel
theorem dX13_does_36 : decode cX13_does 36 = .ok (.bipush 15, 2) := by decide +kernel
theorem dX13_does_38 : decode cX13_does 38 = .ok (.if_icmp .gt 12, 3) := by decide +kernel
theorem dX13_does_41 : decode cX13_does 41 = .ok (.aload_n 0, 1) := by decide +kernel
theorem dX13_does_42 : decode cX13_does 42 = .ok (.iload_n 1, 1) := by decide +kernel
theorem dX13_does_43 : decode cX13_does 43 = .ok (.iload_n 2, 1) := by decide +kernel
theorem dX13_does_44 : decode cX13_does 44 = .ok (.invokevirtual 534, 3) := by decide +kernel
theorem dX13_does_47 : decode cX13_does 47 = .ok (.goto 82, 3) := by decide +kernel
theorem dX13_does_50 : decode cX13_does 50 = .ok (.iload_n 1, 1) := by decide +kernel
theorem dX13_does_51 : decode cX13_does 51 = .ok (.bipush 21, 2) := by decide +kernel
theorem dX13_does_53 : decode cX13_does 53 = .ok (.if_icmp .le 15, 3) := by decide +kernel
theorem dX13_does_56 : decode cX13_does 56 = .ok (.iload_n 1, 1) := by decide +kernel
theorem dX13_does_57 : decode cX13_does 57 = .ok (.bipush 32, 2) := by decide +kernel
theorem dX13_does_59 : decode cX13_does 59 = .ok (.if_icmp .eq 9, 3) := by decide +kernel
theorem dX13_does_62 : decode cX13_does 62 = .ok (.iload_n 1, 1) := by decide +kernel
theorem dX13_does_63 : decode cX13_does 63 = .ok (.bipush 33, 2) := by decide +kernel
theorem dX13_does_65 : decode cX13_does 65 = .ok (.if_icmp .ne 12, 3) := by decide +kernel
theorem dX13_does_68 : decode cX13_does 68 = .ok (.aload_n 0, 1) := by decide +kernel
theorem dX13_does_69 : decode cX13_does 69 = .ok (.iload_n 1, 1) := by decide +kernel
theorem dX13_does_70 : decode cX13_does 70 = .ok (.iload_n 2, 1) := by decide +kernel
theorem dX13_does_71 : decode cX13_does 71 = .ok (.invokevirtual 537, 3) := by decide +kernel
theorem dX13_does_74 : decode cX13_does 74 = .ok (.goto 55, 3) := by decide +kernel
theorem dX13_does_77 : decode cX13_does 77 = .ok (.iload_n 1, 1) := by decide +kernel
theorem dX13_does_78 : decode cX13_does 78 = .ok (.bipush 26, 2) := by decide +kernel
theorem dX13_does_80 : decode cX13_does 80 = .ok (.if_icmp .gt 12, 3) := by decide +kernel
theorem dX13_does_83 : decode cX13_does 83 = .ok (.aload_n 0, 1) := by decide +kernel
theorem dX13_does_84 : decode cX13_does 84 = .ok (.iload_n 1, 1) := by decide +kernel
theorem dX13_does_85 : decode cX13_does 85 = .ok (.iload_n 2, 1) := by decide +kernel
theorem dX13_does_86 : decode cX13_does 86 = .ok (.invokevirtual 540, 3) := by decide +kernel
theorem dX13_does_89 : decode cX13_does 89 = .ok (.goto 40, 3) := by decide +kernel
theorem dX13_does_92 : decode cX13_does 92 = .ok (.iload_n 1, 1) := by decide +kernel
theorem dX13_does_93 : decode cX13_does 93 = .ok (.bipush 31, 2) := by decide +kernel
theorem dX13_does_95 : decode cX13_does 95 = .ok (.if_icmp .gt 12, 3) := by decide +kernel
theorem dX13_does_98 : decode cX13_does 98 = .ok (.aload_n 0, 1) := by decide +kernel
theorem dX13_does_99 : decode cX13_does 99 = .ok (.iload_n 1, 1) := by decide +kernel
theorem dX13_does_100 : decode cX13_does 100 = .ok (.iload_n 2, 1) := by decide +kernel
theorem dX13_does_101 : decode cX13_does 101 = .ok (.invokevirtual 543, 3) := by decide +kernel
theorem dX13_does_104 : decode cX13_does 104 = .ok (.goto 25, 3) := by decide +kernel
theorem dX13_does_107 : decode cX13_does 107 = .ok (.iload_n 1, 1) := by decide +kernel
theorem dX13_does_108 : decode cX13_does 108 = .ok (.bipush 44, 2) := by decide +kernel
theorem dX13_does_110 : decode cX13_does 110 = .ok (.if_icmp .gt 12, 3) := by decide +kernel
theorem dX13_does_113 : decode cX13_does 113 = .ok (.aload_n 0, 1) := by decide +kernel
theorem dX13_does_114 : decode cX13_does 114 = .ok (.iload_n 1, 1) := by decide +kernel
theorem dX13_does_115 : decode cX13_does 115 = .ok (.iload_n 2, 1) := by decide +kernel
theorem dX13_does_116 : decode cX13_does 116 = .ok (.invokevirtual 546, 3) := by decide +kernel
theorem dX13_does_119 : decode cX13_does 119 = .ok (.goto 10, 3) := by decide +kernel
theorem dX13_does_122 : decode cX13_does 122 = .ok (.aload_n 0, 1) := by decide +kernel
theorem dX13_does_123 : decode cX13_does 123 = .ok (.iload_n 1, 1) := by decide +kernel
theorem dX13_does_124 : decode cX13_does 124 = .ok (.iload_n 2, 1) := by decide +kernel
theorem dX13_does_125 : decode cX13_does 125 = .ok (.iload_n 3, 1) := by decide +kernel
theorem dX13_does_126 : decode cX13_does 126 = .ok (.invokevirtual 549, 3) := by decide +kernel
theorem dX13_does_129 : decode cX13_does 129 = .ok (.return_, 1) := by decide +kernel
def m_does_68 (g : Nat) (S : St) (x1 : Int32) (x2 : Int32) : Option St :=
(m_changes g S x1 x2).bind fun S_2 =>
some S_2
def m_does (g : Nat) (S : St) (x1 : Int32) (x2 : Int32) (x3 : Int32) : Option St :=
lt (sI S 0 57 (0 : Int32)) fun S_1 =>
if (4 : Int32) < x1 then (
  if (10 : Int32) < x1 then (
    if (15 : Int32) < x1 then (
      if x1 ≤ (21 : Int32) then (
        m_does_68 g S_1 x1 x2
      ) else (
        if x1 = (32 : Int32) then (
          m_does_68 g S_1 x1 x2
        ) else (
          if x1 = (33 : Int32) then (
            m_does_68 g S_1 x1 x2
          ) else (
            if (26 : Int32) < x1 then (
              if (31 : Int32) < x1 then (
                if (44 : Int32) < x1 then (
                  (m_reckons g S_1 x1 x2 x3).bind fun S_2 =>
                  some S_2
                ) else (
                  (m_builds g S_1 x1 x2).bind fun S_3 =>
                  some S_3
                )
              ) else (
                (m_cuts g S_1 x1 x2).bind fun S_4 =>
                some S_4
              )
            ) else (
              (m_seeks g S_1 x1 x2).bind fun S_5 =>
              some S_5
            )
          )
        )
      )
    ) else (
      (m_looks g S_1 x1 x2).bind fun S_6 =>
      some S_6
    )
  ) else (
    (m_compares g S_1 x1 x2).bind fun S_7 =>
    some S_7
  )
) else (
  (m_names g S_1 x1 x2 x3).bind fun S_8 =>
  some S_8
)
section S_does
variable {p : Program} {l : Launch} {e : Env} {s : State} {m : MethodId} {args : Array Value} {below : List Frame} {meth : Method} {c : Code} {H : Heap} {locs : List Loc} {ls : Array Slot} {D : va_G} {T : Cy} {ρ : Nat → Nat} {A : Nat → Prop}
set_option maxRecDepth 100000 in
set_option maxHeartbeats 4000000 in
theorem w_does_68  {g : Nat} {S : St} {x1 : Int32} {x2 : Int32} (C : CallFix p m c cX13_does 4 s args tb RX13) (hr : meth.sig.returnType = none) (hk : meth.locks = false) {S' : St} (w : Wn Ym D T ρ S A s H locs) (hl : lv_has ls 4 [(0, .ref (ρ 0)), (1, .int x1), (2, .int x2)]) (h : m_does_68 g S x1 x2 = some S') : W p l e (rmN 6 139) s m args below meth c H locs 0 0 (MQ below (Qv Ym D T ρ A S') args s 0 0 A) (F0 m 68 ls []) := by
  unfold m_does_68 at h
  refine lv_aload_n C.1 C.2.1 dX13_does_68 rfl (lv_at hl 0 rfl) ?_
  refine lv_iload_n C.1 C.2.1 dX13_does_69 rfl (lv_at hl 1 rfl) ?_
  refine lv_iload_n C.1 C.2.1 dX13_does_70 rfl (lv_at hl 2 rfl) ?_
  obtain ⟨S_2, hS_2, h⟩ := bnd h
  refine x_callVv (q := (RX13, TX13, 68)) (As := [.int x1, .int x2]) (rest := []) C w (k_changes l D T ρ g H.size S hS_2) vM537 ⟨by decide, by decide⟩ obM (by decide) rfl rfl rfl hl.1 (Nat.le_of_ble_eq_true rfl) ⟨Nat.zero_le _, Nat.zero_le _⟩ dX13_does_71 (fun H locs w => ?_)
  refine lv_goto (tgt := 129) C.1 C.2.1 dX13_does_74 (by decide) ?_
  obtain rfl := som h
  exact x_vret C w hr hk dX13_does_129
set_option maxRecDepth 100000 in
set_option maxHeartbeats 4000000 in
theorem w_does_0  {g : Nat} {S : St} {x1 : Int32} {x2 : Int32} {x3 : Int32} (C : CallFix p m c cX13_does 4 s args tb RX13) (hr : meth.sig.returnType = none) (hk : meth.locks = false) {S' : St} (w : Wn Ym D T ρ S A s H locs) (hl : lv_has ls 4 [(0, .ref (ρ 0)), (1, .int x1), (2, .int x2), (3, .int x3)]) (h : m_does g S x1 x2 x3 = some S') : W p l e (rmN 6 139) s m args below meth c H locs 0 0 (MQ below (Qv Ym D T ρ A S') args s 0 0 A) (F0 m 0 ls []) := by
  unfold m_does at h
  refine lv_aload_n C.1 C.2.1 dX13_does_0 rfl (lv_at hl 0 rfl) ?_
  refine lv_iconst (v := 0) C.1 C.2.1 dX13_does_1 (by decide) ?_
  obtain ⟨S_1, eS_1, h⟩ := lt_e h
  refine y_putI C w eS_1 fM395 pM57 obM dX13_does_2 (fun H locs w => ?_)
  refine lv_iload_n C.1 C.2.1 dX13_does_5 rfl (lv_at hl 1 rfl) ?_
  refine lv_iconst (v := 4) C.1 C.2.1 dX13_does_6 (by decide) ?_
  refine lv_icmp_gt (tgt := 20) C.1 C.2.1 dX13_does_7 (by decide) (fun hc => ?_) (fun hc => ?_)
  · replace h := ift hc h
    refine lv_iload_n C.1 C.2.1 dX13_does_20 rfl (lv_at hl 1 rfl) ?_
    refine lv_bipush (v := 10) C.1 C.2.1 dX13_does_21 (by decide) ?_
    refine lv_icmp_gt (tgt := 35) C.1 C.2.1 dX13_does_23 (by decide) (fun hc => ?_) (fun hc => ?_)
    · replace h := ift hc h
      refine lv_iload_n C.1 C.2.1 dX13_does_35 rfl (lv_at hl 1 rfl) ?_
      refine lv_bipush (v := 15) C.1 C.2.1 dX13_does_36 (by decide) ?_
      refine lv_icmp_gt (tgt := 50) C.1 C.2.1 dX13_does_38 (by decide) (fun hc => ?_) (fun hc => ?_)
      · replace h := ift hc h
        refine lv_iload_n C.1 C.2.1 dX13_does_50 rfl (lv_at hl 1 rfl) ?_
        refine lv_bipush (v := 21) C.1 C.2.1 dX13_does_51 (by decide) ?_
        refine lv_icmp_le (tgt := 68) C.1 C.2.1 dX13_does_53 (by decide) (fun hc => ?_) (fun hc => ?_)
        · replace h := ift hc h
          exact w_does_68 C hr hk w (lv_sub hl [0, 1, 2] rfl) h
        · replace h := iff0 hc h
          refine lv_iload_n C.1 C.2.1 dX13_does_56 rfl (lv_at hl 1 rfl) ?_
          refine lv_bipush (v := 32) C.1 C.2.1 dX13_does_57 (by decide) ?_
          refine lv_icmp_eq (tgt := 68) C.1 C.2.1 dX13_does_59 (by decide) (fun hc => ?_) (fun hc => ?_)
          · replace h := ift hc h
            exact w_does_68 C hr hk w (lv_sub hl [0, 1, 2] rfl) h
          · replace h := iff0 hc h
            refine lv_iload_n C.1 C.2.1 dX13_does_62 rfl (lv_at hl 1 rfl) ?_
            refine lv_bipush (v := 33) C.1 C.2.1 dX13_does_63 (by decide) ?_
            refine lv_icmp_ne (tgt := 77) C.1 C.2.1 dX13_does_65 (by decide) (fun hc => ?_) (fun hc => ?_)
            · replace h := iff0 hc h
              refine lv_iload_n C.1 C.2.1 dX13_does_77 rfl (lv_at hl 1 rfl) ?_
              refine lv_bipush (v := 26) C.1 C.2.1 dX13_does_78 (by decide) ?_
              refine lv_icmp_gt (tgt := 92) C.1 C.2.1 dX13_does_80 (by decide) (fun hc => ?_) (fun hc => ?_)
              · replace h := ift hc h
                refine lv_iload_n C.1 C.2.1 dX13_does_92 rfl (lv_at hl 1 rfl) ?_
                refine lv_bipush (v := 31) C.1 C.2.1 dX13_does_93 (by decide) ?_
                refine lv_icmp_gt (tgt := 107) C.1 C.2.1 dX13_does_95 (by decide) (fun hc => ?_) (fun hc => ?_)
                · replace h := ift hc h
                  refine lv_iload_n C.1 C.2.1 dX13_does_107 rfl (lv_at hl 1 rfl) ?_
                  refine lv_bipush (v := 44) C.1 C.2.1 dX13_does_108 (by decide) ?_
                  refine lv_icmp_gt (tgt := 122) C.1 C.2.1 dX13_does_110 (by decide) (fun hc => ?_) (fun hc => ?_)
                  · replace h := ift hc h
                    refine lv_aload_n C.1 C.2.1 dX13_does_122 rfl (lv_at hl 0 rfl) ?_
                    refine lv_iload_n C.1 C.2.1 dX13_does_123 rfl (lv_at hl 1 rfl) ?_
                    refine lv_iload_n C.1 C.2.1 dX13_does_124 rfl (lv_at hl 2 rfl) ?_
                    refine lv_iload_n C.1 C.2.1 dX13_does_125 rfl (lv_at hl 3 rfl) ?_
                    obtain ⟨S_2, hS_2, h⟩ := bnd h
                    refine x_callVv (q := (RX13, TX13, 68)) (As := [.int x1, .int x2, .int x3]) (rest := []) C w (k_reckons l D T ρ g H.size S_1 hS_2) vM549 ⟨by decide, by decide⟩ obM (by decide) rfl rfl rfl hl.1 (Nat.le_of_ble_eq_true rfl) ⟨Nat.zero_le _, Nat.zero_le _⟩ dX13_does_126 (fun H locs w => ?_)
                    obtain rfl := som h
                    exact x_vret C w hr hk dX13_does_129
                  · replace h := iff0 hc h
                    refine lv_aload_n C.1 C.2.1 dX13_does_113 rfl (lv_at hl 0 rfl) ?_
                    refine lv_iload_n C.1 C.2.1 dX13_does_114 rfl (lv_at hl 1 rfl) ?_
                    refine lv_iload_n C.1 C.2.1 dX13_does_115 rfl (lv_at hl 2 rfl) ?_
                    obtain ⟨S_3, hS_3, h⟩ := bnd h
                    refine x_callVv (q := (RX13, TX13, 68)) (As := [.int x1, .int x2]) (rest := []) C w (k_builds l D T ρ g H.size S_1 hS_3) vM546 ⟨by decide, by decide⟩ obM (by decide) rfl rfl rfl hl.1 (Nat.le_of_ble_eq_true rfl) ⟨Nat.zero_le _, Nat.zero_le _⟩ dX13_does_116 (fun H locs w => ?_)
                    refine lv_goto (tgt := 129) C.1 C.2.1 dX13_does_119 (by decide) ?_
                    obtain rfl := som h
                    exact x_vret C w hr hk dX13_does_129
                · replace h := iff0 hc h
                  refine lv_aload_n C.1 C.2.1 dX13_does_98 rfl (lv_at hl 0 rfl) ?_
                  refine lv_iload_n C.1 C.2.1 dX13_does_99 rfl (lv_at hl 1 rfl) ?_
                  refine lv_iload_n C.1 C.2.1 dX13_does_100 rfl (lv_at hl 2 rfl) ?_
                  obtain ⟨S_4, hS_4, h⟩ := bnd h
                  refine x_callVv (q := (RX13, TX13, 68)) (As := [.int x1, .int x2]) (rest := []) C w (k_cuts l D T ρ g H.size S_1 hS_4) vM543 ⟨by decide, by decide⟩ obM (by decide) rfl rfl rfl hl.1 (Nat.le_of_ble_eq_true rfl) ⟨Nat.zero_le _, Nat.zero_le _⟩ dX13_does_101 (fun H locs w => ?_)
                  refine lv_goto (tgt := 129) C.1 C.2.1 dX13_does_104 (by decide) ?_
                  obtain rfl := som h
                  exact x_vret C w hr hk dX13_does_129
              · replace h := iff0 hc h
                refine lv_aload_n C.1 C.2.1 dX13_does_83 rfl (lv_at hl 0 rfl) ?_
                refine lv_iload_n C.1 C.2.1 dX13_does_84 rfl (lv_at hl 1 rfl) ?_
                refine lv_iload_n C.1 C.2.1 dX13_does_85 rfl (lv_at hl 2 rfl) ?_
                obtain ⟨S_5, hS_5, h⟩ := bnd h
                refine x_callVv (q := (RX13, TX13, 68)) (As := [.int x1, .int x2]) (rest := []) C w (k_seeks l D T ρ g H.size S_1 hS_5) vM540 ⟨by decide, by decide⟩ obM (by decide) rfl rfl rfl hl.1 (Nat.le_of_ble_eq_true rfl) ⟨Nat.zero_le _, Nat.zero_le _⟩ dX13_does_86 (fun H locs w => ?_)
                refine lv_goto (tgt := 129) C.1 C.2.1 dX13_does_89 (by decide) ?_
                obtain rfl := som h
                exact x_vret C w hr hk dX13_does_129
            · replace h := ift hc h
              exact w_does_68 C hr hk w (lv_sub hl [0, 1, 2] rfl) h
      · replace h := iff0 hc h
        refine lv_aload_n C.1 C.2.1 dX13_does_41 rfl (lv_at hl 0 rfl) ?_
        refine lv_iload_n C.1 C.2.1 dX13_does_42 rfl (lv_at hl 1 rfl) ?_
        refine lv_iload_n C.1 C.2.1 dX13_does_43 rfl (lv_at hl 2 rfl) ?_
        obtain ⟨S_6, hS_6, h⟩ := bnd h
        refine x_callVv (q := (RX13, TX13, 68)) (As := [.int x1, .int x2]) (rest := []) C w (k_looks l D T ρ g H.size S_1 hS_6) vM534 ⟨by decide, by decide⟩ obM (by decide) rfl rfl rfl hl.1 (Nat.le_of_ble_eq_true rfl) ⟨Nat.zero_le _, Nat.zero_le _⟩ dX13_does_44 (fun H locs w => ?_)
        refine lv_goto (tgt := 129) C.1 C.2.1 dX13_does_47 (by decide) ?_
        obtain rfl := som h
        exact x_vret C w hr hk dX13_does_129
    · replace h := iff0 hc h
      refine lv_aload_n C.1 C.2.1 dX13_does_26 rfl (lv_at hl 0 rfl) ?_
      refine lv_iload_n C.1 C.2.1 dX13_does_27 rfl (lv_at hl 1 rfl) ?_
      refine lv_iload_n C.1 C.2.1 dX13_does_28 rfl (lv_at hl 2 rfl) ?_
      obtain ⟨S_7, hS_7, h⟩ := bnd h
      refine x_callVv (q := (RX13, TX13, 68)) (As := [.int x1, .int x2]) (rest := []) C w (k_compares l D T ρ g H.size S_1 hS_7) vM531 ⟨by decide, by decide⟩ obM (by decide) rfl rfl rfl hl.1 (Nat.le_of_ble_eq_true rfl) ⟨Nat.zero_le _, Nat.zero_le _⟩ dX13_does_29 (fun H locs w => ?_)
      refine lv_goto (tgt := 129) C.1 C.2.1 dX13_does_32 (by decide) ?_
      obtain rfl := som h
      exact x_vret C w hr hk dX13_does_129
  · replace h := iff0 hc h
    refine lv_aload_n C.1 C.2.1 dX13_does_10 rfl (lv_at hl 0 rfl) ?_
    refine lv_iload_n C.1 C.2.1 dX13_does_11 rfl (lv_at hl 1 rfl) ?_
    refine lv_iload_n C.1 C.2.1 dX13_does_12 rfl (lv_at hl 2 rfl) ?_
    refine lv_iload_n C.1 C.2.1 dX13_does_13 rfl (lv_at hl 3 rfl) ?_
    obtain ⟨S_8, hS_8, h⟩ := bnd h
    refine x_callVv (q := (RX13, TX13, 68)) (As := [.int x1, .int x2, .int x3]) (rest := []) C w (k_names l D T ρ g H.size S_1 hS_8) vM528 ⟨by decide, by decide⟩ obM (by decide) rfl rfl rfl hl.1 (Nat.le_of_ble_eq_true rfl) ⟨Nat.zero_le _, Nat.zero_le _⟩ dX13_does_14 (fun H locs w => ?_)
    refine lv_goto (tgt := 129) C.1 C.2.1 dX13_does_17 (by decide) ?_
    obtain rfl := som h
    exact x_vret C w hr hk dX13_does_129
end S_does
set_option maxRecDepth 100000 in
theorem k_does (l : Launch) (D : va_G) (T : Cy) (ρ : Nat → Nat) (g sz : Nat) (S : St) {x1 : Int32} {x2 : Int32} {x3 : Int32} {S' : St} (h : m_does g S x1 x2 x3 = some S') : Mv l Ym D T ρ yX13_does cX13_does 4 none 6 139 S S' [.ref (ρ 0), .int x1, .int x2, .int x3] sz :=
  x_in (by decide) (Nat.le_of_ble_eq_true rfl) (fun p e s m below meth c ls C hr hk w hl => w_does_0 C hr hk w hl h)

theorem dX13_refused_0 : decode cX13_refused 0 = .ok (.aload_n 0, 1) := by decide +kernel
theorem dX13_refused_1 : decode cX13_refused 1 = .ok (.getfield 443, 3) := by decide +kernel
theorem dX13_refused_4 : decode cX13_refused 4 = .ok (.ifCond .ne 18, 3) := by decide +kernel
theorem dX13_refused_7 : decode cX13_refused 7 = .ok (.aload_n 0, 1) := by decide +kernel
theorem dX13_refused_8 : decode cX13_refused 8 = .ok (.iload_n 2, 1) := by decide +kernel
theorem dX13_refused_9 : decode cX13_refused 9 = .ok (.putfield 425, 3) := by decide +kernel
theorem dX13_refused_12 : decode cX13_refused 12 = .ok (.aload_n 0, 1) := by decide +kernel
theorem dX13_refused_13 : decode cX13_refused 13 = .ok (.aload_n 0, 1) := by decide +kernel
theorem dX13_refused_14 : decode cX13_refused 14 = .ok (.getfield 398, 3) := by decide +kernel
theorem dX13_refused_17 : decode cX13_refused 17 = .ok (.putfield 428, 3) := by decide +kernel
theorem dX13_refused_20 : decode cX13_refused 20 = .ok (.iload_n 2, 1) := by decide +kernel
theorem dX13_refused_21 : decode cX13_refused 21 = .ok (.ireturn, 1) := by decide +kernel
theorem dX13_refused_22 : decode cX13_refused 22 = .ok (.aload_n 0, 1) := by decide +kernel
theorem dX13_refused_23 : decode cX13_refused 23 = .ok (.dup, 1) := by decide +kernel
theorem dX13_refused_24 : decode cX13_refused 24 = .ok (.getfield 443, 3) := by decide +kernel
theorem dX13_refused_27 : decode cX13_refused 27 = .ok (.iconst 1, 1) := by decide +kernel
theorem dX13_refused_28 : decode cX13_refused 28 = .ok (.isub, 1) := by decide +kernel
theorem dX13_refused_29 : decode cX13_refused 29 = .ok (.putfield 443, 3) := by decide +kernel
theorem dX13_refused_32 : decode cX13_refused 32 = .ok (.aload_n 0, 1) := by decide +kernel
theorem dX13_refused_33 : decode cX13_refused 33 = .ok (.getfield 217, 3) := by decide +kernel
theorem dX13_refused_36 : decode cX13_refused 36 = .ok (.aload_n 0, 1) := by decide +kernel
theorem dX13_refused_37 : decode cX13_refused 37 = .ok (.getfield 150, 3) := by decide +kernel
theorem dX13_refused_40 : decode cX13_refused 40 = .ok (.bipush 10, 2) := by decide +kernel
theorem dX13_refused_42 : decode cX13_refused 42 = .ok (.iload_n 1, 1) := by decide +kernel
theorem dX13_refused_43 : decode cX13_refused 43 = .ok (.bipush 60, 2) := by decide +kernel
theorem dX13_refused_45 : decode cX13_refused 45 = .ok (.imul, 1) := by decide +kernel
theorem dX13_refused_46 : decode cX13_refused 46 = .ok (.aload_n 0, 1) := by decide +kernel
theorem dX13_refused_47 : decode cX13_refused 47 = .ok (.getfield 226, 3) := by decide +kernel
theorem dX13_refused_50 : decode cX13_refused 50 = .ok (.aload_n 0, 1) := by decide +kernel
theorem dX13_refused_51 : decode cX13_refused 51 = .ok (.getfield 443, 3) := by decide +kernel
theorem dX13_refused_54 : decode cX13_refused 54 = .ok (.iaload, 1) := by decide +kernel
theorem dX13_refused_55 : decode cX13_refused 55 = .ok (.iadd, 1) := by decide +kernel
theorem dX13_refused_56 : decode cX13_refused 56 = .ok (.imul, 1) := by decide +kernel
theorem dX13_refused_57 : decode cX13_refused 57 = .ok (.laload, 1) := by decide +kernel
theorem dX13_refused_58 : decode cX13_refused 58 = .ok (.l2i, 1) := by decide +kernel
theorem dX13_refused_59 : decode cX13_refused 59 = .ok (.aload_n 0, 1) := by decide +kernel
theorem dX13_refused_60 : decode cX13_refused 60 = .ok (.getfield 398, 3) := by decide +kernel
theorem dX13_refused_63 : decode cX13_refused 63 = .ok (.i2l, 1) := by decide +kernel
theorem dX13_refused_64 : decode cX13_refused 64 = .ok (.lastore, 1) := by decide +kernel
theorem dX13_refused_65 : decode cX13_refused 65 = .ok (.aload_n 0, 1) := by decide +kernel
theorem dX13_refused_66 : decode cX13_refused 66 = .ok (.getfield 229, 3) := by decide +kernel
theorem dX13_refused_69 : decode cX13_refused 69 = .ok (.aload_n 0, 1) := by decide +kernel
theorem dX13_refused_70 : decode cX13_refused 70 = .ok (.getfield 443, 3) := by decide +kernel
theorem dX13_refused_73 : decode cX13_refused 73 = .ok (.iaload, 1) := by decide +kernel
theorem dX13_refused_74 : decode cX13_refused 74 = .ok (.ireturn, 1) := by decide +kernel
def m_refused (g : Nat) (S : St) (x1 : Int32) (x2 : Int32) : Option (St × Int32) :=
if (gI S 0 61) = 0 then (
  lt (sI S 0 52 x2) fun S_6 =>
  lt (sI S_6 0 53 (gI S_6 0 58)) fun S_7 =>
  some (S_7, x2)
) else (
  lt (sI S 0 61 ((gI S 0 61) - (1 : Int32))) fun S_1 =>
  (aI S_1 35 (gI S_1 0 61)).bind fun v_2 =>
  (aJ S_1 10 ((10 : Int32) * ((x1 * (60 : Int32)) + v_2))).bind fun v_3 =>
  (tJ S_1 32 (v_3.toInt32) ((gI S_1 0 58).toInt64)).bind fun S_4 =>
  (aI S_4 36 (gI S_4 0 61)).bind fun v_5 =>
  some (S_4, v_5)
)
section S_refused
variable {p : Program} {l : Launch} {e : Env} {s : State} {m : MethodId} {args : Array Value} {below : List Frame} {meth : Method} {c : Code} {H : Heap} {locs : List Loc} {ls : Array Slot} {D : va_G} {T : Cy} {ρ : Nat → Nat} {A : Nat → Prop}
set_option maxRecDepth 100000 in
set_option maxHeartbeats 4000000 in
theorem w_refused_0  {g : Nat} {S : St} {x1 : Int32} {x2 : Int32} (C : CallFix p m c cX13_refused 3 s args tb RX13) (hr : meth.sig.returnType = (some .int)) (hk : meth.locks = false) {S' : St} {r : Int32} (w : Wn Ym D T ρ S A s H locs) (hl : lv_has ls 3 [(0, .ref (ρ 0)), (1, .int x1), (2, .int x2)]) (h : m_refused g S x1 x2 = some (S', r)) : W p l e (rmN 0 0) s m args below meth c H locs 0 0 (MQ below (Qi Ym D T ρ A S' r) args s 0 0 A) (F0 m 0 ls []) := by
  unfold m_refused at h
  refine lv_aload_n C.1 C.2.1 dX13_refused_0 rfl (lv_at hl 0 rfl) ?_
  refine x_getI C w fM443 obM dX13_refused_1 ?_
  refine lv_if_ne (tgt := 22) C.1 C.2.1 dX13_refused_4 (by decide) (fun hc => ?_) (fun hc => ?_)
  · replace h := iff0 hc h
    refine lv_aload_n C.1 C.2.1 dX13_refused_22 rfl (lv_at hl 0 rfl) ?_
    refine lv_dup C.1 C.2.1 dX13_refused_23 rfl ?_
    refine x_getI C w fM443 obM dX13_refused_24 ?_
    refine lv_iconst (v := 1) C.1 C.2.1 dX13_refused_27 (by decide) ?_
    refine lv_isub C.1 C.2.1 dX13_refused_28 ?_
    obtain ⟨S_1, eS_1, h⟩ := lt_e h
    refine y_putI C w eS_1 fM443 pM61 obM dX13_refused_29 (fun H locs w => ?_)
    refine lv_aload_n C.1 C.2.1 dX13_refused_32 rfl (lv_at hl 0 rfl) ?_
    refine x_getC C w 32 fM217 obM rfl dX13_refused_33 ?_
    refine lv_aload_n C.1 C.2.1 dX13_refused_36 rfl (lv_at hl 0 rfl) ?_
    refine x_getC C w 10 fM150 obM rfl dX13_refused_37 ?_
    refine lv_bipush (v := 10) C.1 C.2.1 dX13_refused_40 (by decide) ?_
    refine lv_iload_n C.1 C.2.1 dX13_refused_42 rfl (lv_at hl 1 rfl) ?_
    refine lv_bipush (v := 60) C.1 C.2.1 dX13_refused_43 (by decide) ?_
    refine lv_imul C.1 C.2.1 dX13_refused_45 ?_
    refine lv_aload_n C.1 C.2.1 dX13_refused_46 rfl (lv_at hl 0 rfl) ?_
    refine x_getC C w 35 fM226 obM rfl dX13_refused_47 ?_
    refine lv_aload_n C.1 C.2.1 dX13_refused_50 rfl (lv_at hl 0 rfl) ?_
    refine x_getI C w fM443 obM dX13_refused_51 ?_
    obtain ⟨v_2, hv_2, h⟩ := bnd h
    refine x_iald C w obM35 hv_2 dX13_refused_54 ?_
    refine lv_iadd C.1 C.2.1 dX13_refused_55 ?_
    refine lv_imul C.1 C.2.1 dX13_refused_56 ?_
    obtain ⟨v_3, hv_3, h⟩ := bnd h
    refine x_lald C w obM10 hv_3 dX13_refused_57 ?_
    refine lv_l2i C.1 C.2.1 dX13_refused_58 rfl ?_
    refine lv_aload_n C.1 C.2.1 dX13_refused_59 rfl (lv_at hl 0 rfl) ?_
    refine x_getI C w fM398 obM dX13_refused_60 ?_
    refine lv_i2l C.1 C.2.1 dX13_refused_63 rfl ?_
    obtain ⟨S_4, hS_4, h⟩ := bnd h
    refine x_last C w obM32 hS_4 dX13_refused_64 (fun H locs w => ?_)
    refine lv_aload_n C.1 C.2.1 dX13_refused_65 rfl (lv_at hl 0 rfl) ?_
    refine x_getC C w 36 fM229 obM rfl dX13_refused_66 ?_
    refine lv_aload_n C.1 C.2.1 dX13_refused_69 rfl (lv_at hl 0 rfl) ?_
    refine x_getI C w fM443 obM dX13_refused_70 ?_
    obtain ⟨v_5, hv_5, h⟩ := bnd h
    refine x_iald C w obM36 hv_5 dX13_refused_73 ?_
    obtain ⟨rfl, rfl⟩ := prI h
    exact x_iret C w hr hk dX13_refused_74
  · replace h := ift hc h
    refine lv_aload_n C.1 C.2.1 dX13_refused_7 rfl (lv_at hl 0 rfl) ?_
    refine lv_iload_n C.1 C.2.1 dX13_refused_8 rfl (lv_at hl 2 rfl) ?_
    obtain ⟨S_6, eS_6, h⟩ := lt_e h
    refine y_putI C w eS_6 fM425 pM52 obM dX13_refused_9 (fun H locs w => ?_)
    refine lv_aload_n C.1 C.2.1 dX13_refused_12 rfl (lv_at hl 0 rfl) ?_
    refine lv_aload_n C.1 C.2.1 dX13_refused_13 rfl (lv_at hl 0 rfl) ?_
    refine x_getI C w fM398 obM dX13_refused_14 ?_
    obtain ⟨S_7, eS_7, h⟩ := lt_e h
    refine y_putI C w eS_7 fM428 pM53 obM dX13_refused_17 (fun H locs w => ?_)
    refine lv_iload_n C.1 C.2.1 dX13_refused_20 rfl (lv_at hl 2 rfl) ?_
    obtain ⟨rfl, rfl⟩ := prI h
    exact x_iret C w hr hk dX13_refused_21
end S_refused
set_option maxRecDepth 100000 in
theorem k_refused (l : Launch) (D : va_G) (T : Cy) (ρ : Nat → Nat) (g sz : Nat) (S : St) {x1 : Int32} {x2 : Int32} {S' : St} {r : Int32} (h : m_refused g S x1 x2 = some (S', r)) : Mi l Ym D T ρ yX13_refused cX13_refused 3 (some .int) 0 0 S S' r [.ref (ρ 0), .int x1, .int x2] sz :=
  x_in (by decide) (Nat.le_of_ble_eq_true rfl) (fun p e s m below meth c ls C hr hk w hl => w_refused_0 C hr hk w hl h)

theorem dX13_steps_0 : decode cX13_steps 0 = .ok (.iload_n 1, 1) := by decide +kernel
theorem dX13_steps_1 : decode cX13_steps 1 = .ok (.bipush 60, 2) := by decide +kernel
theorem dX13_steps_3 : decode cX13_steps 3 = .ok (.imul, 1) := by decide +kernel
theorem dX13_steps_4 : decode cX13_steps 4 = .ok (.iload_n 2, 1) := by decide +kernel
theorem dX13_steps_5 : decode cX13_steps 5 = .ok (.iadd, 1) := by decide +kernel
theorem dX13_steps_6 : decode cX13_steps 6 = .ok (.istore_n 3, 1) := by decide +kernel
theorem dX13_steps_7 : decode cX13_steps 7 = .ok (.aload_n 0, 1) := by decide +kernel
theorem dX13_steps_8 : decode cX13_steps 8 = .ok (.getfield 138, 3) := by decide +kernel
theorem dX13_steps_11 : decode cX13_steps 11 = .ok (.iload_n 3, 1) := by decide +kernel
theorem dX13_steps_12 : decode cX13_steps 12 = .ok (.iaload, 1) := by decide +kernel
theorem dX13_steps_13 : decode cX13_steps 13 = .ok (.istore 4, 2) := by decide +kernel
theorem dX13_steps_15 : decode cX13_steps 15 = .ok (.aload_n 0, 1) := by decide +kernel
theorem dX13_steps_16 : decode cX13_steps 16 = .ok (.iconst 0, 1) := by decide +kernel
theorem dX13_steps_17 : decode cX13_steps 17 = .ok (.putfield 398, 3) := by decide +kernel
theorem dX13_steps_20 : decode cX13_steps 20 = .ok (.iload 4, 2) := by decide +kernel
theorem dX13_steps_22 : decode cX13_steps 22 = .ok (.bipush 54, 2) := by decide +kernel
theorem dX13_steps_24 : decode cX13_steps 24 = .ok (.if_icmp .ne 51, 3) := by decide +kernel
theorem dX13_steps_27 : decode cX13_steps 27 = .ok (.aload_n 0, 1) := by decide +kernel
theorem dX13_steps_28 : decode cX13_steps 28 = .ok (.getfield 226, 3) := by decide +kernel
theorem dX13_steps_31 : decode cX13_steps 31 = .ok (.aload_n 0, 1) := by decide +kernel
theorem dX13_steps_32 : decode cX13_steps 32 = .ok (.getfield 443, 3) := by decide +kernel
theorem dX13_steps_35 : decode cX13_steps 35 = .ok (.iload_n 2, 1) := by decide +kernel
theorem dX13_steps_36 : decode cX13_steps 36 = .ok (.iastore, 1) := by decide +kernel
theorem dX13_steps_37 : decode cX13_steps 37 = .ok (.aload_n 0, 1) := by decide +kernel
theorem dX13_steps_38 : decode cX13_steps 38 = .ok (.getfield 229, 3) := by decide +kernel
theorem dX13_steps_41 : decode cX13_steps 41 = .ok (.aload_n 0, 1) := by decide +kernel
theorem dX13_steps_42 : decode cX13_steps 42 = .ok (.getfield 443, 3) := by decide +kernel
theorem dX13_steps_45 : decode cX13_steps 45 = .ok (.iload_n 2, 1) := by decide +kernel
theorem dX13_steps_46 : decode cX13_steps 46 = .ok (.iconst 1, 1) := by decide +kernel
theorem dX13_steps_47 : decode cX13_steps 47 = .ok (.iadd, 1) := by decide +kernel
theorem dX13_steps_48 : decode cX13_steps 48 = .ok (.aload_n 0, 1) := by decide +kernel
theorem dX13_steps_49 : decode cX13_steps 49 = .ok (.getfield 150, 3) := by decide +kernel
theorem dX13_steps_52 : decode cX13_steps 52 = .ok (.bipush 10, 2) := by decide +kernel
theorem dX13_steps_54 : decode cX13_steps 54 = .ok (.iload_n 3, 1) := by decide +kernel
theorem dX13_steps_55 : decode cX13_steps 55 = .ok (.imul, 1) := by decide +kernel
theorem dX13_steps_56 : decode cX13_steps 56 = .ok (.iconst 1, 1) := by decide +kernel
theorem dX13_steps_57 : decode cX13_steps 57 = .ok (.iadd, 1) := by decide +kernel
theorem dX13_steps_58 : decode cX13_steps 58 = .ok (.laload, 1) := by decide +kernel
theorem dX13_steps_59 : decode cX13_steps 59 = .ok (.l2i, 1) := by decide +kernel
theorem dX13_steps_60 : decode cX13_steps 60 = .ok (.iadd, 1) := by decide +kernel
theorem dX13_steps_61 : decode cX13_steps 61 = .ok (.iastore, 1) := by decide +kernel
theorem dX13_steps_62 : decode cX13_steps 62 = .ok (.aload_n 0, 1) := by decide +kernel
theorem dX13_steps_63 : decode cX13_steps 63 = .ok (.dup, 1) := by decide +kernel
theorem dX13_steps_64 : decode cX13_steps 64 = .ok (.getfield 443, 3) := by decide +kernel
theorem dX13_steps_67 : decode cX13_steps 67 = .ok (.iconst 1, 1) := by decide +kernel
theorem dX13_steps_68 : decode cX13_steps 68 = .ok (.iadd, 1) := by decide +kernel
theorem dX13_steps_69 : decode cX13_steps 69 = .ok (.putfield 443, 3) := by decide +kernel
theorem dX13_steps_72 : decode cX13_steps 72 = .ok (.goto 26, 3) := by decide +kernel
theorem dX13_steps_75 : decode cX13_steps 75 = .ok (.iload 4, 2) := by decide +kernel
theorem dX13_steps_77 : decode cX13_steps 77 = .ok (.bipush 53, 2) := by decide +kernel
theorem dX13_steps_79 : decode cX13_steps 79 = .ok (.if_icmp .eq 19, 3) := by decide +kernel
theorem dX13_steps_82 : decode cX13_steps 82 = .ok (.aload_n 0, 1) := by decide +kernel
theorem dX13_steps_83 : decode cX13_steps 83 = .ok (.iload 4, 2) := by decide +kernel
theorem dX13_steps_85 : decode cX13_steps 85 = .ok (.bipush 10, 2) := by decide +kernel
theorem dX13_steps_87 : decode cX13_steps 87 = .ok (.iload_n 3, 1) := by decide +kernel
theorem dX13_steps_88 : decode cX13_steps 88 = .ok (.imul, 1) := by decide +kernel
theorem dX13_steps_89 : decode cX13_steps 89 = .ok (.aload_n 0, 1) := by decide +kernel
theorem dX13_steps_90 : decode cX13_steps 90 = .ok (.getfield 141, 3) := by decide +kernel
theorem dX13_steps_93 : decode cX13_steps 93 = .ok (.iload_n 3, 1) := by decide +kernel
theorem dX13_steps_94 : decode cX13_steps 94 = .ok (.iaload, 1) := by decide +kernel
theorem dX13_steps_95 : decode cX13_steps 95 = .ok (.invokevirtual 452, 3) := by decide +kernel
theorem dX13_steps_98 : decode cX13_steps 98 = .ok (.aload_n 0, 1) := by decide +kernel
theorem dX13_steps_99 : decode cX13_steps 99 = .ok (.getfield 398, 3) := by decide +kernel
theorem dX13_steps_102 : decode cX13_steps 102 = .ok (.ifCond .eq 20, 3) := by decide +kernel
theorem dX13_steps_105 : decode cX13_steps 105 = .ok (.aload_n 0, 1) := by decide +kernel
theorem dX13_steps_106 : decode cX13_steps 106 = .ok (.dup, 1) := by decide +kernel
theorem dX13_steps_107 : decode cX13_steps 107 = .ok (.getfield 434, 3) := by decide +kernel
theorem dX13_steps_110 : decode cX13_steps 110 = .ok (.iconst 1, 1) := by decide +kernel
theorem dX13_steps_111 : decode cX13_steps 111 = .ok (.iadd, 1) := by decide +kernel
theorem dX13_steps_112 : decode cX13_steps 112 = .ok (.putfield 434, 3) := by decide +kernel
theorem dX13_steps_115 : decode cX13_steps 115 = .ok (.aload_n 0, 1) := by decide +kernel
theorem dX13_steps_116 : decode cX13_steps 116 = .ok (.iload_n 1, 1) := by decide +kernel
theorem dX13_steps_117 : decode cX13_steps 117 = .ok (.iload_n 2, 1) := by decide +kernel
theorem dX13_steps_118 : decode cX13_steps 118 = .ok (.invokevirtual 456, 3) := by decide +kernel
theorem dX13_steps_121 : decode cX13_steps 121 = .ok (.ireturn, 1) := by decide +kernel
theorem dX13_steps_122 : decode cX13_steps 122 = .ok (.aload_n 0, 1) := by decide +kernel
theorem dX13_steps_123 : decode cX13_steps 123 = .ok (.getfield 214, 3) := by decide +kernel
theorem dX13_steps_126 : decode cX13_steps 126 = .ok (.iload 4, 2) := by decide +kernel
theorem dX13_steps_128 : decode cX13_steps 128 = .ok (.dup2, 1) := by decide +kernel
theorem dX13_steps_129 : decode cX13_steps 129 = .ok (.iaload, 1) := by decide +kernel
theorem dX13_steps_130 : decode cX13_steps 130 = .ok (.iconst 1, 1) := by decide +kernel
theorem dX13_steps_131 : decode cX13_steps 131 = .ok (.iadd, 1) := by decide +kernel
theorem dX13_steps_132 : decode cX13_steps 132 = .ok (.iastore, 1) := by decide +kernel
theorem dX13_steps_133 : decode cX13_steps 133 = .ok (.aload_n 0, 1) := by decide +kernel
theorem dX13_steps_134 : decode cX13_steps 134 = .ok (.dup, 1) := by decide +kernel
theorem dX13_steps_135 : decode cX13_steps 135 = .ok (.getfield 431, 3) := by decide +kernel
theorem dX13_steps_138 : decode cX13_steps 138 = .ok (.iconst 1, 1) := by decide +kernel
theorem dX13_steps_139 : decode cX13_steps 139 = .ok (.iadd, 1) := by decide +kernel
theorem dX13_steps_140 : decode cX13_steps 140 = .ok (.putfield 431, 3) := by decide +kernel
theorem dX13_steps_143 : decode cX13_steps 143 = .ok (.iload 4, 2) := by decide +kernel
theorem dX13_steps_145 : decode cX13_steps 145 = .ok (.bipush 53, 2) := by decide +kernel
theorem dX13_steps_147 : decode cX13_steps 147 = .ok (.if_icmp .ne 35, 3) := by decide +kernel
theorem dX13_steps_150 : decode cX13_steps 150 = .ok (.aload_n 0, 1) := by decide +kernel
theorem dX13_steps_151 : decode cX13_steps 151 = .ok (.bipush 10, 2) := by decide +kernel
theorem dX13_steps_153 : decode cX13_steps 153 = .ok (.iload_n 3, 1) := by decide +kernel
theorem dX13_steps_154 : decode cX13_steps 154 = .ok (.imul, 1) := by decide +kernel
theorem dX13_steps_155 : decode cX13_steps 155 = .ok (.invokevirtual 459, 3) := by decide +kernel
theorem dX13_steps_158 : decode cX13_steps 158 = .ok (.lconst 0, 1) := by decide +kernel
theorem dX13_steps_159 : decode cX13_steps 159 = .ok (.lcmp, 1) := by decide +kernel
theorem dX13_steps_160 : decode cX13_steps 160 = .ok (.ifCond .ne 22, 3) := by decide +kernel
theorem dX13_steps_163 : decode cX13_steps 163 = .ok (.iload_n 2, 1) := by decide +kernel
theorem dX13_steps_164 : decode cX13_steps 164 = .ok (.iconst 1, 1) := by decide +kernel
theorem dX13_steps_165 : decode cX13_steps 165 = .ok (.iadd, 1) := by decide +kernel
theorem dX13_steps_166 : decode cX13_steps 166 = .ok (.aload_n 0, 1) := by decide +kernel
theorem dX13_steps_167 : decode cX13_steps 167 = .ok (.getfield 150, 3) := by decide +kernel
theorem dX13_steps_170 : decode cX13_steps 170 = .ok (.bipush 10, 2) := by decide +kernel
theorem dX13_steps_172 : decode cX13_steps 172 = .ok (.iload_n 3, 1) := by decide +kernel
theorem dX13_steps_173 : decode cX13_steps 173 = .ok (.imul, 1) := by decide +kernel
theorem dX13_steps_174 : decode cX13_steps 174 = .ok (.iconst 1, 1) := by decide +kernel
theorem dX13_steps_175 : decode cX13_steps 175 = .ok (.iadd, 1) := by decide +kernel
theorem dX13_steps_176 : decode cX13_steps 176 = .ok (.laload, 1) := by decide +kernel
theorem dX13_steps_177 : decode cX13_steps 177 = .ok (.l2i, 1) := by decide +kernel
theorem dX13_steps_178 : decode cX13_steps 178 = .ok (.iadd, 1) := by decide +kernel
theorem dX13_steps_179 : decode cX13_steps 179 = .ok (.goto 6, 3) := by decide +kernel
theorem dX13_steps_182 : decode cX13_steps 182 = .ok (.iload_n 2, 1) := by decide +kernel
theorem dX13_steps_183 : decode cX13_steps 183 = .ok (.iconst 1, 1) := by decide +kernel
theorem dX13_steps_184 : decode cX13_steps 184 = .ok (.iadd, 1) := by decide +kernel
theorem dX13_steps_185 : decode cX13_steps 185 = .ok (.ireturn, 1) := by decide +kernel
def m_steps_98 (g : Nat) (S : St) (x1 : Int32) (x2 : Int32) (x3 : Int32) (x4 : Int32) : Option (St × Int32) :=
if (gI S 0 58) = 0 then (
  (aI S 31 x4).bind fun v_4 =>
  (tI S 31 x4 (v_4 + (1 : Int32))).bind fun S_5 =>
  lt (sI S_5 0 54 ((gI S_5 0 54) + (1 : Int32))) fun S_6 =>
  if x4 = (53 : Int32) then (
    (m_value g S_6 ((10 : Int32) * x3)).bind fun v_7 =>
    if v_7 = (0 : Int64) then (
      (aJ S_6 10 (((10 : Int32) * x3) + (1 : Int32))).bind fun v_8 =>
      some (S_6, (x2 + (1 : Int32)) + (v_8.toInt32))
    ) else (
      some (S_6, x2 + (1 : Int32))
    )
  ) else (
    some (S_6, x2 + (1 : Int32))
  )
) else (
  lt (sI S 0 55 ((gI S 0 55) + (1 : Int32))) fun S_9 =>
  (m_refused g S_9 x1 x2).bind fun (S_10, v_11) =>
  some (S_10, v_11)
)
def m_steps (g : Nat) (S : St) (x1 : Int32) (x2 : Int32) : Option (St × Int32) :=
lt ((x1 * (60 : Int32)) + x2) fun x3_1 =>
(aI S 6 x3_1).bind fun v_2 =>
lt (sI S 0 58 (0 : Int32)) fun S_3 =>
if v_2 = (54 : Int32) then (
  (tI S_3 35 (gI S_3 0 61) x2).bind fun S_6 =>
  (aJ S_6 10 (((10 : Int32) * x3_1) + (1 : Int32))).bind fun v_7 =>
  (tI S_6 36 (gI S_6 0 61) ((x2 + (1 : Int32)) + (v_7.toInt32))).bind fun S_8 =>
  lt (sI S_8 0 61 ((gI S_8 0 61) + (1 : Int32))) fun S_9 =>
  m_steps_98 g S_9 x1 x2 x3_1 v_2
) else (
  if v_2 = (53 : Int32) then (
    m_steps_98 g S_3 x1 x2 x3_1 v_2
  ) else (
    (aI S_3 7 x3_1).bind fun v_4 =>
    (m_does g S_3 v_2 ((10 : Int32) * x3_1) v_4).bind fun S_5 =>
    m_steps_98 g S_5 x1 x2 x3_1 v_2
  )
)
section S_steps
variable {p : Program} {l : Launch} {e : Env} {s : State} {m : MethodId} {args : Array Value} {below : List Frame} {meth : Method} {c : Code} {H : Heap} {locs : List Loc} {ls : Array Slot} {D : va_G} {T : Cy} {ρ : Nat → Nat} {A : Nat → Prop}
set_option maxRecDepth 100000 in
set_option maxHeartbeats 4000000 in
theorem w_steps_98  {g : Nat} {S : St} {x1 : Int32} {x2 : Int32} {x3 : Int32} {x4 : Int32} (C : CallFix p m c cX13_steps 5 s args tb RX13) (hr : meth.sig.returnType = (some .int)) (hk : meth.locks = false) {S' : St} {r : Int32} (w : Wn Ym D T ρ S A s H locs) (hl : lv_has ls 5 [(0, .ref (ρ 0)), (1, .int x1), (2, .int x2), (3, .int x3), (4, .int x4)]) (h : m_steps_98 g S x1 x2 x3 x4 = some (S', r)) : W p l e (rmN 7 162) s m args below meth c H locs 0 0 (MQ below (Qi Ym D T ρ A S' r) args s 0 0 A) (F0 m 98 ls []) := by
  unfold m_steps_98 at h
  refine lv_aload_n C.1 C.2.1 dX13_steps_98 rfl (lv_at hl 0 rfl) ?_
  refine x_getI C w fM398 obM dX13_steps_99 ?_
  refine lv_if_eq (tgt := 122) C.1 C.2.1 dX13_steps_102 (by decide) (fun hc => ?_) (fun hc => ?_)
  · replace h := ift hc h
    refine lv_aload_n C.1 C.2.1 dX13_steps_122 rfl (lv_at hl 0 rfl) ?_
    refine x_getC C w 31 fM214 obM rfl dX13_steps_123 ?_
    refine lv_iload C.1 C.2.1 dX13_steps_126 (lv_at hl 4 rfl) ?_
    refine lv_dup2_11 C.1 C.2.1 dX13_steps_128 rfl rfl ?_
    obtain ⟨v_4, hv_4, h⟩ := bnd h
    refine x_iald C w obM31 hv_4 dX13_steps_129 ?_
    refine lv_iconst (v := 1) C.1 C.2.1 dX13_steps_130 (by decide) ?_
    refine lv_iadd C.1 C.2.1 dX13_steps_131 ?_
    obtain ⟨S_5, hS_5, h⟩ := bnd h
    refine x_iast C w obM31 hS_5 dX13_steps_132 (fun H locs w => ?_)
    refine lv_aload_n C.1 C.2.1 dX13_steps_133 rfl (lv_at hl 0 rfl) ?_
    refine lv_dup C.1 C.2.1 dX13_steps_134 rfl ?_
    refine x_getI C w fM431 obM dX13_steps_135 ?_
    refine lv_iconst (v := 1) C.1 C.2.1 dX13_steps_138 (by decide) ?_
    refine lv_iadd C.1 C.2.1 dX13_steps_139 ?_
    obtain ⟨S_6, eS_6, h⟩ := lt_e h
    refine y_putI C w eS_6 fM431 pM54 obM dX13_steps_140 (fun H locs w => ?_)
    refine lv_iload C.1 C.2.1 dX13_steps_143 (lv_at hl 4 rfl) ?_
    refine lv_bipush (v := 53) C.1 C.2.1 dX13_steps_145 (by decide) ?_
    refine lv_icmp_ne (tgt := 182) C.1 C.2.1 dX13_steps_147 (by decide) (fun hc => ?_) (fun hc => ?_)
    · replace h := iff0 hc h
      refine lv_iload_n C.1 C.2.1 dX13_steps_182 rfl (lv_at hl 2 rfl) ?_
      refine lv_iconst (v := 1) C.1 C.2.1 dX13_steps_183 (by decide) ?_
      refine lv_iadd C.1 C.2.1 dX13_steps_184 ?_
      obtain ⟨rfl, rfl⟩ := prI h
      exact x_iret C w hr hk dX13_steps_185
    · replace h := ift hc h
      refine lv_aload_n C.1 C.2.1 dX13_steps_150 rfl (lv_at hl 0 rfl) ?_
      refine lv_bipush (v := 10) C.1 C.2.1 dX13_steps_151 (by decide) ?_
      refine lv_iload_n C.1 C.2.1 dX13_steps_153 rfl (lv_at hl 3 rfl) ?_
      refine lv_imul C.1 C.2.1 dX13_steps_154 ?_
      obtain ⟨v_7, hv_7, h⟩ := bnd h
      refine x_callVj (q := (RX13, TX13, 68)) (As := [.int ((10 : Int32) * x3)]) (rest := []) C w (k_value l D T ρ g H.size S_6 hv_7) vM459 ⟨by decide, by decide⟩ obM (by decide) rfl rfl rfl hl.1 (Nat.le_of_ble_eq_true rfl) ⟨Nat.zero_le _, Nat.zero_le _⟩ dX13_steps_155 (fun H locs w => ?_)
      refine lv_lconst (v := 0) C.1 C.2.1 dX13_steps_158 (by decide) ?_
      refine x_l_ne (tgt := 182) C dX13_steps_159 dX13_steps_160 (by decide) (fun hc => ?_) (fun hc => ?_)
      · replace h := iff0 hc h
        refine lv_iload_n C.1 C.2.1 dX13_steps_182 rfl (lv_at hl 2 rfl) ?_
        refine lv_iconst (v := 1) C.1 C.2.1 dX13_steps_183 (by decide) ?_
        refine lv_iadd C.1 C.2.1 dX13_steps_184 ?_
        obtain ⟨rfl, rfl⟩ := prI h
        exact x_iret C w hr hk dX13_steps_185
      · replace h := ift hc h
        refine lv_iload_n C.1 C.2.1 dX13_steps_163 rfl (lv_at hl 2 rfl) ?_
        refine lv_iconst (v := 1) C.1 C.2.1 dX13_steps_164 (by decide) ?_
        refine lv_iadd C.1 C.2.1 dX13_steps_165 ?_
        refine lv_aload_n C.1 C.2.1 dX13_steps_166 rfl (lv_at hl 0 rfl) ?_
        refine x_getC C w 10 fM150 obM rfl dX13_steps_167 ?_
        refine lv_bipush (v := 10) C.1 C.2.1 dX13_steps_170 (by decide) ?_
        refine lv_iload_n C.1 C.2.1 dX13_steps_172 rfl (lv_at hl 3 rfl) ?_
        refine lv_imul C.1 C.2.1 dX13_steps_173 ?_
        refine lv_iconst (v := 1) C.1 C.2.1 dX13_steps_174 (by decide) ?_
        refine lv_iadd C.1 C.2.1 dX13_steps_175 ?_
        obtain ⟨v_8, hv_8, h⟩ := bnd h
        refine x_lald C w obM10 hv_8 dX13_steps_176 ?_
        refine lv_l2i C.1 C.2.1 dX13_steps_177 rfl ?_
        refine lv_iadd C.1 C.2.1 dX13_steps_178 ?_
        refine lv_goto (tgt := 185) C.1 C.2.1 dX13_steps_179 (by decide) ?_
        obtain ⟨rfl, rfl⟩ := prI h
        exact x_iret C w hr hk dX13_steps_185
  · replace h := iff0 hc h
    refine lv_aload_n C.1 C.2.1 dX13_steps_105 rfl (lv_at hl 0 rfl) ?_
    refine lv_dup C.1 C.2.1 dX13_steps_106 rfl ?_
    refine x_getI C w fM434 obM dX13_steps_107 ?_
    refine lv_iconst (v := 1) C.1 C.2.1 dX13_steps_110 (by decide) ?_
    refine lv_iadd C.1 C.2.1 dX13_steps_111 ?_
    obtain ⟨S_9, eS_9, h⟩ := lt_e h
    refine y_putI C w eS_9 fM434 pM55 obM dX13_steps_112 (fun H locs w => ?_)
    refine lv_aload_n C.1 C.2.1 dX13_steps_115 rfl (lv_at hl 0 rfl) ?_
    refine lv_iload_n C.1 C.2.1 dX13_steps_116 rfl (lv_at hl 1 rfl) ?_
    refine lv_iload_n C.1 C.2.1 dX13_steps_117 rfl (lv_at hl 2 rfl) ?_
    obtain ⟨⟨S_10, v_11⟩, hv_11, h⟩ := bnd h
    refine x_callVi (q := (RX13, TX13, 68)) (As := [.int x1, .int x2]) (rest := []) C w (k_refused l D T ρ g H.size S_9 hv_11) vM456 ⟨by decide, by decide⟩ obM (by decide) rfl rfl rfl hl.1 (Nat.le_of_ble_eq_true rfl) ⟨Nat.zero_le _, Nat.zero_le _⟩ dX13_steps_118 (fun H locs w => ?_)
    obtain ⟨rfl, rfl⟩ := prI h
    exact x_iret C w hr hk dX13_steps_121
set_option maxRecDepth 100000 in
set_option maxHeartbeats 4000000 in
theorem w_steps_0  {g : Nat} {S : St} {x1 : Int32} {x2 : Int32} (C : CallFix p m c cX13_steps 5 s args tb RX13) (hr : meth.sig.returnType = (some .int)) (hk : meth.locks = false) {S' : St} {r : Int32} (w : Wn Ym D T ρ S A s H locs) (hl : lv_has ls 5 [(0, .ref (ρ 0)), (1, .int x1), (2, .int x2)]) (h : m_steps g S x1 x2 = some (S', r)) : W p l e (rmN 7 162) s m args below meth c H locs 0 0 (MQ below (Qi Ym D T ρ A S' r) args s 0 0 A) (F0 m 0 ls []) := by
  unfold m_steps at h
  refine lv_iload_n C.1 C.2.1 dX13_steps_0 rfl (lv_at hl 1 rfl) ?_
  refine lv_bipush (v := 60) C.1 C.2.1 dX13_steps_1 (by decide) ?_
  refine lv_imul C.1 C.2.1 dX13_steps_3 ?_
  refine lv_iload_n C.1 C.2.1 dX13_steps_4 rfl (lv_at hl 2 rfl) ?_
  refine lv_iadd C.1 C.2.1 dX13_steps_5 ?_
  obtain ⟨x3_1, ex3_1, h⟩ := lt_e h
  refine x_nm ex3_1 ?_
  refine lv_istore_n (lv' := [(3, .int x3_1), (0, .ref (ρ 0)), (1, .int x1), (2, .int x2)]) C.1 C.2.1 dX13_steps_6 rfl hl (by decide) rfl (fun ls hl => ?_)
  refine lv_aload_n C.1 C.2.1 dX13_steps_7 rfl (lv_at hl 1 rfl) ?_
  refine x_getC C w 6 fM138 obM rfl dX13_steps_8 ?_
  refine lv_iload_n C.1 C.2.1 dX13_steps_11 rfl (lv_at hl 0 rfl) ?_
  obtain ⟨v_2, hv_2, h⟩ := bnd h
  refine x_iald C w obM6 hv_2 dX13_steps_12 ?_
  refine lv_istore (lv' := [(4, .int v_2), (3, .int x3_1), (0, .ref (ρ 0)), (1, .int x1), (2, .int x2)]) C.1 C.2.1 dX13_steps_13 hl (by decide) rfl (fun ls hl => ?_)
  refine lv_aload_n C.1 C.2.1 dX13_steps_15 rfl (lv_at hl 2 rfl) ?_
  refine lv_iconst (v := 0) C.1 C.2.1 dX13_steps_16 (by decide) ?_
  obtain ⟨S_3, eS_3, h⟩ := lt_e h
  refine y_putI C w eS_3 fM398 pM58 obM dX13_steps_17 (fun H locs w => ?_)
  refine lv_iload C.1 C.2.1 dX13_steps_20 (lv_at hl 0 rfl) ?_
  refine lv_bipush (v := 54) C.1 C.2.1 dX13_steps_22 (by decide) ?_
  refine lv_icmp_ne (tgt := 75) C.1 C.2.1 dX13_steps_24 (by decide) (fun hc => ?_) (fun hc => ?_)
  · replace h := iff0 hc h
    refine lv_iload C.1 C.2.1 dX13_steps_75 (lv_at hl 0 rfl) ?_
    refine lv_bipush (v := 53) C.1 C.2.1 dX13_steps_77 (by decide) ?_
    refine lv_icmp_eq (tgt := 98) C.1 C.2.1 dX13_steps_79 (by decide) (fun hc => ?_) (fun hc => ?_)
    · replace h := ift hc h
      exact w_steps_98 C hr hk w (lv_sub hl [2, 3, 4, 1, 0] rfl) h
    · replace h := iff0 hc h
      refine lv_aload_n C.1 C.2.1 dX13_steps_82 rfl (lv_at hl 2 rfl) ?_
      refine lv_iload C.1 C.2.1 dX13_steps_83 (lv_at hl 0 rfl) ?_
      refine lv_bipush (v := 10) C.1 C.2.1 dX13_steps_85 (by decide) ?_
      refine lv_iload_n C.1 C.2.1 dX13_steps_87 rfl (lv_at hl 1 rfl) ?_
      refine lv_imul C.1 C.2.1 dX13_steps_88 ?_
      refine lv_aload_n C.1 C.2.1 dX13_steps_89 rfl (lv_at hl 2 rfl) ?_
      refine x_getC C w 7 fM141 obM rfl dX13_steps_90 ?_
      refine lv_iload_n C.1 C.2.1 dX13_steps_93 rfl (lv_at hl 1 rfl) ?_
      obtain ⟨v_4, hv_4, h⟩ := bnd h
      refine x_iald C w obM7 hv_4 dX13_steps_94 ?_
      obtain ⟨S_5, hS_5, h⟩ := bnd h
      refine x_callVv (q := (RX13, TX13, 68)) (As := [.int v_2, .int ((10 : Int32) * x3_1), .int v_4]) (rest := []) C w (k_does l D T ρ g H.size S_3 hS_5) vM452 ⟨by decide, by decide⟩ obM (by decide) rfl rfl rfl hl.1 (Nat.le_of_ble_eq_true rfl) ⟨Nat.zero_le _, Nat.zero_le _⟩ dX13_steps_95 (fun H locs w => ?_)
      exact w_steps_98 C hr hk w (lv_sub hl [2, 3, 4, 1, 0] rfl) h
  · replace h := ift hc h
    refine lv_aload_n C.1 C.2.1 dX13_steps_27 rfl (lv_at hl 2 rfl) ?_
    refine x_getC C w 35 fM226 obM rfl dX13_steps_28 ?_
    refine lv_aload_n C.1 C.2.1 dX13_steps_31 rfl (lv_at hl 2 rfl) ?_
    refine x_getI C w fM443 obM dX13_steps_32 ?_
    refine lv_iload_n C.1 C.2.1 dX13_steps_35 rfl (lv_at hl 4 rfl) ?_
    obtain ⟨S_6, hS_6, h⟩ := bnd h
    refine x_iast C w obM35 hS_6 dX13_steps_36 (fun H locs w => ?_)
    refine lv_aload_n C.1 C.2.1 dX13_steps_37 rfl (lv_at hl 2 rfl) ?_
    refine x_getC C w 36 fM229 obM rfl dX13_steps_38 ?_
    refine lv_aload_n C.1 C.2.1 dX13_steps_41 rfl (lv_at hl 2 rfl) ?_
    refine x_getI C w fM443 obM dX13_steps_42 ?_
    refine lv_iload_n C.1 C.2.1 dX13_steps_45 rfl (lv_at hl 4 rfl) ?_
    refine lv_iconst (v := 1) C.1 C.2.1 dX13_steps_46 (by decide) ?_
    refine lv_iadd C.1 C.2.1 dX13_steps_47 ?_
    refine lv_aload_n C.1 C.2.1 dX13_steps_48 rfl (lv_at hl 2 rfl) ?_
    refine x_getC C w 10 fM150 obM rfl dX13_steps_49 ?_
    refine lv_bipush (v := 10) C.1 C.2.1 dX13_steps_52 (by decide) ?_
    refine lv_iload_n C.1 C.2.1 dX13_steps_54 rfl (lv_at hl 1 rfl) ?_
    refine lv_imul C.1 C.2.1 dX13_steps_55 ?_
    refine lv_iconst (v := 1) C.1 C.2.1 dX13_steps_56 (by decide) ?_
    refine lv_iadd C.1 C.2.1 dX13_steps_57 ?_
    obtain ⟨v_7, hv_7, h⟩ := bnd h
    refine x_lald C w obM10 hv_7 dX13_steps_58 ?_
    refine lv_l2i C.1 C.2.1 dX13_steps_59 rfl ?_
    refine lv_iadd C.1 C.2.1 dX13_steps_60 ?_
    obtain ⟨S_8, hS_8, h⟩ := bnd h
    refine x_iast C w obM36 hS_8 dX13_steps_61 (fun H locs w => ?_)
    refine lv_aload_n C.1 C.2.1 dX13_steps_62 rfl (lv_at hl 2 rfl) ?_
    refine lv_dup C.1 C.2.1 dX13_steps_63 rfl ?_
    refine x_getI C w fM443 obM dX13_steps_64 ?_
    refine lv_iconst (v := 1) C.1 C.2.1 dX13_steps_67 (by decide) ?_
    refine lv_iadd C.1 C.2.1 dX13_steps_68 ?_
    obtain ⟨S_9, eS_9, h⟩ := lt_e h
    refine y_putI C w eS_9 fM443 pM61 obM dX13_steps_69 (fun H locs w => ?_)
    refine lv_goto (tgt := 98) C.1 C.2.1 dX13_steps_72 (by decide) ?_
    exact w_steps_98 C hr hk w (lv_sub hl [2, 3, 4, 1, 0] rfl) h
end S_steps
set_option maxRecDepth 100000 in
theorem k_steps (l : Launch) (D : va_G) (T : Cy) (ρ : Nat → Nat) (g sz : Nat) (S : St) {x1 : Int32} {x2 : Int32} {S' : St} {r : Int32} (h : m_steps g S x1 x2 = some (S', r)) : Mi l Ym D T ρ yX13_steps cX13_steps 5 (some .int) 7 162 S S' r [.ref (ρ 0), .int x1, .int x2] sz :=
  x_in (by decide) (Nat.le_of_ble_eq_true rfl) (fun p e s m below meth c ls C hr hk w hl => w_steps_0 C hr hk w hl h)

theorem dX13_runs_0 : decode cX13_runs 0 = .ok (.aload_n 0, 1) := by decide +kernel
theorem dX13_runs_1 : decode cX13_runs 1 = .ok (.iload_n 1, 1) := by decide +kernel
theorem dX13_runs_2 : decode cX13_runs 2 = .ok (.invokevirtual 244, 3) := by decide +kernel
theorem dX13_runs_5 : decode cX13_runs 5 = .ok (.aload_n 0, 1) := by decide +kernel
theorem dX13_runs_6 : decode cX13_runs 6 = .ok (.iconst 0, 1) := by decide +kernel
theorem dX13_runs_7 : decode cX13_runs 7 = .ok (.putfield 443, 3) := by decide +kernel
theorem dX13_runs_10 : decode cX13_runs 10 = .ok (.iconst 0, 1) := by decide +kernel
theorem dX13_runs_11 : decode cX13_runs 11 = .ok (.istore_n 2, 1) := by decide +kernel
theorem dX13_runs_12 : decode cX13_runs 12 = .ok (.iload_n 2, 1) := by decide +kernel
theorem dX13_runs_13 : decode cX13_runs 13 = .ok (.aload_n 0, 1) := by decide +kernel
theorem dX13_runs_14 : decode cX13_runs 14 = .ok (.getfield 153, 3) := by decide +kernel
theorem dX13_runs_17 : decode cX13_runs 17 = .ok (.iload_n 1, 1) := by decide +kernel
theorem dX13_runs_18 : decode cX13_runs 18 = .ok (.iaload, 1) := by decide +kernel
theorem dX13_runs_19 : decode cX13_runs 19 = .ok (.if_icmp .ge 26, 3) := by decide +kernel
theorem dX13_runs_22 : decode cX13_runs 22 = .ok (.aload_n 0, 1) := by decide +kernel
theorem dX13_runs_23 : decode cX13_runs 23 = .ok (.getfield 425, 3) := by decide +kernel
theorem dX13_runs_26 : decode cX13_runs 26 = .ok (.ifCond .ge 19, 3) := by decide +kernel
theorem dX13_runs_29 : decode cX13_runs 29 = .ok (.aload_n 0, 1) := by decide +kernel
theorem dX13_runs_30 : decode cX13_runs 30 = .ok (.iload_n 1, 1) := by decide +kernel
theorem dX13_runs_31 : decode cX13_runs 31 = .ok (.iload_n 2, 1) := by decide +kernel
theorem dX13_runs_32 : decode cX13_runs 32 = .ok (.invokevirtual 446, 3) := by decide +kernel
theorem dX13_runs_35 : decode cX13_runs 35 = .ok (.aload_n 0, 1) := by decide +kernel
theorem dX13_runs_36 : decode cX13_runs 36 = .ok (.iload_n 1, 1) := by decide +kernel
theorem dX13_runs_37 : decode cX13_runs 37 = .ok (.iload_n 2, 1) := by decide +kernel
theorem dX13_runs_38 : decode cX13_runs 38 = .ok (.invokevirtual 449, 3) := by decide +kernel
theorem dX13_runs_41 : decode cX13_runs 41 = .ok (.istore_n 2, 1) := by decide +kernel
theorem dX13_runs_42 : decode cX13_runs 42 = .ok (.goto (-30), 3) := by decide +kernel
theorem dX13_runs_45 : decode cX13_runs 45 = .ok (.aload_n 0, 1) := by decide +kernel
theorem dX13_runs_46 : decode cX13_runs 46 = .ok (.getfield 425, 3) := by decide +kernel
theorem dX13_runs_49 : decode cX13_runs 49 = .ok (.ifCond .ge 14, 3) := by decide +kernel
theorem dX13_runs_52 : decode cX13_runs 52 = .ok (.aload_n 0, 1) := by decide +kernel
theorem dX13_runs_53 : decode cX13_runs 53 = .ok (.iload_n 1, 1) := by decide +kernel
theorem dX13_runs_54 : decode cX13_runs 54 = .ok (.aload_n 0, 1) := by decide +kernel
theorem dX13_runs_55 : decode cX13_runs 55 = .ok (.getfield 153, 3) := by decide +kernel
theorem dX13_runs_58 : decode cX13_runs 58 = .ok (.iload_n 1, 1) := by decide +kernel
theorem dX13_runs_59 : decode cX13_runs 59 = .ok (.iaload, 1) := by decide +kernel
theorem dX13_runs_60 : decode cX13_runs 60 = .ok (.invokevirtual 446, 3) := by decide +kernel
theorem dX13_runs_63 : decode cX13_runs 63 = .ok (.aload_n 0, 1) := by decide +kernel
theorem dX13_runs_64 : decode cX13_runs 64 = .ok (.getfield 425, 3) := by decide +kernel
theorem dX13_runs_67 : decode cX13_runs 67 = .ok (.ireturn, 1) := by decide +kernel
def m_runs_45 (g : Nat) (S : St) (x1 : Int32) : Option (St × Int32) :=
if 0 ≤ (gI S 0 52) then (
  some (S, gI S 0 52)
) else (
  (aI S 11 x1).bind fun v_4 =>
  (m_leaves g S x1 v_4).bind fun S_5 =>
  some (S_5, gI S_5 0 52)
)
def b_runs_12 (g : Nat) (k12 : St → Int32 → Int32 → Option (St × Int32)) (S : St) (x1 : Int32) (x2 : Int32) : Option (St × Int32) :=
(aI S 11 x1).bind fun v_3 =>
if v_3 ≤ x2 then (
  m_runs_45 g S x1
) else (
  if 0 ≤ (gI S 0 52) then (
    m_runs_45 g S x1
  ) else (
    (m_leaves g S x1 x2).bind fun S_4 =>
    (m_steps g S_4 x1 x2).bind fun (S_5, v_6) =>
    k12 S_5 x1 v_6
  )
)
def m_runs_12 (g : Nat) : Nat → St → Int32 → Int32 → Option (St × Int32)
  | 0, _, _, _ => none
  | n + 1, S, x1, x2 => b_runs_12 g (m_runs_12 g n) S x1 x2
def m_runs (g : Nat) (S : St) (x1 : Int32) : Option (St × Int32) :=
(m_begin g S x1).bind fun S_1 =>
lt (sI S_1 0 61 (0 : Int32)) fun S_2 =>
m_runs_12 g g S_2 x1 (0 : Int32)
section S_runs
variable {p : Program} {l : Launch} {e : Env} {s : State} {m : MethodId} {args : Array Value} {below : List Frame} {meth : Method} {c : Code} {H : Heap} {locs : List Loc} {ls : Array Slot} {D : va_G} {T : Cy} {ρ : Nat → Nat} {A : Nat → Prop}
set_option maxRecDepth 100000 in
set_option maxHeartbeats 4000000 in
theorem w_runs_45  {g : Nat} {S : St} {x1 : Int32} (C : CallFix p m c cX13_runs 3 s args tb RX13) (hr : meth.sig.returnType = (some .int)) (hk : meth.locks = false) {S' : St} {r : Int32} (w : Wn Ym D T ρ S A s H locs) (hl : lv_has ls 3 [(0, .ref (ρ 0)), (1, .int x1)]) (h : m_runs_45 g S x1 = some (S', r)) : W p l e (rmN 8 186) s m args below meth c H locs 0 0 (MQ below (Qi Ym D T ρ A S' r) args s 0 0 A) (F0 m 45 ls []) := by
  unfold m_runs_45 at h
  refine lv_aload_n C.1 C.2.1 dX13_runs_45 rfl (lv_at hl 0 rfl) ?_
  refine x_getI C w fM425 obM dX13_runs_46 ?_
  refine lv_if_ge (tgt := 63) C.1 C.2.1 dX13_runs_49 (by decide) (fun hc => ?_) (fun hc => ?_)
  · replace h := ift hc h
    refine lv_aload_n C.1 C.2.1 dX13_runs_63 rfl (lv_at hl 0 rfl) ?_
    refine x_getI C w fM425 obM dX13_runs_64 ?_
    obtain ⟨rfl, rfl⟩ := prI h
    exact x_iret C w hr hk dX13_runs_67
  · replace h := iff0 hc h
    refine lv_aload_n C.1 C.2.1 dX13_runs_52 rfl (lv_at hl 0 rfl) ?_
    refine lv_iload_n C.1 C.2.1 dX13_runs_53 rfl (lv_at hl 1 rfl) ?_
    refine lv_aload_n C.1 C.2.1 dX13_runs_54 rfl (lv_at hl 0 rfl) ?_
    refine x_getC C w 11 fM153 obM rfl dX13_runs_55 ?_
    refine lv_iload_n C.1 C.2.1 dX13_runs_58 rfl (lv_at hl 1 rfl) ?_
    obtain ⟨v_4, hv_4, h⟩ := bnd h
    refine x_iald C w obM11 hv_4 dX13_runs_59 ?_
    obtain ⟨S_5, hS_5, h⟩ := bnd h
    refine x_callVv (q := (RX13, TX13, 68)) (As := [.int x1, .int v_4]) (rest := []) C w (k_leaves l D T ρ g H.size S hS_5) vM446 ⟨by decide, by decide⟩ obM (by decide) rfl rfl rfl hl.1 (Nat.le_of_ble_eq_true rfl) ⟨Nat.zero_le _, Nat.zero_le _⟩ dX13_runs_60 (fun H locs w => ?_)
    refine lv_aload_n C.1 C.2.1 dX13_runs_63 rfl (lv_at hl 0 rfl) ?_
    refine x_getI C w fM425 obM dX13_runs_64 ?_
    obtain ⟨rfl, rfl⟩ := prI h
    exact x_iret C w hr hk dX13_runs_67
set_option maxRecDepth 100000 in
set_option maxHeartbeats 4000000 in
theorem wb_runs_12  {g : Nat} {S : St} {x1 : Int32} {x2 : Int32} (C : CallFix p m c cX13_runs 3 s args tb RX13) (hr : meth.sig.returnType = (some .int)) (hk : meth.locks = false) {S' : St} {r : Int32} {k12 : St → Int32 → Int32 → Option (St × Int32)} (kk12 : ∀ (S : St) (x1 : Int32) (x2 : Int32) (H : Heap) (locs : List Loc) (ls : Array Slot), Wn Ym D T ρ S A s H locs → lv_has ls 3 [(0, .ref (ρ 0)), (1, .int x1), (2, .int x2)] → k12 S x1 x2 = some (S', r) → W p l e (rmN 8 186) s m args below meth c H locs 0 0 (MQ below (Qi Ym D T ρ A S' r) args s 0 0 A) (F0 m 12 ls [])) (w : Wn Ym D T ρ S A s H locs) (hl : lv_has ls 3 [(0, .ref (ρ 0)), (1, .int x1), (2, .int x2)]) (h : b_runs_12 g k12 S x1 x2 = some (S', r)) : W p l e (rmN 8 186) s m args below meth c H locs 0 0 (MQ below (Qi Ym D T ρ A S' r) args s 0 0 A) (F0 m 12 ls []) := by
  unfold b_runs_12 at h
  refine lv_iload_n C.1 C.2.1 dX13_runs_12 rfl (lv_at hl 2 rfl) ?_
  refine lv_aload_n C.1 C.2.1 dX13_runs_13 rfl (lv_at hl 0 rfl) ?_
  refine x_getC C w 11 fM153 obM rfl dX13_runs_14 ?_
  refine lv_iload_n C.1 C.2.1 dX13_runs_17 rfl (lv_at hl 1 rfl) ?_
  obtain ⟨v_3, hv_3, h⟩ := bnd h
  refine x_iald C w obM11 hv_3 dX13_runs_18 ?_
  refine lv_icmp_ge (tgt := 45) C.1 C.2.1 dX13_runs_19 (by decide) (fun hc => ?_) (fun hc => ?_)
  · replace h := ift hc h
    exact w_runs_45 C hr hk w (lv_sub hl [0, 1] rfl) h
  · replace h := iff0 hc h
    refine lv_aload_n C.1 C.2.1 dX13_runs_22 rfl (lv_at hl 0 rfl) ?_
    refine x_getI C w fM425 obM dX13_runs_23 ?_
    refine lv_if_ge (tgt := 45) C.1 C.2.1 dX13_runs_26 (by decide) (fun hc => ?_) (fun hc => ?_)
    · replace h := ift hc h
      exact w_runs_45 C hr hk w (lv_sub hl [0, 1] rfl) h
    · replace h := iff0 hc h
      refine lv_aload_n C.1 C.2.1 dX13_runs_29 rfl (lv_at hl 0 rfl) ?_
      refine lv_iload_n C.1 C.2.1 dX13_runs_30 rfl (lv_at hl 1 rfl) ?_
      refine lv_iload_n C.1 C.2.1 dX13_runs_31 rfl (lv_at hl 2 rfl) ?_
      obtain ⟨S_4, hS_4, h⟩ := bnd h
      refine x_callVv (q := (RX13, TX13, 68)) (As := [.int x1, .int x2]) (rest := []) C w (k_leaves l D T ρ g H.size S hS_4) vM446 ⟨by decide, by decide⟩ obM (by decide) rfl rfl rfl hl.1 (Nat.le_of_ble_eq_true rfl) ⟨Nat.zero_le _, Nat.zero_le _⟩ dX13_runs_32 (fun H locs w => ?_)
      refine lv_aload_n C.1 C.2.1 dX13_runs_35 rfl (lv_at hl 0 rfl) ?_
      refine lv_iload_n C.1 C.2.1 dX13_runs_36 rfl (lv_at hl 1 rfl) ?_
      refine lv_iload_n C.1 C.2.1 dX13_runs_37 rfl (lv_at hl 2 rfl) ?_
      obtain ⟨⟨S_5, v_6⟩, hv_6, h⟩ := bnd h
      refine x_callVi (q := (RX13, TX13, 68)) (As := [.int x1, .int x2]) (rest := []) C w (k_steps l D T ρ g H.size S_4 hv_6) vM449 ⟨by decide, by decide⟩ obM (by decide) rfl rfl rfl hl.1 (Nat.le_of_ble_eq_true rfl) ⟨Nat.zero_le _, Nat.zero_le _⟩ dX13_runs_38 (fun H locs w => ?_)
      refine lv_istore_n (lv' := [(2, .int v_6), (0, .ref (ρ 0)), (1, .int x1)]) C.1 C.2.1 dX13_runs_41 rfl hl (by decide) rfl (fun ls hl => ?_)
      refine lv_goto (tgt := 12) C.1 C.2.1 dX13_runs_42 (by decide) ?_
      exact kk12 _ _ _ _ _ _ w (lv_sub hl [1, 2, 0] rfl) h
theorem w_runs_12 {g : Nat} (C : CallFix p m c cX13_runs 3 s args tb RX13) (hr : meth.sig.returnType = (some .int)) (hk : meth.locks = false) {S' : St} {r : Int32} (n : Nat) : ∀ (S : St) (x1 : Int32) (x2 : Int32) (H : Heap) (locs : List Loc) (ls : Array Slot), Wn Ym D T ρ S A s H locs → lv_has ls 3 [(0, .ref (ρ 0)), (1, .int x1), (2, .int x2)] → m_runs_12 g n S x1 x2 = some (S', r) → W p l e (rmN 8 186) s m args below meth c H locs 0 0 (MQ below (Qi Ym D T ρ A S' r) args s 0 0 A) (F0 m 12 ls []) := by
  induction n with
  | zero => intro S x1 x2 H locs ls w hl h; exact absurd h (fun q => by cases q)
  | succ n ih => intro S x1 x2 H locs ls w hl h; exact wb_runs_12 C hr hk ih w hl h
set_option maxRecDepth 100000 in
set_option maxHeartbeats 4000000 in
theorem w_runs_0  {g : Nat} {S : St} {x1 : Int32} (C : CallFix p m c cX13_runs 3 s args tb RX13) (hr : meth.sig.returnType = (some .int)) (hk : meth.locks = false) {S' : St} {r : Int32} (w : Wn Ym D T ρ S A s H locs) (hl : lv_has ls 3 [(0, .ref (ρ 0)), (1, .int x1)]) (h : m_runs g S x1 = some (S', r)) : W p l e (rmN 8 186) s m args below meth c H locs 0 0 (MQ below (Qi Ym D T ρ A S' r) args s 0 0 A) (F0 m 0 ls []) := by
  unfold m_runs at h
  refine lv_aload_n C.1 C.2.1 dX13_runs_0 rfl (lv_at hl 0 rfl) ?_
  refine lv_iload_n C.1 C.2.1 dX13_runs_1 rfl (lv_at hl 1 rfl) ?_
  obtain ⟨S_1, hS_1, h⟩ := bnd h
  refine x_callVv (q := (RX13, TX13, 68)) (As := [.int x1]) (rest := []) C w (k_begin l D T ρ g H.size S hS_1) vM244 ⟨by decide, by decide⟩ obM (by decide) rfl rfl rfl hl.1 (Nat.le_of_ble_eq_true rfl) ⟨Nat.zero_le _, Nat.zero_le _⟩ dX13_runs_2 (fun H locs w => ?_)
  refine lv_aload_n C.1 C.2.1 dX13_runs_5 rfl (lv_at hl 0 rfl) ?_
  refine lv_iconst (v := 0) C.1 C.2.1 dX13_runs_6 (by decide) ?_
  obtain ⟨S_2, eS_2, h⟩ := lt_e h
  refine y_putI C w eS_2 fM443 pM61 obM dX13_runs_7 (fun H locs w => ?_)
  refine lv_iconst (v := 0) C.1 C.2.1 dX13_runs_10 (by decide) ?_
  refine lv_istore_n (lv' := [(2, .int (0 : Int32)), (0, .ref (ρ 0)), (1, .int x1)]) C.1 C.2.1 dX13_runs_11 rfl hl (by decide) rfl (fun ls hl => ?_)
  exact w_runs_12 C hr hk g _ _ _ _ _ _ w (lv_sub hl [1, 2, 0] rfl) h
end S_runs
set_option maxRecDepth 100000 in
theorem k_runs (l : Launch) (D : va_G) (T : Cy) (ρ : Nat → Nat) (g sz : Nat) (S : St) {x1 : Int32} {S' : St} {r : Int32} (h : m_runs g S x1 = some (S', r)) : Mi l Ym D T ρ yX13_runs cX13_runs 3 (some .int) 8 186 S S' r [.ref (ρ 0), .int x1] sz :=
  x_in (by decide) (Nat.le_of_ble_eq_true rfl) (fun p e s m below meth c ls C hr hk w hl => w_runs_0 C hr hk w hl h)

theorem dX13_without_0 : decode cX13_without 0 = .ok (.aload_n 0, 1) := by decide +kernel
theorem dX13_without_1 : decode cX13_without 1 = .ok (.getfield 153, 3) := by decide +kernel
theorem dX13_without_4 : decode cX13_without 4 = .ok (.iconst 2, 1) := by decide +kernel
theorem dX13_without_5 : decode cX13_without 5 = .ok (.iconst 0, 1) := by decide +kernel
theorem dX13_without_6 : decode cX13_without 6 = .ok (.iastore, 1) := by decide +kernel
theorem dX13_without_7 : decode cX13_without 7 = .ok (.iconst 0, 1) := by decide +kernel
theorem dX13_without_8 : decode cX13_without 8 = .ok (.istore_n 2, 1) := by decide +kernel
theorem dX13_without_9 : decode cX13_without 9 = .ok (.iload_n 2, 1) := by decide +kernel
theorem dX13_without_10 : decode cX13_without 10 = .ok (.aload_n 0, 1) := by decide +kernel
theorem dX13_without_11 : decode cX13_without 11 = .ok (.getfield 153, 3) := by decide +kernel
theorem dX13_without_14 : decode cX13_without 14 = .ok (.iconst 0, 1) := by decide +kernel
theorem dX13_without_15 : decode cX13_without 15 = .ok (.iaload, 1) := by decide +kernel
theorem dX13_without_16 : decode cX13_without 16 = .ok (.if_icmp .ge 117, 3) := by decide +kernel
theorem dX13_without_19 : decode cX13_without 19 = .ok (.iload_n 2, 1) := by decide +kernel
theorem dX13_without_20 : decode cX13_without 20 = .ok (.iload_n 1, 1) := by decide +kernel
theorem dX13_without_21 : decode cX13_without 21 = .ok (.if_icmp .ne 6, 3) := by decide +kernel
theorem dX13_without_24 : decode cX13_without 24 = .ok (.goto 103, 3) := by decide +kernel
theorem dX13_without_27 : decode cX13_without 27 = .ok (.bipush 120, 2) := by decide +kernel
theorem dX13_without_29 : decode cX13_without 29 = .ok (.aload_n 0, 1) := by decide +kernel
theorem dX13_without_30 : decode cX13_without 30 = .ok (.getfield 153, 3) := by decide +kernel
theorem dX13_without_33 : decode cX13_without 33 = .ok (.iconst 2, 1) := by decide +kernel
theorem dX13_without_34 : decode cX13_without 34 = .ok (.iaload, 1) := by decide +kernel
theorem dX13_without_35 : decode cX13_without 35 = .ok (.iadd, 1) := by decide +kernel
theorem dX13_without_36 : decode cX13_without 36 = .ok (.istore_n 3, 1) := by decide +kernel
theorem dX13_without_37 : decode cX13_without 37 = .ok (.aload_n 0, 1) := by decide +kernel
theorem dX13_without_38 : decode cX13_without 38 = .ok (.iload_n 2, 1) := by decide +kernel
theorem dX13_without_39 : decode cX13_without 39 = .ok (.iload_n 3, 1) := by decide +kernel
theorem dX13_without_40 : decode cX13_without 40 = .ok (.invokevirtual 365, 3) := by decide +kernel
theorem dX13_without_43 : decode cX13_without 43 = .ok (.aload_n 0, 1) := by decide +kernel
theorem dX13_without_44 : decode cX13_without 44 = .ok (.getfield 138, 3) := by decide +kernel
theorem dX13_without_47 : decode cX13_without 47 = .ok (.iload_n 2, 1) := by decide +kernel
theorem dX13_without_48 : decode cX13_without 48 = .ok (.iaload, 1) := by decide +kernel
theorem dX13_without_49 : decode cX13_without 49 = .ok (.bipush 53, 2) := by decide +kernel
theorem dX13_without_51 : decode cX13_without 51 = .ok (.if_icmp .eq 14, 3) := by decide +kernel
theorem dX13_without_54 : decode cX13_without 54 = .ok (.aload_n 0, 1) := by decide +kernel
theorem dX13_without_55 : decode cX13_without 55 = .ok (.getfield 138, 3) := by decide +kernel
theorem dX13_without_58 : decode cX13_without 58 = .ok (.iload_n 2, 1) := by decide +kernel
theorem dX13_without_59 : decode cX13_without 59 = .ok (.iaload, 1) := by decide +kernel
theorem dX13_without_60 : decode cX13_without 60 = .ok (.bipush 54, 2) := by decide +kernel
theorem dX13_without_62 : decode cX13_without 62 = .ok (.if_icmp .ne 7, 3) := by decide +kernel
theorem dX13_without_65 : decode cX13_without 65 = .ok (.iconst 1, 1) := by decide +kernel
theorem dX13_without_66 : decode cX13_without 66 = .ok (.goto 4, 3) := by decide +kernel
theorem dX13_without_69 : decode cX13_without 69 = .ok (.iconst 0, 1) := by decide +kernel
theorem dX13_without_70 : decode cX13_without 70 = .ok (.istore 4, 2) := by decide +kernel
theorem dX13_without_72 : decode cX13_without 72 = .ok (.iload 4, 2) := by decide +kernel
theorem dX13_without_74 : decode cX13_without 74 = .ok (.ifCond .eq 43, 3) := by decide +kernel
theorem dX13_without_77 : decode cX13_without 77 = .ok (.iload_n 2, 1) := by decide +kernel
theorem dX13_without_78 : decode cX13_without 78 = .ok (.iload_n 1, 1) := by decide +kernel
theorem dX13_without_79 : decode cX13_without 79 = .ok (.if_icmp .ge 38, 3) := by decide +kernel
theorem dX13_without_82 : decode cX13_without 82 = .ok (.iload_n 2, 1) := by decide +kernel
theorem dX13_without_83 : decode cX13_without 83 = .ok (.i2l, 1) := by decide +kernel
theorem dX13_without_84 : decode cX13_without 84 = .ok (.aload_n 0, 1) := by decide +kernel
theorem dX13_without_85 : decode cX13_without 85 = .ok (.getfield 150, 3) := by decide +kernel
theorem dX13_without_88 : decode cX13_without 88 = .ok (.bipush 10, 2) := by decide +kernel
theorem dX13_without_90 : decode cX13_without 90 = .ok (.iload_n 2, 1) := by decide +kernel
theorem dX13_without_91 : decode cX13_without 91 = .ok (.imul, 1) := by decide +kernel
theorem dX13_without_92 : decode cX13_without 92 = .ok (.iconst 1, 1) := by decide +kernel
theorem dX13_without_93 : decode cX13_without 93 = .ok (.iadd, 1) := by decide +kernel
theorem dX13_without_94 : decode cX13_without 94 = .ok (.laload, 1) := by decide +kernel
theorem dX13_without_95 : decode cX13_without 95 = .ok (.ladd, 1) := by decide +kernel
theorem dX13_without_96 : decode cX13_without 96 = .ok (.iload_n 1, 1) := by decide +kernel
theorem dX13_without_97 : decode cX13_without 97 = .ok (.i2l, 1) := by decide +kernel
theorem dX13_without_98 : decode cX13_without 98 = .ok (.lcmp, 1) := by decide +kernel
theorem dX13_without_99 : decode cX13_without 99 = .ok (.ifCond .lt 18, 3) := by decide +kernel
theorem dX13_without_102 : decode cX13_without 102 = .ok (.aload_n 0, 1) := by decide +kernel
theorem dX13_without_103 : decode cX13_without 103 = .ok (.getfield 150, 3) := by decide +kernel
theorem dX13_without_106 : decode cX13_without 106 = .ok (.bipush 10, 2) := by decide +kernel
theorem dX13_without_108 : decode cX13_without 108 = .ok (.iload_n 3, 1) := by decide +kernel
theorem dX13_without_109 : decode cX13_without 109 = .ok (.imul, 1) := by decide +kernel
theorem dX13_without_110 : decode cX13_without 110 = .ok (.iconst 1, 1) := by decide +kernel
theorem dX13_without_111 : decode cX13_without 111 = .ok (.iadd, 1) := by decide +kernel
theorem dX13_without_112 : decode cX13_without 112 = .ok (.dup2, 1) := by decide +kernel
theorem dX13_without_113 : decode cX13_without 113 = .ok (.laload, 1) := by decide +kernel
theorem dX13_without_114 : decode cX13_without 114 = .ok (.lconst 1, 1) := by decide +kernel
theorem dX13_without_115 : decode cX13_without 115 = .ok (.lsub, 1) := by decide +kernel
theorem dX13_without_116 : decode cX13_without 116 = .ok (.lastore, 1) := by decide +kernel
theorem dX13_without_117 : decode cX13_without 117 = .ok (.aload_n 0, 1) := by decide +kernel
theorem dX13_without_118 : decode cX13_without 118 = .ok (.getfield 153, 3) := by decide +kernel
theorem dX13_without_121 : decode cX13_without 121 = .ok (.iconst 2, 1) := by decide +kernel
theorem dX13_without_122 : decode cX13_without 122 = .ok (.dup2, 1) := by decide +kernel
theorem dX13_without_123 : decode cX13_without 123 = .ok (.iaload, 1) := by decide +kernel
theorem dX13_without_124 : decode cX13_without 124 = .ok (.iconst 1, 1) := by decide +kernel
theorem dX13_without_125 : decode cX13_without 125 = .ok (.iadd, 1) := by decide +kernel
theorem dX13_without_126 : decode cX13_without 126 = .ok (.iastore, 1) := by decide +kernel
theorem dX13_without_127 : decode cX13_without 127 = .ok (.iinc 2 1, 3) := by decide +kernel
theorem dX13_without_130 : decode cX13_without 130 = .ok (.goto (-121), 3) := by decide +kernel
theorem dX13_without_133 : decode cX13_without 133 = .ok (.return_, 1) := by decide +kernel
def m_without_117 (g : Nat) (k9 : St → Int32 → Int32 → Option St) (S : St) (x1 : Int32) (x2 : Int32) : Option St :=
(aI S 11 (2 : Int32)).bind fun v_7 =>
(tI S 11 (2 : Int32) (v_7 + (1 : Int32))).bind fun S_8 =>
lt (x2 + (1 : Int32)) fun x2_9 =>
k9 S_8 x1 x2_9
def m_without_70 (g : Nat) (k9 : St → Int32 → Int32 → Option St) (S : St) (x1 : Int32) (x2 : Int32) (x3 : Int32) (y0 : Int32) : Option St :=
if y0 = 0 then (
  m_without_117 g k9 S x1 x2
) else (
  if x1 ≤ x2 then (
    m_without_117 g k9 S x1 x2
  ) else (
    (aJ S 10 (((10 : Int32) * x2) + (1 : Int32))).bind fun v_7 =>
    if ((x2.toInt64) + v_7) < (x1.toInt64) then (
      m_without_117 g k9 S x1 x2
    ) else (
      (aJ S 10 (((10 : Int32) * x3) + (1 : Int32))).bind fun v_8 =>
      (tJ S 10 (((10 : Int32) * x3) + (1 : Int32)) (v_8 - (1 : Int64))).bind fun S_9 =>
      m_without_117 g k9 S_9 x1 x2
    )
  )
)
def m_without_65 (g : Nat) (k9 : St → Int32 → Int32 → Option St) (S : St) (x1 : Int32) (x2 : Int32) (x3 : Int32) : Option St :=
m_without_70 g k9 S x1 x2 x3 (1 : Int32)
def b_without_9 (g : Nat) (k9 : St → Int32 → Int32 → Option St) (S : St) (x1 : Int32) (x2 : Int32) : Option St :=
(aI S 11 (0 : Int32)).bind fun v_2 =>
if v_2 ≤ x2 then (
  some S
) else (
  if x2 = x1 then (
    lt (x2 + (1 : Int32)) fun x2_8 =>
    k9 S x1 x2_8
  ) else (
    (aI S 11 (2 : Int32)).bind fun v_3 =>
    lt ((120 : Int32) + v_3) fun x3_4 =>
    (m_copyStep g S x2 x3_4).bind fun S_5 =>
    (aI S_5 6 x2).bind fun v_6 =>
    if v_6 = (53 : Int32) then (
      m_without_65 g k9 S_5 x1 x2 x3_4
    ) else (
      (aI S_5 6 x2).bind fun v_7 =>
      if v_7 = (54 : Int32) then (
        m_without_65 g k9 S_5 x1 x2 x3_4
      ) else (
        m_without_70 g k9 S_5 x1 x2 x3_4 (0 : Int32)
      )
    )
  )
)
def m_without_9 (g : Nat) : Nat → St → Int32 → Int32 → Option St
  | 0, _, _, _ => none
  | n + 1, S, x1, x2 => b_without_9 g (m_without_9 g n) S x1 x2
def m_without (g : Nat) (S : St) (x1 : Int32) : Option St :=
(tI S 11 (2 : Int32) (0 : Int32)).bind fun S_1 =>
m_without_9 g g S_1 x1 (0 : Int32)
section S_without
variable {p : Program} {l : Launch} {e : Env} {s : State} {m : MethodId} {args : Array Value} {below : List Frame} {meth : Method} {c : Code} {H : Heap} {locs : List Loc} {ls : Array Slot} {D : va_G} {T : Cy} {ρ : Nat → Nat} {A : Nat → Prop}
set_option maxRecDepth 100000 in
set_option maxHeartbeats 4000000 in
theorem w_without_117  {g : Nat} {S : St} {x1 : Int32} {x2 : Int32} (C : CallFix p m c cX13_without 5 s args tb RX13) (hr : meth.sig.returnType = none) (hk : meth.locks = false) {S' : St} {k9 : St → Int32 → Int32 → Option St} (kk9 : ∀ (S : St) (x1 : Int32) (x2 : Int32) (H : Heap) (locs : List Loc) (ls : Array Slot), Wn Ym D T ρ S A s H locs → lv_has ls 5 [(0, .ref (ρ 0)), (1, .int x1), (2, .int x2)] → k9 S x1 x2 = some S' → W p l e (rmN 1 23) s m args below meth c H locs 0 0 (MQ below (Qv Ym D T ρ A S') args s 0 0 A) (F0 m 9 ls [])) (w : Wn Ym D T ρ S A s H locs) (hl : lv_has ls 5 [(0, .ref (ρ 0)), (1, .int x1), (2, .int x2)]) (h : m_without_117 g k9 S x1 x2 = some S') : W p l e (rmN 1 23) s m args below meth c H locs 0 0 (MQ below (Qv Ym D T ρ A S') args s 0 0 A) (F0 m 117 ls []) := by
  unfold m_without_117 at h
  refine lv_aload_n C.1 C.2.1 dX13_without_117 rfl (lv_at hl 0 rfl) ?_
  refine x_getC C w 11 fM153 obM rfl dX13_without_118 ?_
  refine lv_iconst (v := 2) C.1 C.2.1 dX13_without_121 (by decide) ?_
  refine lv_dup2_11 C.1 C.2.1 dX13_without_122 rfl rfl ?_
  obtain ⟨v_7, hv_7, h⟩ := bnd h
  refine x_iald C w obM11 hv_7 dX13_without_123 ?_
  refine lv_iconst (v := 1) C.1 C.2.1 dX13_without_124 (by decide) ?_
  refine lv_iadd C.1 C.2.1 dX13_without_125 ?_
  obtain ⟨S_8, hS_8, h⟩ := bnd h
  refine x_iast C w obM11 hS_8 dX13_without_126 (fun H locs w => ?_)
  obtain ⟨x2_9, ex2_9, h⟩ := lt_e h
  refine lv_iinc (v := x2_9) (lv' := [(2, .int x2_9), (0, .ref (ρ 0)), (1, .int x1)]) C.1 C.2.1 dX13_without_127 hl (k := 2) rfl (by rw [ex2_9]; rfl) (by decide) rfl (fun ls hl => ?_)
  refine lv_goto (tgt := 9) C.1 C.2.1 dX13_without_130 (by decide) ?_
  exact kk9 _ _ _ _ _ _ w (lv_sub hl [1, 2, 0] rfl) h
set_option maxRecDepth 100000 in
set_option maxHeartbeats 4000000 in
theorem w_without_70  {g : Nat} {S : St} {x1 : Int32} {x2 : Int32} {x3 : Int32} {y0 : Int32} (C : CallFix p m c cX13_without 5 s args tb RX13) (hr : meth.sig.returnType = none) (hk : meth.locks = false) {S' : St} {k9 : St → Int32 → Int32 → Option St} (kk9 : ∀ (S : St) (x1 : Int32) (x2 : Int32) (H : Heap) (locs : List Loc) (ls : Array Slot), Wn Ym D T ρ S A s H locs → lv_has ls 5 [(0, .ref (ρ 0)), (1, .int x1), (2, .int x2)] → k9 S x1 x2 = some S' → W p l e (rmN 1 23) s m args below meth c H locs 0 0 (MQ below (Qv Ym D T ρ A S') args s 0 0 A) (F0 m 9 ls [])) (w : Wn Ym D T ρ S A s H locs) (hl : lv_has ls 5 [(0, .ref (ρ 0)), (1, .int x1), (2, .int x2), (3, .int x3)]) (h : m_without_70 g k9 S x1 x2 x3 y0 = some S') : W p l e (rmN 1 23) s m args below meth c H locs 0 0 (MQ below (Qv Ym D T ρ A S') args s 0 0 A) (F0 m 70 ls [.int y0]) := by
  unfold m_without_70 at h
  refine lv_istore (lv' := [(4, .int y0), (0, .ref (ρ 0)), (1, .int x1), (2, .int x2), (3, .int x3)]) C.1 C.2.1 dX13_without_70 hl (by decide) rfl (fun ls hl => ?_)
  refine lv_iload C.1 C.2.1 dX13_without_72 (lv_at hl 0 rfl) ?_
  refine lv_if_eq (tgt := 117) C.1 C.2.1 dX13_without_74 (by decide) (fun hc => ?_) (fun hc => ?_)
  · replace h := ift hc h
    exact w_without_117 C hr hk kk9 w (lv_sub hl [1, 2, 3] rfl) h
  · replace h := iff0 hc h
    refine lv_iload_n C.1 C.2.1 dX13_without_77 rfl (lv_at hl 3 rfl) ?_
    refine lv_iload_n C.1 C.2.1 dX13_without_78 rfl (lv_at hl 2 rfl) ?_
    refine lv_icmp_ge (tgt := 117) C.1 C.2.1 dX13_without_79 (by decide) (fun hc => ?_) (fun hc => ?_)
    · replace h := ift hc h
      exact w_without_117 C hr hk kk9 w (lv_sub hl [1, 2, 3] rfl) h
    · replace h := iff0 hc h
      refine lv_iload_n C.1 C.2.1 dX13_without_82 rfl (lv_at hl 3 rfl) ?_
      refine lv_i2l C.1 C.2.1 dX13_without_83 rfl ?_
      refine lv_aload_n C.1 C.2.1 dX13_without_84 rfl (lv_at hl 1 rfl) ?_
      refine x_getC C w 10 fM150 obM rfl dX13_without_85 ?_
      refine lv_bipush (v := 10) C.1 C.2.1 dX13_without_88 (by decide) ?_
      refine lv_iload_n C.1 C.2.1 dX13_without_90 rfl (lv_at hl 3 rfl) ?_
      refine lv_imul C.1 C.2.1 dX13_without_91 ?_
      refine lv_iconst (v := 1) C.1 C.2.1 dX13_without_92 (by decide) ?_
      refine lv_iadd C.1 C.2.1 dX13_without_93 ?_
      obtain ⟨v_7, hv_7, h⟩ := bnd h
      refine x_lald C w obM10 hv_7 dX13_without_94 ?_
      refine lv_ladd C.1 C.2.1 dX13_without_95 ?_
      refine lv_iload_n C.1 C.2.1 dX13_without_96 rfl (lv_at hl 2 rfl) ?_
      refine lv_i2l C.1 C.2.1 dX13_without_97 rfl ?_
      refine x_l_lt (tgt := 117) C dX13_without_98 dX13_without_99 (by decide) (fun hc => ?_) (fun hc => ?_)
      · replace h := ift hc h
        exact w_without_117 C hr hk kk9 w (lv_sub hl [1, 2, 3] rfl) h
      · replace h := iff0 hc h
        refine lv_aload_n C.1 C.2.1 dX13_without_102 rfl (lv_at hl 1 rfl) ?_
        refine x_getC C w 10 fM150 obM rfl dX13_without_103 ?_
        refine lv_bipush (v := 10) C.1 C.2.1 dX13_without_106 (by decide) ?_
        refine lv_iload_n C.1 C.2.1 dX13_without_108 rfl (lv_at hl 4 rfl) ?_
        refine lv_imul C.1 C.2.1 dX13_without_109 ?_
        refine lv_iconst (v := 1) C.1 C.2.1 dX13_without_110 (by decide) ?_
        refine lv_iadd C.1 C.2.1 dX13_without_111 ?_
        refine lv_dup2_11 C.1 C.2.1 dX13_without_112 rfl rfl ?_
        obtain ⟨v_8, hv_8, h⟩ := bnd h
        refine x_lald C w obM10 hv_8 dX13_without_113 ?_
        refine lv_lconst (v := 1) C.1 C.2.1 dX13_without_114 (by decide) ?_
        refine lv_lsub C.1 C.2.1 dX13_without_115 ?_
        obtain ⟨S_9, hS_9, h⟩ := bnd h
        refine x_last C w obM10 hS_9 dX13_without_116 (fun H locs w => ?_)
        exact w_without_117 C hr hk kk9 w (lv_sub hl [1, 2, 3] rfl) h
set_option maxRecDepth 100000 in
set_option maxHeartbeats 4000000 in
theorem w_without_65  {g : Nat} {S : St} {x1 : Int32} {x2 : Int32} {x3 : Int32} (C : CallFix p m c cX13_without 5 s args tb RX13) (hr : meth.sig.returnType = none) (hk : meth.locks = false) {S' : St} {k9 : St → Int32 → Int32 → Option St} (kk9 : ∀ (S : St) (x1 : Int32) (x2 : Int32) (H : Heap) (locs : List Loc) (ls : Array Slot), Wn Ym D T ρ S A s H locs → lv_has ls 5 [(0, .ref (ρ 0)), (1, .int x1), (2, .int x2)] → k9 S x1 x2 = some S' → W p l e (rmN 1 23) s m args below meth c H locs 0 0 (MQ below (Qv Ym D T ρ A S') args s 0 0 A) (F0 m 9 ls [])) (w : Wn Ym D T ρ S A s H locs) (hl : lv_has ls 5 [(0, .ref (ρ 0)), (1, .int x1), (2, .int x2), (3, .int x3)]) (h : m_without_65 g k9 S x1 x2 x3 = some S') : W p l e (rmN 1 23) s m args below meth c H locs 0 0 (MQ below (Qv Ym D T ρ A S') args s 0 0 A) (F0 m 65 ls []) := by
  unfold m_without_65 at h
  refine lv_iconst (v := 1) C.1 C.2.1 dX13_without_65 (by decide) ?_
  refine lv_goto (tgt := 70) C.1 C.2.1 dX13_without_66 (by decide) ?_
  exact w_without_70 C hr hk kk9 w (lv_sub hl [0, 1, 2, 3] rfl) h
set_option maxRecDepth 100000 in
set_option maxHeartbeats 4000000 in
theorem wb_without_9  {g : Nat} {S : St} {x1 : Int32} {x2 : Int32} (C : CallFix p m c cX13_without 5 s args tb RX13) (hr : meth.sig.returnType = none) (hk : meth.locks = false) {S' : St} {k9 : St → Int32 → Int32 → Option St} (kk9 : ∀ (S : St) (x1 : Int32) (x2 : Int32) (H : Heap) (locs : List Loc) (ls : Array Slot), Wn Ym D T ρ S A s H locs → lv_has ls 5 [(0, .ref (ρ 0)), (1, .int x1), (2, .int x2)] → k9 S x1 x2 = some S' → W p l e (rmN 1 23) s m args below meth c H locs 0 0 (MQ below (Qv Ym D T ρ A S') args s 0 0 A) (F0 m 9 ls [])) (w : Wn Ym D T ρ S A s H locs) (hl : lv_has ls 5 [(0, .ref (ρ 0)), (1, .int x1), (2, .int x2)]) (h : b_without_9 g k9 S x1 x2 = some S') : W p l e (rmN 1 23) s m args below meth c H locs 0 0 (MQ below (Qv Ym D T ρ A S') args s 0 0 A) (F0 m 9 ls []) := by
  unfold b_without_9 at h
  refine lv_iload_n C.1 C.2.1 dX13_without_9 rfl (lv_at hl 2 rfl) ?_
  refine lv_aload_n C.1 C.2.1 dX13_without_10 rfl (lv_at hl 0 rfl) ?_
  refine x_getC C w 11 fM153 obM rfl dX13_without_11 ?_
  refine lv_iconst (v := 0) C.1 C.2.1 dX13_without_14 (by decide) ?_
  obtain ⟨v_2, hv_2, h⟩ := bnd h
  refine x_iald C w obM11 hv_2 dX13_without_15 ?_
  refine lv_icmp_ge (tgt := 133) C.1 C.2.1 dX13_without_16 (by decide) (fun hc => ?_) (fun hc => ?_)
  · replace h := ift hc h
    obtain rfl := som h
    exact x_vret C w hr hk dX13_without_133
  · replace h := iff0 hc h
    refine lv_iload_n C.1 C.2.1 dX13_without_19 rfl (lv_at hl 2 rfl) ?_
    refine lv_iload_n C.1 C.2.1 dX13_without_20 rfl (lv_at hl 1 rfl) ?_
    refine lv_icmp_ne (tgt := 27) C.1 C.2.1 dX13_without_21 (by decide) (fun hc => ?_) (fun hc => ?_)
    · replace h := iff0 hc h
      refine lv_bipush (v := 120) C.1 C.2.1 dX13_without_27 (by decide) ?_
      refine lv_aload_n C.1 C.2.1 dX13_without_29 rfl (lv_at hl 0 rfl) ?_
      refine x_getC C w 11 fM153 obM rfl dX13_without_30 ?_
      refine lv_iconst (v := 2) C.1 C.2.1 dX13_without_33 (by decide) ?_
      obtain ⟨v_3, hv_3, h⟩ := bnd h
      refine x_iald C w obM11 hv_3 dX13_without_34 ?_
      refine lv_iadd C.1 C.2.1 dX13_without_35 ?_
      obtain ⟨x3_4, ex3_4, h⟩ := lt_e h
      refine x_nm ex3_4 ?_
      refine lv_istore_n (lv' := [(3, .int x3_4), (0, .ref (ρ 0)), (1, .int x1), (2, .int x2)]) C.1 C.2.1 dX13_without_36 rfl hl (by decide) rfl (fun ls hl => ?_)
      refine lv_aload_n C.1 C.2.1 dX13_without_37 rfl (lv_at hl 1 rfl) ?_
      refine lv_iload_n C.1 C.2.1 dX13_without_38 rfl (lv_at hl 3 rfl) ?_
      refine lv_iload_n C.1 C.2.1 dX13_without_39 rfl (lv_at hl 0 rfl) ?_
      obtain ⟨S_5, hS_5, h⟩ := bnd h
      refine x_callVv (q := (RX13, TX13, 68)) (As := [.int x2, .int x3_4]) (rest := []) C w (k_copyStep l D T ρ g H.size S hS_5) vM365 ⟨by decide, by decide⟩ obM (by decide) rfl rfl rfl hl.1 (Nat.le_of_ble_eq_true rfl) ⟨Nat.zero_le _, Nat.zero_le _⟩ dX13_without_40 (fun H locs w => ?_)
      refine lv_aload_n C.1 C.2.1 dX13_without_43 rfl (lv_at hl 1 rfl) ?_
      refine x_getC C w 6 fM138 obM rfl dX13_without_44 ?_
      refine lv_iload_n C.1 C.2.1 dX13_without_47 rfl (lv_at hl 3 rfl) ?_
      obtain ⟨v_6, hv_6, h⟩ := bnd h
      refine x_iald C w obM6 hv_6 dX13_without_48 ?_
      refine lv_bipush (v := 53) C.1 C.2.1 dX13_without_49 (by decide) ?_
      refine lv_icmp_eq (tgt := 65) C.1 C.2.1 dX13_without_51 (by decide) (fun hc => ?_) (fun hc => ?_)
      · replace h := ift hc h
        exact w_without_65 C hr hk kk9 w (lv_sub hl [1, 2, 3, 0] rfl) h
      · replace h := iff0 hc h
        refine lv_aload_n C.1 C.2.1 dX13_without_54 rfl (lv_at hl 1 rfl) ?_
        refine x_getC C w 6 fM138 obM rfl dX13_without_55 ?_
        refine lv_iload_n C.1 C.2.1 dX13_without_58 rfl (lv_at hl 3 rfl) ?_
        obtain ⟨v_7, hv_7, h⟩ := bnd h
        refine x_iald C w obM6 hv_7 dX13_without_59 ?_
        refine lv_bipush (v := 54) C.1 C.2.1 dX13_without_60 (by decide) ?_
        refine lv_icmp_ne (tgt := 69) C.1 C.2.1 dX13_without_62 (by decide) (fun hc => ?_) (fun hc => ?_)
        · replace h := iff0 hc h
          refine lv_iconst (v := 0) C.1 C.2.1 dX13_without_69 (by decide) ?_
          exact w_without_70 C hr hk kk9 w (lv_sub hl [1, 2, 3, 0] rfl) h
        · replace h := ift hc h
          exact w_without_65 C hr hk kk9 w (lv_sub hl [1, 2, 3, 0] rfl) h
    · replace h := ift hc h
      refine lv_goto (tgt := 127) C.1 C.2.1 dX13_without_24 (by decide) ?_
      obtain ⟨x2_8, ex2_8, h⟩ := lt_e h
      refine lv_iinc (v := x2_8) (lv' := [(2, .int x2_8), (0, .ref (ρ 0)), (1, .int x1)]) C.1 C.2.1 dX13_without_127 hl (k := 2) rfl (by rw [ex2_8]; rfl) (by decide) rfl (fun ls hl => ?_)
      refine lv_goto (tgt := 9) C.1 C.2.1 dX13_without_130 (by decide) ?_
      exact kk9 _ _ _ _ _ _ w (lv_sub hl [1, 2, 0] rfl) h
theorem w_without_9 {g : Nat} (C : CallFix p m c cX13_without 5 s args tb RX13) (hr : meth.sig.returnType = none) (hk : meth.locks = false) {S' : St} (n : Nat) : ∀ (S : St) (x1 : Int32) (x2 : Int32) (H : Heap) (locs : List Loc) (ls : Array Slot), Wn Ym D T ρ S A s H locs → lv_has ls 5 [(0, .ref (ρ 0)), (1, .int x1), (2, .int x2)] → m_without_9 g n S x1 x2 = some S' → W p l e (rmN 1 23) s m args below meth c H locs 0 0 (MQ below (Qv Ym D T ρ A S') args s 0 0 A) (F0 m 9 ls []) := by
  induction n with
  | zero => intro S x1 x2 H locs ls w hl h; exact absurd h (fun q => by cases q)
  | succ n ih => intro S x1 x2 H locs ls w hl h; exact wb_without_9 C hr hk ih w hl h
set_option maxRecDepth 100000 in
set_option maxHeartbeats 4000000 in
theorem w_without_0  {g : Nat} {S : St} {x1 : Int32} (C : CallFix p m c cX13_without 5 s args tb RX13) (hr : meth.sig.returnType = none) (hk : meth.locks = false) {S' : St} (w : Wn Ym D T ρ S A s H locs) (hl : lv_has ls 5 [(0, .ref (ρ 0)), (1, .int x1)]) (h : m_without g S x1 = some S') : W p l e (rmN 1 23) s m args below meth c H locs 0 0 (MQ below (Qv Ym D T ρ A S') args s 0 0 A) (F0 m 0 ls []) := by
  unfold m_without at h
  refine lv_aload_n C.1 C.2.1 dX13_without_0 rfl (lv_at hl 0 rfl) ?_
  refine x_getC C w 11 fM153 obM rfl dX13_without_1 ?_
  refine lv_iconst (v := 2) C.1 C.2.1 dX13_without_4 (by decide) ?_
  refine lv_iconst (v := 0) C.1 C.2.1 dX13_without_5 (by decide) ?_
  obtain ⟨S_1, hS_1, h⟩ := bnd h
  refine x_iast C w obM11 hS_1 dX13_without_6 (fun H locs w => ?_)
  refine lv_iconst (v := 0) C.1 C.2.1 dX13_without_7 (by decide) ?_
  refine lv_istore_n (lv' := [(2, .int (0 : Int32)), (0, .ref (ρ 0)), (1, .int x1)]) C.1 C.2.1 dX13_without_8 rfl hl (by decide) rfl (fun ls hl => ?_)
  exact w_without_9 C hr hk g _ _ _ _ _ _ w (lv_sub hl [1, 2, 0] rfl) h
end S_without
set_option maxRecDepth 100000 in
theorem k_without (l : Launch) (D : va_G) (T : Cy) (ρ : Nat → Nat) (g sz : Nat) (S : St) {x1 : Int32} {S' : St} (h : m_without g S x1 = some S') : Mv l Ym D T ρ yX13_without cX13_without 5 none 1 23 S S' [.ref (ρ 0), .int x1] sz :=
  x_in (by decide) (Nat.le_of_ble_eq_true rfl) (fun p e s m below meth c ls C hr hk w hl => w_without_0 C hr hk w hl h)
