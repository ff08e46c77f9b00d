theorem dX13_grows_0 : decode cX13_grows 0 = .ok (.iload_n 2, 1) := by decide +kernel
theorem dX13_grows_1 : decode cX13_grows 1 = .ok (.aload_n 0, 1) := by decide +kernel
theorem dX13_grows_2 : decode cX13_grows 2 = .ok (.getfield 208, 3) := by decide +kernel
theorem dX13_grows_5 : decode cX13_grows 5 = .ok (.iload_n 1, 1) := by decide +kernel
theorem dX13_grows_6 : decode cX13_grows 6 = .ok (.iaload, 1) := by decide +kernel
theorem dX13_grows_7 : decode cX13_grows 7 = .ok (.if_icmp .le 37, 3) := by decide +kernel
theorem dX13_grows_10 : decode cX13_grows 10 = .ok (.aload_n 0, 1) := by decide +kernel
theorem dX13_grows_11 : decode cX13_grows 11 = .ok (.getfield 208, 3) := by decide +kernel
theorem dX13_grows_14 : decode cX13_grows 14 = .ok (.iload_n 1, 1) := by decide +kernel
theorem dX13_grows_15 : decode cX13_grows 15 = .ok (.iload_n 2, 1) := by decide +kernel
theorem dX13_grows_16 : decode cX13_grows 16 = .ok (.iconst 2, 1) := by decide +kernel
theorem dX13_grows_17 : decode cX13_grows 17 = .ok (.aload_n 0, 1) := by decide +kernel
theorem dX13_grows_18 : decode cX13_grows 18 = .ok (.getfield 208, 3) := by decide +kernel
theorem dX13_grows_21 : decode cX13_grows 21 = .ok (.iload_n 1, 1) := by decide +kernel
theorem dX13_grows_22 : decode cX13_grows 22 = .ok (.iaload, 1) := by decide +kernel
theorem dX13_grows_23 : decode cX13_grows 23 = .ok (.imul, 1) := by decide +kernel
theorem dX13_grows_24 : decode cX13_grows 24 = .ok (.iconst 2, 1) := by decide +kernel
theorem dX13_grows_25 : decode cX13_grows 25 = .ok (.iadd, 1) := by decide +kernel
theorem dX13_grows_26 : decode cX13_grows 26 = .ok (.if_icmp .le 7, 3) := by decide +kernel
theorem dX13_grows_29 : decode cX13_grows 29 = .ok (.iload_n 2, 1) := by decide +kernel
theorem dX13_grows_30 : decode cX13_grows 30 = .ok (.goto 13, 3) := by decide +kernel
theorem dX13_grows_33 : decode cX13_grows 33 = .ok (.iconst 2, 1) := by decide +kernel
theorem dX13_grows_34 : decode cX13_grows 34 = .ok (.aload_n 0, 1) := by decide +kernel
theorem dX13_grows_35 : decode cX13_grows 35 = .ok (.getfield 208, 3) := by decide +kernel
theorem dX13_grows_38 : decode cX13_grows 38 = .ok (.iload_n 1, 1) := by decide +kernel
theorem dX13_grows_39 : decode cX13_grows 39 = .ok (.iaload, 1) := by decide +kernel
theorem dX13_grows_40 : decode cX13_grows 40 = .ok (.imul, 1) := by decide +kernel
theorem dX13_grows_41 : decode cX13_grows 41 = .ok (.iconst 2, 1) := by decide +kernel
theorem dX13_grows_42 : decode cX13_grows 42 = .ok (.iadd, 1) := by decide +kernel
theorem dX13_grows_43 : decode cX13_grows 43 = .ok (.iastore, 1) := by decide +kernel
theorem dX13_grows_44 : decode cX13_grows 44 = .ok (.return_, 1) := by decide +kernel
def m_grows (g : Nat) (S : St) (x1 : Int32) (x2 : Int32) : Option St :=
(aI S 29 x1).bind fun v_1 =>
if x2 ≤ v_1 then (
  some S
) else (
  (aI S 29 x1).bind fun v_2 =>
  if x2 ≤ (((2 : Int32) * v_2) + (2 : Int32)) then (
    (aI S 29 x1).bind fun v_3 =>
    (tI S 29 x1 (((2 : Int32) * v_3) + (2 : Int32))).bind fun S_4 =>
    some S_4
  ) else (
    (tI S 29 x1 x2).bind fun S_5 =>
    some S_5
  )
)
section S_grows
variable {p : Program} {l : Launch} {e : Env} {s : State} {m : MethodId} {args : Array Value} {below : List Frame} {meth : Method} {c : Code} {H : Heap} {locs : List Loc} {ls : Array Slot} {D : va_G} {T : Cy} {ρ : Nat → Nat} {A : Nat → Prop}
set_option maxRecDepth 100000 in
set_option maxHeartbeats 4000000 in
theorem w_grows_0  {g : Nat} {S : St} {x1 : Int32} {x2 : Int32} (C : CallFix p m c cX13_grows 3 s args tb RX13) (hr : meth.sig.returnType = none) (hk : meth.locks = false) {S' : St} (w : Wn Ym D T ρ S A s H locs) (hl : lv_has ls 3 [(0, .ref (ρ 0)), (1, .int x1), (2, .int x2)]) (h : m_grows g S x1 x2 = some S') : W p l e (rmN 0 0) s m args below meth c H locs 0 0 (MQ below (Qv Ym D T ρ A S') args s 0 0 A) (F0 m 0 ls []) := by
  unfold m_grows at h
  refine lv_iload_n C.1 C.2.1 dX13_grows_0 rfl (lv_at hl 2 rfl) ?_
  refine lv_aload_n C.1 C.2.1 dX13_grows_1 rfl (lv_at hl 0 rfl) ?_
  refine x_getC C w 29 fM208 obM rfl dX13_grows_2 ?_
  refine lv_iload_n C.1 C.2.1 dX13_grows_5 rfl (lv_at hl 1 rfl) ?_
  obtain ⟨v_1, hv_1, h⟩ := bnd h
  refine x_iald C w obM29 hv_1 dX13_grows_6 ?_
  refine lv_icmp_le (tgt := 44) C.1 C.2.1 dX13_grows_7 (by decide) (fun hc => ?_) (fun hc => ?_)
  · replace h := ift hc h
    obtain rfl := som h
    exact x_vret C w hr hk dX13_grows_44
  · replace h := iff0 hc h
    refine lv_aload_n C.1 C.2.1 dX13_grows_10 rfl (lv_at hl 0 rfl) ?_
    refine x_getC C w 29 fM208 obM rfl dX13_grows_11 ?_
    refine lv_iload_n C.1 C.2.1 dX13_grows_14 rfl (lv_at hl 1 rfl) ?_
    refine lv_iload_n C.1 C.2.1 dX13_grows_15 rfl (lv_at hl 2 rfl) ?_
    refine lv_iconst (v := 2) C.1 C.2.1 dX13_grows_16 (by decide) ?_
    refine lv_aload_n C.1 C.2.1 dX13_grows_17 rfl (lv_at hl 0 rfl) ?_
    refine x_getC C w 29 fM208 obM rfl dX13_grows_18 ?_
    refine lv_iload_n C.1 C.2.1 dX13_grows_21 rfl (lv_at hl 1 rfl) ?_
    obtain ⟨v_2, hv_2, h⟩ := bnd h
    refine x_iald C w obM29 hv_2 dX13_grows_22 ?_
    refine lv_imul C.1 C.2.1 dX13_grows_23 ?_
    refine lv_iconst (v := 2) C.1 C.2.1 dX13_grows_24 (by decide) ?_
    refine lv_iadd C.1 C.2.1 dX13_grows_25 ?_
    refine lv_icmp_le (tgt := 33) C.1 C.2.1 dX13_grows_26 (by decide) (fun hc => ?_) (fun hc => ?_)
    · replace h := ift hc h
      refine lv_iconst (v := 2) C.1 C.2.1 dX13_grows_33 (by decide) ?_
      refine lv_aload_n C.1 C.2.1 dX13_grows_34 rfl (lv_at hl 0 rfl) ?_
      refine x_getC C w 29 fM208 obM rfl dX13_grows_35 ?_
      refine lv_iload_n C.1 C.2.1 dX13_grows_38 rfl (lv_at hl 1 rfl) ?_
      obtain ⟨v_3, hv_3, h⟩ := bnd h
      refine x_iald C w obM29 hv_3 dX13_grows_39 ?_
      refine lv_imul C.1 C.2.1 dX13_grows_40 ?_
      refine lv_iconst (v := 2) C.1 C.2.1 dX13_grows_41 (by decide) ?_
      refine lv_iadd C.1 C.2.1 dX13_grows_42 ?_
      obtain ⟨S_4, hS_4, h⟩ := bnd h
      refine x_iast C w obM29 hS_4 dX13_grows_43 (fun H locs w => ?_)
      obtain rfl := som h
      exact x_vret C w hr hk dX13_grows_44
    · replace h := iff0 hc h
      refine lv_iload_n C.1 C.2.1 dX13_grows_29 rfl (lv_at hl 2 rfl) ?_
      refine lv_goto (tgt := 43) C.1 C.2.1 dX13_grows_30 (by decide) ?_
      obtain ⟨S_5, hS_5, h⟩ := bnd h
      refine x_iast C w obM29 hS_5 dX13_grows_43 (fun H locs w => ?_)
      obtain rfl := som h
      exact x_vret C w hr hk dX13_grows_44
end S_grows
set_option maxRecDepth 100000 in
theorem k_grows (l : Launch) (D : va_G) (T : Cy) (ρ : Nat → Nat) (g sz : Nat) (S : St) {x1 : Int32} {x2 : Int32} {S' : St} (h : m_grows g S x1 x2 = some S') : Mv l Ym D T ρ yX13_grows cX13_grows 3 none 0 0 S S' [.ref (ρ 0), .int x1, .int x2] sz :=
  x_in (by decide) (Nat.le_of_ble_eq_true rfl) (fun p e s m below meth c ls C hr hk w hl => w_grows_0 C hr hk w hl h)

theorem dX13_inserts_0 : decode cX13_inserts 0 = .ok (.aload_n 0, 1) := by decide +kernel
theorem dX13_inserts_1 : decode cX13_inserts 1 = .ok (.getfield 205, 3) := by decide +kernel
theorem dX13_inserts_4 : decode cX13_inserts 4 = .ok (.iload_n 3, 1) := by decide +kernel
theorem dX13_inserts_5 : decode cX13_inserts 5 = .ok (.iaload, 1) := by decide +kernel
theorem dX13_inserts_6 : decode cX13_inserts 6 = .ok (.istore 4, 2) := by decide +kernel
theorem dX13_inserts_8 : decode cX13_inserts 8 = .ok (.iload_n 1, 1) := by decide +kernel
theorem dX13_inserts_9 : decode cX13_inserts 9 = .ok (.bipush 36, 2) := by decide +kernel
theorem dX13_inserts_11 : decode cX13_inserts 11 = .ok (.if_icmp .ne 9, 3) := by decide +kernel
theorem dX13_inserts_14 : decode cX13_inserts 14 = .ok (.iload 4, 2) := by decide +kernel
theorem dX13_inserts_16 : decode cX13_inserts 16 = .ok (.i2l, 1) := by decide +kernel
theorem dX13_inserts_17 : decode cX13_inserts 17 = .ok (.goto 10, 3) := by decide +kernel
theorem dX13_inserts_20 : decode cX13_inserts 20 = .ok (.aload_n 0, 1) := by decide +kernel
theorem dX13_inserts_21 : decode cX13_inserts 21 = .ok (.iload_n 2, 1) := by decide +kernel
theorem dX13_inserts_22 : decode cX13_inserts 22 = .ok (.iconst 1, 1) := by decide +kernel
theorem dX13_inserts_23 : decode cX13_inserts 23 = .ok (.iadd, 1) := by decide +kernel
theorem dX13_inserts_24 : decode cX13_inserts 24 = .ok (.invokevirtual 459, 3) := by decide +kernel
theorem dX13_inserts_27 : decode cX13_inserts 27 = .ok (.lstore 5, 2) := by decide +kernel
theorem dX13_inserts_29 : decode cX13_inserts 29 = .ok (.aload_n 0, 1) := by decide +kernel
theorem dX13_inserts_30 : decode cX13_inserts 30 = .ok (.lload 5, 2) := by decide +kernel
theorem dX13_inserts_32 : decode cX13_inserts 32 = .ok (.lconst 0, 1) := by decide +kernel
theorem dX13_inserts_33 : decode cX13_inserts 33 = .ok (.iload 4, 2) := by decide +kernel
theorem dX13_inserts_35 : decode cX13_inserts 35 = .ok (.i2l, 1) := by decide +kernel
theorem dX13_inserts_36 : decode cX13_inserts 36 = .ok (.invokestatic 318, 3) := by decide +kernel
theorem dX13_inserts_39 : decode cX13_inserts 39 = .ok (.ifCond .ne 7, 3) := by decide +kernel
theorem dX13_inserts_42 : decode cX13_inserts 42 = .ok (.iconst 1, 1) := by decide +kernel
theorem dX13_inserts_43 : decode cX13_inserts 43 = .ok (.goto 4, 3) := by decide +kernel
theorem dX13_inserts_46 : decode cX13_inserts 46 = .ok (.iconst 0, 1) := by decide +kernel
theorem dX13_inserts_47 : decode cX13_inserts 47 = .ok (.iconst 1, 1) := by decide +kernel
theorem dX13_inserts_48 : decode cX13_inserts 48 = .ok (.invokevirtual 466, 3) := by decide +kernel
theorem dX13_inserts_51 : decode cX13_inserts 51 = .ok (.aload_n 0, 1) := by decide +kernel
theorem dX13_inserts_52 : decode cX13_inserts 52 = .ok (.iload_n 1, 1) := by decide +kernel
theorem dX13_inserts_53 : decode cX13_inserts 53 = .ok (.bipush 36, 2) := by decide +kernel
theorem dX13_inserts_55 : decode cX13_inserts 55 = .ok (.if_icmp .ne 9, 3) := by decide +kernel
theorem dX13_inserts_58 : decode cX13_inserts 58 = .ok (.iload_n 2, 1) := by decide +kernel
theorem dX13_inserts_59 : decode cX13_inserts 59 = .ok (.iconst 1, 1) := by decide +kernel
theorem dX13_inserts_60 : decode cX13_inserts 60 = .ok (.iadd, 1) := by decide +kernel
theorem dX13_inserts_61 : decode cX13_inserts 61 = .ok (.goto 6, 3) := by decide +kernel
theorem dX13_inserts_64 : decode cX13_inserts 64 = .ok (.iload_n 2, 1) := by decide +kernel
theorem dX13_inserts_65 : decode cX13_inserts 65 = .ok (.iconst 2, 1) := by decide +kernel
theorem dX13_inserts_66 : decode cX13_inserts 66 = .ok (.iadd, 1) := by decide +kernel
theorem dX13_inserts_67 : decode cX13_inserts 67 = .ok (.invokevirtual 564, 3) := by decide +kernel
theorem dX13_inserts_70 : decode cX13_inserts 70 = .ok (.aload_n 0, 1) := by decide +kernel
theorem dX13_inserts_71 : decode cX13_inserts 71 = .ok (.iload 4, 2) := by decide +kernel
theorem dX13_inserts_73 : decode cX13_inserts 73 = .ok (.aload_n 0, 1) := by decide +kernel
theorem dX13_inserts_74 : decode cX13_inserts 74 = .ok (.getfield 395, 3) := by decide +kernel
theorem dX13_inserts_77 : decode cX13_inserts 77 = .ok (.iadd, 1) := by decide +kernel
theorem dX13_inserts_78 : decode cX13_inserts 78 = .ok (.sipush 400, 3) := by decide +kernel
theorem dX13_inserts_81 : decode cX13_inserts 81 = .ok (.if_icmp .le 7, 3) := by decide +kernel
theorem dX13_inserts_84 : decode cX13_inserts 84 = .ok (.iconst 1, 1) := by decide +kernel
theorem dX13_inserts_85 : decode cX13_inserts 85 = .ok (.goto 4, 3) := by decide +kernel
theorem dX13_inserts_88 : decode cX13_inserts 88 = .ok (.iconst 0, 1) := by decide +kernel
theorem dX13_inserts_89 : decode cX13_inserts 89 = .ok (.iconst 5, 1) := by decide +kernel
theorem dX13_inserts_90 : decode cX13_inserts 90 = .ok (.invokevirtual 466, 3) := by decide +kernel
theorem dX13_inserts_93 : decode cX13_inserts 93 = .ok (.aload_n 0, 1) := by decide +kernel
theorem dX13_inserts_94 : decode cX13_inserts 94 = .ok (.getfield 398, 3) := by decide +kernel
theorem dX13_inserts_97 : decode cX13_inserts 97 = .ok (.ifCond .eq 4, 3) := by decide +kernel
theorem dX13_inserts_100 : decode cX13_inserts 100 = .ok (.return_, 1) := by decide +kernel
theorem dX13_inserts_101 : decode cX13_inserts 101 = .ok (.aload_n 0, 1) := by decide +kernel
theorem dX13_inserts_102 : decode cX13_inserts 102 = .ok (.iload_n 3, 1) := by decide +kernel
theorem dX13_inserts_103 : decode cX13_inserts 103 = .ok (.iload 4, 2) := by decide +kernel
theorem dX13_inserts_105 : decode cX13_inserts 105 = .ok (.aload_n 0, 1) := by decide +kernel
theorem dX13_inserts_106 : decode cX13_inserts 106 = .ok (.getfield 395, 3) := by decide +kernel
theorem dX13_inserts_109 : decode cX13_inserts 109 = .ok (.iadd, 1) := by decide +kernel
theorem dX13_inserts_110 : decode cX13_inserts 110 = .ok (.invokevirtual 681, 3) := by decide +kernel
theorem dX13_inserts_113 : decode cX13_inserts 113 = .ok (.iload 4, 2) := by decide +kernel
theorem dX13_inserts_115 : decode cX13_inserts 115 = .ok (.iconst 1, 1) := by decide +kernel
theorem dX13_inserts_116 : decode cX13_inserts 116 = .ok (.isub, 1) := by decide +kernel
theorem dX13_inserts_117 : decode cX13_inserts 117 = .ok (.istore 7, 2) := by decide +kernel
theorem dX13_inserts_119 : decode cX13_inserts 119 = .ok (.iload 7, 2) := by decide +kernel
theorem dX13_inserts_121 : decode cX13_inserts 121 = .ok (.i2l, 1) := by decide +kernel
theorem dX13_inserts_122 : decode cX13_inserts 122 = .ok (.lload 5, 2) := by decide +kernel
theorem dX13_inserts_124 : decode cX13_inserts 124 = .ok (.lcmp, 1) := by decide +kernel
theorem dX13_inserts_125 : decode cX13_inserts 125 = .ok (.ifCond .lt 40, 3) := by decide +kernel
theorem dX13_inserts_128 : decode cX13_inserts 128 = .ok (.aload_n 0, 1) := by decide +kernel
theorem dX13_inserts_129 : decode cX13_inserts 129 = .ok (.getfield 211, 3) := by decide +kernel
theorem dX13_inserts_132 : decode cX13_inserts 132 = .ok (.sipush 400, 3) := by decide +kernel
theorem dX13_inserts_135 : decode cX13_inserts 135 = .ok (.iload_n 3, 1) := by decide +kernel
theorem dX13_inserts_136 : decode cX13_inserts 136 = .ok (.imul, 1) := by decide +kernel
theorem dX13_inserts_137 : decode cX13_inserts 137 = .ok (.iload 7, 2) := by decide +kernel
theorem dX13_inserts_139 : decode cX13_inserts 139 = .ok (.iadd, 1) := by decide +kernel
theorem dX13_inserts_140 : decode cX13_inserts 140 = .ok (.aload_n 0, 1) := by decide +kernel
theorem dX13_inserts_141 : decode cX13_inserts 141 = .ok (.getfield 395, 3) := by decide +kernel
theorem dX13_inserts_144 : decode cX13_inserts 144 = .ok (.iadd, 1) := by decide +kernel
theorem dX13_inserts_145 : decode cX13_inserts 145 = .ok (.aload_n 0, 1) := by decide +kernel
theorem dX13_inserts_146 : decode cX13_inserts 146 = .ok (.getfield 211, 3) := by decide +kernel
theorem dX13_inserts_149 : decode cX13_inserts 149 = .ok (.sipush 400, 3) := by decide +kernel
theorem dX13_inserts_152 : decode cX13_inserts 152 = .ok (.iload_n 3, 1) := by decide +kernel
theorem dX13_inserts_153 : decode cX13_inserts 153 = .ok (.imul, 1) := by decide +kernel
theorem dX13_inserts_154 : decode cX13_inserts 154 = .ok (.iload 7, 2) := by decide +kernel
theorem dX13_inserts_156 : decode cX13_inserts 156 = .ok (.iadd, 1) := by decide +kernel
theorem dX13_inserts_157 : decode cX13_inserts 157 = .ok (.iaload, 1) := by decide +kernel
theorem dX13_inserts_158 : decode cX13_inserts 158 = .ok (.iastore, 1) := by decide +kernel
theorem dX13_inserts_159 : decode cX13_inserts 159 = .ok (.iinc 7 (-1), 3) := by decide +kernel
theorem dX13_inserts_162 : decode cX13_inserts 162 = .ok (.goto (-43), 3) := by decide +kernel
theorem dX13_inserts_165 : decode cX13_inserts 165 = .ok (.iconst 0, 1) := by decide +kernel
theorem dX13_inserts_166 : decode cX13_inserts 166 = .ok (.istore 7, 2) := by decide +kernel
theorem dX13_inserts_168 : decode cX13_inserts 168 = .ok (.iload 7, 2) := by decide +kernel
theorem dX13_inserts_170 : decode cX13_inserts 170 = .ok (.aload_n 0, 1) := by decide +kernel
theorem dX13_inserts_171 : decode cX13_inserts 171 = .ok (.getfield 395, 3) := by decide +kernel
theorem dX13_inserts_174 : decode cX13_inserts 174 = .ok (.if_icmp .ge 33, 3) := by decide +kernel
theorem dX13_inserts_177 : decode cX13_inserts 177 = .ok (.aload_n 0, 1) := by decide +kernel
theorem dX13_inserts_178 : decode cX13_inserts 178 = .ok (.getfield 211, 3) := by decide +kernel
theorem dX13_inserts_181 : decode cX13_inserts 181 = .ok (.sipush 400, 3) := by decide +kernel
theorem dX13_inserts_184 : decode cX13_inserts 184 = .ok (.iload_n 3, 1) := by decide +kernel
theorem dX13_inserts_185 : decode cX13_inserts 185 = .ok (.imul, 1) := by decide +kernel
theorem dX13_inserts_186 : decode cX13_inserts 186 = .ok (.lload 5, 2) := by decide +kernel
theorem dX13_inserts_188 : decode cX13_inserts 188 = .ok (.l2i, 1) := by decide +kernel
theorem dX13_inserts_189 : decode cX13_inserts 189 = .ok (.iadd, 1) := by decide +kernel
theorem dX13_inserts_190 : decode cX13_inserts 190 = .ok (.iload 7, 2) := by decide +kernel
theorem dX13_inserts_192 : decode cX13_inserts 192 = .ok (.iadd, 1) := by decide +kernel
theorem dX13_inserts_193 : decode cX13_inserts 193 = .ok (.aload_n 0, 1) := by decide +kernel
theorem dX13_inserts_194 : decode cX13_inserts 194 = .ok (.getfield 223, 3) := by decide +kernel
theorem dX13_inserts_197 : decode cX13_inserts 197 = .ok (.iload 7, 2) := by decide +kernel
theorem dX13_inserts_199 : decode cX13_inserts 199 = .ok (.iaload, 1) := by decide +kernel
theorem dX13_inserts_200 : decode cX13_inserts 200 = .ok (.iastore, 1) := by decide +kernel
theorem dX13_inserts_201 : decode cX13_inserts 201 = .ok (.iinc 7 1, 3) := by decide +kernel
theorem dX13_inserts_204 : decode cX13_inserts 204 = .ok (.goto (-36), 3) := by decide +kernel
theorem dX13_inserts_207 : decode cX13_inserts 207 = .ok (.aload_n 0, 1) := by decide +kernel
theorem dX13_inserts_208 : decode cX13_inserts 208 = .ok (.getfield 205, 3) := by decide +kernel
theorem dX13_inserts_211 : decode cX13_inserts 211 = .ok (.iload_n 3, 1) := by decide +kernel
theorem dX13_inserts_212 : decode cX13_inserts 212 = .ok (.iload 4, 2) := by decide +kernel
theorem dX13_inserts_214 : decode cX13_inserts 214 = .ok (.aload_n 0, 1) := by decide +kernel
theorem dX13_inserts_215 : decode cX13_inserts 215 = .ok (.getfield 395, 3) := by decide +kernel
theorem dX13_inserts_218 : decode cX13_inserts 218 = .ok (.iadd, 1) := by decide +kernel
theorem dX13_inserts_219 : decode cX13_inserts 219 = .ok (.iastore, 1) := by decide +kernel
theorem dX13_inserts_220 : decode cX13_inserts 220 = .ok (.return_, 1) := by decide +kernel
def b_inserts_168 (g : Nat) (k168 : St → Int32 → Int32 → Int64 → Int32 → Option St) (S : St) (x3 : Int32) (x4 : Int32) (x5 : Int64) (x7 : Int32) : Option St :=
if (gI S 0 57) ≤ x7 then (
  (tI S 28 x3 (x4 + (gI S 0 57))).bind fun S_9 =>
  some S_9
) else (
  (aI S 34 x7).bind fun v_10 =>
  (tI S 30 ((((400 : Int32) * x3) + (x5.toInt32)) + x7) v_10).bind fun S_11 =>
  lt (x7 + (1 : Int32)) fun x7_12 =>
  k168 S_11 x3 x4 x5 x7_12
)
def m_inserts_168 (g : Nat) : Nat → St → Int32 → Int32 → Int64 → Int32 → Option St
  | 0, _, _, _, _, _ => none
  | n + 1, S, x3, x4, x5, x7 => b_inserts_168 g (m_inserts_168 g n) S x3 x4 x5 x7
def b_inserts_119 (g : Nat) (k119 : St → Int32 → Int32 → Int64 → Int32 → Option St) (S : St) (x3 : Int32) (x4 : Int32) (x5 : Int64) (x7 : Int32) : Option St :=
if (x7.toInt64) < x5 then (
  m_inserts_168 g g S x3 x4 x5 (0 : Int32)
) else (
  (aI S 30 (((400 : Int32) * x3) + x7)).bind fun v_9 =>
  (tI S 30 ((((400 : Int32) * x3) + x7) + (gI S 0 57)) v_9).bind fun S_10 =>
  lt (x7 + (-1 : Int32)) fun x7_11 =>
  k119 S_10 x3 x4 x5 x7_11
)
def m_inserts_119 (g : Nat) : Nat → St → Int32 → Int32 → Int64 → Int32 → Option St
  | 0, _, _, _, _, _ => none
  | n + 1, S, x3, x4, x5, x7 => b_inserts_119 g (m_inserts_119 g n) S x3 x4 x5 x7
def m_inserts_89 (g : Nat) (S : St) (x3 : Int32) (x4 : Int32) (x5 : Int64) (y1 : Int32) : Option St :=
(m_refuse g S y1 (5 : Int32)).bind fun S_6 =>
if (gI S_6 0 58) = 0 then (
  (m_grows g S_6 x3 (x4 + (gI S_6 0 57))).bind fun S_7 =>
  lt (x4 - (1 : Int32)) fun x7_8 =>
  m_inserts_119 g g S_7 x3 x4 x5 x7_8
) else (
  some S_6
)
def m_inserts_67 (g : Nat) (S : St) (x3 : Int32) (x4 : Int32) (x5 : Int64) (y1 : Int32) : Option St :=
(m_emitX g S y1).bind fun S_5 =>
if (x4 + (gI S_5 0 57)) ≤ (400 : Int32) then (
  m_inserts_89 g S_5 x3 x4 x5 (0 : Int32)
) else (
  m_inserts_89 g S_5 x3 x4 x5 (1 : Int32)
)
def m_inserts_47 (g : Nat) (S : St) (x1 : Int32) (x2 : Int32) (x3 : Int32) (x4 : Int32) (x5 : Int64) (y1 : Int32) : Option St :=
(m_refuse g S y1 (1 : Int32)).bind fun S_4 =>
if x1 = (36 : Int32) then (
  m_inserts_67 g S_4 x3 x4 x5 (x2 + (1 : Int32))
) else (
  m_inserts_67 g S_4 x3 x4 x5 (x2 + (2 : Int32))
)
def m_inserts_27 (g : Nat) (S : St) (x1 : Int32) (x2 : Int32) (x3 : Int32) (x4 : Int32) (y0 : Int64) : Option St :=
(m_isIn g y0 (0 : Int64) (x4.toInt64)).bind fun v_3 =>
if v_3 = 0 then (
  m_inserts_47 g S x1 x2 x3 x4 y0 (1 : Int32)
) else (
  m_inserts_47 g S x1 x2 x3 x4 y0 (0 : Int32)
)
def m_inserts (g : Nat) (S : St) (x1 : Int32) (x2 : Int32) (x3 : Int32) : Option St :=
(aI S 28 x3).bind fun v_1 =>
if x1 = (36 : Int32) then (
  m_inserts_27 g S x1 x2 x3 v_1 (v_1.toInt64)
) else (
  (m_value g S (x2 + (1 : Int32))).bind fun v_2 =>
  m_inserts_27 g S x1 x2 x3 v_1 v_2
)
section S_inserts
variable {p : Program} {l : Launch} {e : Env} {s : State} {m : MethodId} {args : Array Value} {below : List Frame} {meth : Method} {c : Code} {H : Heap} {locs : List Loc} {ls : Array Slot} {D : va_G} {T : Cy} {ρ : Nat → Nat} {A : Nat → Prop}
set_option maxRecDepth 100000 in
set_option maxHeartbeats 4000000 in
theorem wb_inserts_168  {g : Nat} {S : St} {x3 : Int32} {x4 : Int32} {x5 : Int64} {x7 : Int32} (C : CallFix p m c cX13_inserts 8 s args tb RX13) (hr : meth.sig.returnType = none) (hk : meth.locks = false) {S' : St} {k168 : St → Int32 → Int32 → Int64 → Int32 → Option St} (kk168 : ∀ (S : St) (x3 : Int32) (x4 : Int32) (x5 : Int64) (x7 : Int32) (H : Heap) (locs : List Loc) (ls : Array Slot), Wn Ym D T ρ S A s H locs → lv_has ls 8 [(0, .ref (ρ 0)), (3, .int x3), (4, .int x4), (5, .long x5), (7, .int x7)] → k168 S x3 x4 x5 x7 = some S' → W p l e (rmN 3 73) s m args below meth c H locs 0 0 (MQ below (Qv Ym D T ρ A S') args s 0 0 A) (F0 m 168 ls [])) (w : Wn Ym D T ρ S A s H locs) (hl : lv_has ls 8 [(0, .ref (ρ 0)), (3, .int x3), (4, .int x4), (5, .long x5), (7, .int x7)]) (h : b_inserts_168 g k168 S x3 x4 x5 x7 = some S') : W p l e (rmN 3 73) s m args below meth c H locs 0 0 (MQ below (Qv Ym D T ρ A S') args s 0 0 A) (F0 m 168 ls []) := by
  unfold b_inserts_168 at h
  refine lv_iload C.1 C.2.1 dX13_inserts_168 (lv_at hl 4 rfl) ?_
  refine lv_aload_n C.1 C.2.1 dX13_inserts_170 rfl (lv_at hl 0 rfl) ?_
  refine x_getI C w fM395 obM dX13_inserts_171 ?_
  refine lv_icmp_ge (tgt := 207) C.1 C.2.1 dX13_inserts_174 (by decide) (fun hc => ?_) (fun hc => ?_)
  · replace h := ift hc h
    refine lv_aload_n C.1 C.2.1 dX13_inserts_207 rfl (lv_at hl 0 rfl) ?_
    refine x_getC C w 28 fM205 obM rfl dX13_inserts_208 ?_
    refine lv_iload_n C.1 C.2.1 dX13_inserts_211 rfl (lv_at hl 1 rfl) ?_
    refine lv_iload C.1 C.2.1 dX13_inserts_212 (lv_at hl 2 rfl) ?_
    refine lv_aload_n C.1 C.2.1 dX13_inserts_214 rfl (lv_at hl 0 rfl) ?_
    refine x_getI C w fM395 obM dX13_inserts_215 ?_
    refine lv_iadd C.1 C.2.1 dX13_inserts_218 ?_
    obtain ⟨S_9, hS_9, h⟩ := bnd h
    refine x_iast C w obM28 hS_9 dX13_inserts_219 (fun H locs w => ?_)
    obtain rfl := som h
    exact x_vret C w hr hk dX13_inserts_220
  · replace h := iff0 hc h
    refine lv_aload_n C.1 C.2.1 dX13_inserts_177 rfl (lv_at hl 0 rfl) ?_
    refine x_getC C w 30 fM211 obM rfl dX13_inserts_178 ?_
    refine lv_sipush (v := 400) C.1 C.2.1 dX13_inserts_181 (by decide) ?_
    refine lv_iload_n C.1 C.2.1 dX13_inserts_184 rfl (lv_at hl 1 rfl) ?_
    refine lv_imul C.1 C.2.1 dX13_inserts_185 ?_
    refine lv_lload C.1 C.2.1 dX13_inserts_186 (lv_at hl 3 rfl) ?_
    refine lv_l2i C.1 C.2.1 dX13_inserts_188 rfl ?_
    refine lv_iadd C.1 C.2.1 dX13_inserts_189 ?_
    refine lv_iload C.1 C.2.1 dX13_inserts_190 (lv_at hl 4 rfl) ?_
    refine lv_iadd C.1 C.2.1 dX13_inserts_192 ?_
    refine lv_aload_n C.1 C.2.1 dX13_inserts_193 rfl (lv_at hl 0 rfl) ?_
    refine x_getC C w 34 fM223 obM rfl dX13_inserts_194 ?_
    refine lv_iload C.1 C.2.1 dX13_inserts_197 (lv_at hl 4 rfl) ?_
    obtain ⟨v_10, hv_10, h⟩ := bnd h
    refine x_iald C w obM34 hv_10 dX13_inserts_199 ?_
    obtain ⟨S_11, hS_11, h⟩ := bnd h
    refine x_iast C w obM30 hS_11 dX13_inserts_200 (fun H locs w => ?_)
    obtain ⟨x7_12, ex7_12, h⟩ := lt_e h
    refine lv_iinc (v := x7_12) (lv' := [(7, .int x7_12), (0, .ref (ρ 0)), (3, .int x3), (4, .int x4), (5, .long x5)]) C.1 C.2.1 dX13_inserts_201 hl (k := 4) rfl (by rw [ex7_12]; rfl) (by decide) rfl (fun ls hl => ?_)
    refine lv_goto (tgt := 168) C.1 C.2.1 dX13_inserts_204 (by decide) ?_
    exact kk168 _ _ _ _ _ _ _ _ w (lv_sub hl [1, 2, 3, 4, 0] rfl) h
theorem w_inserts_168 {g : Nat} (C : CallFix p m c cX13_inserts 8 s args tb RX13) (hr : meth.sig.returnType = none) (hk : meth.locks = false) {S' : St} (n : Nat) : ∀ (S : St) (x3 : Int32) (x4 : Int32) (x5 : Int64) (x7 : Int32) (H : Heap) (locs : List Loc) (ls : Array Slot), Wn Ym D T ρ S A s H locs → lv_has ls 8 [(0, .ref (ρ 0)), (3, .int x3), (4, .int x4), (5, .long x5), (7, .int x7)] → m_inserts_168 g n S x3 x4 x5 x7 = some S' → W p l e (rmN 3 73) s m args below meth c H locs 0 0 (MQ below (Qv Ym D T ρ A S') args s 0 0 A) (F0 m 168 ls []) := by
  induction n with
  | zero => intro S x3 x4 x5 x7 H locs ls w hl h; exact absurd h (fun q => by cases q)
  | succ n ih => intro S x3 x4 x5 x7 H locs ls w hl h; exact wb_inserts_168 C hr hk ih w hl h
set_option maxRecDepth 100000 in
set_option maxHeartbeats 4000000 in
theorem wb_inserts_119  {g : Nat} {S : St} {x3 : Int32} {x4 : Int32} {x5 : Int64} {x7 : Int32} (C : CallFix p m c cX13_inserts 8 s args tb RX13) (hr : meth.sig.returnType = none) (hk : meth.locks = false) {S' : St} {k119 : St → Int32 → Int32 → Int64 → Int32 → Option St} (kk119 : ∀ (S : St) (x3 : Int32) (x4 : Int32) (x5 : Int64) (x7 : Int32) (H : Heap) (locs : List Loc) (ls : Array Slot), Wn Ym D T ρ S A s H locs → lv_has ls 8 [(0, .ref (ρ 0)), (3, .int x3), (4, .int x4), (5, .long x5), (7, .int x7)] → k119 S x3 x4 x5 x7 = some S' → W p l e (rmN 3 73) s m args below meth c H locs 0 0 (MQ below (Qv Ym D T ρ A S') args s 0 0 A) (F0 m 119 ls [])) (w : Wn Ym D T ρ S A s H locs) (hl : lv_has ls 8 [(0, .ref (ρ 0)), (3, .int x3), (4, .int x4), (5, .long x5), (7, .int x7)]) (h : b_inserts_119 g k119 S x3 x4 x5 x7 = some S') : W p l e (rmN 3 73) s m args below meth c H locs 0 0 (MQ below (Qv Ym D T ρ A S') args s 0 0 A) (F0 m 119 ls []) := by
  unfold b_inserts_119 at h
  refine lv_iload C.1 C.2.1 dX13_inserts_119 (lv_at hl 4 rfl) ?_
  refine lv_i2l C.1 C.2.1 dX13_inserts_121 rfl ?_
  refine lv_lload C.1 C.2.1 dX13_inserts_122 (lv_at hl 3 rfl) ?_
  refine x_l_lt (tgt := 165) C dX13_inserts_124 dX13_inserts_125 (by decide) (fun hc => ?_) (fun hc => ?_)
  · replace h := ift hc h
    refine lv_iconst (v := 0) C.1 C.2.1 dX13_inserts_165 (by decide) ?_
    refine lv_istore (lv' := [(7, .int (0 : Int32)), (0, .ref (ρ 0)), (3, .int x3), (4, .int x4), (5, .long x5)]) C.1 C.2.1 dX13_inserts_166 hl (by decide) rfl (fun ls hl => ?_)
    exact w_inserts_168 C hr hk g _ _ _ _ _ _ _ _ w (lv_sub hl [1, 2, 3, 4, 0] rfl) h
  · replace h := iff0 hc h
    refine lv_aload_n C.1 C.2.1 dX13_inserts_128 rfl (lv_at hl 0 rfl) ?_
    refine x_getC C w 30 fM211 obM rfl dX13_inserts_129 ?_
    refine lv_sipush (v := 400) C.1 C.2.1 dX13_inserts_132 (by decide) ?_
    refine lv_iload_n C.1 C.2.1 dX13_inserts_135 rfl (lv_at hl 1 rfl) ?_
    refine lv_imul C.1 C.2.1 dX13_inserts_136 ?_
    refine lv_iload C.1 C.2.1 dX13_inserts_137 (lv_at hl 4 rfl) ?_
    refine lv_iadd C.1 C.2.1 dX13_inserts_139 ?_
    refine lv_aload_n C.1 C.2.1 dX13_inserts_140 rfl (lv_at hl 0 rfl) ?_
    refine x_getI C w fM395 obM dX13_inserts_141 ?_
    refine lv_iadd C.1 C.2.1 dX13_inserts_144 ?_
    refine lv_aload_n C.1 C.2.1 dX13_inserts_145 rfl (lv_at hl 0 rfl) ?_
    refine x_getC C w 30 fM211 obM rfl dX13_inserts_146 ?_
    refine lv_sipush (v := 400) C.1 C.2.1 dX13_inserts_149 (by decide) ?_
    refine lv_iload_n C.1 C.2.1 dX13_inserts_152 rfl (lv_at hl 1 rfl) ?_
    refine lv_imul C.1 C.2.1 dX13_inserts_153 ?_
    refine lv_iload C.1 C.2.1 dX13_inserts_154 (lv_at hl 4 rfl) ?_
    refine lv_iadd C.1 C.2.1 dX13_inserts_156 ?_
    obtain ⟨v_9, hv_9, h⟩ := bnd h
    refine x_iald C w obM30 hv_9 dX13_inserts_157 ?_
    obtain ⟨S_10, hS_10, h⟩ := bnd h
    refine x_iast C w obM30 hS_10 dX13_inserts_158 (fun H locs w => ?_)
    obtain ⟨x7_11, ex7_11, h⟩ := lt_e h
    refine lv_iinc (v := x7_11) (lv' := [(7, .int x7_11), (0, .ref (ρ 0)), (3, .int x3), (4, .int x4), (5, .long x5)]) C.1 C.2.1 dX13_inserts_159 hl (k := 4) rfl (by rw [ex7_11]; rfl) (by decide) rfl (fun ls hl => ?_)
    refine lv_goto (tgt := 119) C.1 C.2.1 dX13_inserts_162 (by decide) ?_
    exact kk119 _ _ _ _ _ _ _ _ w (lv_sub hl [1, 2, 3, 4, 0] rfl) h
theorem w_inserts_119 {g : Nat} (C : CallFix p m c cX13_inserts 8 s args tb RX13) (hr : meth.sig.returnType = none) (hk : meth.locks = false) {S' : St} (n : Nat) : ∀ (S : St) (x3 : Int32) (x4 : Int32) (x5 : Int64) (x7 : Int32) (H : Heap) (locs : List Loc) (ls : Array Slot), Wn Ym D T ρ S A s H locs → lv_has ls 8 [(0, .ref (ρ 0)), (3, .int x3), (4, .int x4), (5, .long x5), (7, .int x7)] → m_inserts_119 g n S x3 x4 x5 x7 = some S' → W p l e (rmN 3 73) s m args below meth c H locs 0 0 (MQ below (Qv Ym D T ρ A S') args s 0 0 A) (F0 m 119 ls []) := by
  induction n with
  | zero => intro S x3 x4 x5 x7 H locs ls w hl h; exact absurd h (fun q => by cases q)
  | succ n ih => intro S x3 x4 x5 x7 H locs ls w hl h; exact wb_inserts_119 C hr hk ih w hl h
set_option maxRecDepth 100000 in
set_option maxHeartbeats 4000000 in
theorem w_inserts_89  {g : Nat} {S : St} {x3 : Int32} {x4 : Int32} {x5 : Int64} {y1 : Int32} (C : CallFix p m c cX13_inserts 8 s args tb RX13) (hr : meth.sig.returnType = none) (hk : meth.locks = false) {S' : St} (w : Wn Ym D T ρ S A s H locs) (hl : lv_has ls 8 [(0, .ref (ρ 0)), (3, .int x3), (4, .int x4), (5, .long x5)]) (h : m_inserts_89 g S x3 x4 x5 y1 = some S') : W p l e (rmN 3 73) s m args below meth c H locs 0 0 (MQ below (Qv Ym D T ρ A S') args s 0 0 A) (F0 m 89 ls [.int y1, .ref (ρ 0)]) := by
  unfold m_inserts_89 at h
  refine lv_iconst (v := 5) C.1 C.2.1 dX13_inserts_89 (by decide) ?_
  obtain ⟨S_6, hS_6, h⟩ := bnd h
  refine x_callVv (q := (RX13, TX13, 68)) (As := [.int y1, .int (5 : Int32)]) (rest := []) C w (k_refuse l D T ρ g H.size S hS_6) vM466 ⟨by decide, by decide⟩ obM (by decide) rfl rfl rfl hl.1 (Nat.le_of_ble_eq_true rfl) ⟨Nat.zero_le _, Nat.zero_le _⟩ dX13_inserts_90 (fun H locs w => ?_)
  refine lv_aload_n C.1 C.2.1 dX13_inserts_93 rfl (lv_at hl 0 rfl) ?_
  refine x_getI C w fM398 obM dX13_inserts_94 ?_
  refine lv_if_eq (tgt := 101) C.1 C.2.1 dX13_inserts_97 (by decide) (fun hc => ?_) (fun hc => ?_)
  · replace h := ift hc h
    refine lv_aload_n C.1 C.2.1 dX13_inserts_101 rfl (lv_at hl 0 rfl) ?_
    refine lv_iload_n C.1 C.2.1 dX13_inserts_102 rfl (lv_at hl 1 rfl) ?_
    refine lv_iload C.1 C.2.1 dX13_inserts_103 (lv_at hl 2 rfl) ?_
    refine lv_aload_n C.1 C.2.1 dX13_inserts_105 rfl (lv_at hl 0 rfl) ?_
    refine x_getI C w fM395 obM dX13_inserts_106 ?_
    refine lv_iadd C.1 C.2.1 dX13_inserts_109 ?_
    obtain ⟨S_7, hS_7, h⟩ := bnd h
    refine x_callVv (q := (RX13, TX13, 68)) (As := [.int x3, .int (x4 + (gI S_6 0 57))]) (rest := []) C w (k_grows l D T ρ g H.size S_6 hS_7) vM681 ⟨by decide, by decide⟩ obM (by decide) rfl rfl rfl hl.1 (Nat.le_of_ble_eq_true rfl) ⟨Nat.zero_le _, Nat.zero_le _⟩ dX13_inserts_110 (fun H locs w => ?_)
    refine lv_iload C.1 C.2.1 dX13_inserts_113 (lv_at hl 2 rfl) ?_
    refine lv_iconst (v := 1) C.1 C.2.1 dX13_inserts_115 (by decide) ?_
    refine lv_isub C.1 C.2.1 dX13_inserts_116 ?_
    obtain ⟨x7_8, ex7_8, h⟩ := lt_e h
    refine x_nm ex7_8 ?_
    refine lv_istore (lv' := [(7, .int x7_8), (0, .ref (ρ 0)), (3, .int x3), (4, .int x4), (5, .long x5)]) C.1 C.2.1 dX13_inserts_117 hl (by decide) rfl (fun ls hl => ?_)
    exact w_inserts_119 C hr hk g _ _ _ _ _ _ _ _ w (lv_sub hl [1, 2, 3, 4, 0] rfl) h
  · replace h := iff0 hc h
    obtain rfl := som h
    exact x_vret C w hr hk dX13_inserts_100
set_option maxRecDepth 100000 in
set_option maxHeartbeats 4000000 in
theorem w_inserts_67  {g : Nat} {S : St} {x3 : Int32} {x4 : Int32} {x5 : Int64} {y1 : Int32} (C : CallFix p m c cX13_inserts 8 s args tb RX13) (hr : meth.sig.returnType = none) (hk : meth.locks = false) {S' : St} (w : Wn Ym D T ρ S A s H locs) (hl : lv_has ls 8 [(0, .ref (ρ 0)), (3, .int x3), (4, .int x4), (5, .long x5)]) (h : m_inserts_67 g S x3 x4 x5 y1 = some S') : W p l e (rmN 3 73) s m args below meth c H locs 0 0 (MQ below (Qv Ym D T ρ A S') args s 0 0 A) (F0 m 67 ls [.int y1, .ref (ρ 0)]) := by
  unfold m_inserts_67 at h
  obtain ⟨S_5, hS_5, h⟩ := bnd h
  refine x_callVv (q := (RX13, TX13, 68)) (As := [.int y1]) (rest := []) C w (k_emitX l D T ρ g H.size S hS_5) vM564 ⟨by decide, by decide⟩ obM (by decide) rfl rfl rfl hl.1 (Nat.le_of_ble_eq_true rfl) ⟨Nat.zero_le _, Nat.zero_le _⟩ dX13_inserts_67 (fun H locs w => ?_)
  refine lv_aload_n C.1 C.2.1 dX13_inserts_70 rfl (lv_at hl 0 rfl) ?_
  refine lv_iload C.1 C.2.1 dX13_inserts_71 (lv_at hl 2 rfl) ?_
  refine lv_aload_n C.1 C.2.1 dX13_inserts_73 rfl (lv_at hl 0 rfl) ?_
  refine x_getI C w fM395 obM dX13_inserts_74 ?_
  refine lv_iadd C.1 C.2.1 dX13_inserts_77 ?_
  refine lv_sipush (v := 400) C.1 C.2.1 dX13_inserts_78 (by decide) ?_
  refine lv_icmp_le (tgt := 88) C.1 C.2.1 dX13_inserts_81 (by decide) (fun hc => ?_) (fun hc => ?_)
  · replace h := ift hc h
    refine lv_iconst (v := 0) C.1 C.2.1 dX13_inserts_88 (by decide) ?_
    exact w_inserts_89 C hr hk w (lv_sub hl [0, 1, 2, 3] rfl) h
  · replace h := iff0 hc h
    refine lv_iconst (v := 1) C.1 C.2.1 dX13_inserts_84 (by decide) ?_
    refine lv_goto (tgt := 89) C.1 C.2.1 dX13_inserts_85 (by decide) ?_
    exact w_inserts_89 C hr hk w (lv_sub hl [0, 1, 2, 3] rfl) h
set_option maxRecDepth 100000 in
set_option maxHeartbeats 4000000 in
theorem w_inserts_47  {g : Nat} {S : St} {x1 : Int32} {x2 : Int32} {x3 : Int32} {x4 : Int32} {x5 : Int64} {y1 : Int32} (C : CallFix p m c cX13_inserts 8 s args tb RX13) (hr : meth.sig.returnType = none) (hk : meth.locks = false) {S' : St} (w : Wn Ym D T ρ S A s H locs) (hl : lv_has ls 8 [(0, .ref (ρ 0)), (1, .int x1), (2, .int x2), (3, .int x3), (4, .int x4), (5, .long x5)]) (h : m_inserts_47 g S x1 x2 x3 x4 x5 y1 = some S') : W p l e (rmN 3 73) s m args below meth c H locs 0 0 (MQ below (Qv Ym D T ρ A S') args s 0 0 A) (F0 m 47 ls [.int y1, .ref (ρ 0)]) := by
  unfold m_inserts_47 at h
  refine lv_iconst (v := 1) C.1 C.2.1 dX13_inserts_47 (by decide) ?_
  obtain ⟨S_4, hS_4, h⟩ := bnd h
  refine x_callVv (q := (RX13, TX13, 68)) (As := [.int y1, .int (1 : Int32)]) (rest := []) C w (k_refuse l D T ρ g H.size S hS_4) vM466 ⟨by decide, by decide⟩ obM (by decide) rfl rfl rfl hl.1 (Nat.le_of_ble_eq_true rfl) ⟨Nat.zero_le _, Nat.zero_le _⟩ dX13_inserts_48 (fun H locs w => ?_)
  refine lv_aload_n C.1 C.2.1 dX13_inserts_51 rfl (lv_at hl 0 rfl) ?_
  refine lv_iload_n C.1 C.2.1 dX13_inserts_52 rfl (lv_at hl 1 rfl) ?_
  refine lv_bipush (v := 36) C.1 C.2.1 dX13_inserts_53 (by decide) ?_
  refine lv_icmp_ne (tgt := 64) C.1 C.2.1 dX13_inserts_55 (by decide) (fun hc => ?_) (fun hc => ?_)
  · replace h := iff0 hc h
    refine lv_iload_n C.1 C.2.1 dX13_inserts_64 rfl (lv_at hl 2 rfl) ?_
    refine lv_iconst (v := 2) C.1 C.2.1 dX13_inserts_65 (by decide) ?_
    refine lv_iadd C.1 C.2.1 dX13_inserts_66 ?_
    exact w_inserts_67 C hr hk w (lv_sub hl [0, 3, 4, 5] rfl) h
  · replace h := ift hc h
    refine lv_iload_n C.1 C.2.1 dX13_inserts_58 rfl (lv_at hl 2 rfl) ?_
    refine lv_iconst (v := 1) C.1 C.2.1 dX13_inserts_59 (by decide) ?_
    refine lv_iadd C.1 C.2.1 dX13_inserts_60 ?_
    refine lv_goto (tgt := 67) C.1 C.2.1 dX13_inserts_61 (by decide) ?_
    exact w_inserts_67 C hr hk w (lv_sub hl [0, 3, 4, 5] rfl) h
set_option maxRecDepth 100000 in
set_option maxHeartbeats 4000000 in
theorem w_inserts_27  {g : Nat} {S : St} {x1 : Int32} {x2 : Int32} {x3 : Int32} {x4 : Int32} {y0 : Int64} (C : CallFix p m c cX13_inserts 8 s args tb RX13) (hr : meth.sig.returnType = none) (hk : meth.locks = false) {S' : St} (w : Wn Ym D T ρ S A s H locs) (hl : lv_has ls 8 [(0, .ref (ρ 0)), (1, .int x1), (2, .int x2), (3, .int x3), (4, .int x4)]) (h : m_inserts_27 g S x1 x2 x3 x4 y0 = some S') : W p l e (rmN 3 73) s m args below meth c H locs 0 0 (MQ below (Qv Ym D T ρ A S') args s 0 0 A) (F0 m 27 ls [.long y0]) := by
  unfold m_inserts_27 at h
  refine lv_lstore (lv' := [(5, .long y0), (0, .ref (ρ 0)), (1, .int x1), (2, .int x2), (3, .int x3), (4, .int x4)]) C.1 C.2.1 dX13_inserts_27 hl (by decide) rfl (fun ls hl => ?_)
  refine lv_aload_n C.1 C.2.1 dX13_inserts_29 rfl (lv_at hl 1 rfl) ?_
  refine lv_lload C.1 C.2.1 dX13_inserts_30 (lv_at hl 0 rfl) ?_
  refine lv_lconst (v := 0) C.1 C.2.1 dX13_inserts_32 (by decide) ?_
  refine lv_iload C.1 C.2.1 dX13_inserts_33 (lv_at hl 5 rfl) ?_
  refine lv_i2l C.1 C.2.1 dX13_inserts_35 rfl ?_
  obtain ⟨v_3, hv_3, h⟩ := bnd h
  refine x_callSi (As := [.long y0, .long (0 : Int64), .long (x4.toInt64)]) (rest := [.ref (ρ 0)]) C w (k_isIn l D T ρ g H.size S hv_3) vM318 ⟨by decide, by decide⟩ rfl rfl hl.1 (Nat.le_of_ble_eq_true rfl) ⟨Nat.zero_le _, Nat.zero_le _⟩ dX13_inserts_36 (fun H locs w => ?_)
  refine lv_if_ne (tgt := 46) C.1 C.2.1 dX13_inserts_39 (by decide) (fun hc => ?_) (fun hc => ?_)
  · replace h := iff0 hc h
    refine lv_iconst (v := 0) C.1 C.2.1 dX13_inserts_46 (by decide) ?_
    exact w_inserts_47 C hr hk w (lv_sub hl [1, 2, 3, 4, 5, 0] rfl) h
  · replace h := ift hc h
    refine lv_iconst (v := 1) C.1 C.2.1 dX13_inserts_42 (by decide) ?_
    refine lv_goto (tgt := 47) C.1 C.2.1 dX13_inserts_43 (by decide) ?_
    exact w_inserts_47 C hr hk w (lv_sub hl [1, 2, 3, 4, 5, 0] rfl) h
set_option maxRecDepth 100000 in
set_option maxHeartbeats 4000000 in
theorem w_inserts_0  {g : Nat} {S : St} {x1 : Int32} {x2 : Int32} {x3 : Int32} (C : CallFix p m c cX13_inserts 8 s args tb RX13) (hr : meth.sig.returnType = none) (hk : meth.locks = false) {S' : St} (w : Wn Ym D T ρ S A s H locs) (hl : lv_has ls 8 [(0, .ref (ρ 0)), (1, .int x1), (2, .int x2), (3, .int x3)]) (h : m_inserts g S x1 x2 x3 = some S') : W p l e (rmN 3 73) s m args below meth c H locs 0 0 (MQ below (Qv Ym D T ρ A S') args s 0 0 A) (F0 m 0 ls []) := by
  unfold m_inserts at h
  refine lv_aload_n C.1 C.2.1 dX13_inserts_0 rfl (lv_at hl 0 rfl) ?_
  refine x_getC C w 28 fM205 obM rfl dX13_inserts_1 ?_
  refine lv_iload_n C.1 C.2.1 dX13_inserts_4 rfl (lv_at hl 3 rfl) ?_
  obtain ⟨v_1, hv_1, h⟩ := bnd h
  refine x_iald C w obM28 hv_1 dX13_inserts_5 ?_
  refine lv_istore (lv' := [(4, .int v_1), (0, .ref (ρ 0)), (1, .int x1), (2, .int x2), (3, .int x3)]) C.1 C.2.1 dX13_inserts_6 hl (by decide) rfl (fun ls hl => ?_)
  refine lv_iload_n C.1 C.2.1 dX13_inserts_8 rfl (lv_at hl 2 rfl) ?_
  refine lv_bipush (v := 36) C.1 C.2.1 dX13_inserts_9 (by decide) ?_
  refine lv_icmp_ne (tgt := 20) C.1 C.2.1 dX13_inserts_11 (by decide) (fun hc => ?_) (fun hc => ?_)
  · replace h := iff0 hc h
    refine lv_aload_n C.1 C.2.1 dX13_inserts_20 rfl (lv_at hl 1 rfl) ?_
    refine lv_iload_n C.1 C.2.1 dX13_inserts_21 rfl (lv_at hl 3 rfl) ?_
    refine lv_iconst (v := 1) C.1 C.2.1 dX13_inserts_22 (by decide) ?_
    refine lv_iadd C.1 C.2.1 dX13_inserts_23 ?_
    obtain ⟨v_2, hv_2, h⟩ := bnd h
    refine x_callVj (q := (RX13, TX13, 68)) (As := [.int (x2 + (1 : Int32))]) (rest := []) C w (k_value l D T ρ g H.size S hv_2) vM459 ⟨by decide, by decide⟩ obM (by decide) rfl rfl rfl hl.1 (Nat.le_of_ble_eq_true rfl) ⟨Nat.zero_le _, Nat.zero_le _⟩ dX13_inserts_24 (fun H locs w => ?_)
    exact w_inserts_27 C hr hk w (lv_sub hl [1, 2, 3, 4, 0] rfl) h
  · replace h := ift hc h
    refine lv_iload C.1 C.2.1 dX13_inserts_14 (lv_at hl 0 rfl) ?_
    refine lv_i2l C.1 C.2.1 dX13_inserts_16 rfl ?_
    refine lv_goto (tgt := 27) C.1 C.2.1 dX13_inserts_17 (by decide) ?_
    exact w_inserts_27 C hr hk w (lv_sub hl [1, 2, 3, 4, 0] rfl) h
end S_inserts
set_option maxRecDepth 100000 in
theorem k_inserts (l : Launch) (D : va_G) (T : Cy) (ρ : Nat → Nat) (g sz : Nat) (S : St) {x1 : Int32} {x2 : Int32} {x3 : Int32} {S' : St} (h : m_inserts g S x1 x2 x3 = some S') : Mv l Ym D T ρ yX13_inserts cX13_inserts 8 none 3 73 S S' [.ref (ρ 0), .int x1, .int x2, .int x3] sz :=
  x_in (by decide) (Nat.le_of_ble_eq_true rfl) (fun p e s m below meth c ls C hr hk w hl => w_inserts_0 C hr hk w hl h)

theorem dX13_textAt_0 : decode cX13_textAt 0 = .ok (.aload_n 0, 1) := by decide +kernel
theorem dX13_textAt_1 : decode cX13_textAt 1 = .ok (.iload_n 1, 1) := by decide +kernel
theorem dX13_textAt_2 : decode cX13_textAt 2 = .ok (.invokevirtual 463, 3) := by decide +kernel
theorem dX13_textAt_5 : decode cX13_textAt 5 = .ok (.istore_n 2, 1) := by decide +kernel
theorem dX13_textAt_6 : decode cX13_textAt 6 = .ok (.aload_n 0, 1) := by decide +kernel
theorem dX13_textAt_7 : decode cX13_textAt 7 = .ok (.iload_n 2, 1) := by decide +kernel
theorem dX13_textAt_8 : decode cX13_textAt 8 = .ok (.ifCond .ge 7, 3) := by decide +kernel
theorem dX13_textAt_11 : decode cX13_textAt 11 = .ok (.iconst 1, 1) := by decide +kernel
theorem dX13_textAt_12 : decode cX13_textAt 12 = .ok (.goto 4, 3) := by decide +kernel
theorem dX13_textAt_15 : decode cX13_textAt 15 = .ok (.iconst 0, 1) := by decide +kernel
theorem dX13_textAt_16 : decode cX13_textAt 16 = .ok (.iconst 4, 1) := by decide +kernel
theorem dX13_textAt_17 : decode cX13_textAt 17 = .ok (.invokevirtual 466, 3) := by decide +kernel
theorem dX13_textAt_20 : decode cX13_textAt 20 = .ok (.iload_n 2, 1) := by decide +kernel
theorem dX13_textAt_21 : decode cX13_textAt 21 = .ok (.ifCond .ge 7, 3) := by decide +kernel
theorem dX13_textAt_24 : decode cX13_textAt 24 = .ok (.iconst 0, 1) := by decide +kernel
theorem dX13_textAt_25 : decode cX13_textAt 25 = .ok (.goto 4, 3) := by decide +kernel
theorem dX13_textAt_28 : decode cX13_textAt 28 = .ok (.iload_n 2, 1) := by decide +kernel
theorem dX13_textAt_29 : decode cX13_textAt 29 = .ok (.ireturn, 1) := by decide +kernel
def m_textAt_16 (g : Nat) (S : St) (x2 : Int32) (y1 : Int32) : Option (St × Int32) :=
(m_refuse g S y1 (4 : Int32)).bind fun S_2 =>
if 0 ≤ x2 then (
  some (S_2, x2)
) else (
  some (S_2, (0 : Int32))
)
def m_textAt (g : Nat) (S : St) (x1 : Int32) : Option (St × Int32) :=
(m_text g S x1).bind fun v_1 =>
if 0 ≤ v_1 then (
  m_textAt_16 g S v_1 (0 : Int32)
) else (
  m_textAt_16 g S v_1 (1 : Int32)
)
section S_textAt
variable {p : Program} {l : Launch} {e : Env} {s : State} {m : MethodId} {args : Array Value} {below : List Frame} {meth : Method} {c : Code} {H : Heap} {locs : List Loc} {ls : Array Slot} {D : va_G} {T : Cy} {ρ : Nat → Nat} {A : Nat → Prop}
set_option maxRecDepth 100000 in
set_option maxHeartbeats 4000000 in
theorem w_textAt_16  {g : Nat} {S : St} {x2 : Int32} {y1 : Int32} (C : CallFix p m c cX13_textAt 3 s args tb RX13) (hr : meth.sig.returnType = (some .int)) (hk : meth.locks = false) {S' : St} {r : Int32} (w : Wn Ym D T ρ S A s H locs) (hl : lv_has ls 3 [(2, .int x2)]) (h : m_textAt_16 g S x2 y1 = some (S', r)) : W p l e (rmN 1 22) s m args below meth c H locs 0 0 (MQ below (Qi Ym D T ρ A S' r) args s 0 0 A) (F0 m 16 ls [.int y1, .ref (ρ 0)]) := by
  unfold m_textAt_16 at h
  refine lv_iconst (v := 4) C.1 C.2.1 dX13_textAt_16 (by decide) ?_
  obtain ⟨S_2, hS_2, h⟩ := bnd h
  refine x_callVv (q := (RX13, TX13, 68)) (As := [.int y1, .int (4 : Int32)]) (rest := []) C w (k_refuse l D T ρ g H.size S hS_2) vM466 ⟨by decide, by decide⟩ obM (by decide) rfl rfl rfl hl.1 (Nat.le_of_ble_eq_true rfl) ⟨Nat.zero_le _, Nat.zero_le _⟩ dX13_textAt_17 (fun H locs w => ?_)
  refine lv_iload_n C.1 C.2.1 dX13_textAt_20 rfl (lv_at hl 0 rfl) ?_
  refine lv_if_ge (tgt := 28) C.1 C.2.1 dX13_textAt_21 (by decide) (fun hc => ?_) (fun hc => ?_)
  · replace h := ift hc h
    refine lv_iload_n C.1 C.2.1 dX13_textAt_28 rfl (lv_at hl 0 rfl) ?_
    obtain ⟨rfl, rfl⟩ := prI h
    exact x_iret C w hr hk dX13_textAt_29
  · replace h := iff0 hc h
    refine lv_iconst (v := 0) C.1 C.2.1 dX13_textAt_24 (by decide) ?_
    refine lv_goto (tgt := 29) C.1 C.2.1 dX13_textAt_25 (by decide) ?_
    obtain ⟨rfl, rfl⟩ := prI h
    exact x_iret C w hr hk dX13_textAt_29
set_option maxRecDepth 100000 in
set_option maxHeartbeats 4000000 in
theorem w_textAt_0  {g : Nat} {S : St} {x1 : Int32} (C : CallFix p m c cX13_textAt 3 s args tb RX13) (hr : meth.sig.returnType = (some .int)) (hk : meth.locks = false) {S' : St} {r : Int32} (w : Wn Ym D T ρ S A s H locs) (hl : lv_has ls 3 [(0, .ref (ρ 0)), (1, .int x1)]) (h : m_textAt g S x1 = some (S', r)) : W p l e (rmN 1 22) s m args below meth c H locs 0 0 (MQ below (Qi Ym D T ρ A S' r) args s 0 0 A) (F0 m 0 ls []) := by
  unfold m_textAt at h
  refine lv_aload_n C.1 C.2.1 dX13_textAt_0 rfl (lv_at hl 0 rfl) ?_
  refine lv_iload_n C.1 C.2.1 dX13_textAt_1 rfl (lv_at hl 1 rfl) ?_
  obtain ⟨v_1, hv_1, h⟩ := bnd h
  refine x_callVi (q := (RX13, TX13, 68)) (As := [.int x1]) (rest := []) C w (k_text l D T ρ g H.size S hv_1) vM463 ⟨by decide, by decide⟩ obM (by decide) rfl rfl rfl hl.1 (Nat.le_of_ble_eq_true rfl) ⟨Nat.zero_le _, Nat.zero_le _⟩ dX13_textAt_2 (fun H locs w => ?_)
  refine lv_istore_n (lv' := [(2, .int v_1), (0, .ref (ρ 0)), (1, .int x1)]) C.1 C.2.1 dX13_textAt_5 rfl hl (by decide) rfl (fun ls hl => ?_)
  refine lv_aload_n C.1 C.2.1 dX13_textAt_6 rfl (lv_at hl 1 rfl) ?_
  refine lv_iload_n C.1 C.2.1 dX13_textAt_7 rfl (lv_at hl 0 rfl) ?_
  refine lv_if_ge (tgt := 15) C.1 C.2.1 dX13_textAt_8 (by decide) (fun hc => ?_) (fun hc => ?_)
  · replace h := ift hc h
    refine lv_iconst (v := 0) C.1 C.2.1 dX13_textAt_15 (by decide) ?_
    exact w_textAt_16 C hr hk w (lv_sub hl [0] rfl) h
  · replace h := iff0 hc h
    refine lv_iconst (v := 1) C.1 C.2.1 dX13_textAt_11 (by decide) ?_
    refine lv_goto (tgt := 16) C.1 C.2.1 dX13_textAt_12 (by decide) ?_
    exact w_textAt_16 C hr hk w (lv_sub hl [0] rfl) h
end S_textAt
set_option maxRecDepth 100000 in
theorem k_textAt (l : Launch) (D : va_G) (T : Cy) (ρ : Nat → Nat) (g sz : Nat) (S : St) {x1 : Int32} {S' : St} {r : Int32} (h : m_textAt g S x1 = some (S', r)) : Mi l Ym D T ρ yX13_textAt cX13_textAt 3 (some .int) 1 22 S S' r [.ref (ρ 0), .int x1] sz :=
  x_in (by decide) (Nat.le_of_ble_eq_true rfl) (fun p e s m below meth c ls C hr hk w hl => w_textAt_0 C hr hk w hl h)

theorem dX13_opensBuilder_0 : decode cX13_opensBuilder 0 = .ok (.iload_n 1, 1) := by decide +kernel
theorem dX13_opensBuilder_1 : decode cX13_opensBuilder 1 = .ok (.bipush 35, 2) := by decide +kernel
theorem dX13_opensBuilder_3 : decode cX13_opensBuilder 3 = .ok (.if_icmp .ne 13, 3) := by decide +kernel
theorem dX13_opensBuilder_6 : decode cX13_opensBuilder 6 = .ok (.aload_n 0, 1) := by decide +kernel
theorem dX13_opensBuilder_7 : decode cX13_opensBuilder 7 = .ok (.iload_n 2, 1) := by decide +kernel
theorem dX13_opensBuilder_8 : decode cX13_opensBuilder 8 = .ok (.iconst 1, 1) := by decide +kernel
theorem dX13_opensBuilder_9 : decode cX13_opensBuilder 9 = .ok (.iadd, 1) := by decide +kernel
theorem dX13_opensBuilder_10 : decode cX13_opensBuilder 10 = .ok (.invokevirtual 558, 3) := by decide +kernel
theorem dX13_opensBuilder_13 : decode cX13_opensBuilder 13 = .ok (.goto 4, 3) := by decide +kernel
theorem dX13_opensBuilder_16 : decode cX13_opensBuilder 16 = .ok (.iconst 0, 1) := by decide +kernel
theorem dX13_opensBuilder_17 : decode cX13_opensBuilder 17 = .ok (.istore 4, 2) := by decide +kernel
theorem dX13_opensBuilder_19 : decode cX13_opensBuilder 19 = .ok (.iload_n 1, 1) := by decide +kernel
theorem dX13_opensBuilder_20 : decode cX13_opensBuilder 20 = .ok (.bipush 34, 2) := by decide +kernel
theorem dX13_opensBuilder_22 : decode cX13_opensBuilder 22 = .ok (.if_icmp .ne 13, 3) := by decide +kernel
theorem dX13_opensBuilder_25 : decode cX13_opensBuilder 25 = .ok (.aload_n 0, 1) := by decide +kernel
theorem dX13_opensBuilder_26 : decode cX13_opensBuilder 26 = .ok (.iload_n 2, 1) := by decide +kernel
theorem dX13_opensBuilder_27 : decode cX13_opensBuilder 27 = .ok (.iconst 1, 1) := by decide +kernel
theorem dX13_opensBuilder_28 : decode cX13_opensBuilder 28 = .ok (.iadd, 1) := by decide +kernel
theorem dX13_opensBuilder_29 : decode cX13_opensBuilder 29 = .ok (.invokevirtual 459, 3) := by decide +kernel
theorem dX13_opensBuilder_32 : decode cX13_opensBuilder 32 = .ok (.goto 15, 3) := by decide +kernel
theorem dX13_opensBuilder_35 : decode cX13_opensBuilder 35 = .ok (.aload_n 0, 1) := by decide +kernel
theorem dX13_opensBuilder_36 : decode cX13_opensBuilder 36 = .ok (.getfield 193, 3) := by decide +kernel
theorem dX13_opensBuilder_39 : decode cX13_opensBuilder 39 = .ok (.iload 4, 2) := by decide +kernel
theorem dX13_opensBuilder_41 : decode cX13_opensBuilder 41 = .ok (.iaload, 1) := by decide +kernel
theorem dX13_opensBuilder_42 : decode cX13_opensBuilder 42 = .ok (.i2l, 1) := by decide +kernel
theorem dX13_opensBuilder_43 : decode cX13_opensBuilder 43 = .ok (.ldc2_w 677, 3) := by decide +kernel
theorem dX13_opensBuilder_46 : decode cX13_opensBuilder 46 = .ok (.ladd, 1) := by decide +kernel
theorem dX13_opensBuilder_47 : decode cX13_opensBuilder 47 = .ok (.lstore 5, 2) := by decide +kernel
theorem dX13_opensBuilder_49 : decode cX13_opensBuilder 49 = .ok (.aload_n 0, 1) := by decide +kernel
theorem dX13_opensBuilder_50 : decode cX13_opensBuilder 50 = .ok (.iload_n 1, 1) := by decide +kernel
theorem dX13_opensBuilder_51 : decode cX13_opensBuilder 51 = .ok (.bipush 34, 2) := by decide +kernel
theorem dX13_opensBuilder_53 : decode cX13_opensBuilder 53 = .ok (.if_icmp .ne 19, 3) := by decide +kernel
theorem dX13_opensBuilder_56 : decode cX13_opensBuilder 56 = .ok (.lload 5, 2) := by decide +kernel
theorem dX13_opensBuilder_58 : decode cX13_opensBuilder 58 = .ok (.lconst 0, 1) := by decide +kernel
theorem dX13_opensBuilder_59 : decode cX13_opensBuilder 59 = .ok (.ldc2_w 679, 3) := by decide +kernel
theorem dX13_opensBuilder_62 : decode cX13_opensBuilder 62 = .ok (.invokestatic 318, 3) := by decide +kernel
theorem dX13_opensBuilder_65 : decode cX13_opensBuilder 65 = .ok (.ifCond .ne 7, 3) := by decide +kernel
theorem dX13_opensBuilder_68 : decode cX13_opensBuilder 68 = .ok (.iconst 1, 1) := by decide +kernel
theorem dX13_opensBuilder_69 : decode cX13_opensBuilder 69 = .ok (.goto 4, 3) := by decide +kernel
theorem dX13_opensBuilder_72 : decode cX13_opensBuilder 72 = .ok (.iconst 0, 1) := by decide +kernel
theorem dX13_opensBuilder_73 : decode cX13_opensBuilder 73 = .ok (.iconst 3, 1) := by decide +kernel
theorem dX13_opensBuilder_74 : decode cX13_opensBuilder 74 = .ok (.invokevirtual 466, 3) := by decide +kernel
theorem dX13_opensBuilder_77 : decode cX13_opensBuilder 77 = .ok (.aload_n 0, 1) := by decide +kernel
theorem dX13_opensBuilder_78 : decode cX13_opensBuilder 78 = .ok (.getfield 398, 3) := by decide +kernel
theorem dX13_opensBuilder_81 : decode cX13_opensBuilder 81 = .ok (.ifCond .eq 4, 3) := by decide +kernel
theorem dX13_opensBuilder_84 : decode cX13_opensBuilder 84 = .ok (.return_, 1) := by decide +kernel
theorem dX13_opensBuilder_85 : decode cX13_opensBuilder 85 = .ok (.aload_n 0, 1) := by decide +kernel
theorem dX13_opensBuilder_86 : decode cX13_opensBuilder 86 = .ok (.getfield 205, 3) := by decide +kernel
theorem dX13_opensBuilder_89 : decode cX13_opensBuilder 89 = .ok (.iload_n 3, 1) := by decide +kernel
theorem dX13_opensBuilder_90 : decode cX13_opensBuilder 90 = .ok (.iload_n 1, 1) := by decide +kernel
theorem dX13_opensBuilder_91 : decode cX13_opensBuilder 91 = .ok (.bipush 34, 2) := by decide +kernel
theorem dX13_opensBuilder_93 : decode cX13_opensBuilder 93 = .ok (.if_icmp .ne 7, 3) := by decide +kernel
theorem dX13_opensBuilder_96 : decode cX13_opensBuilder 96 = .ok (.iconst 0, 1) := by decide +kernel
theorem dX13_opensBuilder_97 : decode cX13_opensBuilder 97 = .ok (.goto 10, 3) := by decide +kernel
theorem dX13_opensBuilder_100 : decode cX13_opensBuilder 100 = .ok (.aload_n 0, 1) := by decide +kernel
theorem dX13_opensBuilder_101 : decode cX13_opensBuilder 101 = .ok (.getfield 193, 3) := by decide +kernel
theorem dX13_opensBuilder_104 : decode cX13_opensBuilder 104 = .ok (.iload 4, 2) := by decide +kernel
theorem dX13_opensBuilder_106 : decode cX13_opensBuilder 106 = .ok (.iaload, 1) := by decide +kernel
theorem dX13_opensBuilder_107 : decode cX13_opensBuilder 107 = .ok (.iastore, 1) := by decide +kernel
theorem dX13_opensBuilder_108 : decode cX13_opensBuilder 108 = .ok (.aload_n 0, 1) := by decide +kernel
theorem dX13_opensBuilder_109 : decode cX13_opensBuilder 109 = .ok (.getfield 208, 3) := by decide +kernel
theorem dX13_opensBuilder_112 : decode cX13_opensBuilder 112 = .ok (.iload_n 3, 1) := by decide +kernel
theorem dX13_opensBuilder_113 : decode cX13_opensBuilder 113 = .ok (.lload 5, 2) := by decide +kernel
theorem dX13_opensBuilder_115 : decode cX13_opensBuilder 115 = .ok (.l2i, 1) := by decide +kernel
theorem dX13_opensBuilder_116 : decode cX13_opensBuilder 116 = .ok (.iastore, 1) := by decide +kernel
theorem dX13_opensBuilder_117 : decode cX13_opensBuilder 117 = .ok (.iconst 0, 1) := by decide +kernel
theorem dX13_opensBuilder_118 : decode cX13_opensBuilder 118 = .ok (.istore 7, 2) := by decide +kernel
theorem dX13_opensBuilder_120 : decode cX13_opensBuilder 120 = .ok (.iload 7, 2) := by decide +kernel
theorem dX13_opensBuilder_122 : decode cX13_opensBuilder 122 = .ok (.aload_n 0, 1) := by decide +kernel
theorem dX13_opensBuilder_123 : decode cX13_opensBuilder 123 = .ok (.getfield 205, 3) := by decide +kernel
theorem dX13_opensBuilder_126 : decode cX13_opensBuilder 126 = .ok (.iload_n 3, 1) := by decide +kernel
theorem dX13_opensBuilder_127 : decode cX13_opensBuilder 127 = .ok (.iaload, 1) := by decide +kernel
theorem dX13_opensBuilder_128 : decode cX13_opensBuilder 128 = .ok (.if_icmp .ge 30, 3) := by decide +kernel
theorem dX13_opensBuilder_131 : decode cX13_opensBuilder 131 = .ok (.aload_n 0, 1) := by decide +kernel
theorem dX13_opensBuilder_132 : decode cX13_opensBuilder 132 = .ok (.getfield 211, 3) := by decide +kernel
theorem dX13_opensBuilder_135 : decode cX13_opensBuilder 135 = .ok (.sipush 400, 3) := by decide +kernel
theorem dX13_opensBuilder_138 : decode cX13_opensBuilder 138 = .ok (.iload_n 3, 1) := by decide +kernel
theorem dX13_opensBuilder_139 : decode cX13_opensBuilder 139 = .ok (.imul, 1) := by decide +kernel
theorem dX13_opensBuilder_140 : decode cX13_opensBuilder 140 = .ok (.iload 7, 2) := by decide +kernel
theorem dX13_opensBuilder_142 : decode cX13_opensBuilder 142 = .ok (.iadd, 1) := by decide +kernel
theorem dX13_opensBuilder_143 : decode cX13_opensBuilder 143 = .ok (.aload_n 0, 1) := by decide +kernel
theorem dX13_opensBuilder_144 : decode cX13_opensBuilder 144 = .ok (.iload 4, 2) := by decide +kernel
theorem dX13_opensBuilder_146 : decode cX13_opensBuilder 146 = .ok (.iload 7, 2) := by decide +kernel
theorem dX13_opensBuilder_148 : decode cX13_opensBuilder 148 = .ok (.invokevirtual 470, 3) := by decide +kernel
theorem dX13_opensBuilder_151 : decode cX13_opensBuilder 151 = .ok (.iastore, 1) := by decide +kernel
theorem dX13_opensBuilder_152 : decode cX13_opensBuilder 152 = .ok (.iinc 7 1, 3) := by decide +kernel
theorem dX13_opensBuilder_155 : decode cX13_opensBuilder 155 = .ok (.goto (-35), 3) := by decide +kernel
theorem dX13_opensBuilder_158 : decode cX13_opensBuilder 158 = .ok (.return_, 1) := by decide +kernel
def b_opensBuilder_120 (g : Nat) (k120 : St → Int32 → Int32 → Int32 → Option St) (S : St) (x3 : Int32) (x4 : Int32) (x7 : Int32) : Option St :=
(aI S 28 x3).bind fun v_6 =>
if v_6 ≤ x7 then (
  some S
) else (
  (m_unitAt g S x4 x7).bind fun v_7 =>
  (tI S 30 (((400 : Int32) * x3) + x7) v_7).bind fun S_8 =>
  lt (x7 + (1 : Int32)) fun x7_9 =>
  k120 S_8 x3 x4 x7_9
)
def m_opensBuilder_120 (g : Nat) : Nat → St → Int32 → Int32 → Int32 → Option St
  | 0, _, _, _, _ => none
  | n + 1, S, x3, x4, x7 => b_opensBuilder_120 g (m_opensBuilder_120 g n) S x3 x4 x7
def m_opensBuilder_107 (g : Nat) (S : St) (x3 : Int32) (x4 : Int32) (x5 : Int64) (y1 : Int32) (y2 : Int32) : Option St :=
(tI S 28 y1 y2).bind fun S_4 =>
(tI S_4 29 x3 (x5.toInt32)).bind fun S_5 =>
m_opensBuilder_120 g g S_5 x3 x4 (0 : Int32)
def m_opensBuilder_73 (g : Nat) (S : St) (x1 : Int32) (x3 : Int32) (x4 : Int32) (x5 : Int64) (y1 : Int32) : Option St :=
(m_refuse g S y1 (3 : Int32)).bind fun S_2 =>
if (gI S_2 0 58) = 0 then (
  if x1 = (34 : Int32) then (
    m_opensBuilder_107 g S_2 x3 x4 x5 x3 (0 : Int32)
  ) else (
    (aI S_2 24 x4).bind fun v_3 =>
    m_opensBuilder_107 g S_2 x3 x4 x5 x3 v_3
  )
) else (
  some S_2
)
def m_opensBuilder_72 (g : Nat) (S : St) (x1 : Int32) (x3 : Int32) (x4 : Int32) (x5 : Int64) : Option St :=
m_opensBuilder_73 g S x1 x3 x4 x5 (0 : Int32)
def m_opensBuilder_47 (g : Nat) (S : St) (x1 : Int32) (x3 : Int32) (x4 : Int32) (y0 : Int64) : Option St :=
if x1 = (34 : Int32) then (
  (m_isIn g y0 (0 : Int64) (400 : Int64)).bind fun v_2 =>
  if v_2 = 0 then (
    m_opensBuilder_73 g S x1 x3 x4 y0 (1 : Int32)
  ) else (
    m_opensBuilder_72 g S x1 x3 x4 y0
  )
) else (
  m_opensBuilder_72 g S x1 x3 x4 y0
)
def m_opensBuilder_17 (g : Nat) (S : St) (x1 : Int32) (x2 : Int32) (x3 : Int32) (y0 : Int32) : Option St :=
if x1 = (34 : Int32) then (
  (m_value g S (x2 + (1 : Int32))).bind fun v_2 =>
  m_opensBuilder_47 g S x1 x3 y0 v_2
) else (
  (aI S 24 y0).bind fun v_1 =>
  m_opensBuilder_47 g S x1 x3 y0 ((v_1.toInt64) + (16 : Int64))
)
def m_opensBuilder (g : Nat) (S : St) (x1 : Int32) (x2 : Int32) (x3 : Int32) : Option St :=
if x1 = (35 : Int32) then (
  (m_textAt g S (x2 + (1 : Int32))).bind fun (S_1, v_2) =>
  m_opensBuilder_17 g S_1 x1 x2 x3 v_2
) else (
  m_opensBuilder_17 g S x1 x2 x3 (0 : Int32)
)
section S_opensBuilder
variable {p : Program} {l : Launch} {e : Env} {s : State} {m : MethodId} {args : Array Value} {below : List Frame} {meth : Method} {c : Code} {H : Heap} {locs : List Loc} {ls : Array Slot} {D : va_G} {T : Cy} {ρ : Nat → Nat} {A : Nat → Prop}
set_option maxRecDepth 100000 in
set_option maxHeartbeats 4000000 in
theorem wb_opensBuilder_120  {g : Nat} {S : St} {x3 : Int32} {x4 : Int32} {x7 : Int32} (C : CallFix p m c cX13_opensBuilder 8 s args tb RX13) (hr : meth.sig.returnType = none) (hk : meth.locks = false) {S' : St} {k120 : St → Int32 → Int32 → Int32 → Option St} (kk120 : ∀ (S : St) (x3 : Int32) (x4 : Int32) (x7 : Int32) (H : Heap) (locs : List Loc) (ls : Array Slot), Wn Ym D T ρ S A s H locs → lv_has ls 8 [(0, .ref (ρ 0)), (3, .int x3), (4, .int x4), (7, .int x7)] → k120 S x3 x4 x7 = some S' → W p l e (rmN 2 44) s m args below meth c H locs 0 0 (MQ below (Qv Ym D T ρ A S') args s 0 0 A) (F0 m 120 ls [])) (w : Wn Ym D T ρ S A s H locs) (hl : lv_has ls 8 [(0, .ref (ρ 0)), (3, .int x3), (4, .int x4), (7, .int x7)]) (h : b_opensBuilder_120 g k120 S x3 x4 x7 = some S') : W p l e (rmN 2 44) s m args below meth c H locs 0 0 (MQ below (Qv Ym D T ρ A S') args s 0 0 A) (F0 m 120 ls []) := by
  unfold b_opensBuilder_120 at h
  refine lv_iload C.1 C.2.1 dX13_opensBuilder_120 (lv_at hl 3 rfl) ?_
  refine lv_aload_n C.1 C.2.1 dX13_opensBuilder_122 rfl (lv_at hl 0 rfl) ?_
  refine x_getC C w 28 fM205 obM rfl dX13_opensBuilder_123 ?_
  refine lv_iload_n C.1 C.2.1 dX13_opensBuilder_126 rfl (lv_at hl 1 rfl) ?_
  obtain ⟨v_6, hv_6, h⟩ := bnd h
  refine x_iald C w obM28 hv_6 dX13_opensBuilder_127 ?_
  refine lv_icmp_ge (tgt := 158) C.1 C.2.1 dX13_opensBuilder_128 (by decide) (fun hc => ?_) (fun hc => ?_)
  · replace h := ift hc h
    obtain rfl := som h
    exact x_vret C w hr hk dX13_opensBuilder_158
  · replace h := iff0 hc h
    refine lv_aload_n C.1 C.2.1 dX13_opensBuilder_131 rfl (lv_at hl 0 rfl) ?_
    refine x_getC C w 30 fM211 obM rfl dX13_opensBuilder_132 ?_
    refine lv_sipush (v := 400) C.1 C.2.1 dX13_opensBuilder_135 (by decide) ?_
    refine lv_iload_n C.1 C.2.1 dX13_opensBuilder_138 rfl (lv_at hl 1 rfl) ?_
    refine lv_imul C.1 C.2.1 dX13_opensBuilder_139 ?_
    refine lv_iload C.1 C.2.1 dX13_opensBuilder_140 (lv_at hl 3 rfl) ?_
    refine lv_iadd C.1 C.2.1 dX13_opensBuilder_142 ?_
    refine lv_aload_n C.1 C.2.1 dX13_opensBuilder_143 rfl (lv_at hl 0 rfl) ?_
    refine lv_iload C.1 C.2.1 dX13_opensBuilder_144 (lv_at hl 2 rfl) ?_
    refine lv_iload C.1 C.2.1 dX13_opensBuilder_146 (lv_at hl 3 rfl) ?_
    obtain ⟨v_7, hv_7, h⟩ := bnd h
    refine x_callVi (q := (RX13, TX13, 68)) (As := [.int x4, .int x7]) (rest := [.int (((400 : Int32) * x3) + x7), .ref (ρ 30)]) C w (k_unitAt l D T ρ g H.size S hv_7) vM470 ⟨by decide, by decide⟩ obM (by decide) rfl rfl rfl hl.1 (Nat.le_of_ble_eq_true rfl) ⟨Nat.zero_le _, Nat.zero_le _⟩ dX13_opensBuilder_148 (fun H locs w => ?_)
    obtain ⟨S_8, hS_8, h⟩ := bnd h
    refine x_iast C w obM30 hS_8 dX13_opensBuilder_151 (fun H locs w => ?_)
    obtain ⟨x7_9, ex7_9, h⟩ := lt_e h
    refine lv_iinc (v := x7_9) (lv' := [(7, .int x7_9), (0, .ref (ρ 0)), (3, .int x3), (4, .int x4)]) C.1 C.2.1 dX13_opensBuilder_152 hl (k := 3) rfl (by rw [ex7_9]; rfl) (by decide) rfl (fun ls hl => ?_)
    refine lv_goto (tgt := 120) C.1 C.2.1 dX13_opensBuilder_155 (by decide) ?_
    exact kk120 _ _ _ _ _ _ _ w (lv_sub hl [1, 2, 3, 0] rfl) h
theorem w_opensBuilder_120 {g : Nat} (C : CallFix p m c cX13_opensBuilder 8 s args tb RX13) (hr : meth.sig.returnType = none) (hk : meth.locks = false) {S' : St} (n : Nat) : ∀ (S : St) (x3 : Int32) (x4 : Int32) (x7 : Int32) (H : Heap) (locs : List Loc) (ls : Array Slot), Wn Ym D T ρ S A s H locs → lv_has ls 8 [(0, .ref (ρ 0)), (3, .int x3), (4, .int x4), (7, .int x7)] → m_opensBuilder_120 g n S x3 x4 x7 = some S' → W p l e (rmN 2 44) s m args below meth c H locs 0 0 (MQ below (Qv Ym D T ρ A S') args s 0 0 A) (F0 m 120 ls []) := by
  induction n with
  | zero => intro S x3 x4 x7 H locs ls w hl h; exact absurd h (fun q => by cases q)
  | succ n ih => intro S x3 x4 x7 H locs ls w hl h; exact wb_opensBuilder_120 C hr hk ih w hl h
set_option maxRecDepth 100000 in
set_option maxHeartbeats 4000000 in
theorem w_opensBuilder_107  {g : Nat} {S : St} {x3 : Int32} {x4 : Int32} {x5 : Int64} {y1 : Int32} {y2 : Int32} (C : CallFix p m c cX13_opensBuilder 8 s args tb RX13) (hr : meth.sig.returnType = none) (hk : meth.locks = false) {S' : St} (w : Wn Ym D T ρ S A s H locs) (hl : lv_has ls 8 [(0, .ref (ρ 0)), (3, .int x3), (4, .int x4), (5, .long x5)]) (h : m_opensBuilder_107 g S x3 x4 x5 y1 y2 = some S') : W p l e (rmN 2 44) s m args below meth c H locs 0 0 (MQ below (Qv Ym D T ρ A S') args s 0 0 A) (F0 m 107 ls [.int y2, .int y1, .ref (ρ 28)]) := by
  unfold m_opensBuilder_107 at h
  obtain ⟨S_4, hS_4, h⟩ := bnd h
  refine x_iast C w obM28 hS_4 dX13_opensBuilder_107 (fun H locs w => ?_)
  refine lv_aload_n C.1 C.2.1 dX13_opensBuilder_108 rfl (lv_at hl 0 rfl) ?_
  refine x_getC C w 29 fM208 obM rfl dX13_opensBuilder_109 ?_
  refine lv_iload_n C.1 C.2.1 dX13_opensBuilder_112 rfl (lv_at hl 1 rfl) ?_
  refine lv_lload C.1 C.2.1 dX13_opensBuilder_113 (lv_at hl 3 rfl) ?_
  refine lv_l2i C.1 C.2.1 dX13_opensBuilder_115 rfl ?_
  obtain ⟨S_5, hS_5, h⟩ := bnd h
  refine x_iast C w obM29 hS_5 dX13_opensBuilder_116 (fun H locs w => ?_)
  refine lv_iconst (v := 0) C.1 C.2.1 dX13_opensBuilder_117 (by decide) ?_
  refine lv_istore (lv' := [(7, .int (0 : Int32)), (0, .ref (ρ 0)), (3, .int x3), (4, .int x4), (5, .long x5)]) C.1 C.2.1 dX13_opensBuilder_118 hl (by decide) rfl (fun ls hl => ?_)
  exact w_opensBuilder_120 C hr hk g _ _ _ _ _ _ _ w (lv_sub hl [1, 2, 3, 0] rfl) h
set_option maxRecDepth 100000 in
set_option maxHeartbeats 4000000 in
theorem w_opensBuilder_73  {g : Nat} {S : St} {x1 : Int32} {x3 : Int32} {x4 : Int32} {x5 : Int64} {y1 : Int32} (C : CallFix p m c cX13_opensBuilder 8 s args tb RX13) (hr : meth.sig.returnType = none) (hk : meth.locks = false) {S' : St} (w : Wn Ym D T ρ S A s H locs) (hl : lv_has ls 8 [(0, .ref (ρ 0)), (1, .int x1), (3, .int x3), (4, .int x4), (5, .long x5)]) (h : m_opensBuilder_73 g S x1 x3 x4 x5 y1 = some S') : W p l e (rmN 2 44) s m args below meth c H locs 0 0 (MQ below (Qv Ym D T ρ A S') args s 0 0 A) (F0 m 73 ls [.int y1, .ref (ρ 0)]) := by
  unfold m_opensBuilder_73 at h
  refine lv_iconst (v := 3) C.1 C.2.1 dX13_opensBuilder_73 (by decide) ?_
  obtain ⟨S_2, hS_2, h⟩ := bnd h
  refine x_callVv (q := (RX13, TX13, 68)) (As := [.int y1, .int (3 : Int32)]) (rest := []) C w (k_refuse l D T ρ g H.size S hS_2) vM466 ⟨by decide, by decide⟩ obM (by decide) rfl rfl rfl hl.1 (Nat.le_of_ble_eq_true rfl) ⟨Nat.zero_le _, Nat.zero_le _⟩ dX13_opensBuilder_74 (fun H locs w => ?_)
  refine lv_aload_n C.1 C.2.1 dX13_opensBuilder_77 rfl (lv_at hl 0 rfl) ?_
  refine x_getI C w fM398 obM dX13_opensBuilder_78 ?_
  refine lv_if_eq (tgt := 85) C.1 C.2.1 dX13_opensBuilder_81 (by decide) (fun hc => ?_) (fun hc => ?_)
  · replace h := ift hc h
    refine lv_aload_n C.1 C.2.1 dX13_opensBuilder_85 rfl (lv_at hl 0 rfl) ?_
    refine x_getC C w 28 fM205 obM rfl dX13_opensBuilder_86 ?_
    refine lv_iload_n C.1 C.2.1 dX13_opensBuilder_89 rfl (lv_at hl 2 rfl) ?_
    refine lv_iload_n C.1 C.2.1 dX13_opensBuilder_90 rfl (lv_at hl 1 rfl) ?_
    refine lv_bipush (v := 34) C.1 C.2.1 dX13_opensBuilder_91 (by decide) ?_
    refine lv_icmp_ne (tgt := 100) C.1 C.2.1 dX13_opensBuilder_93 (by decide) (fun hc => ?_) (fun hc => ?_)
    · replace h := iff0 hc h
      refine lv_aload_n C.1 C.2.1 dX13_opensBuilder_100 rfl (lv_at hl 0 rfl) ?_
      refine x_getC C w 24 fM193 obM rfl dX13_opensBuilder_101 ?_
      refine lv_iload C.1 C.2.1 dX13_opensBuilder_104 (lv_at hl 3 rfl) ?_
      obtain ⟨v_3, hv_3, h⟩ := bnd h
      refine x_iald C w obM24 hv_3 dX13_opensBuilder_106 ?_
      exact w_opensBuilder_107 C hr hk w (lv_sub hl [0, 2, 3, 4] rfl) h
    · replace h := ift hc h
      refine lv_iconst (v := 0) C.1 C.2.1 dX13_opensBuilder_96 (by decide) ?_
      refine lv_goto (tgt := 107) C.1 C.2.1 dX13_opensBuilder_97 (by decide) ?_
      exact w_opensBuilder_107 C hr hk w (lv_sub hl [0, 2, 3, 4] rfl) h
  · replace h := iff0 hc h
    obtain rfl := som h
    exact x_vret C w hr hk dX13_opensBuilder_84
set_option maxRecDepth 100000 in
set_option maxHeartbeats 4000000 in
theorem w_opensBuilder_72  {g : Nat} {S : St} {x1 : Int32} {x3 : Int32} {x4 : Int32} {x5 : Int64} (C : CallFix p m c cX13_opensBuilder 8 s args tb RX13) (hr : meth.sig.returnType = none) (hk : meth.locks = false) {S' : St} (w : Wn Ym D T ρ S A s H locs) (hl : lv_has ls 8 [(0, .ref (ρ 0)), (1, .int x1), (3, .int x3), (4, .int x4), (5, .long x5)]) (h : m_opensBuilder_72 g S x1 x3 x4 x5 = some S') : W p l e (rmN 2 44) s m args below meth c H locs 0 0 (MQ below (Qv Ym D T ρ A S') args s 0 0 A) (F0 m 72 ls [.ref (ρ 0)]) := by
  unfold m_opensBuilder_72 at h
  refine lv_iconst (v := 0) C.1 C.2.1 dX13_opensBuilder_72 (by decide) ?_
  exact w_opensBuilder_73 C hr hk w (lv_sub hl [0, 1, 2, 3, 4] rfl) h
set_option maxRecDepth 100000 in
set_option maxHeartbeats 4000000 in
theorem w_opensBuilder_47  {g : Nat} {S : St} {x1 : Int32} {x3 : Int32} {x4 : Int32} {y0 : Int64} (C : CallFix p m c cX13_opensBuilder 8 s args tb RX13) (hr : meth.sig.returnType = none) (hk : meth.locks = false) {S' : St} (w : Wn Ym D T ρ S A s H locs) (hl : lv_has ls 8 [(0, .ref (ρ 0)), (1, .int x1), (3, .int x3), (4, .int x4)]) (h : m_opensBuilder_47 g S x1 x3 x4 y0 = some S') : W p l e (rmN 2 44) s m args below meth c H locs 0 0 (MQ below (Qv Ym D T ρ A S') args s 0 0 A) (F0 m 47 ls [.long y0]) := by
  unfold m_opensBuilder_47 at h
  refine lv_lstore (lv' := [(5, .long y0), (0, .ref (ρ 0)), (1, .int x1), (3, .int x3), (4, .int x4)]) C.1 C.2.1 dX13_opensBuilder_47 hl (by decide) rfl (fun ls hl => ?_)
  refine lv_aload_n C.1 C.2.1 dX13_opensBuilder_49 rfl (lv_at hl 1 rfl) ?_
  refine lv_iload_n C.1 C.2.1 dX13_opensBuilder_50 rfl (lv_at hl 2 rfl) ?_
  refine lv_bipush (v := 34) C.1 C.2.1 dX13_opensBuilder_51 (by decide) ?_
  refine lv_icmp_ne (tgt := 72) C.1 C.2.1 dX13_opensBuilder_53 (by decide) (fun hc => ?_) (fun hc => ?_)
  · replace h := iff0 hc h
    exact w_opensBuilder_72 C hr hk w (lv_sub hl [1, 2, 3, 4, 0] rfl) h
  · replace h := ift hc h
    refine lv_lload C.1 C.2.1 dX13_opensBuilder_56 (lv_at hl 0 rfl) ?_
    refine lv_lconst (v := 0) C.1 C.2.1 dX13_opensBuilder_58 (by decide) ?_
    refine lv_ldc2 C.1 C.2.1 C.2.2.2.1 (C.2.2.2.2 _ nM679) dX13_opensBuilder_59 ?_
    obtain ⟨v_2, hv_2, h⟩ := bnd h
    refine x_callSi (As := [.long y0, .long (0 : Int64), .long (400 : Int64)]) (rest := [.ref (ρ 0)]) C w (k_isIn l D T ρ g H.size S hv_2) vM318 ⟨by decide, by decide⟩ rfl rfl hl.1 (Nat.le_of_ble_eq_true rfl) ⟨Nat.zero_le _, Nat.zero_le _⟩ dX13_opensBuilder_62 (fun H locs w => ?_)
    refine lv_if_ne (tgt := 72) C.1 C.2.1 dX13_opensBuilder_65 (by decide) (fun hc => ?_) (fun hc => ?_)
    · replace h := iff0 hc h
      exact w_opensBuilder_72 C hr hk w (lv_sub hl [1, 2, 3, 4, 0] rfl) h
    · replace h := ift hc h
      refine lv_iconst (v := 1) C.1 C.2.1 dX13_opensBuilder_68 (by decide) ?_
      refine lv_goto (tgt := 73) C.1 C.2.1 dX13_opensBuilder_69 (by decide) ?_
      exact w_opensBuilder_73 C hr hk w (lv_sub hl [1, 2, 3, 4, 0] rfl) h
set_option maxRecDepth 100000 in
set_option maxHeartbeats 4000000 in
theorem w_opensBuilder_17  {g : Nat} {S : St} {x1 : Int32} {x2 : Int32} {x3 : Int32} {y0 : Int32} (C : CallFix p m c cX13_opensBuilder 8 s args tb RX13) (hr : meth.sig.returnType = none) (hk : meth.locks = false) {S' : St} (w : Wn Ym D T ρ S A s H locs) (hl : lv_has ls 8 [(0, .ref (ρ 0)), (1, .int x1), (2, .int x2), (3, .int x3)]) (h : m_opensBuilder_17 g S x1 x2 x3 y0 = some S') : W p l e (rmN 2 44) s m args below meth c H locs 0 0 (MQ below (Qv Ym D T ρ A S') args s 0 0 A) (F0 m 17 ls [.int y0]) := by
  unfold m_opensBuilder_17 at h
  refine lv_istore (lv' := [(4, .int y0), (0, .ref (ρ 0)), (1, .int x1), (2, .int x2), (3, .int x3)]) C.1 C.2.1 dX13_opensBuilder_17 hl (by decide) rfl (fun ls hl => ?_)
  refine lv_iload_n C.1 C.2.1 dX13_opensBuilder_19 rfl (lv_at hl 2 rfl) ?_
  refine lv_bipush (v := 34) C.1 C.2.1 dX13_opensBuilder_20 (by decide) ?_
  refine lv_icmp_ne (tgt := 35) C.1 C.2.1 dX13_opensBuilder_22 (by decide) (fun hc => ?_) (fun hc => ?_)
  · replace h := iff0 hc h
    refine lv_aload_n C.1 C.2.1 dX13_opensBuilder_35 rfl (lv_at hl 1 rfl) ?_
    refine x_getC C w 24 fM193 obM rfl dX13_opensBuilder_36 ?_
    refine lv_iload C.1 C.2.1 dX13_opensBuilder_39 (lv_at hl 0 rfl) ?_
    obtain ⟨v_1, hv_1, h⟩ := bnd h
    refine x_iald C w obM24 hv_1 dX13_opensBuilder_41 ?_
    refine lv_i2l C.1 C.2.1 dX13_opensBuilder_42 rfl ?_
    refine lv_ldc2 C.1 C.2.1 C.2.2.2.1 (C.2.2.2.2 _ nM677) dX13_opensBuilder_43 ?_
    refine lv_ladd C.1 C.2.1 dX13_opensBuilder_46 ?_
    exact w_opensBuilder_47 C hr hk w (lv_sub hl [1, 2, 4, 0] rfl) h
  · replace h := ift hc h
    refine lv_aload_n C.1 C.2.1 dX13_opensBuilder_25 rfl (lv_at hl 1 rfl) ?_
    refine lv_iload_n C.1 C.2.1 dX13_opensBuilder_26 rfl (lv_at hl 3 rfl) ?_
    refine lv_iconst (v := 1) C.1 C.2.1 dX13_opensBuilder_27 (by decide) ?_
    refine lv_iadd C.1 C.2.1 dX13_opensBuilder_28 ?_
    obtain ⟨v_2, hv_2, h⟩ := bnd h
    refine x_callVj (q := (RX13, TX13, 68)) (As := [.int (x2 + (1 : Int32))]) (rest := []) C w (k_value l D T ρ g H.size S hv_2) vM459 ⟨by decide, by decide⟩ obM (by decide) rfl rfl rfl hl.1 (Nat.le_of_ble_eq_true rfl) ⟨Nat.zero_le _, Nat.zero_le _⟩ dX13_opensBuilder_29 (fun H locs w => ?_)
    refine lv_goto (tgt := 47) C.1 C.2.1 dX13_opensBuilder_32 (by decide) ?_
    exact w_opensBuilder_47 C hr hk w (lv_sub hl [1, 2, 4, 0] rfl) h
set_option maxRecDepth 100000 in
set_option maxHeartbeats 4000000 in
theorem w_opensBuilder_0  {g : Nat} {S : St} {x1 : Int32} {x2 : Int32} {x3 : Int32} (C : CallFix p m c cX13_opensBuilder 8 s args tb RX13) (hr : meth.sig.returnType = none) (hk : meth.locks = false) {S' : St} (w : Wn Ym D T ρ S A s H locs) (hl : lv_has ls 8 [(0, .ref (ρ 0)), (1, .int x1), (2, .int x2), (3, .int x3)]) (h : m_opensBuilder g S x1 x2 x3 = some S') : W p l e (rmN 2 44) s m args below meth c H locs 0 0 (MQ below (Qv Ym D T ρ A S') args s 0 0 A) (F0 m 0 ls []) := by
  unfold m_opensBuilder at h
  refine lv_iload_n C.1 C.2.1 dX13_opensBuilder_0 rfl (lv_at hl 1 rfl) ?_
  refine lv_bipush (v := 35) C.1 C.2.1 dX13_opensBuilder_1 (by decide) ?_
  refine lv_icmp_ne (tgt := 16) C.1 C.2.1 dX13_opensBuilder_3 (by decide) (fun hc => ?_) (fun hc => ?_)
  · replace h := iff0 hc h
    refine lv_iconst (v := 0) C.1 C.2.1 dX13_opensBuilder_16 (by decide) ?_
    exact w_opensBuilder_17 C hr hk w (lv_sub hl [0, 1, 2, 3] rfl) h
  · replace h := ift hc h
    refine lv_aload_n C.1 C.2.1 dX13_opensBuilder_6 rfl (lv_at hl 0 rfl) ?_
    refine lv_iload_n C.1 C.2.1 dX13_opensBuilder_7 rfl (lv_at hl 2 rfl) ?_
    refine lv_iconst (v := 1) C.1 C.2.1 dX13_opensBuilder_8 (by decide) ?_
    refine lv_iadd C.1 C.2.1 dX13_opensBuilder_9 ?_
    obtain ⟨⟨S_1, v_2⟩, hv_2, h⟩ := bnd h
    refine x_callVi (q := (RX13, TX13, 68)) (As := [.int (x2 + (1 : Int32))]) (rest := []) C w (k_textAt l D T ρ g H.size S hv_2) vM558 ⟨by decide, by decide⟩ obM (by decide) rfl rfl rfl hl.1 (Nat.le_of_ble_eq_true rfl) ⟨Nat.zero_le _, Nat.zero_le _⟩ dX13_opensBuilder_10 (fun H locs w => ?_)
    refine lv_goto (tgt := 17) C.1 C.2.1 dX13_opensBuilder_13 (by decide) ?_
    exact w_opensBuilder_17 C hr hk w (lv_sub hl [0, 1, 2, 3] rfl) h
end S_opensBuilder
set_option maxRecDepth 100000 in
theorem k_opensBuilder (l : Launch) (D : va_G) (T : Cy) (ρ : Nat → Nat) (g sz : Nat) (S : St) {x1 : Int32} {x2 : Int32} {x3 : Int32} {S' : St} (h : m_opensBuilder g S x1 x2 x3 = some S') : Mv l Ym D T ρ yX13_opensBuilder cX13_opensBuilder 8 none 2 44 S S' [.ref (ρ 0), .int x1, .int x2, .int x3] sz :=
  x_in (by decide) (Nat.le_of_ble_eq_true rfl) (fun p e s m below meth c ls C hr hk w hl => w_opensBuilder_0 C hr hk w hl h)

theorem dX13_orderOf_0 : decode cX13_orderOf 0 = .ok (.iconst 0, 1) := by decide +kernel
theorem dX13_orderOf_1 : decode cX13_orderOf 1 = .ok (.istore_n 3, 1) := by decide +kernel
theorem dX13_orderOf_2 : decode cX13_orderOf 2 = .ok (.iload_n 3, 1) := by decide +kernel
theorem dX13_orderOf_3 : decode cX13_orderOf 3 = .ok (.aload_n 0, 1) := by decide +kernel
theorem dX13_orderOf_4 : decode cX13_orderOf 4 = .ok (.getfield 205, 3) := by decide +kernel
theorem dX13_orderOf_7 : decode cX13_orderOf 7 = .ok (.iload_n 1, 1) := by decide +kernel
theorem dX13_orderOf_8 : decode cX13_orderOf 8 = .ok (.iaload, 1) := by decide +kernel
theorem dX13_orderOf_9 : decode cX13_orderOf 9 = .ok (.if_icmp .ge 55, 3) := by decide +kernel
theorem dX13_orderOf_12 : decode cX13_orderOf 12 = .ok (.iload_n 3, 1) := by decide +kernel
theorem dX13_orderOf_13 : decode cX13_orderOf 13 = .ok (.aload_n 0, 1) := by decide +kernel
theorem dX13_orderOf_14 : decode cX13_orderOf 14 = .ok (.getfield 205, 3) := by decide +kernel
theorem dX13_orderOf_17 : decode cX13_orderOf 17 = .ok (.iload_n 2, 1) := by decide +kernel
theorem dX13_orderOf_18 : decode cX13_orderOf 18 = .ok (.iaload, 1) := by decide +kernel
theorem dX13_orderOf_19 : decode cX13_orderOf 19 = .ok (.if_icmp .ge 45, 3) := by decide +kernel
theorem dX13_orderOf_22 : decode cX13_orderOf 22 = .ok (.aload_n 0, 1) := by decide +kernel
theorem dX13_orderOf_23 : decode cX13_orderOf 23 = .ok (.getfield 211, 3) := by decide +kernel
theorem dX13_orderOf_26 : decode cX13_orderOf 26 = .ok (.sipush 400, 3) := by decide +kernel
theorem dX13_orderOf_29 : decode cX13_orderOf 29 = .ok (.iload_n 1, 1) := by decide +kernel
theorem dX13_orderOf_30 : decode cX13_orderOf 30 = .ok (.imul, 1) := by decide +kernel
theorem dX13_orderOf_31 : decode cX13_orderOf 31 = .ok (.iload_n 3, 1) := by decide +kernel
theorem dX13_orderOf_32 : decode cX13_orderOf 32 = .ok (.iadd, 1) := by decide +kernel
theorem dX13_orderOf_33 : decode cX13_orderOf 33 = .ok (.iaload, 1) := by decide +kernel
theorem dX13_orderOf_34 : decode cX13_orderOf 34 = .ok (.aload_n 0, 1) := by decide +kernel
theorem dX13_orderOf_35 : decode cX13_orderOf 35 = .ok (.getfield 211, 3) := by decide +kernel
theorem dX13_orderOf_38 : decode cX13_orderOf 38 = .ok (.sipush 400, 3) := by decide +kernel
theorem dX13_orderOf_41 : decode cX13_orderOf 41 = .ok (.iload_n 2, 1) := by decide +kernel
theorem dX13_orderOf_42 : decode cX13_orderOf 42 = .ok (.imul, 1) := by decide +kernel
theorem dX13_orderOf_43 : decode cX13_orderOf 43 = .ok (.iload_n 3, 1) := by decide +kernel
theorem dX13_orderOf_44 : decode cX13_orderOf 44 = .ok (.iadd, 1) := by decide +kernel
theorem dX13_orderOf_45 : decode cX13_orderOf 45 = .ok (.iaload, 1) := by decide +kernel
theorem dX13_orderOf_46 : decode cX13_orderOf 46 = .ok (.isub, 1) := by decide +kernel
theorem dX13_orderOf_47 : decode cX13_orderOf 47 = .ok (.istore 4, 2) := by decide +kernel
theorem dX13_orderOf_49 : decode cX13_orderOf 49 = .ok (.iload 4, 2) := by decide +kernel
theorem dX13_orderOf_51 : decode cX13_orderOf 51 = .ok (.ifCond .eq 7, 3) := by decide +kernel
theorem dX13_orderOf_54 : decode cX13_orderOf 54 = .ok (.iload 4, 2) := by decide +kernel
theorem dX13_orderOf_56 : decode cX13_orderOf 56 = .ok (.i2l, 1) := by decide +kernel
theorem dX13_orderOf_57 : decode cX13_orderOf 57 = .ok (.lreturn, 1) := by decide +kernel
theorem dX13_orderOf_58 : decode cX13_orderOf 58 = .ok (.iinc 3 1, 3) := by decide +kernel
theorem dX13_orderOf_61 : decode cX13_orderOf 61 = .ok (.goto (-59), 3) := by decide +kernel
theorem dX13_orderOf_64 : decode cX13_orderOf 64 = .ok (.aload_n 0, 1) := by decide +kernel
theorem dX13_orderOf_65 : decode cX13_orderOf 65 = .ok (.getfield 205, 3) := by decide +kernel
theorem dX13_orderOf_68 : decode cX13_orderOf 68 = .ok (.iload_n 1, 1) := by decide +kernel
theorem dX13_orderOf_69 : decode cX13_orderOf 69 = .ok (.iaload, 1) := by decide +kernel
theorem dX13_orderOf_70 : decode cX13_orderOf 70 = .ok (.aload_n 0, 1) := by decide +kernel
theorem dX13_orderOf_71 : decode cX13_orderOf 71 = .ok (.getfield 205, 3) := by decide +kernel
theorem dX13_orderOf_74 : decode cX13_orderOf 74 = .ok (.iload_n 2, 1) := by decide +kernel
theorem dX13_orderOf_75 : decode cX13_orderOf 75 = .ok (.iaload, 1) := by decide +kernel
theorem dX13_orderOf_76 : decode cX13_orderOf 76 = .ok (.isub, 1) := by decide +kernel
theorem dX13_orderOf_77 : decode cX13_orderOf 77 = .ok (.i2l, 1) := by decide +kernel
theorem dX13_orderOf_78 : decode cX13_orderOf 78 = .ok (.lreturn, 1) := by decide +kernel
def m_orderOf_64 (g : Nat) (S : St) (x1 : Int32) (x2 : Int32) : Option Int64 :=
(aI S 28 x1).bind fun v_2 =>
(aI S 28 x2).bind fun v_3 =>
some ((v_2 - v_3).toInt64)
def b_orderOf_2 (g : Nat) (S : St) (k2 : Int32 → Int32 → Int32 → Option Int64) (x1 : Int32) (x2 : Int32) (x3 : Int32) : Option Int64 :=
(aI S 28 x1).bind fun v_1 =>
if v_1 ≤ x3 then (
  m_orderOf_64 g S x1 x2
) else (
  (aI S 28 x2).bind fun v_2 =>
  if v_2 ≤ x3 then (
    m_orderOf_64 g S x1 x2
  ) else (
    (aI S 30 (((400 : Int32) * x1) + x3)).bind fun v_3 =>
    (aI S 30 (((400 : Int32) * x2) + x3)).bind fun v_4 =>
    lt (v_3 - v_4) fun x4_5 =>
    if x4_5 = 0 then (
      lt (x3 + (1 : Int32)) fun x3_6 =>
      k2 x1 x2 x3_6
    ) else (
      some (x4_5.toInt64)
    )
  )
)
def m_orderOf_2 (g : Nat) (S : St) : Nat → Int32 → Int32 → Int32 → Option Int64
  | 0, _, _, _ => none
  | n + 1, x1, x2, x3 => b_orderOf_2 g S (m_orderOf_2 g S n) x1 x2 x3
def m_orderOf (g : Nat) (S : St) (x1 : Int32) (x2 : Int32) : Option Int64 :=
m_orderOf_2 g S g x1 x2 (0 : Int32)
section S_orderOf
variable {p : Program} {l : Launch} {e : Env} {s : State} {m : MethodId} {args : Array Value} {below : List Frame} {meth : Method} {c : Code} {H : Heap} {locs : List Loc} {ls : Array Slot} {D : va_G} {T : Cy} {ρ : Nat → Nat} {A : Nat → Prop}
set_option maxRecDepth 100000 in
set_option maxHeartbeats 4000000 in
theorem w_orderOf_64  {g : Nat} {S : St} {x1 : Int32} {x2 : Int32} (C : CallFix p m c cX13_orderOf 5 s args tb RX13) (hr : meth.sig.returnType = (some .long)) (hk : meth.locks = false) {r : Int64} (w : Wn Ym D T ρ S A s H locs) (hl : lv_has ls 5 [(0, .ref (ρ 0)), (1, .int x1), (2, .int x2)]) (h : m_orderOf_64 g S x1 x2 = some r) : W p l e (rmN 0 0) s m args below meth c H locs 0 0 (MQ below (Qj Ym D T ρ A S r) args s 0 0 A) (F0 m 64 ls []) := by
  unfold m_orderOf_64 at h
  refine lv_aload_n C.1 C.2.1 dX13_orderOf_64 rfl (lv_at hl 0 rfl) ?_
  refine x_getC C w 28 fM205 obM rfl dX13_orderOf_65 ?_
  refine lv_iload_n C.1 C.2.1 dX13_orderOf_68 rfl (lv_at hl 1 rfl) ?_
  obtain ⟨v_2, hv_2, h⟩ := bnd h
  refine x_iald C w obM28 hv_2 dX13_orderOf_69 ?_
  refine lv_aload_n C.1 C.2.1 dX13_orderOf_70 rfl (lv_at hl 0 rfl) ?_
  refine x_getC C w 28 fM205 obM rfl dX13_orderOf_71 ?_
  refine lv_iload_n C.1 C.2.1 dX13_orderOf_74 rfl (lv_at hl 2 rfl) ?_
  obtain ⟨v_3, hv_3, h⟩ := bnd h
  refine x_iald C w obM28 hv_3 dX13_orderOf_75 ?_
  refine lv_isub C.1 C.2.1 dX13_orderOf_76 ?_
  refine lv_i2l C.1 C.2.1 dX13_orderOf_77 rfl ?_
  obtain rfl := som h
  exact x_lret C w hr hk dX13_orderOf_78
set_option maxRecDepth 100000 in
set_option maxHeartbeats 4000000 in
theorem wb_orderOf_2  {g : Nat} {S : St} {x1 : Int32} {x2 : Int32} {x3 : Int32} (C : CallFix p m c cX13_orderOf 5 s args tb RX13) (hr : meth.sig.returnType = (some .long)) (hk : meth.locks = false) {r : Int64} {k2 : Int32 → Int32 → Int32 → Option Int64} (kk2 : ∀ (x1 : Int32) (x2 : Int32) (x3 : Int32) (H : Heap) (locs : List Loc) (ls : Array Slot), Wn Ym D T ρ S A s H locs → lv_has ls 5 [(0, .ref (ρ 0)), (1, .int x1), (2, .int x2), (3, .int x3)] → k2 x1 x2 x3 = some r → W p l e (rmN 0 0) s m args below meth c H locs 0 0 (MQ below (Qj Ym D T ρ A S r) args s 0 0 A) (F0 m 2 ls [])) (w : Wn Ym D T ρ S A s H locs) (hl : lv_has ls 5 [(0, .ref (ρ 0)), (1, .int x1), (2, .int x2), (3, .int x3)]) (h : b_orderOf_2 g S k2 x1 x2 x3 = some r) : W p l e (rmN 0 0) s m args below meth c H locs 0 0 (MQ below (Qj Ym D T ρ A S r) args s 0 0 A) (F0 m 2 ls []) := by
  unfold b_orderOf_2 at h
  refine lv_iload_n C.1 C.2.1 dX13_orderOf_2 rfl (lv_at hl 3 rfl) ?_
  refine lv_aload_n C.1 C.2.1 dX13_orderOf_3 rfl (lv_at hl 0 rfl) ?_
  refine x_getC C w 28 fM205 obM rfl dX13_orderOf_4 ?_
  refine lv_iload_n C.1 C.2.1 dX13_orderOf_7 rfl (lv_at hl 1 rfl) ?_
  obtain ⟨v_1, hv_1, h⟩ := bnd h
  refine x_iald C w obM28 hv_1 dX13_orderOf_8 ?_
  refine lv_icmp_ge (tgt := 64) C.1 C.2.1 dX13_orderOf_9 (by decide) (fun hc => ?_) (fun hc => ?_)
  · replace h := ift hc h
    exact w_orderOf_64 C hr hk w (lv_sub hl [0, 1, 2] rfl) h
  · replace h := iff0 hc h
    refine lv_iload_n C.1 C.2.1 dX13_orderOf_12 rfl (lv_at hl 3 rfl) ?_
    refine lv_aload_n C.1 C.2.1 dX13_orderOf_13 rfl (lv_at hl 0 rfl) ?_
    refine x_getC C w 28 fM205 obM rfl dX13_orderOf_14 ?_
    refine lv_iload_n C.1 C.2.1 dX13_orderOf_17 rfl (lv_at hl 2 rfl) ?_
    obtain ⟨v_2, hv_2, h⟩ := bnd h
    refine x_iald C w obM28 hv_2 dX13_orderOf_18 ?_
    refine lv_icmp_ge (tgt := 64) C.1 C.2.1 dX13_orderOf_19 (by decide) (fun hc => ?_) (fun hc => ?_)
    · replace h := ift hc h
      exact w_orderOf_64 C hr hk w (lv_sub hl [0, 1, 2] rfl) h
    · replace h := iff0 hc h
      refine lv_aload_n C.1 C.2.1 dX13_orderOf_22 rfl (lv_at hl 0 rfl) ?_
      refine x_getC C w 30 fM211 obM rfl dX13_orderOf_23 ?_
      refine lv_sipush (v := 400) C.1 C.2.1 dX13_orderOf_26 (by decide) ?_
      refine lv_iload_n C.1 C.2.1 dX13_orderOf_29 rfl (lv_at hl 1 rfl) ?_
      refine lv_imul C.1 C.2.1 dX13_orderOf_30 ?_
      refine lv_iload_n C.1 C.2.1 dX13_orderOf_31 rfl (lv_at hl 3 rfl) ?_
      refine lv_iadd C.1 C.2.1 dX13_orderOf_32 ?_
      obtain ⟨v_3, hv_3, h⟩ := bnd h
      refine x_iald C w obM30 hv_3 dX13_orderOf_33 ?_
      refine lv_aload_n C.1 C.2.1 dX13_orderOf_34 rfl (lv_at hl 0 rfl) ?_
      refine x_getC C w 30 fM211 obM rfl dX13_orderOf_35 ?_
      refine lv_sipush (v := 400) C.1 C.2.1 dX13_orderOf_38 (by decide) ?_
      refine lv_iload_n C.1 C.2.1 dX13_orderOf_41 rfl (lv_at hl 2 rfl) ?_
      refine lv_imul C.1 C.2.1 dX13_orderOf_42 ?_
      refine lv_iload_n C.1 C.2.1 dX13_orderOf_43 rfl (lv_at hl 3 rfl) ?_
      refine lv_iadd C.1 C.2.1 dX13_orderOf_44 ?_
      obtain ⟨v_4, hv_4, h⟩ := bnd h
      refine x_iald C w obM30 hv_4 dX13_orderOf_45 ?_
      refine lv_isub C.1 C.2.1 dX13_orderOf_46 ?_
      obtain ⟨x4_5, ex4_5, h⟩ := lt_e h
      refine x_nm ex4_5 ?_
      refine lv_istore (lv' := [(4, .int x4_5), (0, .ref (ρ 0)), (1, .int x1), (2, .int x2), (3, .int x3)]) C.1 C.2.1 dX13_orderOf_47 hl (by decide) rfl (fun ls hl => ?_)
      refine lv_iload C.1 C.2.1 dX13_orderOf_49 (lv_at hl 0 rfl) ?_
      refine lv_if_eq (tgt := 58) C.1 C.2.1 dX13_orderOf_51 (by decide) (fun hc => ?_) (fun hc => ?_)
      · replace h := ift hc h
        obtain ⟨x3_6, ex3_6, h⟩ := lt_e h
        refine lv_iinc (v := x3_6) (lv' := [(3, .int x3_6), (4, .int x4_5), (0, .ref (ρ 0)), (1, .int x1), (2, .int x2)]) C.1 C.2.1 dX13_orderOf_58 hl (k := 4) rfl (by rw [ex3_6]; rfl) (by decide) rfl (fun ls hl => ?_)
        refine lv_goto (tgt := 2) C.1 C.2.1 dX13_orderOf_61 (by decide) ?_
        exact kk2 _ _ _ _ _ _ w (lv_sub hl [2, 3, 4, 0] rfl) h
      · replace h := iff0 hc h
        refine lv_iload C.1 C.2.1 dX13_orderOf_54 (lv_at hl 0 rfl) ?_
        refine lv_i2l C.1 C.2.1 dX13_orderOf_56 rfl ?_
        obtain rfl := som h
        exact x_lret C w hr hk dX13_orderOf_57
theorem w_orderOf_2 {g : Nat} {S : St} (C : CallFix p m c cX13_orderOf 5 s args tb RX13) (hr : meth.sig.returnType = (some .long)) (hk : meth.locks = false) {r : Int64} (n : Nat) : ∀ (x1 : Int32) (x2 : Int32) (x3 : Int32) (H : Heap) (locs : List Loc) (ls : Array Slot), Wn Ym D T ρ S A s H locs → lv_has ls 5 [(0, .ref (ρ 0)), (1, .int x1), (2, .int x2), (3, .int x3)] → m_orderOf_2 g S n x1 x2 x3 = some r → W p l e (rmN 0 0) s m args below meth c H locs 0 0 (MQ below (Qj Ym D T ρ A S r) args s 0 0 A) (F0 m 2 ls []) := by
  induction n with
  | zero => intro x1 x2 x3 H locs ls w hl h; exact absurd h (fun q => by cases q)
  | succ n ih => intro x1 x2 x3 H locs ls w hl h; exact wb_orderOf_2 C hr hk ih w hl h
set_option maxRecDepth 100000 in
set_option maxHeartbeats 4000000 in
theorem w_orderOf_0  {g : Nat} {S : St} {x1 : Int32} {x2 : Int32} (C : CallFix p m c cX13_orderOf 5 s args tb RX13) (hr : meth.sig.returnType = (some .long)) (hk : meth.locks = false) {r : Int64} (w : Wn Ym D T ρ S A s H locs) (hl : lv_has ls 5 [(0, .ref (ρ 0)), (1, .int x1), (2, .int x2)]) (h : m_orderOf g S x1 x2 = some r) : W p l e (rmN 0 0) s m args below meth c H locs 0 0 (MQ below (Qj Ym D T ρ A S r) args s 0 0 A) (F0 m 0 ls []) := by
  unfold m_orderOf at h
  refine lv_iconst (v := 0) C.1 C.2.1 dX13_orderOf_0 (by decide) ?_
  refine lv_istore_n (lv' := [(3, .int (0 : Int32)), (0, .ref (ρ 0)), (1, .int x1), (2, .int x2)]) C.1 C.2.1 dX13_orderOf_1 rfl hl (by decide) rfl (fun ls hl => ?_)
  exact w_orderOf_2 C hr hk g _ _ _ _ _ _ w (lv_sub hl [1, 2, 3, 0] rfl) h
end S_orderOf
set_option maxRecDepth 100000 in
theorem k_orderOf (l : Launch) (D : va_G) (T : Cy) (ρ : Nat → Nat) (g sz : Nat) (S : St) {x1 : Int32} {x2 : Int32} {r : Int64} (h : m_orderOf g S x1 x2 = some r) : Mj l Ym D T ρ yX13_orderOf cX13_orderOf 5 (some .long) 0 0 S S r [.ref (ρ 0), .int x1, .int x2] sz :=
  x_in (by decide) (Nat.le_of_ble_eq_true rfl) (fun p e s m below meth c ls C hr hk w hl => w_orderOf_0 C hr hk w hl h)

theorem dX13_puts_0 : decode cX13_puts 0 = .ok (.aload_n 0, 1) := by decide +kernel
theorem dX13_puts_1 : decode cX13_puts 1 = .ok (.iload_n 1, 1) := by decide +kernel
theorem dX13_puts_2 : decode cX13_puts 2 = .ok (.iconst 1, 1) := by decide +kernel
theorem dX13_puts_3 : decode cX13_puts 3 = .ok (.iadd, 1) := by decide +kernel
theorem dX13_puts_4 : decode cX13_puts 4 = .ok (.invokevirtual 459, 3) := by decide +kernel
theorem dX13_puts_7 : decode cX13_puts 7 = .ok (.lstore_n 3, 1) := by decide +kernel
theorem dX13_puts_8 : decode cX13_puts 8 = .ok (.aload_n 0, 1) := by decide +kernel
theorem dX13_puts_9 : decode cX13_puts 9 = .ok (.iload_n 1, 1) := by decide +kernel
theorem dX13_puts_10 : decode cX13_puts 10 = .ok (.iconst 2, 1) := by decide +kernel
theorem dX13_puts_11 : decode cX13_puts 11 = .ok (.iadd, 1) := by decide +kernel
theorem dX13_puts_12 : decode cX13_puts 12 = .ok (.invokevirtual 459, 3) := by decide +kernel
theorem dX13_puts_15 : decode cX13_puts 15 = .ok (.lstore 5, 2) := by decide +kernel
theorem dX13_puts_17 : decode cX13_puts 17 = .ok (.aload_n 0, 1) := by decide +kernel
theorem dX13_puts_18 : decode cX13_puts 18 = .ok (.lload_n 3, 1) := by decide +kernel
theorem dX13_puts_19 : decode cX13_puts 19 = .ok (.lconst 0, 1) := by decide +kernel
theorem dX13_puts_20 : decode cX13_puts 20 = .ok (.aload_n 0, 1) := by decide +kernel
theorem dX13_puts_21 : decode cX13_puts 21 = .ok (.getfield 205, 3) := by decide +kernel
theorem dX13_puts_24 : decode cX13_puts 24 = .ok (.iload_n 2, 1) := by decide +kernel
theorem dX13_puts_25 : decode cX13_puts 25 = .ok (.iaload, 1) := by decide +kernel
theorem dX13_puts_26 : decode cX13_puts 26 = .ok (.iconst 1, 1) := by decide +kernel
theorem dX13_puts_27 : decode cX13_puts 27 = .ok (.isub, 1) := by decide +kernel
theorem dX13_puts_28 : decode cX13_puts 28 = .ok (.i2l, 1) := by decide +kernel
theorem dX13_puts_29 : decode cX13_puts 29 = .ok (.invokestatic 318, 3) := by decide +kernel
theorem dX13_puts_32 : decode cX13_puts 32 = .ok (.ifCond .ne 7, 3) := by decide +kernel
theorem dX13_puts_35 : decode cX13_puts 35 = .ok (.iconst 1, 1) := by decide +kernel
theorem dX13_puts_36 : decode cX13_puts 36 = .ok (.goto 4, 3) := by decide +kernel
theorem dX13_puts_39 : decode cX13_puts 39 = .ok (.iconst 0, 1) := by decide +kernel
theorem dX13_puts_40 : decode cX13_puts 40 = .ok (.iconst 1, 1) := by decide +kernel
theorem dX13_puts_41 : decode cX13_puts 41 = .ok (.invokevirtual 466, 3) := by decide +kernel
theorem dX13_puts_44 : decode cX13_puts 44 = .ok (.aload_n 0, 1) := by decide +kernel
theorem dX13_puts_45 : decode cX13_puts 45 = .ok (.lload 5, 2) := by decide +kernel
theorem dX13_puts_47 : decode cX13_puts 47 = .ok (.lconst 0, 1) := by decide +kernel
theorem dX13_puts_48 : decode cX13_puts 48 = .ok (.ldc2_w 623, 3) := by decide +kernel
theorem dX13_puts_51 : decode cX13_puts 51 = .ok (.invokestatic 318, 3) := by decide +kernel
theorem dX13_puts_54 : decode cX13_puts 54 = .ok (.ifCond .ne 7, 3) := by decide +kernel
theorem dX13_puts_57 : decode cX13_puts 57 = .ok (.iconst 1, 1) := by decide +kernel
theorem dX13_puts_58 : decode cX13_puts 58 = .ok (.goto 4, 3) := by decide +kernel
theorem dX13_puts_61 : decode cX13_puts 61 = .ok (.iconst 0, 1) := by decide +kernel
theorem dX13_puts_62 : decode cX13_puts 62 = .ok (.iconst 3, 1) := by decide +kernel
theorem dX13_puts_63 : decode cX13_puts 63 = .ok (.invokevirtual 466, 3) := by decide +kernel
theorem dX13_puts_66 : decode cX13_puts 66 = .ok (.aload_n 0, 1) := by decide +kernel
theorem dX13_puts_67 : decode cX13_puts 67 = .ok (.getfield 398, 3) := by decide +kernel
theorem dX13_puts_70 : decode cX13_puts 70 = .ok (.ifCond .ne 19, 3) := by decide +kernel
theorem dX13_puts_73 : decode cX13_puts 73 = .ok (.aload_n 0, 1) := by decide +kernel
theorem dX13_puts_74 : decode cX13_puts 74 = .ok (.getfield 211, 3) := by decide +kernel
theorem dX13_puts_77 : decode cX13_puts 77 = .ok (.sipush 400, 3) := by decide +kernel
theorem dX13_puts_80 : decode cX13_puts 80 = .ok (.iload_n 2, 1) := by decide +kernel
theorem dX13_puts_81 : decode cX13_puts 81 = .ok (.imul, 1) := by decide +kernel
theorem dX13_puts_82 : decode cX13_puts 82 = .ok (.lload_n 3, 1) := by decide +kernel
theorem dX13_puts_83 : decode cX13_puts 83 = .ok (.l2i, 1) := by decide +kernel
theorem dX13_puts_84 : decode cX13_puts 84 = .ok (.iadd, 1) := by decide +kernel
theorem dX13_puts_85 : decode cX13_puts 85 = .ok (.lload 5, 2) := by decide +kernel
theorem dX13_puts_87 : decode cX13_puts 87 = .ok (.l2i, 1) := by decide +kernel
theorem dX13_puts_88 : decode cX13_puts 88 = .ok (.iastore, 1) := by decide +kernel
theorem dX13_puts_89 : decode cX13_puts 89 = .ok (.return_, 1) := by decide +kernel
def m_puts_62 (g : Nat) (S : St) (x2 : Int32) (x3 : Int64) (x5 : Int64) (y1 : Int32) : Option St :=
(m_refuse g S y1 (3 : Int32)).bind fun S_7 =>
if (gI S_7 0 58) = 0 then (
  (tI S_7 30 (((400 : Int32) * x2) + (x3.toInt32)) (x5.toInt32)).bind fun S_8 =>
  some S_8
) else (
  some S_7
)
def m_puts_40 (g : Nat) (S : St) (x2 : Int32) (x3 : Int64) (x5 : Int64) (y1 : Int32) : Option St :=
(m_refuse g S y1 (1 : Int32)).bind fun S_5 =>
(m_isIn g x5 (0 : Int64) (65535 : Int64)).bind fun v_6 =>
if v_6 = 0 then (
  m_puts_62 g S_5 x2 x3 x5 (1 : Int32)
) else (
  m_puts_62 g S_5 x2 x3 x5 (0 : Int32)
)
def m_puts (g : Nat) (S : St) (x1 : Int32) (x2 : Int32) : Option St :=
(m_value g S (x1 + (1 : Int32))).bind fun v_1 =>
(m_value g S (x1 + (2 : Int32))).bind fun v_2 =>
(aI S 28 x2).bind fun v_3 =>
(m_isIn g v_1 (0 : Int64) ((v_3 - (1 : Int32)).toInt64)).bind fun v_4 =>
if v_4 = 0 then (
  m_puts_40 g S x2 v_1 v_2 (1 : Int32)
) else (
  m_puts_40 g S x2 v_1 v_2 (0 : Int32)
)
section S_puts
variable {p : Program} {l : Launch} {e : Env} {s : State} {m : MethodId} {args : Array Value} {below : List Frame} {meth : Method} {c : Code} {H : Heap} {locs : List Loc} {ls : Array Slot} {D : va_G} {T : Cy} {ρ : Nat → Nat} {A : Nat → Prop}
set_option maxRecDepth 100000 in
set_option maxHeartbeats 4000000 in
theorem w_puts_62  {g : Nat} {S : St} {x2 : Int32} {x3 : Int64} {x5 : Int64} {y1 : Int32} (C : CallFix p m c cX13_puts 7 s args tb RX13) (hr : meth.sig.returnType = none) (hk : meth.locks = false) {S' : St} (w : Wn Ym D T ρ S A s H locs) (hl : lv_has ls 7 [(0, .ref (ρ 0)), (2, .int x2), (3, .long x3), (5, .long x5)]) (h : m_puts_62 g S x2 x3 x5 y1 = some S') : W p l e (rmN 1 25) s m args below meth c H locs 0 0 (MQ below (Qv Ym D T ρ A S') args s 0 0 A) (F0 m 62 ls [.int y1, .ref (ρ 0)]) := by
  unfold m_puts_62 at h
  refine lv_iconst (v := 3) C.1 C.2.1 dX13_puts_62 (by decide) ?_
  obtain ⟨S_7, hS_7, h⟩ := bnd h
  refine x_callVv (q := (RX13, TX13, 68)) (As := [.int y1, .int (3 : Int32)]) (rest := []) C w (k_refuse l D T ρ g H.size S hS_7) vM466 ⟨by decide, by decide⟩ obM (by decide) rfl rfl rfl hl.1 (Nat.le_of_ble_eq_true rfl) ⟨Nat.zero_le _, Nat.zero_le _⟩ dX13_puts_63 (fun H locs w => ?_)
  refine lv_aload_n C.1 C.2.1 dX13_puts_66 rfl (lv_at hl 0 rfl) ?_
  refine x_getI C w fM398 obM dX13_puts_67 ?_
  refine lv_if_ne (tgt := 89) C.1 C.2.1 dX13_puts_70 (by decide) (fun hc => ?_) (fun hc => ?_)
  · replace h := iff0 hc h
    obtain rfl := som h
    exact x_vret C w hr hk dX13_puts_89
  · replace h := ift hc h
    refine lv_aload_n C.1 C.2.1 dX13_puts_73 rfl (lv_at hl 0 rfl) ?_
    refine x_getC C w 30 fM211 obM rfl dX13_puts_74 ?_
    refine lv_sipush (v := 400) C.1 C.2.1 dX13_puts_77 (by decide) ?_
    refine lv_iload_n C.1 C.2.1 dX13_puts_80 rfl (lv_at hl 1 rfl) ?_
    refine lv_imul C.1 C.2.1 dX13_puts_81 ?_
    refine lv_lload_n C.1 C.2.1 dX13_puts_82 rfl (lv_at hl 2 rfl) ?_
    refine lv_l2i C.1 C.2.1 dX13_puts_83 rfl ?_
    refine lv_iadd C.1 C.2.1 dX13_puts_84 ?_
    refine lv_lload C.1 C.2.1 dX13_puts_85 (lv_at hl 3 rfl) ?_
    refine lv_l2i C.1 C.2.1 dX13_puts_87 rfl ?_
    obtain ⟨S_8, hS_8, h⟩ := bnd h
    refine x_iast C w obM30 hS_8 dX13_puts_88 (fun H locs w => ?_)
    obtain rfl := som h
    exact x_vret C w hr hk dX13_puts_89
set_option maxRecDepth 100000 in
set_option maxHeartbeats 4000000 in
theorem w_puts_40  {g : Nat} {S : St} {x2 : Int32} {x3 : Int64} {x5 : Int64} {y1 : Int32} (C : CallFix p m c cX13_puts 7 s args tb RX13) (hr : meth.sig.returnType = none) (hk : meth.locks = false) {S' : St} (w : Wn Ym D T ρ S A s H locs) (hl : lv_has ls 7 [(0, .ref (ρ 0)), (2, .int x2), (3, .long x3), (5, .long x5)]) (h : m_puts_40 g S x2 x3 x5 y1 = some S') : W p l e (rmN 1 25) s m args below meth c H locs 0 0 (MQ below (Qv Ym D T ρ A S') args s 0 0 A) (F0 m 40 ls [.int y1, .ref (ρ 0)]) := by
  unfold m_puts_40 at h
  refine lv_iconst (v := 1) C.1 C.2.1 dX13_puts_40 (by decide) ?_
  obtain ⟨S_5, hS_5, h⟩ := bnd h
  refine x_callVv (q := (RX13, TX13, 68)) (As := [.int y1, .int (1 : Int32)]) (rest := []) C w (k_refuse l D T ρ g H.size S hS_5) vM466 ⟨by decide, by decide⟩ obM (by decide) rfl rfl rfl hl.1 (Nat.le_of_ble_eq_true rfl) ⟨Nat.zero_le _, Nat.zero_le _⟩ dX13_puts_41 (fun H locs w => ?_)
  refine lv_aload_n C.1 C.2.1 dX13_puts_44 rfl (lv_at hl 0 rfl) ?_
  refine lv_lload C.1 C.2.1 dX13_puts_45 (lv_at hl 3 rfl) ?_
  refine lv_lconst (v := 0) C.1 C.2.1 dX13_puts_47 (by decide) ?_
  refine lv_ldc2 C.1 C.2.1 C.2.2.2.1 (C.2.2.2.2 _ nM623) dX13_puts_48 ?_
  obtain ⟨v_6, hv_6, h⟩ := bnd h
  refine x_callSi (As := [.long x5, .long (0 : Int64), .long (65535 : Int64)]) (rest := [.ref (ρ 0)]) C w (k_isIn l D T ρ g H.size S_5 hv_6) vM318 ⟨by decide, by decide⟩ rfl rfl hl.1 (Nat.le_of_ble_eq_true rfl) ⟨Nat.zero_le _, Nat.zero_le _⟩ dX13_puts_51 (fun H locs w => ?_)
  refine lv_if_ne (tgt := 61) C.1 C.2.1 dX13_puts_54 (by decide) (fun hc => ?_) (fun hc => ?_)
  · replace h := iff0 hc h
    refine lv_iconst (v := 0) C.1 C.2.1 dX13_puts_61 (by decide) ?_
    exact w_puts_62 C hr hk w (lv_sub hl [0, 1, 2, 3] rfl) h
  · replace h := ift hc h
    refine lv_iconst (v := 1) C.1 C.2.1 dX13_puts_57 (by decide) ?_
    refine lv_goto (tgt := 62) C.1 C.2.1 dX13_puts_58 (by decide) ?_
    exact w_puts_62 C hr hk w (lv_sub hl [0, 1, 2, 3] rfl) h
set_option maxRecDepth 100000 in
set_option maxHeartbeats 4000000 in
theorem w_puts_0  {g : Nat} {S : St} {x1 : Int32} {x2 : Int32} (C : CallFix p m c cX13_puts 7 s args tb RX13) (hr : meth.sig.returnType = none) (hk : meth.locks = false) {S' : St} (w : Wn Ym D T ρ S A s H locs) (hl : lv_has ls 7 [(0, .ref (ρ 0)), (1, .int x1), (2, .int x2)]) (h : m_puts g S x1 x2 = some S') : W p l e (rmN 1 25) s m args below meth c H locs 0 0 (MQ below (Qv Ym D T ρ A S') args s 0 0 A) (F0 m 0 ls []) := by
  unfold m_puts at h
  refine lv_aload_n C.1 C.2.1 dX13_puts_0 rfl (lv_at hl 0 rfl) ?_
  refine lv_iload_n C.1 C.2.1 dX13_puts_1 rfl (lv_at hl 1 rfl) ?_
  refine lv_iconst (v := 1) C.1 C.2.1 dX13_puts_2 (by decide) ?_
  refine lv_iadd C.1 C.2.1 dX13_puts_3 ?_
  obtain ⟨v_1, hv_1, h⟩ := bnd h
  refine x_callVj (q := (RX13, TX13, 68)) (As := [.int (x1 + (1 : Int32))]) (rest := []) C w (k_value l D T ρ g H.size S hv_1) vM459 ⟨by decide, by decide⟩ obM (by decide) rfl rfl rfl hl.1 (Nat.le_of_ble_eq_true rfl) ⟨Nat.zero_le _, Nat.zero_le _⟩ dX13_puts_4 (fun H locs w => ?_)
  refine lv_lstore_n (lv' := [(3, .long v_1), (0, .ref (ρ 0)), (1, .int x1), (2, .int x2)]) C.1 C.2.1 dX13_puts_7 rfl hl (by decide) rfl (fun ls hl => ?_)
  refine lv_aload_n C.1 C.2.1 dX13_puts_8 rfl (lv_at hl 1 rfl) ?_
  refine lv_iload_n C.1 C.2.1 dX13_puts_9 rfl (lv_at hl 2 rfl) ?_
  refine lv_iconst (v := 2) C.1 C.2.1 dX13_puts_10 (by decide) ?_
  refine lv_iadd C.1 C.2.1 dX13_puts_11 ?_
  obtain ⟨v_2, hv_2, h⟩ := bnd h
  refine x_callVj (q := (RX13, TX13, 68)) (As := [.int (x1 + (2 : Int32))]) (rest := []) C w (k_value l D T ρ g H.size S hv_2) vM459 ⟨by decide, by decide⟩ obM (by decide) rfl rfl rfl hl.1 (Nat.le_of_ble_eq_true rfl) ⟨Nat.zero_le _, Nat.zero_le _⟩ dX13_puts_12 (fun H locs w => ?_)
  refine lv_lstore (lv' := [(5, .long v_2), (3, .long v_1), (0, .ref (ρ 0)), (1, .int x1), (2, .int x2)]) C.1 C.2.1 dX13_puts_15 hl (by decide) rfl (fun ls hl => ?_)
  refine lv_aload_n C.1 C.2.1 dX13_puts_17 rfl (lv_at hl 2 rfl) ?_
  refine lv_lload_n C.1 C.2.1 dX13_puts_18 rfl (lv_at hl 1 rfl) ?_
  refine lv_lconst (v := 0) C.1 C.2.1 dX13_puts_19 (by decide) ?_
  refine lv_aload_n C.1 C.2.1 dX13_puts_20 rfl (lv_at hl 2 rfl) ?_
  refine x_getC C w 28 fM205 obM rfl dX13_puts_21 ?_
  refine lv_iload_n C.1 C.2.1 dX13_puts_24 rfl (lv_at hl 4 rfl) ?_
  obtain ⟨v_3, hv_3, h⟩ := bnd h
  refine x_iald C w obM28 hv_3 dX13_puts_25 ?_
  refine lv_iconst (v := 1) C.1 C.2.1 dX13_puts_26 (by decide) ?_
  refine lv_isub C.1 C.2.1 dX13_puts_27 ?_
  refine lv_i2l C.1 C.2.1 dX13_puts_28 rfl ?_
  obtain ⟨v_4, hv_4, h⟩ := bnd h
  refine x_callSi (As := [.long v_1, .long (0 : Int64), .long ((v_3 - (1 : Int32)).toInt64)]) (rest := [.ref (ρ 0)]) C w (k_isIn l D T ρ g H.size S hv_4) vM318 ⟨by decide, by decide⟩ rfl rfl hl.1 (Nat.le_of_ble_eq_true rfl) ⟨Nat.zero_le _, Nat.zero_le _⟩ dX13_puts_29 (fun H locs w => ?_)
  refine lv_if_ne (tgt := 39) C.1 C.2.1 dX13_puts_32 (by decide) (fun hc => ?_) (fun hc => ?_)
  · replace h := iff0 hc h
    refine lv_iconst (v := 0) C.1 C.2.1 dX13_puts_39 (by decide) ?_
    exact w_puts_40 C hr hk w (lv_sub hl [2, 4, 1, 0] rfl) h
  · replace h := ift hc h
    refine lv_iconst (v := 1) C.1 C.2.1 dX13_puts_35 (by decide) ?_
    refine lv_goto (tgt := 40) C.1 C.2.1 dX13_puts_36 (by decide) ?_
    exact w_puts_40 C hr hk w (lv_sub hl [2, 4, 1, 0] rfl) h
end S_puts
set_option maxRecDepth 100000 in
theorem k_puts (l : Launch) (D : va_G) (T : Cy) (ρ : Nat → Nat) (g sz : Nat) (S : St) {x1 : Int32} {x2 : Int32} {S' : St} (h : m_puts g S x1 x2 = some S') : Mv l Ym D T ρ yX13_puts cX13_puts 7 none 1 25 S S' [.ref (ρ 0), .int x1, .int x2] sz :=
  x_in (by decide) (Nat.le_of_ble_eq_true rfl) (fun p e s m below meth c ls C hr hk w hl => w_puts_0 C hr hk w hl h)

theorem dX13_sizes_0 : decode cX13_sizes 0 = .ok (.aload_n 0, 1) := by decide +kernel
theorem dX13_sizes_1 : decode cX13_sizes 1 = .ok (.iload_n 1, 1) := by decide +kernel
theorem dX13_sizes_2 : decode cX13_sizes 2 = .ok (.iconst 1, 1) := by decide +kernel
theorem dX13_sizes_3 : decode cX13_sizes 3 = .ok (.iadd, 1) := by decide +kernel
theorem dX13_sizes_4 : decode cX13_sizes 4 = .ok (.invokevirtual 459, 3) := by decide +kernel
theorem dX13_sizes_7 : decode cX13_sizes 7 = .ok (.lstore_n 3, 1) := by decide +kernel
theorem dX13_sizes_8 : decode cX13_sizes 8 = .ok (.aload_n 0, 1) := by decide +kernel
theorem dX13_sizes_9 : decode cX13_sizes 9 = .ok (.lload_n 3, 1) := by decide +kernel
theorem dX13_sizes_10 : decode cX13_sizes 10 = .ok (.lconst 0, 1) := by decide +kernel
theorem dX13_sizes_11 : decode cX13_sizes 11 = .ok (.lcmp, 1) := by decide +kernel
theorem dX13_sizes_12 : decode cX13_sizes 12 = .ok (.ifCond .ge 7, 3) := by decide +kernel
theorem dX13_sizes_15 : decode cX13_sizes 15 = .ok (.iconst 1, 1) := by decide +kernel
theorem dX13_sizes_16 : decode cX13_sizes 16 = .ok (.goto 4, 3) := by decide +kernel
theorem dX13_sizes_19 : decode cX13_sizes 19 = .ok (.iconst 0, 1) := by decide +kernel
theorem dX13_sizes_20 : decode cX13_sizes 20 = .ok (.iconst 1, 1) := by decide +kernel
theorem dX13_sizes_21 : decode cX13_sizes 21 = .ok (.invokevirtual 466, 3) := by decide +kernel
theorem dX13_sizes_24 : decode cX13_sizes 24 = .ok (.aload_n 0, 1) := by decide +kernel
theorem dX13_sizes_25 : decode cX13_sizes 25 = .ok (.lload_n 3, 1) := by decide +kernel
theorem dX13_sizes_26 : decode cX13_sizes 26 = .ok (.ldc2_w 679, 3) := by decide +kernel
theorem dX13_sizes_29 : decode cX13_sizes 29 = .ok (.lcmp, 1) := by decide +kernel
theorem dX13_sizes_30 : decode cX13_sizes 30 = .ok (.ifCond .le 7, 3) := by decide +kernel
theorem dX13_sizes_33 : decode cX13_sizes 33 = .ok (.iconst 1, 1) := by decide +kernel
theorem dX13_sizes_34 : decode cX13_sizes 34 = .ok (.goto 4, 3) := by decide +kernel
theorem dX13_sizes_37 : decode cX13_sizes 37 = .ok (.iconst 0, 1) := by decide +kernel
theorem dX13_sizes_38 : decode cX13_sizes 38 = .ok (.iconst 5, 1) := by decide +kernel
theorem dX13_sizes_39 : decode cX13_sizes 39 = .ok (.invokevirtual 466, 3) := by decide +kernel
theorem dX13_sizes_42 : decode cX13_sizes 42 = .ok (.aload_n 0, 1) := by decide +kernel
theorem dX13_sizes_43 : decode cX13_sizes 43 = .ok (.getfield 398, 3) := by decide +kernel
theorem dX13_sizes_46 : decode cX13_sizes 46 = .ok (.ifCond .eq 4, 3) := by decide +kernel
theorem dX13_sizes_49 : decode cX13_sizes 49 = .ok (.return_, 1) := by decide +kernel
theorem dX13_sizes_50 : decode cX13_sizes 50 = .ok (.aload_n 0, 1) := by decide +kernel
theorem dX13_sizes_51 : decode cX13_sizes 51 = .ok (.iload_n 2, 1) := by decide +kernel
theorem dX13_sizes_52 : decode cX13_sizes 52 = .ok (.lload_n 3, 1) := by decide +kernel
theorem dX13_sizes_53 : decode cX13_sizes 53 = .ok (.l2i, 1) := by decide +kernel
theorem dX13_sizes_54 : decode cX13_sizes 54 = .ok (.invokevirtual 681, 3) := by decide +kernel
theorem dX13_sizes_57 : decode cX13_sizes 57 = .ok (.aload_n 0, 1) := by decide +kernel
theorem dX13_sizes_58 : decode cX13_sizes 58 = .ok (.getfield 205, 3) := by decide +kernel
theorem dX13_sizes_61 : decode cX13_sizes 61 = .ok (.iload_n 2, 1) := by decide +kernel
theorem dX13_sizes_62 : decode cX13_sizes 62 = .ok (.iaload, 1) := by decide +kernel
theorem dX13_sizes_63 : decode cX13_sizes 63 = .ok (.istore 5, 2) := by decide +kernel
theorem dX13_sizes_65 : decode cX13_sizes 65 = .ok (.iload 5, 2) := by decide +kernel
theorem dX13_sizes_67 : decode cX13_sizes 67 = .ok (.i2l, 1) := by decide +kernel
theorem dX13_sizes_68 : decode cX13_sizes 68 = .ok (.lload_n 3, 1) := by decide +kernel
theorem dX13_sizes_69 : decode cX13_sizes 69 = .ok (.lcmp, 1) := by decide +kernel
theorem dX13_sizes_70 : decode cX13_sizes 70 = .ok (.ifCond .ge 23, 3) := by decide +kernel
theorem dX13_sizes_73 : decode cX13_sizes 73 = .ok (.aload_n 0, 1) := by decide +kernel
theorem dX13_sizes_74 : decode cX13_sizes 74 = .ok (.getfield 211, 3) := by decide +kernel
theorem dX13_sizes_77 : decode cX13_sizes 77 = .ok (.sipush 400, 3) := by decide +kernel
theorem dX13_sizes_80 : decode cX13_sizes 80 = .ok (.iload_n 2, 1) := by decide +kernel
theorem dX13_sizes_81 : decode cX13_sizes 81 = .ok (.imul, 1) := by decide +kernel
theorem dX13_sizes_82 : decode cX13_sizes 82 = .ok (.iload 5, 2) := by decide +kernel
theorem dX13_sizes_84 : decode cX13_sizes 84 = .ok (.iadd, 1) := by decide +kernel
theorem dX13_sizes_85 : decode cX13_sizes 85 = .ok (.iconst 0, 1) := by decide +kernel
theorem dX13_sizes_86 : decode cX13_sizes 86 = .ok (.iastore, 1) := by decide +kernel
theorem dX13_sizes_87 : decode cX13_sizes 87 = .ok (.iinc 5 1, 3) := by decide +kernel
theorem dX13_sizes_90 : decode cX13_sizes 90 = .ok (.goto (-25), 3) := by decide +kernel
theorem dX13_sizes_93 : decode cX13_sizes 93 = .ok (.aload_n 0, 1) := by decide +kernel
theorem dX13_sizes_94 : decode cX13_sizes 94 = .ok (.getfield 205, 3) := by decide +kernel
theorem dX13_sizes_97 : decode cX13_sizes 97 = .ok (.iload_n 2, 1) := by decide +kernel
theorem dX13_sizes_98 : decode cX13_sizes 98 = .ok (.lload_n 3, 1) := by decide +kernel
theorem dX13_sizes_99 : decode cX13_sizes 99 = .ok (.l2i, 1) := by decide +kernel
theorem dX13_sizes_100 : decode cX13_sizes 100 = .ok (.iastore, 1) := by decide +kernel
theorem dX13_sizes_101 : decode cX13_sizes 101 = .ok (.return_, 1) := by decide +kernel
def b_sizes_65 (g : Nat) (k65 : St → Int32 → Int64 → Int32 → Option St) (S : St) (x2 : Int32) (x3 : Int64) (x5 : Int32) : Option St :=
if (x5.toInt64) < x3 then (
  (tI S 30 (((400 : Int32) * x2) + x5) (0 : Int32)).bind fun S_7 =>
  lt (x5 + (1 : Int32)) fun x5_8 =>
  k65 S_7 x2 x3 x5_8
) else (
  (tI S 28 x2 (x3.toInt32)).bind fun S_6 =>
  some S_6
)
def m_sizes_65 (g : Nat) : Nat → St → Int32 → Int64 → Int32 → Option St
  | 0, _, _, _, _ => none
  | n + 1, S, x2, x3, x5 => b_sizes_65 g (m_sizes_65 g n) S x2 x3 x5
def m_sizes_38 (g : Nat) (S : St) (x2 : Int32) (x3 : Int64) (y1 : Int32) : Option St :=
(m_refuse g S y1 (5 : Int32)).bind fun S_3 =>
if (gI S_3 0 58) = 0 then (
  (m_grows g S_3 x2 (x3.toInt32)).bind fun S_4 =>
  (aI S_4 28 x2).bind fun v_5 =>
  m_sizes_65 g g S_4 x2 x3 v_5
) else (
  some S_3
)
def m_sizes_20 (g : Nat) (S : St) (x2 : Int32) (x3 : Int64) (y1 : Int32) : Option St :=
(m_refuse g S y1 (1 : Int32)).bind fun S_2 =>
if (400 : Int64) < x3 then (
  m_sizes_38 g S_2 x2 x3 (1 : Int32)
) else (
  m_sizes_38 g S_2 x2 x3 (0 : Int32)
)
def m_sizes (g : Nat) (S : St) (x1 : Int32) (x2 : Int32) : Option St :=
(m_value g S (x1 + (1 : Int32))).bind fun v_1 =>
if v_1 < (0 : Int64) then (
  m_sizes_20 g S x2 v_1 (1 : Int32)
) else (
  m_sizes_20 g S x2 v_1 (0 : Int32)
)
section S_sizes
variable {p : Program} {l : Launch} {e : Env} {s : State} {m : MethodId} {args : Array Value} {below : List Frame} {meth : Method} {c : Code} {H : Heap} {locs : List Loc} {ls : Array Slot} {D : va_G} {T : Cy} {ρ : Nat → Nat} {A : Nat → Prop}
set_option maxRecDepth 100000 in
set_option maxHeartbeats 4000000 in
theorem wb_sizes_65  {g : Nat} {S : St} {x2 : Int32} {x3 : Int64} {x5 : Int32} (C : CallFix p m c cX13_sizes 6 s args tb RX13) (hr : meth.sig.returnType = none) (hk : meth.locks = false) {S' : St} {k65 : St → Int32 → Int64 → Int32 → Option St} (kk65 : ∀ (S : St) (x2 : Int32) (x3 : Int64) (x5 : Int32) (H : Heap) (locs : List Loc) (ls : Array Slot), Wn Ym D T ρ S A s H locs → lv_has ls 6 [(0, .ref (ρ 0)), (2, .int x2), (3, .long x3), (5, .int x5)] → k65 S x2 x3 x5 = some S' → W p l e (rmN 1 22) s m args below meth c H locs 0 0 (MQ below (Qv Ym D T ρ A S') args s 0 0 A) (F0 m 65 ls [])) (w : Wn Ym D T ρ S A s H locs) (hl : lv_has ls 6 [(0, .ref (ρ 0)), (2, .int x2), (3, .long x3), (5, .int x5)]) (h : b_sizes_65 g k65 S x2 x3 x5 = some S') : W p l e (rmN 1 22) s m args below meth c H locs 0 0 (MQ below (Qv Ym D T ρ A S') args s 0 0 A) (F0 m 65 ls []) := by
  unfold b_sizes_65 at h
  refine lv_iload C.1 C.2.1 dX13_sizes_65 (lv_at hl 3 rfl) ?_
  refine lv_i2l C.1 C.2.1 dX13_sizes_67 rfl ?_
  refine lv_lload_n C.1 C.2.1 dX13_sizes_68 rfl (lv_at hl 2 rfl) ?_
  refine x_l_ge (tgt := 93) C dX13_sizes_69 dX13_sizes_70 (by decide) (fun hc => ?_) (fun hc => ?_)
  · replace h := iff0 hc h
    refine lv_aload_n C.1 C.2.1 dX13_sizes_93 rfl (lv_at hl 0 rfl) ?_
    refine x_getC C w 28 fM205 obM rfl dX13_sizes_94 ?_
    refine lv_iload_n C.1 C.2.1 dX13_sizes_97 rfl (lv_at hl 1 rfl) ?_
    refine lv_lload_n C.1 C.2.1 dX13_sizes_98 rfl (lv_at hl 2 rfl) ?_
    refine lv_l2i C.1 C.2.1 dX13_sizes_99 rfl ?_
    obtain ⟨S_6, hS_6, h⟩ := bnd h
    refine x_iast C w obM28 hS_6 dX13_sizes_100 (fun H locs w => ?_)
    obtain rfl := som h
    exact x_vret C w hr hk dX13_sizes_101
  · replace h := ift hc h
    refine lv_aload_n C.1 C.2.1 dX13_sizes_73 rfl (lv_at hl 0 rfl) ?_
    refine x_getC C w 30 fM211 obM rfl dX13_sizes_74 ?_
    refine lv_sipush (v := 400) C.1 C.2.1 dX13_sizes_77 (by decide) ?_
    refine lv_iload_n C.1 C.2.1 dX13_sizes_80 rfl (lv_at hl 1 rfl) ?_
    refine lv_imul C.1 C.2.1 dX13_sizes_81 ?_
    refine lv_iload C.1 C.2.1 dX13_sizes_82 (lv_at hl 3 rfl) ?_
    refine lv_iadd C.1 C.2.1 dX13_sizes_84 ?_
    refine lv_iconst (v := 0) C.1 C.2.1 dX13_sizes_85 (by decide) ?_
    obtain ⟨S_7, hS_7, h⟩ := bnd h
    refine x_iast C w obM30 hS_7 dX13_sizes_86 (fun H locs w => ?_)
    obtain ⟨x5_8, ex5_8, h⟩ := lt_e h
    refine lv_iinc (v := x5_8) (lv' := [(5, .int x5_8), (0, .ref (ρ 0)), (2, .int x2), (3, .long x3)]) C.1 C.2.1 dX13_sizes_87 hl (k := 3) rfl (by rw [ex5_8]; rfl) (by decide) rfl (fun ls hl => ?_)
    refine lv_goto (tgt := 65) C.1 C.2.1 dX13_sizes_90 (by decide) ?_
    exact kk65 _ _ _ _ _ _ _ w (lv_sub hl [1, 2, 3, 0] rfl) h
theorem w_sizes_65 {g : Nat} (C : CallFix p m c cX13_sizes 6 s args tb RX13) (hr : meth.sig.returnType = none) (hk : meth.locks = false) {S' : St} (n : Nat) : ∀ (S : St) (x2 : Int32) (x3 : Int64) (x5 : Int32) (H : Heap) (locs : List Loc) (ls : Array Slot), Wn Ym D T ρ S A s H locs → lv_has ls 6 [(0, .ref (ρ 0)), (2, .int x2), (3, .long x3), (5, .int x5)] → m_sizes_65 g n S x2 x3 x5 = some S' → W p l e (rmN 1 22) s m args below meth c H locs 0 0 (MQ below (Qv Ym D T ρ A S') args s 0 0 A) (F0 m 65 ls []) := by
  induction n with
  | zero => intro S x2 x3 x5 H locs ls w hl h; exact absurd h (fun q => by cases q)
  | succ n ih => intro S x2 x3 x5 H locs ls w hl h; exact wb_sizes_65 C hr hk ih w hl h
set_option maxRecDepth 100000 in
set_option maxHeartbeats 4000000 in
theorem w_sizes_38  {g : Nat} {S : St} {x2 : Int32} {x3 : Int64} {y1 : Int32} (C : CallFix p m c cX13_sizes 6 s args tb RX13) (hr : meth.sig.returnType = none) (hk : meth.locks = false) {S' : St} (w : Wn Ym D T ρ S A s H locs) (hl : lv_has ls 6 [(0, .ref (ρ 0)), (2, .int x2), (3, .long x3)]) (h : m_sizes_38 g S x2 x3 y1 = some S') : W p l e (rmN 1 22) s m args below meth c H locs 0 0 (MQ below (Qv Ym D T ρ A S') args s 0 0 A) (F0 m 38 ls [.int y1, .ref (ρ 0)]) := by
  unfold m_sizes_38 at h
  refine lv_iconst (v := 5) C.1 C.2.1 dX13_sizes_38 (by decide) ?_
  obtain ⟨S_3, hS_3, h⟩ := bnd h
  refine x_callVv (q := (RX13, TX13, 68)) (As := [.int y1, .int (5 : Int32)]) (rest := []) C w (k_refuse l D T ρ g H.size S hS_3) vM466 ⟨by decide, by decide⟩ obM (by decide) rfl rfl rfl hl.1 (Nat.le_of_ble_eq_true rfl) ⟨Nat.zero_le _, Nat.zero_le _⟩ dX13_sizes_39 (fun H locs w => ?_)
  refine lv_aload_n C.1 C.2.1 dX13_sizes_42 rfl (lv_at hl 0 rfl) ?_
  refine x_getI C w fM398 obM dX13_sizes_43 ?_
  refine lv_if_eq (tgt := 50) C.1 C.2.1 dX13_sizes_46 (by decide) (fun hc => ?_) (fun hc => ?_)
  · replace h := ift hc h
    refine lv_aload_n C.1 C.2.1 dX13_sizes_50 rfl (lv_at hl 0 rfl) ?_
    refine lv_iload_n C.1 C.2.1 dX13_sizes_51 rfl (lv_at hl 1 rfl) ?_
    refine lv_lload_n C.1 C.2.1 dX13_sizes_52 rfl (lv_at hl 2 rfl) ?_
    refine lv_l2i C.1 C.2.1 dX13_sizes_53 rfl ?_
    obtain ⟨S_4, hS_4, h⟩ := bnd h
    refine x_callVv (q := (RX13, TX13, 68)) (As := [.int x2, .int (x3.toInt32)]) (rest := []) C w (k_grows l D T ρ g H.size S_3 hS_4) vM681 ⟨by decide, by decide⟩ obM (by decide) rfl rfl rfl hl.1 (Nat.le_of_ble_eq_true rfl) ⟨Nat.zero_le _, Nat.zero_le _⟩ dX13_sizes_54 (fun H locs w => ?_)
    refine lv_aload_n C.1 C.2.1 dX13_sizes_57 rfl (lv_at hl 0 rfl) ?_
    refine x_getC C w 28 fM205 obM rfl dX13_sizes_58 ?_
    refine lv_iload_n C.1 C.2.1 dX13_sizes_61 rfl (lv_at hl 1 rfl) ?_
    obtain ⟨v_5, hv_5, h⟩ := bnd h
    refine x_iald C w obM28 hv_5 dX13_sizes_62 ?_
    refine lv_istore (lv' := [(5, .int v_5), (0, .ref (ρ 0)), (2, .int x2), (3, .long x3)]) C.1 C.2.1 dX13_sizes_63 hl (by decide) rfl (fun ls hl => ?_)
    exact w_sizes_65 C hr hk g _ _ _ _ _ _ _ w (lv_sub hl [1, 2, 3, 0] rfl) h
  · replace h := iff0 hc h
    obtain rfl := som h
    exact x_vret C w hr hk dX13_sizes_49
set_option maxRecDepth 100000 in
set_option maxHeartbeats 4000000 in
theorem w_sizes_20  {g : Nat} {S : St} {x2 : Int32} {x3 : Int64} {y1 : Int32} (C : CallFix p m c cX13_sizes 6 s args tb RX13) (hr : meth.sig.returnType = none) (hk : meth.locks = false) {S' : St} (w : Wn Ym D T ρ S A s H locs) (hl : lv_has ls 6 [(0, .ref (ρ 0)), (2, .int x2), (3, .long x3)]) (h : m_sizes_20 g S x2 x3 y1 = some S') : W p l e (rmN 1 22) s m args below meth c H locs 0 0 (MQ below (Qv Ym D T ρ A S') args s 0 0 A) (F0 m 20 ls [.int y1, .ref (ρ 0)]) := by
  unfold m_sizes_20 at h
  refine lv_iconst (v := 1) C.1 C.2.1 dX13_sizes_20 (by decide) ?_
  obtain ⟨S_2, hS_2, h⟩ := bnd h
  refine x_callVv (q := (RX13, TX13, 68)) (As := [.int y1, .int (1 : Int32)]) (rest := []) C w (k_refuse l D T ρ g H.size S hS_2) vM466 ⟨by decide, by decide⟩ obM (by decide) rfl rfl rfl hl.1 (Nat.le_of_ble_eq_true rfl) ⟨Nat.zero_le _, Nat.zero_le _⟩ dX13_sizes_21 (fun H locs w => ?_)
  refine lv_aload_n C.1 C.2.1 dX13_sizes_24 rfl (lv_at hl 0 rfl) ?_
  refine lv_lload_n C.1 C.2.1 dX13_sizes_25 rfl (lv_at hl 2 rfl) ?_
  refine lv_ldc2 C.1 C.2.1 C.2.2.2.1 (C.2.2.2.2 _ nM679) dX13_sizes_26 ?_
  refine x_l_le (tgt := 37) C dX13_sizes_29 dX13_sizes_30 (by decide) (fun hc => ?_) (fun hc => ?_)
  · replace h := iff0 hc h
    refine lv_iconst (v := 0) C.1 C.2.1 dX13_sizes_37 (by decide) ?_
    exact w_sizes_38 C hr hk w (lv_sub hl [0, 1, 2] rfl) h
  · replace h := ift hc h
    refine lv_iconst (v := 1) C.1 C.2.1 dX13_sizes_33 (by decide) ?_
    refine lv_goto (tgt := 38) C.1 C.2.1 dX13_sizes_34 (by decide) ?_
    exact w_sizes_38 C hr hk w (lv_sub hl [0, 1, 2] rfl) h
set_option maxRecDepth 100000 in
set_option maxHeartbeats 4000000 in
theorem w_sizes_0  {g : Nat} {S : St} {x1 : Int32} {x2 : Int32} (C : CallFix p m c cX13_sizes 6 s args tb RX13) (hr : meth.sig.returnType = none) (hk : meth.locks = false) {S' : St} (w : Wn Ym D T ρ S A s H locs) (hl : lv_has ls 6 [(0, .ref (ρ 0)), (1, .int x1), (2, .int x2)]) (h : m_sizes g S x1 x2 = some S') : W p l e (rmN 1 22) s m args below meth c H locs 0 0 (MQ below (Qv Ym D T ρ A S') args s 0 0 A) (F0 m 0 ls []) := by
  unfold m_sizes at h
  refine lv_aload_n C.1 C.2.1 dX13_sizes_0 rfl (lv_at hl 0 rfl) ?_
  refine lv_iload_n C.1 C.2.1 dX13_sizes_1 rfl (lv_at hl 1 rfl) ?_
  refine lv_iconst (v := 1) C.1 C.2.1 dX13_sizes_2 (by decide) ?_
  refine lv_iadd C.1 C.2.1 dX13_sizes_3 ?_
  obtain ⟨v_1, hv_1, h⟩ := bnd h
  refine x_callVj (q := (RX13, TX13, 68)) (As := [.int (x1 + (1 : Int32))]) (rest := []) C w (k_value l D T ρ g H.size S hv_1) vM459 ⟨by decide, by decide⟩ obM (by decide) rfl rfl rfl hl.1 (Nat.le_of_ble_eq_true rfl) ⟨Nat.zero_le _, Nat.zero_le _⟩ dX13_sizes_4 (fun H locs w => ?_)
  refine lv_lstore_n (lv' := [(3, .long v_1), (0, .ref (ρ 0)), (1, .int x1), (2, .int x2)]) C.1 C.2.1 dX13_sizes_7 rfl hl (by decide) rfl (fun ls hl => ?_)
  refine lv_aload_n C.1 C.2.1 dX13_sizes_8 rfl (lv_at hl 1 rfl) ?_
  refine lv_lload_n C.1 C.2.1 dX13_sizes_9 rfl (lv_at hl 0 rfl) ?_
  refine lv_lconst (v := 0) C.1 C.2.1 dX13_sizes_10 (by decide) ?_
  refine x_l_ge (tgt := 19) C dX13_sizes_11 dX13_sizes_12 (by decide) (fun hc => ?_) (fun hc => ?_)
  · replace h := iff0 hc h
    refine lv_iconst (v := 0) C.1 C.2.1 dX13_sizes_19 (by decide) ?_
    exact w_sizes_20 C hr hk w (lv_sub hl [1, 3, 0] rfl) h
  · replace h := ift hc h
    refine lv_iconst (v := 1) C.1 C.2.1 dX13_sizes_15 (by decide) ?_
    refine lv_goto (tgt := 20) C.1 C.2.1 dX13_sizes_16 (by decide) ?_
    exact w_sizes_20 C hr hk w (lv_sub hl [1, 3, 0] rfl) h
end S_sizes
set_option maxRecDepth 100000 in
theorem k_sizes (l : Launch) (D : va_G) (T : Cy) (ρ : Nat → Nat) (g sz : Nat) (S : St) {x1 : Int32} {x2 : Int32} {S' : St} (h : m_sizes g S x1 x2 = some S') : Mv l Ym D T ρ yX13_sizes cX13_sizes 6 none 1 22 S S' [.ref (ρ 0), .int x1, .int x2] sz :=
  x_in (by decide) (Nat.le_of_ble_eq_true rfl) (fun p e s m below meth c ls C hr hk w hl => w_sizes_0 C hr hk w hl h)

theorem dX13_isHigh_0 : decode cX13_isHigh 0 = .ok (.iload_n 0, 1) := by decide +kernel
theorem dX13_isHigh_1 : decode cX13_isHigh 1 = .ok (.ldc_w 476, 3) := by decide +kernel
theorem dX13_isHigh_4 : decode cX13_isHigh 4 = .ok (.if_icmp .lt 14, 3) := by decide +kernel
theorem dX13_isHigh_7 : decode cX13_isHigh 7 = .ok (.iload_n 0, 1) := by decide +kernel
theorem dX13_isHigh_8 : decode cX13_isHigh 8 = .ok (.ldc_w 493, 3) := by decide +kernel
theorem dX13_isHigh_11 : decode cX13_isHigh 11 = .ok (.if_icmp .gt 7, 3) := by decide +kernel
theorem dX13_isHigh_14 : decode cX13_isHigh 14 = .ok (.iconst 1, 1) := by decide +kernel
theorem dX13_isHigh_15 : decode cX13_isHigh 15 = .ok (.goto 4, 3) := by decide +kernel
theorem dX13_isHigh_18 : decode cX13_isHigh 18 = .ok (.iconst 0, 1) := by decide +kernel
theorem dX13_isHigh_19 : decode cX13_isHigh 19 = .ok (.ireturn, 1) := by decide +kernel
def m_isHigh (g : Nat) (x0 : Int32) : Option Int32 :=
if x0 < (55296 : Int32) then (
  some (0 : Int32)
) else (
  if (56319 : Int32) < x0 then (
    some (0 : Int32)
  ) else (
    some (1 : Int32)
  )
)
section S_isHigh
variable {p : Program} {l : Launch} {e : Env} {s : State} {m : MethodId} {args : Array Value} {below : List Frame} {meth : Method} {c : Code} {H : Heap} {locs : List Loc} {ls : Array Slot} {D : va_G} {T : Cy} {ρ : Nat → Nat} {A : Nat → Prop}
set_option maxRecDepth 100000 in
set_option maxHeartbeats 4000000 in
theorem w_isHigh_0  {g : Nat} {S : St} {x0 : Int32} (C : CallFix p m c cX13_isHigh 1 s args tb RX13) (hr : meth.sig.returnType = (some .boolean)) (hk : meth.locks = false) {r : Int32} (w : Wn Ym D T ρ S A s H locs) (hl : lv_has ls 1 [(0, .int x0)]) (h : m_isHigh g x0 = some r) : W p l e (rmN 0 0) s m args below meth c H locs 0 0 (MQ below (Qi Ym D T ρ A S r) args s 0 0 A) (F0 m 0 ls []) := by
  unfold m_isHigh at h
  refine lv_iload_n C.1 C.2.1 dX13_isHigh_0 rfl (lv_at hl 0 rfl) ?_
  refine lv_ldcw C.1 C.2.1 C.2.2.2.1 (C.2.2.2.2 _ nM476) dX13_isHigh_1 ?_
  refine lv_icmp_lt (tgt := 18) C.1 C.2.1 dX13_isHigh_4 (by decide) (fun hc => ?_) (fun hc => ?_)
  · replace h := ift hc h
    refine lv_iconst (v := 0) C.1 C.2.1 dX13_isHigh_18 (by decide) ?_
    obtain rfl := som h
    exact x_zret C w hr hk (by decide) dX13_isHigh_19
  · replace h := iff0 hc h
    refine lv_iload_n C.1 C.2.1 dX13_isHigh_7 rfl (lv_at hl 0 rfl) ?_
    refine lv_ldcw C.1 C.2.1 C.2.2.2.1 (C.2.2.2.2 _ nM493) dX13_isHigh_8 ?_
    refine lv_icmp_gt (tgt := 18) C.1 C.2.1 dX13_isHigh_11 (by decide) (fun hc => ?_) (fun hc => ?_)
    · replace h := ift hc h
      refine lv_iconst (v := 0) C.1 C.2.1 dX13_isHigh_18 (by decide) ?_
      obtain rfl := som h
      exact x_zret C w hr hk (by decide) dX13_isHigh_19
    · replace h := iff0 hc h
      refine lv_iconst (v := 1) C.1 C.2.1 dX13_isHigh_14 (by decide) ?_
      refine lv_goto (tgt := 19) C.1 C.2.1 dX13_isHigh_15 (by decide) ?_
      obtain rfl := som h
      exact x_zret C w hr hk (by decide) dX13_isHigh_19
end S_isHigh
set_option maxRecDepth 100000 in
theorem k_isHigh (l : Launch) (D : va_G) (T : Cy) (ρ : Nat → Nat) (g sz : Nat) (S : St) {x0 : Int32} {r : Int32} (h : m_isHigh g x0 = some r) : Mi l Ym D T ρ yX13_isHigh cX13_isHigh 1 (some .boolean) 0 0 S S r [.int x0] sz :=
  x_in (by decide) (Nat.le_of_ble_eq_true rfl) (fun p e s m below meth c ls C hr hk w hl => w_isHigh_0 C hr hk w hl h)

theorem dX13_isLow_0 : decode cX13_isLow 0 = .ok (.iload_n 0, 1) := by decide +kernel
theorem dX13_isLow_1 : decode cX13_isLow 1 = .ok (.ldc_w 477, 3) := by decide +kernel
theorem dX13_isLow_4 : decode cX13_isLow 4 = .ok (.if_icmp .lt 14, 3) := by decide +kernel
theorem dX13_isLow_7 : decode cX13_isLow 7 = .ok (.iload_n 0, 1) := by decide +kernel
theorem dX13_isLow_8 : decode cX13_isLow 8 = .ok (.ldc_w 494, 3) := by decide +kernel
theorem dX13_isLow_11 : decode cX13_isLow 11 = .ok (.if_icmp .gt 7, 3) := by decide +kernel
theorem dX13_isLow_14 : decode cX13_isLow 14 = .ok (.iconst 1, 1) := by decide +kernel
theorem dX13_isLow_15 : decode cX13_isLow 15 = .ok (.goto 4, 3) := by decide +kernel
theorem dX13_isLow_18 : decode cX13_isLow 18 = .ok (.iconst 0, 1) := by decide +kernel
theorem dX13_isLow_19 : decode cX13_isLow 19 = .ok (.ireturn, 1) := by decide +kernel
def m_isLow (g : Nat) (x0 : Int32) : Option Int32 :=
if x0 < (56320 : Int32) then (
  some (0 : Int32)
) else (
  if (57343 : Int32) < x0 then (
    some (0 : Int32)
  ) else (
    some (1 : Int32)
  )
)
section S_isLow
variable {p : Program} {l : Launch} {e : Env} {s : State} {m : MethodId} {args : Array Value} {below : List Frame} {meth : Method} {c : Code} {H : Heap} {locs : List Loc} {ls : Array Slot} {D : va_G} {T : Cy} {ρ : Nat → Nat} {A : Nat → Prop}
set_option maxRecDepth 100000 in
set_option maxHeartbeats 4000000 in
theorem w_isLow_0  {g : Nat} {S : St} {x0 : Int32} (C : CallFix p m c cX13_isLow 1 s args tb RX13) (hr : meth.sig.returnType = (some .boolean)) (hk : meth.locks = false) {r : Int32} (w : Wn Ym D T ρ S A s H locs) (hl : lv_has ls 1 [(0, .int x0)]) (h : m_isLow g x0 = some r) : W p l e (rmN 0 0) s m args below meth c H locs 0 0 (MQ below (Qi Ym D T ρ A S r) args s 0 0 A) (F0 m 0 ls []) := by
  unfold m_isLow at h
  refine lv_iload_n C.1 C.2.1 dX13_isLow_0 rfl (lv_at hl 0 rfl) ?_
  refine lv_ldcw C.1 C.2.1 C.2.2.2.1 (C.2.2.2.2 _ nM477) dX13_isLow_1 ?_
  refine lv_icmp_lt (tgt := 18) C.1 C.2.1 dX13_isLow_4 (by decide) (fun hc => ?_) (fun hc => ?_)
  · replace h := ift hc h
    refine lv_iconst (v := 0) C.1 C.2.1 dX13_isLow_18 (by decide) ?_
    obtain rfl := som h
    exact x_zret C w hr hk (by decide) dX13_isLow_19
  · replace h := iff0 hc h
    refine lv_iload_n C.1 C.2.1 dX13_isLow_7 rfl (lv_at hl 0 rfl) ?_
    refine lv_ldcw C.1 C.2.1 C.2.2.2.1 (C.2.2.2.2 _ nM494) dX13_isLow_8 ?_
    refine lv_icmp_gt (tgt := 18) C.1 C.2.1 dX13_isLow_11 (by decide) (fun hc => ?_) (fun hc => ?_)
    · replace h := ift hc h
      refine lv_iconst (v := 0) C.1 C.2.1 dX13_isLow_18 (by decide) ?_
      obtain rfl := som h
      exact x_zret C w hr hk (by decide) dX13_isLow_19
    · replace h := iff0 hc h
      refine lv_iconst (v := 1) C.1 C.2.1 dX13_isLow_14 (by decide) ?_
      refine lv_goto (tgt := 19) C.1 C.2.1 dX13_isLow_15 (by decide) ?_
      obtain rfl := som h
      exact x_zret C w hr hk (by decide) dX13_isLow_19
end S_isLow
set_option maxRecDepth 100000 in
theorem k_isLow (l : Launch) (D : va_G) (T : Cy) (ρ : Nat → Nat) (g sz : Nat) (S : St) {x0 : Int32} {r : Int32} (h : m_isLow g x0 = some r) : Mi l Ym D T ρ yX13_isLow cX13_isLow 1 (some .boolean) 0 0 S S r [.int x0] sz :=
  x_in (by decide) (Nat.le_of_ble_eq_true rfl) (fun p e s m below meth c ls C hr hk w hl => w_isLow_0 C hr hk w hl h)

theorem dX13_turns_0 : decode cX13_turns 0 = .ok (.aload_n 0, 1) := by decide +kernel
theorem dX13_turns_1 : decode cX13_turns 1 = .ok (.getfield 205, 3) := by decide +kernel
theorem dX13_turns_4 : decode cX13_turns 4 = .ok (.iload_n 1, 1) := by decide +kernel
theorem dX13_turns_5 : decode cX13_turns 5 = .ok (.iaload, 1) := by decide +kernel
theorem dX13_turns_6 : decode cX13_turns 6 = .ok (.istore_n 2, 1) := by decide +kernel
theorem dX13_turns_7 : decode cX13_turns 7 = .ok (.iload_n 2, 1) := by decide +kernel
theorem dX13_turns_8 : decode cX13_turns 8 = .ok (.ifCond .le 88, 3) := by decide +kernel
theorem dX13_turns_11 : decode cX13_turns 11 = .ok (.iload_n 2, 1) := by decide +kernel
theorem dX13_turns_12 : decode cX13_turns 12 = .ok (.iconst 1, 1) := by decide +kernel
theorem dX13_turns_13 : decode cX13_turns 13 = .ok (.if_icmp .le 47, 3) := by decide +kernel
theorem dX13_turns_16 : decode cX13_turns 16 = .ok (.aload_n 0, 1) := by decide +kernel
theorem dX13_turns_17 : decode cX13_turns 17 = .ok (.getfield 211, 3) := by decide +kernel
theorem dX13_turns_20 : decode cX13_turns 20 = .ok (.sipush 400, 3) := by decide +kernel
theorem dX13_turns_23 : decode cX13_turns 23 = .ok (.iload_n 1, 1) := by decide +kernel
theorem dX13_turns_24 : decode cX13_turns 24 = .ok (.imul, 1) := by decide +kernel
theorem dX13_turns_25 : decode cX13_turns 25 = .ok (.iload_n 2, 1) := by decide +kernel
theorem dX13_turns_26 : decode cX13_turns 26 = .ok (.iadd, 1) := by decide +kernel
theorem dX13_turns_27 : decode cX13_turns 27 = .ok (.iconst 1, 1) := by decide +kernel
theorem dX13_turns_28 : decode cX13_turns 28 = .ok (.isub, 1) := by decide +kernel
theorem dX13_turns_29 : decode cX13_turns 29 = .ok (.iaload, 1) := by decide +kernel
theorem dX13_turns_30 : decode cX13_turns 30 = .ok (.invokestatic 510, 3) := by decide +kernel
theorem dX13_turns_33 : decode cX13_turns 33 = .ok (.ifCond .eq 27, 3) := by decide +kernel
theorem dX13_turns_36 : decode cX13_turns 36 = .ok (.aload_n 0, 1) := by decide +kernel
theorem dX13_turns_37 : decode cX13_turns 37 = .ok (.getfield 211, 3) := by decide +kernel
theorem dX13_turns_40 : decode cX13_turns 40 = .ok (.sipush 400, 3) := by decide +kernel
theorem dX13_turns_43 : decode cX13_turns 43 = .ok (.iload_n 1, 1) := by decide +kernel
theorem dX13_turns_44 : decode cX13_turns 44 = .ok (.imul, 1) := by decide +kernel
theorem dX13_turns_45 : decode cX13_turns 45 = .ok (.iload_n 2, 1) := by decide +kernel
theorem dX13_turns_46 : decode cX13_turns 46 = .ok (.iadd, 1) := by decide +kernel
theorem dX13_turns_47 : decode cX13_turns 47 = .ok (.iconst 2, 1) := by decide +kernel
theorem dX13_turns_48 : decode cX13_turns 48 = .ok (.isub, 1) := by decide +kernel
theorem dX13_turns_49 : decode cX13_turns 49 = .ok (.iaload, 1) := by decide +kernel
theorem dX13_turns_50 : decode cX13_turns 50 = .ok (.invokestatic 507, 3) := by decide +kernel
theorem dX13_turns_53 : decode cX13_turns 53 = .ok (.ifCond .eq 7, 3) := by decide +kernel
theorem dX13_turns_56 : decode cX13_turns 56 = .ok (.iconst 1, 1) := by decide +kernel
theorem dX13_turns_57 : decode cX13_turns 57 = .ok (.goto 4, 3) := by decide +kernel
theorem dX13_turns_60 : decode cX13_turns 60 = .ok (.iconst 0, 1) := by decide +kernel
theorem dX13_turns_61 : decode cX13_turns 61 = .ok (.istore_n 3, 1) := by decide +kernel
theorem dX13_turns_62 : decode cX13_turns 62 = .ok (.iload_n 2, 1) := by decide +kernel
theorem dX13_turns_63 : decode cX13_turns 63 = .ok (.iload_n 3, 1) := by decide +kernel
theorem dX13_turns_64 : decode cX13_turns 64 = .ok (.ifCond .eq 7, 3) := by decide +kernel
theorem dX13_turns_67 : decode cX13_turns 67 = .ok (.iconst 2, 1) := by decide +kernel
theorem dX13_turns_68 : decode cX13_turns 68 = .ok (.goto 4, 3) := by decide +kernel
theorem dX13_turns_71 : decode cX13_turns 71 = .ok (.iconst 1, 1) := by decide +kernel
theorem dX13_turns_72 : decode cX13_turns 72 = .ok (.isub, 1) := by decide +kernel
theorem dX13_turns_73 : decode cX13_turns 73 = .ok (.istore_n 2, 1) := by decide +kernel
theorem dX13_turns_74 : decode cX13_turns 74 = .ok (.aload_n 0, 1) := by decide +kernel
theorem dX13_turns_75 : decode cX13_turns 75 = .ok (.iload_n 1, 1) := by decide +kernel
theorem dX13_turns_76 : decode cX13_turns 76 = .ok (.iload_n 2, 1) := by decide +kernel
theorem dX13_turns_77 : decode cX13_turns 77 = .ok (.iload_n 3, 1) := by decide +kernel
theorem dX13_turns_78 : decode cX13_turns 78 = .ok (.ifCond .eq 9, 3) := by decide +kernel
theorem dX13_turns_81 : decode cX13_turns 81 = .ok (.iload_n 2, 1) := by decide +kernel
theorem dX13_turns_82 : decode cX13_turns 82 = .ok (.iconst 2, 1) := by decide +kernel
theorem dX13_turns_83 : decode cX13_turns 83 = .ok (.iadd, 1) := by decide +kernel
theorem dX13_turns_84 : decode cX13_turns 84 = .ok (.goto 6, 3) := by decide +kernel
theorem dX13_turns_87 : decode cX13_turns 87 = .ok (.iload_n 2, 1) := by decide +kernel
theorem dX13_turns_88 : decode cX13_turns 88 = .ok (.iconst 1, 1) := by decide +kernel
theorem dX13_turns_89 : decode cX13_turns 89 = .ok (.iadd, 1) := by decide +kernel
theorem dX13_turns_90 : decode cX13_turns 90 = .ok (.invokevirtual 653, 3) := by decide +kernel
theorem dX13_turns_93 : decode cX13_turns 93 = .ok (.goto (-86), 3) := by decide +kernel
theorem dX13_turns_96 : decode cX13_turns 96 = .ok (.iconst 0, 1) := by decide +kernel
theorem dX13_turns_97 : decode cX13_turns 97 = .ok (.istore_n 3, 1) := by decide +kernel
theorem dX13_turns_98 : decode cX13_turns 98 = .ok (.iload_n 3, 1) := by decide +kernel
theorem dX13_turns_99 : decode cX13_turns 99 = .ok (.aload_n 0, 1) := by decide +kernel
theorem dX13_turns_100 : decode cX13_turns 100 = .ok (.getfield 395, 3) := by decide +kernel
theorem dX13_turns_103 : decode cX13_turns 103 = .ok (.if_icmp .ge 27, 3) := by decide +kernel
theorem dX13_turns_106 : decode cX13_turns 106 = .ok (.aload_n 0, 1) := by decide +kernel
theorem dX13_turns_107 : decode cX13_turns 107 = .ok (.getfield 211, 3) := by decide +kernel
theorem dX13_turns_110 : decode cX13_turns 110 = .ok (.sipush 400, 3) := by decide +kernel
theorem dX13_turns_113 : decode cX13_turns 113 = .ok (.iload_n 1, 1) := by decide +kernel
theorem dX13_turns_114 : decode cX13_turns 114 = .ok (.imul, 1) := by decide +kernel
theorem dX13_turns_115 : decode cX13_turns 115 = .ok (.iload_n 3, 1) := by decide +kernel
theorem dX13_turns_116 : decode cX13_turns 116 = .ok (.iadd, 1) := by decide +kernel
theorem dX13_turns_117 : decode cX13_turns 117 = .ok (.aload_n 0, 1) := by decide +kernel
theorem dX13_turns_118 : decode cX13_turns 118 = .ok (.getfield 223, 3) := by decide +kernel
theorem dX13_turns_121 : decode cX13_turns 121 = .ok (.iload_n 3, 1) := by decide +kernel
theorem dX13_turns_122 : decode cX13_turns 122 = .ok (.iaload, 1) := by decide +kernel
theorem dX13_turns_123 : decode cX13_turns 123 = .ok (.iastore, 1) := by decide +kernel
theorem dX13_turns_124 : decode cX13_turns 124 = .ok (.iinc 3 1, 3) := by decide +kernel
theorem dX13_turns_127 : decode cX13_turns 127 = .ok (.goto (-29), 3) := by decide +kernel
theorem dX13_turns_130 : decode cX13_turns 130 = .ok (.return_, 1) := by decide +kernel
def b_turns_98 (g : Nat) (k98 : St → Int32 → Int32 → Option St) (S : St) (x1 : Int32) (x3 : Int32) : Option St :=
if (gI S 0 57) ≤ x3 then (
  some S
) else (
  (aI S 34 x3).bind fun v_2 =>
  (tI S 30 (((400 : Int32) * x1) + x3) v_2).bind fun S_3 =>
  lt (x3 + (1 : Int32)) fun x3_4 =>
  k98 S_3 x1 x3_4
)
def m_turns_98 (g : Nat) : Nat → St → Int32 → Int32 → Option St
  | 0, _, _, _ => none
  | n + 1, S, x1, x3 => b_turns_98 g (m_turns_98 g n) S x1 x3
def m_turns_90 (g : Nat) (k7 : St → Int32 → Int32 → Option St) (S : St) (x1 : Int32) (x2 : Int32) (y1 : Int32) (y2 : Int32) (y3 : Int32) : Option St :=
(m_emitBuilder g S y1 y2 y3).bind fun S_3 =>
k7 S_3 x1 x2
def m_turns_72 (g : Nat) (k7 : St → Int32 → Int32 → Option St) (S : St) (x1 : Int32) (x3 : Int32) (y0 : Int32) (y1 : Int32) : Option St :=
lt (y0 - y1) fun x2_2 =>
if x3 = 0 then (
  m_turns_90 g k7 S x1 x2_2 x1 x2_2 (x2_2 + (1 : Int32))
) else (
  m_turns_90 g k7 S x1 x2_2 x1 x2_2 (x2_2 + (2 : Int32))
)
def m_turns_61 (g : Nat) (k7 : St → Int32 → Int32 → Option St) (S : St) (x1 : Int32) (x2 : Int32) (y0 : Int32) : Option St :=
if y0 = 0 then (
  m_turns_72 g k7 S x1 y0 x2 (1 : Int32)
) else (
  m_turns_72 g k7 S x1 y0 x2 (2 : Int32)
)
def m_turns_60 (g : Nat) (k7 : St → Int32 → Int32 → Option St) (S : St) (x1 : Int32) (x2 : Int32) : Option St :=
m_turns_61 g k7 S x1 x2 (0 : Int32)
def b_turns_7 (g : Nat) (k7 : St → Int32 → Int32 → Option St) (S : St) (x1 : Int32) (x2 : Int32) : Option St :=
if x2 ≤ 0 then (
  m_turns_98 g g S x1 (0 : Int32)
) else (
  if x2 ≤ (1 : Int32) then (
    m_turns_60 g k7 S x1 x2
  ) else (
    (aI S 30 ((((400 : Int32) * x1) + x2) - (1 : Int32))).bind fun v_2 =>
    (m_isLow g v_2).bind fun v_3 =>
    if v_3 = 0 then (
      m_turns_60 g k7 S x1 x2
    ) else (
      (aI S 30 ((((400 : Int32) * x1) + x2) - (2 : Int32))).bind fun v_4 =>
      (m_isHigh g v_4).bind fun v_5 =>
      if v_5 = 0 then (
        m_turns_60 g k7 S x1 x2
      ) else (
        m_turns_61 g k7 S x1 x2 (1 : Int32)
      )
    )
  )
)
def m_turns_7 (g : Nat) : Nat → St → Int32 → Int32 → Option St
  | 0, _, _, _ => none
  | n + 1, S, x1, x2 => b_turns_7 g (m_turns_7 g n) S x1 x2
def m_turns (g : Nat) (S : St) (x1 : Int32) : Option St :=
(aI S 28 x1).bind fun v_1 =>
m_turns_7 g g S x1 v_1
section S_turns
variable {p : Program} {l : Launch} {e : Env} {s : State} {m : MethodId} {args : Array Value} {below : List Frame} {meth : Method} {c : Code} {H : Heap} {locs : List Loc} {ls : Array Slot} {D : va_G} {T : Cy} {ρ : Nat → Nat} {A : Nat → Prop}
set_option maxRecDepth 100000 in
set_option maxHeartbeats 4000000 in
theorem wb_turns_98  {g : Nat} {S : St} {x1 : Int32} {x3 : Int32} (C : CallFix p m c cX13_turns 4 s args tb RX13) (hr : meth.sig.returnType = none) (hk : meth.locks = false) {S' : St} {k98 : St → Int32 → Int32 → Option St} (kk98 : ∀ (S : St) (x1 : Int32) (x3 : Int32) (H : Heap) (locs : List Loc) (ls : Array Slot), Wn Ym D T ρ S A s H locs → lv_has ls 4 [(0, .ref (ρ 0)), (1, .int x1), (3, .int x3)] → k98 S x1 x3 = some S' → W p l e (rmN 2 45) s m args below meth c H locs 0 0 (MQ below (Qv Ym D T ρ A S') args s 0 0 A) (F0 m 98 ls [])) (w : Wn Ym D T ρ S A s H locs) (hl : lv_has ls 4 [(0, .ref (ρ 0)), (1, .int x1), (3, .int x3)]) (h : b_turns_98 g k98 S x1 x3 = some S') : W p l e (rmN 2 45) s m args below meth c H locs 0 0 (MQ below (Qv Ym D T ρ A S') args s 0 0 A) (F0 m 98 ls []) := by
  unfold b_turns_98 at h
  refine lv_iload_n C.1 C.2.1 dX13_turns_98 rfl (lv_at hl 2 rfl) ?_
  refine lv_aload_n C.1 C.2.1 dX13_turns_99 rfl (lv_at hl 0 rfl) ?_
  refine x_getI C w fM395 obM dX13_turns_100 ?_
  refine lv_icmp_ge (tgt := 130) C.1 C.2.1 dX13_turns_103 (by decide) (fun hc => ?_) (fun hc => ?_)
  · replace h := ift hc h
    obtain rfl := som h
    exact x_vret C w hr hk dX13_turns_130
  · replace h := iff0 hc h
    refine lv_aload_n C.1 C.2.1 dX13_turns_106 rfl (lv_at hl 0 rfl) ?_
    refine x_getC C w 30 fM211 obM rfl dX13_turns_107 ?_
    refine lv_sipush (v := 400) C.1 C.2.1 dX13_turns_110 (by decide) ?_
    refine lv_iload_n C.1 C.2.1 dX13_turns_113 rfl (lv_at hl 1 rfl) ?_
    refine lv_imul C.1 C.2.1 dX13_turns_114 ?_
    refine lv_iload_n C.1 C.2.1 dX13_turns_115 rfl (lv_at hl 2 rfl) ?_
    refine lv_iadd C.1 C.2.1 dX13_turns_116 ?_
    refine lv_aload_n C.1 C.2.1 dX13_turns_117 rfl (lv_at hl 0 rfl) ?_
    refine x_getC C w 34 fM223 obM rfl dX13_turns_118 ?_
    refine lv_iload_n C.1 C.2.1 dX13_turns_121 rfl (lv_at hl 2 rfl) ?_
    obtain ⟨v_2, hv_2, h⟩ := bnd h
    refine x_iald C w obM34 hv_2 dX13_turns_122 ?_
    obtain ⟨S_3, hS_3, h⟩ := bnd h
    refine x_iast C w obM30 hS_3 dX13_turns_123 (fun H locs w => ?_)
    obtain ⟨x3_4, ex3_4, h⟩ := lt_e h
    refine lv_iinc (v := x3_4) (lv' := [(3, .int x3_4), (0, .ref (ρ 0)), (1, .int x1)]) C.1 C.2.1 dX13_turns_124 hl (k := 2) rfl (by rw [ex3_4]; rfl) (by decide) rfl (fun ls hl => ?_)
    refine lv_goto (tgt := 98) C.1 C.2.1 dX13_turns_127 (by decide) ?_
    exact kk98 _ _ _ _ _ _ w (lv_sub hl [1, 2, 0] rfl) h
theorem w_turns_98 {g : Nat} (C : CallFix p m c cX13_turns 4 s args tb RX13) (hr : meth.sig.returnType = none) (hk : meth.locks = false) {S' : St} (n : Nat) : ∀ (S : St) (x1 : Int32) (x3 : Int32) (H : Heap) (locs : List Loc) (ls : Array Slot), Wn Ym D T ρ S A s H locs → lv_has ls 4 [(0, .ref (ρ 0)), (1, .int x1), (3, .int x3)] → m_turns_98 g n S x1 x3 = some S' → W p l e (rmN 2 45) s m args below meth c H locs 0 0 (MQ below (Qv Ym D T ρ A S') args s 0 0 A) (F0 m 98 ls []) := by
  induction n with
  | zero => intro S x1 x3 H locs ls w hl h; exact absurd h (fun q => by cases q)
  | succ n ih => intro S x1 x3 H locs ls w hl h; exact wb_turns_98 C hr hk ih w hl h
set_option maxRecDepth 100000 in
set_option maxHeartbeats 4000000 in
theorem w_turns_90  {g : Nat} {S : St} {x1 : Int32} {x2 : Int32} {y1 : Int32} {y2 : Int32} {y3 : Int32} (C : CallFix p m c cX13_turns 4 s args tb RX13) (hr : meth.sig.returnType = none) (hk : meth.locks = false) {S' : St} {k7 : St → Int32 → Int32 → Option St} (kk7 : ∀ (S : St) (x1 : Int32) (x2 : Int32) (H : Heap) (locs : List Loc) (ls : Array Slot), Wn Ym D T ρ S A s H locs → lv_has ls 4 [(0, .ref (ρ 0)), (1, .int x1), (2, .int x2)] → k7 S x1 x2 = some S' → W p l e (rmN 2 45) s m args below meth c H locs 0 0 (MQ below (Qv Ym D T ρ A S') args s 0 0 A) (F0 m 7 ls [])) (w : Wn Ym D T ρ S A s H locs) (hl : lv_has ls 4 [(0, .ref (ρ 0)), (1, .int x1), (2, .int x2)]) (h : m_turns_90 g k7 S x1 x2 y1 y2 y3 = some S') : W p l e (rmN 2 45) s m args below meth c H locs 0 0 (MQ below (Qv Ym D T ρ A S') args s 0 0 A) (F0 m 90 ls [.int y3, .int y2, .int y1, .ref (ρ 0)]) := by
  unfold m_turns_90 at h
  obtain ⟨S_3, hS_3, h⟩ := bnd h
  refine x_callVv (q := (RX13, TX13, 68)) (As := [.int y1, .int y2, .int y3]) (rest := []) C w (k_emitBuilder l D T ρ g H.size S hS_3) vM653 ⟨by decide, by decide⟩ obM (by decide) rfl rfl rfl hl.1 (Nat.le_of_ble_eq_true rfl) ⟨Nat.zero_le _, Nat.zero_le _⟩ dX13_turns_90 (fun H locs w => ?_)
  refine lv_goto (tgt := 7) C.1 C.2.1 dX13_turns_93 (by decide) ?_
  exact kk7 _ _ _ _ _ _ w (lv_sub hl [0, 1, 2] rfl) h
set_option maxRecDepth 100000 in
set_option maxHeartbeats 4000000 in
theorem w_turns_72  {g : Nat} {S : St} {x1 : Int32} {x3 : Int32} {y0 : Int32} {y1 : Int32} (C : CallFix p m c cX13_turns 4 s args tb RX13) (hr : meth.sig.returnType = none) (hk : meth.locks = false) {S' : St} {k7 : St → Int32 → Int32 → Option St} (kk7 : ∀ (S : St) (x1 : Int32) (x2 : Int32) (H : Heap) (locs : List Loc) (ls : Array Slot), Wn Ym D T ρ S A s H locs → lv_has ls 4 [(0, .ref (ρ 0)), (1, .int x1), (2, .int x2)] → k7 S x1 x2 = some S' → W p l e (rmN 2 45) s m args below meth c H locs 0 0 (MQ below (Qv Ym D T ρ A S') args s 0 0 A) (F0 m 7 ls [])) (w : Wn Ym D T ρ S A s H locs) (hl : lv_has ls 4 [(0, .ref (ρ 0)), (1, .int x1), (3, .int x3)]) (h : m_turns_72 g k7 S x1 x3 y0 y1 = some S') : W p l e (rmN 2 45) s m args below meth c H locs 0 0 (MQ below (Qv Ym D T ρ A S') args s 0 0 A) (F0 m 72 ls [.int y1, .int y0]) := by
  unfold m_turns_72 at h
  refine lv_isub C.1 C.2.1 dX13_turns_72 ?_
  obtain ⟨x2_2, ex2_2, h⟩ := lt_e h
  refine x_nm ex2_2 ?_
  refine lv_istore_n (lv' := [(2, .int x2_2), (0, .ref (ρ 0)), (1, .int x1), (3, .int x3)]) C.1 C.2.1 dX13_turns_73 rfl hl (by decide) rfl (fun ls hl => ?_)
  refine lv_aload_n C.1 C.2.1 dX13_turns_74 rfl (lv_at hl 1 rfl) ?_
  refine lv_iload_n C.1 C.2.1 dX13_turns_75 rfl (lv_at hl 2 rfl) ?_
  refine lv_iload_n C.1 C.2.1 dX13_turns_76 rfl (lv_at hl 0 rfl) ?_
  refine lv_iload_n C.1 C.2.1 dX13_turns_77 rfl (lv_at hl 3 rfl) ?_
  refine lv_if_eq (tgt := 87) C.1 C.2.1 dX13_turns_78 (by decide) (fun hc => ?_) (fun hc => ?_)
  · replace h := ift hc h
    refine lv_iload_n C.1 C.2.1 dX13_turns_87 rfl (lv_at hl 0 rfl) ?_
    refine lv_iconst (v := 1) C.1 C.2.1 dX13_turns_88 (by decide) ?_
    refine lv_iadd C.1 C.2.1 dX13_turns_89 ?_
    exact w_turns_90 C hr hk kk7 w (lv_sub hl [1, 2, 0] rfl) h
  · replace h := iff0 hc h
    refine lv_iload_n C.1 C.2.1 dX13_turns_81 rfl (lv_at hl 0 rfl) ?_
    refine lv_iconst (v := 2) C.1 C.2.1 dX13_turns_82 (by decide) ?_
    refine lv_iadd C.1 C.2.1 dX13_turns_83 ?_
    refine lv_goto (tgt := 90) C.1 C.2.1 dX13_turns_84 (by decide) ?_
    exact w_turns_90 C hr hk kk7 w (lv_sub hl [1, 2, 0] rfl) h
set_option maxRecDepth 100000 in
set_option maxHeartbeats 4000000 in
theorem w_turns_61  {g : Nat} {S : St} {x1 : Int32} {x2 : Int32} {y0 : Int32} (C : CallFix p m c cX13_turns 4 s args tb RX13) (hr : meth.sig.returnType = none) (hk : meth.locks = false) {S' : St} {k7 : St → Int32 → Int32 → Option St} (kk7 : ∀ (S : St) (x1 : Int32) (x2 : Int32) (H : Heap) (locs : List Loc) (ls : Array Slot), Wn Ym D T ρ S A s H locs → lv_has ls 4 [(0, .ref (ρ 0)), (1, .int x1), (2, .int x2)] → k7 S x1 x2 = some S' → W p l e (rmN 2 45) s m args below meth c H locs 0 0 (MQ below (Qv Ym D T ρ A S') args s 0 0 A) (F0 m 7 ls [])) (w : Wn Ym D T ρ S A s H locs) (hl : lv_has ls 4 [(0, .ref (ρ 0)), (1, .int x1), (2, .int x2)]) (h : m_turns_61 g k7 S x1 x2 y0 = some S') : W p l e (rmN 2 45) s m args below meth c H locs 0 0 (MQ below (Qv Ym D T ρ A S') args s 0 0 A) (F0 m 61 ls [.int y0]) := by
  unfold m_turns_61 at h
  refine lv_istore_n (lv' := [(3, .int y0), (0, .ref (ρ 0)), (1, .int x1), (2, .int x2)]) C.1 C.2.1 dX13_turns_61 rfl hl (by decide) rfl (fun ls hl => ?_)
  refine lv_iload_n C.1 C.2.1 dX13_turns_62 rfl (lv_at hl 3 rfl) ?_
  refine lv_iload_n C.1 C.2.1 dX13_turns_63 rfl (lv_at hl 0 rfl) ?_
  refine lv_if_eq (tgt := 71) C.1 C.2.1 dX13_turns_64 (by decide) (fun hc => ?_) (fun hc => ?_)
  · replace h := ift hc h
    refine lv_iconst (v := 1) C.1 C.2.1 dX13_turns_71 (by decide) ?_
    exact w_turns_72 C hr hk kk7 w (lv_sub hl [1, 2, 0] rfl) h
  · replace h := iff0 hc h
    refine lv_iconst (v := 2) C.1 C.2.1 dX13_turns_67 (by decide) ?_
    refine lv_goto (tgt := 72) C.1 C.2.1 dX13_turns_68 (by decide) ?_
    exact w_turns_72 C hr hk kk7 w (lv_sub hl [1, 2, 0] rfl) h
set_option maxRecDepth 100000 in
set_option maxHeartbeats 4000000 in
theorem w_turns_60  {g : Nat} {S : St} {x1 : Int32} {x2 : Int32} (C : CallFix p m c cX13_turns 4 s args tb RX13) (hr : meth.sig.returnType = none) (hk : meth.locks = false) {S' : St} {k7 : St → Int32 → Int32 → Option St} (kk7 : ∀ (S : St) (x1 : Int32) (x2 : Int32) (H : Heap) (locs : List Loc) (ls : Array Slot), Wn Ym D T ρ S A s H locs → lv_has ls 4 [(0, .ref (ρ 0)), (1, .int x1), (2, .int x2)] → k7 S x1 x2 = some S' → W p l e (rmN 2 45) s m args below meth c H locs 0 0 (MQ below (Qv Ym D T ρ A S') args s 0 0 A) (F0 m 7 ls [])) (w : Wn Ym D T ρ S A s H locs) (hl : lv_has ls 4 [(0, .ref (ρ 0)), (1, .int x1), (2, .int x2)]) (h : m_turns_60 g k7 S x1 x2 = some S') : W p l e (rmN 2 45) s m args below meth c H locs 0 0 (MQ below (Qv Ym D T ρ A S') args s 0 0 A) (F0 m 60 ls []) := by
  unfold m_turns_60 at h
  refine lv_iconst (v := 0) C.1 C.2.1 dX13_turns_60 (by decide) ?_
  exact w_turns_61 C hr hk kk7 w (lv_sub hl [0, 1, 2] rfl) h
set_option maxRecDepth 100000 in
set_option maxHeartbeats 4000000 in
theorem wb_turns_7  {g : Nat} {S : St} {x1 : Int32} {x2 : Int32} (C : CallFix p m c cX13_turns 4 s args tb RX13) (hr : meth.sig.returnType = none) (hk : meth.locks = false) {S' : St} {k7 : St → Int32 → Int32 → Option St} (kk7 : ∀ (S : St) (x1 : Int32) (x2 : Int32) (H : Heap) (locs : List Loc) (ls : Array Slot), Wn Ym D T ρ S A s H locs → lv_has ls 4 [(0, .ref (ρ 0)), (1, .int x1), (2, .int x2)] → k7 S x1 x2 = some S' → W p l e (rmN 2 45) s m args below meth c H locs 0 0 (MQ below (Qv Ym D T ρ A S') args s 0 0 A) (F0 m 7 ls [])) (w : Wn Ym D T ρ S A s H locs) (hl : lv_has ls 4 [(0, .ref (ρ 0)), (1, .int x1), (2, .int x2)]) (h : b_turns_7 g k7 S x1 x2 = some S') : W p l e (rmN 2 45) s m args below meth c H locs 0 0 (MQ below (Qv Ym D T ρ A S') args s 0 0 A) (F0 m 7 ls []) := by
  unfold b_turns_7 at h
  refine lv_iload_n C.1 C.2.1 dX13_turns_7 rfl (lv_at hl 2 rfl) ?_
  refine lv_if_le (tgt := 96) C.1 C.2.1 dX13_turns_8 (by decide) (fun hc => ?_) (fun hc => ?_)
  · replace h := ift hc h
    refine lv_iconst (v := 0) C.1 C.2.1 dX13_turns_96 (by decide) ?_
    refine lv_istore_n (lv' := [(3, .int (0 : Int32)), (0, .ref (ρ 0)), (1, .int x1), (2, .int x2)]) C.1 C.2.1 dX13_turns_97 rfl hl (by decide) rfl (fun ls hl => ?_)
    exact w_turns_98 C hr hk g _ _ _ _ _ _ w (lv_sub hl [1, 2, 0] rfl) h
  · replace h := iff0 hc h
    refine lv_iload_n C.1 C.2.1 dX13_turns_11 rfl (lv_at hl 2 rfl) ?_
    refine lv_iconst (v := 1) C.1 C.2.1 dX13_turns_12 (by decide) ?_
    refine lv_icmp_le (tgt := 60) C.1 C.2.1 dX13_turns_13 (by decide) (fun hc => ?_) (fun hc => ?_)
    · replace h := ift hc h
      exact w_turns_60 C hr hk kk7 w (lv_sub hl [0, 1, 2] rfl) h
    · replace h := iff0 hc h
      refine lv_aload_n C.1 C.2.1 dX13_turns_16 rfl (lv_at hl 0 rfl) ?_
      refine x_getC C w 30 fM211 obM rfl dX13_turns_17 ?_
      refine lv_sipush (v := 400) C.1 C.2.1 dX13_turns_20 (by decide) ?_
      refine lv_iload_n C.1 C.2.1 dX13_turns_23 rfl (lv_at hl 1 rfl) ?_
      refine lv_imul C.1 C.2.1 dX13_turns_24 ?_
      refine lv_iload_n C.1 C.2.1 dX13_turns_25 rfl (lv_at hl 2 rfl) ?_
      refine lv_iadd C.1 C.2.1 dX13_turns_26 ?_
      refine lv_iconst (v := 1) C.1 C.2.1 dX13_turns_27 (by decide) ?_
      refine lv_isub C.1 C.2.1 dX13_turns_28 ?_
      obtain ⟨v_2, hv_2, h⟩ := bnd h
      refine x_iald C w obM30 hv_2 dX13_turns_29 ?_
      obtain ⟨v_3, hv_3, h⟩ := bnd h
      refine x_callSi (As := [.int v_2]) (rest := []) C w (k_isLow l D T ρ g H.size S hv_3) vM510 ⟨by decide, by decide⟩ rfl rfl hl.1 (Nat.le_of_ble_eq_true rfl) ⟨Nat.zero_le _, Nat.zero_le _⟩ dX13_turns_30 (fun H locs w => ?_)
      refine lv_if_eq (tgt := 60) C.1 C.2.1 dX13_turns_33 (by decide) (fun hc => ?_) (fun hc => ?_)
      · replace h := ift hc h
        exact w_turns_60 C hr hk kk7 w (lv_sub hl [0, 1, 2] rfl) h
      · replace h := iff0 hc h
        refine lv_aload_n C.1 C.2.1 dX13_turns_36 rfl (lv_at hl 0 rfl) ?_
        refine x_getC C w 30 fM211 obM rfl dX13_turns_37 ?_
        refine lv_sipush (v := 400) C.1 C.2.1 dX13_turns_40 (by decide) ?_
        refine lv_iload_n C.1 C.2.1 dX13_turns_43 rfl (lv_at hl 1 rfl) ?_
        refine lv_imul C.1 C.2.1 dX13_turns_44 ?_
        refine lv_iload_n C.1 C.2.1 dX13_turns_45 rfl (lv_at hl 2 rfl) ?_
        refine lv_iadd C.1 C.2.1 dX13_turns_46 ?_
        refine lv_iconst (v := 2) C.1 C.2.1 dX13_turns_47 (by decide) ?_
        refine lv_isub C.1 C.2.1 dX13_turns_48 ?_
        obtain ⟨v_4, hv_4, h⟩ := bnd h
        refine x_iald C w obM30 hv_4 dX13_turns_49 ?_
        obtain ⟨v_5, hv_5, h⟩ := bnd h
        refine x_callSi (As := [.int v_4]) (rest := []) C w (k_isHigh l D T ρ g H.size S hv_5) vM507 ⟨by decide, by decide⟩ rfl rfl hl.1 (Nat.le_of_ble_eq_true rfl) ⟨Nat.zero_le _, Nat.zero_le _⟩ dX13_turns_50 (fun H locs w => ?_)
        refine lv_if_eq (tgt := 60) C.1 C.2.1 dX13_turns_53 (by decide) (fun hc => ?_) (fun hc => ?_)
        · replace h := ift hc h
          exact w_turns_60 C hr hk kk7 w (lv_sub hl [0, 1, 2] rfl) h
        · replace h := iff0 hc h
          refine lv_iconst (v := 1) C.1 C.2.1 dX13_turns_56 (by decide) ?_
          refine lv_goto (tgt := 61) C.1 C.2.1 dX13_turns_57 (by decide) ?_
          exact w_turns_61 C hr hk kk7 w (lv_sub hl [0, 1, 2] rfl) h
theorem w_turns_7 {g : Nat} (C : CallFix p m c cX13_turns 4 s args tb RX13) (hr : meth.sig.returnType = none) (hk : meth.locks = false) {S' : St} (n : Nat) : ∀ (S : St) (x1 : Int32) (x2 : Int32) (H : Heap) (locs : List Loc) (ls : Array Slot), Wn Ym D T ρ S A s H locs → lv_has ls 4 [(0, .ref (ρ 0)), (1, .int x1), (2, .int x2)] → m_turns_7 g n S x1 x2 = some S' → W p l e (rmN 2 45) s m args below meth c H locs 0 0 (MQ below (Qv Ym D T ρ A S') args s 0 0 A) (F0 m 7 ls []) := by
  induction n with
  | zero => intro S x1 x2 H locs ls w hl h; exact absurd h (fun q => by cases q)
  | succ n ih => intro S x1 x2 H locs ls w hl h; exact wb_turns_7 C hr hk ih w hl h
set_option maxRecDepth 100000 in
set_option maxHeartbeats 4000000 in
theorem w_turns_0  {g : Nat} {S : St} {x1 : Int32} (C : CallFix p m c cX13_turns 4 s args tb RX13) (hr : meth.sig.returnType = none) (hk : meth.locks = false) {S' : St} (w : Wn Ym D T ρ S A s H locs) (hl : lv_has ls 4 [(0, .ref (ρ 0)), (1, .int x1)]) (h : m_turns g S x1 = some S') : W p l e (rmN 2 45) s m args below meth c H locs 0 0 (MQ below (Qv Ym D T ρ A S') args s 0 0 A) (F0 m 0 ls []) := by
  unfold m_turns at h
  refine lv_aload_n C.1 C.2.1 dX13_turns_0 rfl (lv_at hl 0 rfl) ?_
  refine x_getC C w 28 fM205 obM rfl dX13_turns_1 ?_
  refine lv_iload_n C.1 C.2.1 dX13_turns_4 rfl (lv_at hl 1 rfl) ?_
  obtain ⟨v_1, hv_1, h⟩ := bnd h
  refine x_iald C w obM28 hv_1 dX13_turns_5 ?_
  refine lv_istore_n (lv' := [(2, .int v_1), (0, .ref (ρ 0)), (1, .int x1)]) C.1 C.2.1 dX13_turns_6 rfl hl (by decide) rfl (fun ls hl => ?_)
  exact w_turns_7 C hr hk g _ _ _ _ _ _ w (lv_sub hl [1, 2, 0] rfl) h
end S_turns
set_option maxRecDepth 100000 in
theorem k_turns (l : Launch) (D : va_G) (T : Cy) (ρ : Nat → Nat) (g sz : Nat) (S : St) {x1 : Int32} {S' : St} (h : m_turns g S x1 = some S') : Mv l Ym D T ρ yX13_turns cX13_turns 4 none 2 45 S S' [.ref (ρ 0), .int x1] sz :=
  x_in (by decide) (Nat.le_of_ble_eq_true rfl) (fun p e s m below meth c ls C hr hk w hl => w_turns_0 C hr hk w hl h)

theorem dX13_builds_0 : decode cX13_builds 0 = .ok (.iload_n 1, 1) := by decide +kernel
theorem dX13_builds_1 : decode cX13_builds 1 = .ok (.bipush 42, 2) := by decide +kernel
theorem dX13_builds_3 : decode cX13_builds 3 = .ok (.if_icmp .eq 9, 3) := by decide +kernel
theorem dX13_builds_6 : decode cX13_builds 6 = .ok (.iload_n 1, 1) := by decide +kernel
theorem dX13_builds_7 : decode cX13_builds 7 = .ok (.bipush 43, 2) := by decide +kernel
theorem dX13_builds_9 : decode cX13_builds 9 = .ok (.if_icmp .ne 58, 3) := by decide +kernel
theorem dX13_builds_12 : decode cX13_builds 12 = .ok (.aload_n 0, 1) := by decide +kernel
theorem dX13_builds_13 : decode cX13_builds 13 = .ok (.getfield 150, 3) := by decide +kernel
theorem dX13_builds_16 : decode cX13_builds 16 = .ok (.iload_n 2, 1) := by decide +kernel
theorem dX13_builds_17 : decode cX13_builds 17 = .ok (.iconst 1, 1) := by decide +kernel
theorem dX13_builds_18 : decode cX13_builds 18 = .ok (.iadd, 1) := by decide +kernel
theorem dX13_builds_19 : decode cX13_builds 19 = .ok (.laload, 1) := by decide +kernel
theorem dX13_builds_20 : decode cX13_builds 20 = .ok (.l2i, 1) := by decide +kernel
theorem dX13_builds_21 : decode cX13_builds 21 = .ok (.istore_n 3, 1) := by decide +kernel
theorem dX13_builds_22 : decode cX13_builds 22 = .ok (.iload_n 1, 1) := by decide +kernel
theorem dX13_builds_23 : decode cX13_builds 23 = .ok (.bipush 43, 2) := by decide +kernel
theorem dX13_builds_25 : decode cX13_builds 25 = .ok (.if_icmp .ne 18, 3) := by decide +kernel
theorem dX13_builds_28 : decode cX13_builds 28 = .ok (.aload_n 0, 1) := by decide +kernel
theorem dX13_builds_29 : decode cX13_builds 29 = .ok (.iload_n 2, 1) := by decide +kernel
theorem dX13_builds_30 : decode cX13_builds 30 = .ok (.aload_n 0, 1) := by decide +kernel
theorem dX13_builds_31 : decode cX13_builds 31 = .ok (.getfield 208, 3) := by decide +kernel
theorem dX13_builds_34 : decode cX13_builds 34 = .ok (.iload_n 3, 1) := by decide +kernel
theorem dX13_builds_35 : decode cX13_builds 35 = .ok (.iaload, 1) := by decide +kernel
theorem dX13_builds_36 : decode cX13_builds 36 = .ok (.i2l, 1) := by decide +kernel
theorem dX13_builds_37 : decode cX13_builds 37 = .ok (.invokevirtual 567, 3) := by decide +kernel
theorem dX13_builds_40 : decode cX13_builds 40 = .ok (.goto 15, 3) := by decide +kernel
theorem dX13_builds_43 : decode cX13_builds 43 = .ok (.aload_n 0, 1) := by decide +kernel
theorem dX13_builds_44 : decode cX13_builds 44 = .ok (.iload_n 3, 1) := by decide +kernel
theorem dX13_builds_45 : decode cX13_builds 45 = .ok (.iconst 0, 1) := by decide +kernel
theorem dX13_builds_46 : decode cX13_builds 46 = .ok (.aload_n 0, 1) := by decide +kernel
theorem dX13_builds_47 : decode cX13_builds 47 = .ok (.getfield 205, 3) := by decide +kernel
theorem dX13_builds_50 : decode cX13_builds 50 = .ok (.iload_n 3, 1) := by decide +kernel
theorem dX13_builds_51 : decode cX13_builds 51 = .ok (.iaload, 1) := by decide +kernel
theorem dX13_builds_52 : decode cX13_builds 52 = .ok (.invokevirtual 653, 3) := by decide +kernel
theorem dX13_builds_55 : decode cX13_builds 55 = .ok (.iload_n 1, 1) := by decide +kernel
theorem dX13_builds_56 : decode cX13_builds 56 = .ok (.bipush 42, 2) := by decide +kernel
theorem dX13_builds_58 : decode cX13_builds 58 = .ok (.if_icmp .ne 8, 3) := by decide +kernel
theorem dX13_builds_61 : decode cX13_builds 61 = .ok (.aload_n 0, 1) := by decide +kernel
theorem dX13_builds_62 : decode cX13_builds 62 = .ok (.iload_n 2, 1) := by decide +kernel
theorem dX13_builds_63 : decode cX13_builds 63 = .ok (.invokevirtual 614, 3) := by decide +kernel
theorem dX13_builds_66 : decode cX13_builds 66 = .ok (.return_, 1) := by decide +kernel
theorem dX13_builds_67 : decode cX13_builds 67 = .ok (.aload_n 0, 1) := by decide +kernel
theorem dX13_builds_68 : decode cX13_builds 68 = .ok (.getfield 150, 3) := by decide +kernel
theorem dX13_builds_71 : decode cX13_builds 71 = .ok (.iload_n 2, 1) := by decide +kernel
theorem dX13_builds_72 : decode cX13_builds 72 = .ok (.laload, 1) := by decide +kernel
theorem dX13_builds_73 : decode cX13_builds 73 = .ok (.l2i, 1) := by decide +kernel
theorem dX13_builds_74 : decode cX13_builds 74 = .ok (.istore_n 3, 1) := by decide +kernel
theorem dX13_builds_75 : decode cX13_builds 75 = .ok (.iload_n 1, 1) := by decide +kernel
theorem dX13_builds_76 : decode cX13_builds 76 = .ok (.bipush 44, 2) := by decide +kernel
theorem dX13_builds_78 : decode cX13_builds 78 = .ok (.if_icmp .ne 33, 3) := by decide +kernel
theorem dX13_builds_81 : decode cX13_builds 81 = .ok (.aload_n 0, 1) := by decide +kernel
theorem dX13_builds_82 : decode cX13_builds 82 = .ok (.iload_n 2, 1) := by decide +kernel
theorem dX13_builds_83 : decode cX13_builds 83 = .ok (.aload_n 0, 1) := by decide +kernel
theorem dX13_builds_84 : decode cX13_builds 84 = .ok (.aload_n 0, 1) := by decide +kernel
theorem dX13_builds_85 : decode cX13_builds 85 = .ok (.getfield 150, 3) := by decide +kernel
theorem dX13_builds_88 : decode cX13_builds 88 = .ok (.iload_n 2, 1) := by decide +kernel
theorem dX13_builds_89 : decode cX13_builds 89 = .ok (.iconst 1, 1) := by decide +kernel
theorem dX13_builds_90 : decode cX13_builds 90 = .ok (.iadd, 1) := by decide +kernel
theorem dX13_builds_91 : decode cX13_builds 91 = .ok (.laload, 1) := by decide +kernel
theorem dX13_builds_92 : decode cX13_builds 92 = .ok (.l2i, 1) := by decide +kernel
theorem dX13_builds_93 : decode cX13_builds 93 = .ok (.aload_n 0, 1) := by decide +kernel
theorem dX13_builds_94 : decode cX13_builds 94 = .ok (.getfield 150, 3) := by decide +kernel
theorem dX13_builds_97 : decode cX13_builds 97 = .ok (.iload_n 2, 1) := by decide +kernel
theorem dX13_builds_98 : decode cX13_builds 98 = .ok (.iconst 2, 1) := by decide +kernel
theorem dX13_builds_99 : decode cX13_builds 99 = .ok (.iadd, 1) := by decide +kernel
theorem dX13_builds_100 : decode cX13_builds 100 = .ok (.laload, 1) := by decide +kernel
theorem dX13_builds_101 : decode cX13_builds 101 = .ok (.l2i, 1) := by decide +kernel
theorem dX13_builds_102 : decode cX13_builds 102 = .ok (.invokevirtual 656, 3) := by decide +kernel
theorem dX13_builds_105 : decode cX13_builds 105 = .ok (.invokevirtual 567, 3) := by decide +kernel
theorem dX13_builds_108 : decode cX13_builds 108 = .ok (.goto 85, 3) := by decide +kernel
theorem dX13_builds_111 : decode cX13_builds 111 = .ok (.iload_n 1, 1) := by decide +kernel
theorem dX13_builds_112 : decode cX13_builds 112 = .ok (.bipush 35, 2) := by decide +kernel
theorem dX13_builds_114 : decode cX13_builds 114 = .ok (.if_icmp .gt 13, 3) := by decide +kernel
theorem dX13_builds_117 : decode cX13_builds 117 = .ok (.aload_n 0, 1) := by decide +kernel
theorem dX13_builds_118 : decode cX13_builds 118 = .ok (.iload_n 1, 1) := by decide +kernel
theorem dX13_builds_119 : decode cX13_builds 119 = .ok (.iload_n 2, 1) := by decide +kernel
theorem dX13_builds_120 : decode cX13_builds 120 = .ok (.iload_n 3, 1) := by decide +kernel
theorem dX13_builds_121 : decode cX13_builds 121 = .ok (.invokevirtual 659, 3) := by decide +kernel
theorem dX13_builds_124 : decode cX13_builds 124 = .ok (.goto 69, 3) := by decide +kernel
theorem dX13_builds_127 : decode cX13_builds 127 = .ok (.iload_n 1, 1) := by decide +kernel
theorem dX13_builds_128 : decode cX13_builds 128 = .ok (.bipush 37, 2) := by decide +kernel
theorem dX13_builds_130 : decode cX13_builds 130 = .ok (.if_icmp .gt 13, 3) := by decide +kernel
theorem dX13_builds_133 : decode cX13_builds 133 = .ok (.aload_n 0, 1) := by decide +kernel
theorem dX13_builds_134 : decode cX13_builds 134 = .ok (.iload_n 1, 1) := by decide +kernel
theorem dX13_builds_135 : decode cX13_builds 135 = .ok (.iload_n 2, 1) := by decide +kernel
theorem dX13_builds_136 : decode cX13_builds 136 = .ok (.iload_n 3, 1) := by decide +kernel
theorem dX13_builds_137 : decode cX13_builds 137 = .ok (.invokevirtual 662, 3) := by decide +kernel
theorem dX13_builds_140 : decode cX13_builds 140 = .ok (.goto 53, 3) := by decide +kernel
theorem dX13_builds_143 : decode cX13_builds 143 = .ok (.iload_n 1, 1) := by decide +kernel
theorem dX13_builds_144 : decode cX13_builds 144 = .ok (.bipush 38, 2) := by decide +kernel
theorem dX13_builds_146 : decode cX13_builds 146 = .ok (.if_icmp .ne 12, 3) := by decide +kernel
theorem dX13_builds_149 : decode cX13_builds 149 = .ok (.aload_n 0, 1) := by decide +kernel
theorem dX13_builds_150 : decode cX13_builds 150 = .ok (.iload_n 2, 1) := by decide +kernel
theorem dX13_builds_151 : decode cX13_builds 151 = .ok (.iload_n 3, 1) := by decide +kernel
theorem dX13_builds_152 : decode cX13_builds 152 = .ok (.invokevirtual 665, 3) := by decide +kernel
theorem dX13_builds_155 : decode cX13_builds 155 = .ok (.goto 38, 3) := by decide +kernel
theorem dX13_builds_158 : decode cX13_builds 158 = .ok (.iload_n 1, 1) := by decide +kernel
theorem dX13_builds_159 : decode cX13_builds 159 = .ok (.bipush 39, 2) := by decide +kernel
theorem dX13_builds_161 : decode cX13_builds 161 = .ok (.if_icmp .ne 12, 3) := by decide +kernel
theorem dX13_builds_164 : decode cX13_builds 164 = .ok (.aload_n 0, 1) := by decide +kernel
theorem dX13_builds_165 : decode cX13_builds 165 = .ok (.iload_n 2, 1) := by decide +kernel
theorem dX13_builds_166 : decode cX13_builds 166 = .ok (.iload_n 3, 1) := by decide +kernel
theorem dX13_builds_167 : decode cX13_builds 167 = .ok (.invokevirtual 668, 3) := by decide +kernel
theorem dX13_builds_170 : decode cX13_builds 170 = .ok (.goto 23, 3) := by decide +kernel
theorem dX13_builds_173 : decode cX13_builds 173 = .ok (.iload_n 1, 1) := by decide +kernel
theorem dX13_builds_174 : decode cX13_builds 174 = .ok (.bipush 40, 2) := by decide +kernel
theorem dX13_builds_176 : decode cX13_builds 176 = .ok (.if_icmp .ne 11, 3) := by decide +kernel
theorem dX13_builds_179 : decode cX13_builds 179 = .ok (.aload_n 0, 1) := by decide +kernel
theorem dX13_builds_180 : decode cX13_builds 180 = .ok (.iload_n 3, 1) := by decide +kernel
theorem dX13_builds_181 : decode cX13_builds 181 = .ok (.invokevirtual 671, 3) := by decide +kernel
theorem dX13_builds_184 : decode cX13_builds 184 = .ok (.goto 9, 3) := by decide +kernel
theorem dX13_builds_187 : decode cX13_builds 187 = .ok (.aload_n 0, 1) := by decide +kernel
theorem dX13_builds_188 : decode cX13_builds 188 = .ok (.iload_n 2, 1) := by decide +kernel
theorem dX13_builds_189 : decode cX13_builds 189 = .ok (.iload_n 3, 1) := by decide +kernel
theorem dX13_builds_190 : decode cX13_builds 190 = .ok (.invokevirtual 674, 3) := by decide +kernel
theorem dX13_builds_193 : decode cX13_builds 193 = .ok (.return_, 1) := by decide +kernel
def m_builds_55 (g : Nat) (S : St) (x1 : Int32) (x2 : Int32) : Option St :=
if x1 = (42 : Int32) then (
  (m_givesUnits g S x2).bind fun S_5 =>
  some S_5
) else (
  some S
)
def m_builds_12 (g : Nat) (S : St) (x1 : Int32) (x2 : Int32) : Option St :=
(aJ S 10 (x2 + (1 : Int32))).bind fun v_1 =>
lt (v_1.toInt32) fun x3_2 =>
if x1 = (43 : Int32) then (
  (aI S 29 x3_2).bind fun v_5 =>
  (m_givesWhole g S x2 (v_5.toInt64)).bind fun S_6 =>
  m_builds_55 g S_6 x1 x2
) else (
  (aI S 28 x3_2).bind fun v_3 =>
  (m_emitBuilder g S x3_2 (0 : Int32) v_3).bind fun S_4 =>
  m_builds_55 g S_4 x1 x2
)
def m_builds (g : Nat) (S : St) (x1 : Int32) (x2 : Int32) : Option St :=
if x1 = (42 : Int32) then (
  m_builds_12 g S x1 x2
) else (
  if x1 = (43 : Int32) then (
    m_builds_12 g S x1 x2
  ) else (
    (aJ S 10 x2).bind fun v_1 =>
    lt (v_1.toInt32) fun x3_2 =>
    if x1 = (44 : Int32) then (
      (aJ S 10 (x2 + (1 : Int32))).bind fun v_9 =>
      (aJ S 10 (x2 + (2 : Int32))).bind fun v_10 =>
      (m_orderOf g S (v_9.toInt32) (v_10.toInt32)).bind fun v_11 =>
      (m_givesWhole g S x2 v_11).bind fun S_12 =>
      some S_12
    ) else (
      if (35 : Int32) < x1 then (
        if (37 : Int32) < x1 then (
          if x1 = (38 : Int32) then (
            (m_deletes g S x2 x3_2).bind fun S_6 =>
            some S_6
          ) else (
            if x1 = (39 : Int32) then (
              (m_puts g S x2 x3_2).bind fun S_5 =>
              some S_5
            ) else (
              if x1 = (40 : Int32) then (
                (m_turns g S x3_2).bind fun S_4 =>
                some S_4
              ) else (
                (m_sizes g S x2 x3_2).bind fun S_3 =>
                some S_3
              )
            )
          )
        ) else (
          (m_inserts g S x1 x2 x3_2).bind fun S_7 =>
          some S_7
        )
      ) else (
        (m_opensBuilder g S x1 x2 x3_2).bind fun S_8 =>
        some S_8
      )
    )
  )
)
section S_builds
variable {p : Program} {l : Launch} {e : Env} {s : State} {m : MethodId} {args : Array Value} {below : List Frame} {meth : Method} {c : Code} {H : Heap} {locs : List Loc} {ls : Array Slot} {D : va_G} {T : Cy} {ρ : Nat → Nat} {A : Nat → Prop}
set_option maxRecDepth 100000 in
set_option maxHeartbeats 4000000 in
theorem w_builds_55  {g : Nat} {S : St} {x1 : Int32} {x2 : Int32} (C : CallFix p m c cX13_builds 4 s args tb RX13) (hr : meth.sig.returnType = none) (hk : meth.locks = false) {S' : St} (w : Wn Ym D T ρ S A s H locs) (hl : lv_has ls 4 [(0, .ref (ρ 0)), (1, .int x1), (2, .int x2)]) (h : m_builds_55 g S x1 x2 = some S') : W p l e (rmN 4 100) s m args below meth c H locs 0 0 (MQ below (Qv Ym D T ρ A S') args s 0 0 A) (F0 m 55 ls []) := by
  unfold m_builds_55 at h
  refine lv_iload_n C.1 C.2.1 dX13_builds_55 rfl (lv_at hl 1 rfl) ?_
  refine lv_bipush (v := 42) C.1 C.2.1 dX13_builds_56 (by decide) ?_
  refine lv_icmp_ne (tgt := 66) C.1 C.2.1 dX13_builds_58 (by decide) (fun hc => ?_) (fun hc => ?_)
  · replace h := iff0 hc h
    obtain rfl := som h
    exact x_vret C w hr hk dX13_builds_66
  · replace h := ift hc h
    refine lv_aload_n C.1 C.2.1 dX13_builds_61 rfl (lv_at hl 0 rfl) ?_
    refine lv_iload_n C.1 C.2.1 dX13_builds_62 rfl (lv_at hl 2 rfl) ?_
    obtain ⟨S_5, hS_5, h⟩ := bnd h
    refine x_callVv (q := (RX13, TX13, 68)) (As := [.int x2]) (rest := []) C w (k_givesUnits l D T ρ g H.size S hS_5) vM614 ⟨by decide, by decide⟩ obM (by decide) rfl rfl rfl hl.1 (Nat.le_of_ble_eq_true rfl) ⟨Nat.zero_le _, Nat.zero_le _⟩ dX13_builds_63 (fun H locs w => ?_)
    obtain rfl := som h
    exact x_vret C w hr hk dX13_builds_66
set_option maxRecDepth 100000 in
set_option maxHeartbeats 4000000 in
theorem w_builds_12  {g : Nat} {S : St} {x1 : Int32} {x2 : Int32} (C : CallFix p m c cX13_builds 4 s args tb RX13) (hr : meth.sig.returnType = none) (hk : meth.locks = false) {S' : St} (w : Wn Ym D T ρ S A s H locs) (hl : lv_has ls 4 [(0, .ref (ρ 0)), (1, .int x1), (2, .int x2)]) (h : m_builds_12 g S x1 x2 = some S') : W p l e (rmN 4 100) s m args below meth c H locs 0 0 (MQ below (Qv Ym D T ρ A S') args s 0 0 A) (F0 m 12 ls []) := by
  unfold m_builds_12 at h
  refine lv_aload_n C.1 C.2.1 dX13_builds_12 rfl (lv_at hl 0 rfl) ?_
  refine x_getC C w 10 fM150 obM rfl dX13_builds_13 ?_
  refine lv_iload_n C.1 C.2.1 dX13_builds_16 rfl (lv_at hl 2 rfl) ?_
  refine lv_iconst (v := 1) C.1 C.2.1 dX13_builds_17 (by decide) ?_
  refine lv_iadd C.1 C.2.1 dX13_builds_18 ?_
  obtain ⟨v_1, hv_1, h⟩ := bnd h
  refine x_lald C w obM10 hv_1 dX13_builds_19 ?_
  refine lv_l2i C.1 C.2.1 dX13_builds_20 rfl ?_
  obtain ⟨x3_2, ex3_2, h⟩ := lt_e h
  refine x_nm ex3_2 ?_
  refine lv_istore_n (lv' := [(3, .int x3_2), (0, .ref (ρ 0)), (1, .int x1), (2, .int x2)]) C.1 C.2.1 dX13_builds_21 rfl hl (by decide) rfl (fun ls hl => ?_)
  refine lv_iload_n C.1 C.2.1 dX13_builds_22 rfl (lv_at hl 2 rfl) ?_
  refine lv_bipush (v := 43) C.1 C.2.1 dX13_builds_23 (by decide) ?_
  refine lv_icmp_ne (tgt := 43) C.1 C.2.1 dX13_builds_25 (by decide) (fun hc => ?_) (fun hc => ?_)
  · replace h := iff0 hc h
    refine lv_aload_n C.1 C.2.1 dX13_builds_43 rfl (lv_at hl 1 rfl) ?_
    refine lv_iload_n C.1 C.2.1 dX13_builds_44 rfl (lv_at hl 0 rfl) ?_
    refine lv_iconst (v := 0) C.1 C.2.1 dX13_builds_45 (by decide) ?_
    refine lv_aload_n C.1 C.2.1 dX13_builds_46 rfl (lv_at hl 1 rfl) ?_
    refine x_getC C w 28 fM205 obM rfl dX13_builds_47 ?_
    refine lv_iload_n C.1 C.2.1 dX13_builds_50 rfl (lv_at hl 0 rfl) ?_
    obtain ⟨v_3, hv_3, h⟩ := bnd h
    refine x_iald C w obM28 hv_3 dX13_builds_51 ?_
    obtain ⟨S_4, hS_4, h⟩ := bnd h
    refine x_callVv (q := (RX13, TX13, 68)) (As := [.int x3_2, .int (0 : Int32), .int v_3]) (rest := []) C w (k_emitBuilder l D T ρ g H.size S hS_4) vM653 ⟨by decide, by decide⟩ obM (by decide) rfl rfl rfl hl.1 (Nat.le_of_ble_eq_true rfl) ⟨Nat.zero_le _, Nat.zero_le _⟩ dX13_builds_52 (fun H locs w => ?_)
    exact w_builds_55 C hr hk w (lv_sub hl [1, 2, 3] rfl) h
  · replace h := ift hc h
    refine lv_aload_n C.1 C.2.1 dX13_builds_28 rfl (lv_at hl 1 rfl) ?_
    refine lv_iload_n C.1 C.2.1 dX13_builds_29 rfl (lv_at hl 3 rfl) ?_
    refine lv_aload_n C.1 C.2.1 dX13_builds_30 rfl (lv_at hl 1 rfl) ?_
    refine x_getC C w 29 fM208 obM rfl dX13_builds_31 ?_
    refine lv_iload_n C.1 C.2.1 dX13_builds_34 rfl (lv_at hl 0 rfl) ?_
    obtain ⟨v_5, hv_5, h⟩ := bnd h
    refine x_iald C w obM29 hv_5 dX13_builds_35 ?_
    refine lv_i2l C.1 C.2.1 dX13_builds_36 rfl ?_
    obtain ⟨S_6, hS_6, h⟩ := bnd h
    refine x_callVv (q := (RX13, TX13, 68)) (As := [.int x2, .long (v_5.toInt64)]) (rest := []) C w (k_givesWhole l D T ρ g H.size S hS_6) vM567 ⟨by decide, by decide⟩ obM (by decide) rfl rfl rfl hl.1 (Nat.le_of_ble_eq_true rfl) ⟨Nat.zero_le _, Nat.zero_le _⟩ dX13_builds_37 (fun H locs w => ?_)
    refine lv_goto (tgt := 55) C.1 C.2.1 dX13_builds_40 (by decide) ?_
    exact w_builds_55 C hr hk w (lv_sub hl [1, 2, 3] rfl) h
set_option maxRecDepth 100000 in
set_option maxHeartbeats 4000000 in
theorem w_builds_0  {g : Nat} {S : St} {x1 : Int32} {x2 : Int32} (C : CallFix p m c cX13_builds 4 s args tb RX13) (hr : meth.sig.returnType = none) (hk : meth.locks = false) {S' : St} (w : Wn Ym D T ρ S A s H locs) (hl : lv_has ls 4 [(0, .ref (ρ 0)), (1, .int x1), (2, .int x2)]) (h : m_builds g S x1 x2 = some S') : W p l e (rmN 4 100) s m args below meth c H locs 0 0 (MQ below (Qv Ym D T ρ A S') args s 0 0 A) (F0 m 0 ls []) := by
  unfold m_builds at h
  refine lv_iload_n C.1 C.2.1 dX13_builds_0 rfl (lv_at hl 1 rfl) ?_
  refine lv_bipush (v := 42) C.1 C.2.1 dX13_builds_1 (by decide) ?_
  refine lv_icmp_eq (tgt := 12) C.1 C.2.1 dX13_builds_3 (by decide) (fun hc => ?_) (fun hc => ?_)
  · replace h := ift hc h
    exact w_builds_12 C hr hk w (lv_sub hl [0, 1, 2] rfl) h
  · replace h := iff0 hc h
    refine lv_iload_n C.1 C.2.1 dX13_builds_6 rfl (lv_at hl 1 rfl) ?_
    refine lv_bipush (v := 43) C.1 C.2.1 dX13_builds_7 (by decide) ?_
    refine lv_icmp_ne (tgt := 67) C.1 C.2.1 dX13_builds_9 (by decide) (fun hc => ?_) (fun hc => ?_)
    · replace h := iff0 hc h
      refine lv_aload_n C.1 C.2.1 dX13_builds_67 rfl (lv_at hl 0 rfl) ?_
      refine x_getC C w 10 fM150 obM rfl dX13_builds_68 ?_
      refine lv_iload_n C.1 C.2.1 dX13_builds_71 rfl (lv_at hl 2 rfl) ?_
      obtain ⟨v_1, hv_1, h⟩ := bnd h
      refine x_lald C w obM10 hv_1 dX13_builds_72 ?_
      refine lv_l2i C.1 C.2.1 dX13_builds_73 rfl ?_
      obtain ⟨x3_2, ex3_2, h⟩ := lt_e h
      refine x_nm ex3_2 ?_
      refine lv_istore_n (lv' := [(3, .int x3_2), (0, .ref (ρ 0)), (1, .int x1), (2, .int x2)]) C.1 C.2.1 dX13_builds_74 rfl hl (by decide) rfl (fun ls hl => ?_)
      refine lv_iload_n C.1 C.2.1 dX13_builds_75 rfl (lv_at hl 2 rfl) ?_
      refine lv_bipush (v := 44) C.1 C.2.1 dX13_builds_76 (by decide) ?_
      refine lv_icmp_ne (tgt := 111) C.1 C.2.1 dX13_builds_78 (by decide) (fun hc => ?_) (fun hc => ?_)
      · replace h := iff0 hc h
        refine lv_iload_n C.1 C.2.1 dX13_builds_111 rfl (lv_at hl 2 rfl) ?_
        refine lv_bipush (v := 35) C.1 C.2.1 dX13_builds_112 (by decide) ?_
        refine lv_icmp_gt (tgt := 127) C.1 C.2.1 dX13_builds_114 (by decide) (fun hc => ?_) (fun hc => ?_)
        · replace h := ift hc h
          refine lv_iload_n C.1 C.2.1 dX13_builds_127 rfl (lv_at hl 2 rfl) ?_
          refine lv_bipush (v := 37) C.1 C.2.1 dX13_builds_128 (by decide) ?_
          refine lv_icmp_gt (tgt := 143) C.1 C.2.1 dX13_builds_130 (by decide) (fun hc => ?_) (fun hc => ?_)
          · replace h := ift hc h
            refine lv_iload_n C.1 C.2.1 dX13_builds_143 rfl (lv_at hl 2 rfl) ?_
            refine lv_bipush (v := 38) C.1 C.2.1 dX13_builds_144 (by decide) ?_
            refine lv_icmp_ne (tgt := 158) C.1 C.2.1 dX13_builds_146 (by decide) (fun hc => ?_) (fun hc => ?_)
            · replace h := iff0 hc h
              refine lv_iload_n C.1 C.2.1 dX13_builds_158 rfl (lv_at hl 2 rfl) ?_
              refine lv_bipush (v := 39) C.1 C.2.1 dX13_builds_159 (by decide) ?_
              refine lv_icmp_ne (tgt := 173) C.1 C.2.1 dX13_builds_161 (by decide) (fun hc => ?_) (fun hc => ?_)
              · replace h := iff0 hc h
                refine lv_iload_n C.1 C.2.1 dX13_builds_173 rfl (lv_at hl 2 rfl) ?_
                refine lv_bipush (v := 40) C.1 C.2.1 dX13_builds_174 (by decide) ?_
                refine lv_icmp_ne (tgt := 187) C.1 C.2.1 dX13_builds_176 (by decide) (fun hc => ?_) (fun hc => ?_)
                · replace h := iff0 hc h
                  refine lv_aload_n C.1 C.2.1 dX13_builds_187 rfl (lv_at hl 1 rfl) ?_
                  refine lv_iload_n C.1 C.2.1 dX13_builds_188 rfl (lv_at hl 3 rfl) ?_
                  refine lv_iload_n C.1 C.2.1 dX13_builds_189 rfl (lv_at hl 0 rfl) ?_
                  obtain ⟨S_3, hS_3, h⟩ := bnd h
                  refine x_callVv (q := (RX13, TX13, 68)) (As := [.int x2, .int x3_2]) (rest := []) C w (k_sizes l D T ρ g H.size S hS_3) vM674 ⟨by decide, by decide⟩ obM (by decide) rfl rfl rfl hl.1 (Nat.le_of_ble_eq_true rfl) ⟨Nat.zero_le _, Nat.zero_le _⟩ dX13_builds_190 (fun H locs w => ?_)
                  obtain rfl := som h
                  exact x_vret C w hr hk dX13_builds_193
                · replace h := ift hc h
                  refine lv_aload_n C.1 C.2.1 dX13_builds_179 rfl (lv_at hl 1 rfl) ?_
                  refine lv_iload_n C.1 C.2.1 dX13_builds_180 rfl (lv_at hl 0 rfl) ?_
                  obtain ⟨S_4, hS_4, h⟩ := bnd h
                  refine x_callVv (q := (RX13, TX13, 68)) (As := [.int x3_2]) (rest := []) C w (k_turns l D T ρ g H.size S hS_4) vM671 ⟨by decide, by decide⟩ obM (by decide) rfl rfl rfl hl.1 (Nat.le_of_ble_eq_true rfl) ⟨Nat.zero_le _, Nat.zero_le _⟩ dX13_builds_181 (fun H locs w => ?_)
                  refine lv_goto (tgt := 193) C.1 C.2.1 dX13_builds_184 (by decide) ?_
                  obtain rfl := som h
                  exact x_vret C w hr hk dX13_builds_193
              · replace h := ift hc h
                refine lv_aload_n C.1 C.2.1 dX13_builds_164 rfl (lv_at hl 1 rfl) ?_
                refine lv_iload_n C.1 C.2.1 dX13_builds_165 rfl (lv_at hl 3 rfl) ?_
                refine lv_iload_n C.1 C.2.1 dX13_builds_166 rfl (lv_at hl 0 rfl) ?_
                obtain ⟨S_5, hS_5, h⟩ := bnd h
                refine x_callVv (q := (RX13, TX13, 68)) (As := [.int x2, .int x3_2]) (rest := []) C w (k_puts l D T ρ g H.size S hS_5) vM668 ⟨by decide, by decide⟩ obM (by decide) rfl rfl rfl hl.1 (Nat.le_of_ble_eq_true rfl) ⟨Nat.zero_le _, Nat.zero_le _⟩ dX13_builds_167 (fun H locs w => ?_)
                refine lv_goto (tgt := 193) C.1 C.2.1 dX13_builds_170 (by decide) ?_
                obtain rfl := som h
                exact x_vret C w hr hk dX13_builds_193
            · replace h := ift hc h
              refine lv_aload_n C.1 C.2.1 dX13_builds_149 rfl (lv_at hl 1 rfl) ?_
              refine lv_iload_n C.1 C.2.1 dX13_builds_150 rfl (lv_at hl 3 rfl) ?_
              refine lv_iload_n C.1 C.2.1 dX13_builds_151 rfl (lv_at hl 0 rfl) ?_
              obtain ⟨S_6, hS_6, h⟩ := bnd h
              refine x_callVv (q := (RX13, TX13, 68)) (As := [.int x2, .int x3_2]) (rest := []) C w (k_deletes l D T ρ g H.size S hS_6) vM665 ⟨by decide, by decide⟩ obM (by decide) rfl rfl rfl hl.1 (Nat.le_of_ble_eq_true rfl) ⟨Nat.zero_le _, Nat.zero_le _⟩ dX13_builds_152 (fun H locs w => ?_)
              refine lv_goto (tgt := 193) C.1 C.2.1 dX13_builds_155 (by decide) ?_
              obtain rfl := som h
              exact x_vret C w hr hk dX13_builds_193
          · replace h := iff0 hc h
            refine lv_aload_n C.1 C.2.1 dX13_builds_133 rfl (lv_at hl 1 rfl) ?_
            refine lv_iload_n C.1 C.2.1 dX13_builds_134 rfl (lv_at hl 2 rfl) ?_
            refine lv_iload_n C.1 C.2.1 dX13_builds_135 rfl (lv_at hl 3 rfl) ?_
            refine lv_iload_n C.1 C.2.1 dX13_builds_136 rfl (lv_at hl 0 rfl) ?_
            obtain ⟨S_7, hS_7, h⟩ := bnd h
            refine x_callVv (q := (RX13, TX13, 68)) (As := [.int x1, .int x2, .int x3_2]) (rest := []) C w (k_inserts l D T ρ g H.size S hS_7) vM662 ⟨by decide, by decide⟩ obM (by decide) rfl rfl rfl hl.1 (Nat.le_of_ble_eq_true rfl) ⟨Nat.zero_le _, Nat.zero_le _⟩ dX13_builds_137 (fun H locs w => ?_)
            refine lv_goto (tgt := 193) C.1 C.2.1 dX13_builds_140 (by decide) ?_
            obtain rfl := som h
            exact x_vret C w hr hk dX13_builds_193
        · replace h := iff0 hc h
          refine lv_aload_n C.1 C.2.1 dX13_builds_117 rfl (lv_at hl 1 rfl) ?_
          refine lv_iload_n C.1 C.2.1 dX13_builds_118 rfl (lv_at hl 2 rfl) ?_
          refine lv_iload_n C.1 C.2.1 dX13_builds_119 rfl (lv_at hl 3 rfl) ?_
          refine lv_iload_n C.1 C.2.1 dX13_builds_120 rfl (lv_at hl 0 rfl) ?_
          obtain ⟨S_8, hS_8, h⟩ := bnd h
          refine x_callVv (q := (RX13, TX13, 68)) (As := [.int x1, .int x2, .int x3_2]) (rest := []) C w (k_opensBuilder l D T ρ g H.size S hS_8) vM659 ⟨by decide, by decide⟩ obM (by decide) rfl rfl rfl hl.1 (Nat.le_of_ble_eq_true rfl) ⟨Nat.zero_le _, Nat.zero_le _⟩ dX13_builds_121 (fun H locs w => ?_)
          refine lv_goto (tgt := 193) C.1 C.2.1 dX13_builds_124 (by decide) ?_
          obtain rfl := som h
          exact x_vret C w hr hk dX13_builds_193
      · replace h := ift hc h
        refine lv_aload_n C.1 C.2.1 dX13_builds_81 rfl (lv_at hl 1 rfl) ?_
        refine lv_iload_n C.1 C.2.1 dX13_builds_82 rfl (lv_at hl 3 rfl) ?_
        refine lv_aload_n C.1 C.2.1 dX13_builds_83 rfl (lv_at hl 1 rfl) ?_
        refine lv_aload_n C.1 C.2.1 dX13_builds_84 rfl (lv_at hl 1 rfl) ?_
        refine x_getC C w 10 fM150 obM rfl dX13_builds_85 ?_
        refine lv_iload_n C.1 C.2.1 dX13_builds_88 rfl (lv_at hl 3 rfl) ?_
        refine lv_iconst (v := 1) C.1 C.2.1 dX13_builds_89 (by decide) ?_
        refine lv_iadd C.1 C.2.1 dX13_builds_90 ?_
        obtain ⟨v_9, hv_9, h⟩ := bnd h
        refine x_lald C w obM10 hv_9 dX13_builds_91 ?_
        refine lv_l2i C.1 C.2.1 dX13_builds_92 rfl ?_
        refine lv_aload_n C.1 C.2.1 dX13_builds_93 rfl (lv_at hl 1 rfl) ?_
        refine x_getC C w 10 fM150 obM rfl dX13_builds_94 ?_
        refine lv_iload_n C.1 C.2.1 dX13_builds_97 rfl (lv_at hl 3 rfl) ?_
        refine lv_iconst (v := 2) C.1 C.2.1 dX13_builds_98 (by decide) ?_
        refine lv_iadd C.1 C.2.1 dX13_builds_99 ?_
        obtain ⟨v_10, hv_10, h⟩ := bnd h
        refine x_lald C w obM10 hv_10 dX13_builds_100 ?_
        refine lv_l2i C.1 C.2.1 dX13_builds_101 rfl ?_
        obtain ⟨v_11, hv_11, h⟩ := bnd h
        refine x_callVj (q := (RX13, TX13, 68)) (As := [.int (v_9.toInt32), .int (v_10.toInt32)]) (rest := [.int x2, .ref (ρ 0)]) C w (k_orderOf l D T ρ g H.size S hv_11) vM656 ⟨by decide, by decide⟩ obM (by decide) rfl rfl rfl hl.1 (Nat.le_of_ble_eq_true rfl) ⟨Nat.zero_le _, Nat.zero_le _⟩ dX13_builds_102 (fun H locs w => ?_)
        obtain ⟨S_12, hS_12, h⟩ := bnd h
        refine x_callVv (q := (RX13, TX13, 68)) (As := [.int x2, .long v_11]) (rest := []) C w (k_givesWhole l D T ρ g H.size S hS_12) vM567 ⟨by decide, by decide⟩ obM (by decide) rfl rfl rfl hl.1 (Nat.le_of_ble_eq_true rfl) ⟨Nat.zero_le _, Nat.zero_le _⟩ dX13_builds_105 (fun H locs w => ?_)
        refine lv_goto (tgt := 193) C.1 C.2.1 dX13_builds_108 (by decide) ?_
        obtain rfl := som h
        exact x_vret C w hr hk dX13_builds_193
    · replace h := ift hc h
      exact w_builds_12 C hr hk w (lv_sub hl [0, 1, 2] rfl) h
end S_builds
set_option maxRecDepth 100000 in
theorem k_builds (l : Launch) (D : va_G) (T : Cy) (ρ : Nat → Nat) (g sz : Nat) (S : St) {x1 : Int32} {x2 : Int32} {S' : St} (h : m_builds g S x1 x2 = some S') : Mv l Ym D T ρ yX13_builds cX13_builds 4 none 4 100 S S' [.ref (ρ 0), .int x1, .int x2] sz :=
  x_in (by decide) (Nat.le_of_ble_eq_true rfl) (fun p e s m below meth c ls C hr hk w hl => w_builds_0 C hr hk w hl h)

theorem dX13_emitTwo_0 : decode cX13_emitTwo 0 = .ok (.aload_n 0, 1) := by decide +kernel
theorem dX13_emitTwo_1 : decode cX13_emitTwo 1 = .ok (.iload_n 1, 1) := by decide +kernel
theorem dX13_emitTwo_2 : decode cX13_emitTwo 2 = .ok (.invokevirtual 437, 3) := by decide +kernel
theorem dX13_emitTwo_5 : decode cX13_emitTwo 5 = .ok (.aload_n 0, 1) := by decide +kernel
theorem dX13_emitTwo_6 : decode cX13_emitTwo 6 = .ok (.iload_n 2, 1) := by decide +kernel
theorem dX13_emitTwo_7 : decode cX13_emitTwo 7 = .ok (.invokevirtual 437, 3) := by decide +kernel
theorem dX13_emitTwo_10 : decode cX13_emitTwo 10 = .ok (.return_, 1) := by decide +kernel
def m_emitTwo (g : Nat) (S : St) (x1 : Int32) (x2 : Int32) : Option St :=
(m_emit g S x1).bind fun S_1 =>
(m_emit g S_1 x2).bind fun S_2 =>
some S_2
section S_emitTwo
variable {p : Program} {l : Launch} {e : Env} {s : State} {m : MethodId} {args : Array Value} {below : List Frame} {meth : Method} {c : Code} {H : Heap} {locs : List Loc} {ls : Array Slot} {D : va_G} {T : Cy} {ρ : Nat → Nat} {A : Nat → Prop}
set_option maxRecDepth 100000 in
set_option maxHeartbeats 4000000 in
theorem w_emitTwo_0  {g : Nat} {S : St} {x1 : Int32} {x2 : Int32} (C : CallFix p m c cX13_emitTwo 3 s args tb RX13) (hr : meth.sig.returnType = none) (hk : meth.locks = false) {S' : St} (w : Wn Ym D T ρ S A s H locs) (hl : lv_has ls 3 [(0, .ref (ρ 0)), (1, .int x1), (2, .int x2)]) (h : m_emitTwo g S x1 x2 = some S') : W p l e (rmN 1 21) s m args below meth c H locs 0 0 (MQ below (Qv Ym D T ρ A S') args s 0 0 A) (F0 m 0 ls []) := by
  unfold m_emitTwo at h
  refine lv_aload_n C.1 C.2.1 dX13_emitTwo_0 rfl (lv_at hl 0 rfl) ?_
  refine lv_iload_n C.1 C.2.1 dX13_emitTwo_1 rfl (lv_at hl 1 rfl) ?_
  obtain ⟨S_1, hS_1, h⟩ := bnd h
  refine x_callVv (q := (RX13, TX13, 68)) (As := [.int x1]) (rest := []) C w (k_emit l D T ρ g H.size S hS_1) vM437 ⟨by decide, by decide⟩ obM (by decide) rfl rfl rfl hl.1 (Nat.le_of_ble_eq_true rfl) ⟨Nat.zero_le _, Nat.zero_le _⟩ dX13_emitTwo_2 (fun H locs w => ?_)
  refine lv_aload_n C.1 C.2.1 dX13_emitTwo_5 rfl (lv_at hl 0 rfl) ?_
  refine lv_iload_n C.1 C.2.1 dX13_emitTwo_6 rfl (lv_at hl 2 rfl) ?_
  obtain ⟨S_2, hS_2, h⟩ := bnd h
  refine x_callVv (q := (RX13, TX13, 68)) (As := [.int x2]) (rest := []) C w (k_emit l D T ρ g H.size S_1 hS_2) vM437 ⟨by decide, by decide⟩ obM (by decide) rfl rfl rfl hl.1 (Nat.le_of_ble_eq_true rfl) ⟨Nat.zero_le _, Nat.zero_le _⟩ dX13_emitTwo_7 (fun H locs w => ?_)
  obtain rfl := som h
  exact x_vret C w hr hk dX13_emitTwo_10
end S_emitTwo
set_option maxRecDepth 100000 in
theorem k_emitTwo (l : Launch) (D : va_G) (T : Cy) (ρ : Nat → Nat) (g sz : Nat) (S : St) {x1 : Int32} {x2 : Int32} {S' : St} (h : m_emitTwo g S x1 x2 = some S') : Mv l Ym D T ρ yX13_emitTwo cX13_emitTwo 3 none 1 21 S S' [.ref (ρ 0), .int x1, .int x2] sz :=
  x_in (by decide) (Nat.le_of_ble_eq_true rfl) (fun p e s m below meth c ls C hr hk w hl => w_emitTwo_0 C hr hk w hl h)
