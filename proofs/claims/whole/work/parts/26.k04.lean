theorem dX11_give_0 : decode cX11_give 0 = .ok (.getstatic 22, 3) := by decide +kernel
theorem dX11_give_3 : decode cX11_give 3 = .ok (.aload_n 1, 1) := by decide +kernel
theorem dX11_give_4 : decode cX11_give 4 = .ok (.invokevirtual 28, 3) := by decide +kernel
theorem dX11_give_7 : decode cX11_give 7 = .ok (.iaload, 1) := by decide +kernel
theorem dX11_give_8 : decode cX11_give 8 = .ok (.tableswitch 355 21 37 #[84, 103, 128, 133, 141, 149, 154, 179, 204, 229, 253, 277, 290, 303, 316, 329, 342], 84) := by decide +kernel
theorem dX11_give_92 : decode cX11_give 92 = .ok (.aload_n 0, 1) := by decide +kernel
theorem dX11_give_93 : decode cX11_give 93 = .ok (.getfield 9, 3) := by decide +kernel
theorem dX11_give_96 : decode cX11_give 96 = .ok (.aload_n 0, 1) := by decide +kernel
theorem dX11_give_97 : decode cX11_give 97 = .ok (.getfield 9, 3) := by decide +kernel
theorem dX11_give_100 : decode cX11_give 100 = .ok (.getfield 34, 3) := by decide +kernel
theorem dX11_give_103 : decode cX11_give 103 = .ok (.getfield 38, 3) := by decide +kernel
theorem dX11_give_106 : decode cX11_give 106 = .ok (.i2l, 1) := by decide +kernel
theorem dX11_give_107 : decode cX11_give 107 = .ok (.invokevirtual 44, 3) := by decide +kernel
theorem dX11_give_110 : decode cX11_give 110 = .ok (.ireturn, 1) := by decide +kernel
theorem dX11_give_111 : decode cX11_give 111 = .ok (.aload_n 0, 1) := by decide +kernel
theorem dX11_give_112 : decode cX11_give 112 = .ok (.getfield 9, 3) := by decide +kernel
theorem dX11_give_115 : decode cX11_give 115 = .ok (.aload_n 0, 1) := by decide +kernel
theorem dX11_give_116 : decode cX11_give 116 = .ok (.getfield 9, 3) := by decide +kernel
theorem dX11_give_119 : decode cX11_give 119 = .ok (.getfield 48, 3) := by decide +kernel
theorem dX11_give_122 : decode cX11_give 122 = .ok (.aload_n 0, 1) := by decide +kernel
theorem dX11_give_123 : decode cX11_give 123 = .ok (.getfield 9, 3) := by decide +kernel
theorem dX11_give_126 : decode cX11_give 126 = .ok (.iconst 1, 1) := by decide +kernel
theorem dX11_give_127 : decode cX11_give 127 = .ok (.invokevirtual 51, 3) := by decide +kernel
theorem dX11_give_130 : decode cX11_give 130 = .ok (.iaload, 1) := by decide +kernel
theorem dX11_give_131 : decode cX11_give 131 = .ok (.i2l, 1) := by decide +kernel
theorem dX11_give_132 : decode cX11_give 132 = .ok (.invokevirtual 44, 3) := by decide +kernel
theorem dX11_give_135 : decode cX11_give 135 = .ok (.ireturn, 1) := by decide +kernel
theorem dX11_give_136 : decode cX11_give 136 = .ok (.aload_n 0, 1) := by decide +kernel
theorem dX11_give_137 : decode cX11_give 137 = .ok (.invokevirtual 55, 3) := by decide +kernel
theorem dX11_give_140 : decode cX11_give 140 = .ok (.ireturn, 1) := by decide +kernel
theorem dX11_give_141 : decode cX11_give 141 = .ok (.aload_n 0, 1) := by decide +kernel
theorem dX11_give_142 : decode cX11_give 142 = .ok (.ldc2_w 58, 3) := by decide +kernel
theorem dX11_give_145 : decode cX11_give 145 = .ok (.invokevirtual 60, 3) := by decide +kernel
theorem dX11_give_148 : decode cX11_give 148 = .ok (.ireturn, 1) := by decide +kernel
theorem dX11_give_149 : decode cX11_give 149 = .ok (.aload_n 0, 1) := by decide +kernel
theorem dX11_give_150 : decode cX11_give 150 = .ok (.ldc2_w 63, 3) := by decide +kernel
theorem dX11_give_153 : decode cX11_give 153 = .ok (.invokevirtual 60, 3) := by decide +kernel
theorem dX11_give_156 : decode cX11_give 156 = .ok (.ireturn, 1) := by decide +kernel
theorem dX11_give_157 : decode cX11_give 157 = .ok (.aload_n 0, 1) := by decide +kernel
theorem dX11_give_158 : decode cX11_give 158 = .ok (.invokevirtual 65, 3) := by decide +kernel
theorem dX11_give_161 : decode cX11_give 161 = .ok (.ireturn, 1) := by decide +kernel
theorem dX11_give_162 : decode cX11_give 162 = .ok (.aload_n 0, 1) := by decide +kernel
theorem dX11_give_163 : decode cX11_give 163 = .ok (.getfield 9, 3) := by decide +kernel
theorem dX11_give_166 : decode cX11_give 166 = .ok (.aload_n 0, 1) := by decide +kernel
theorem dX11_give_167 : decode cX11_give 167 = .ok (.getfield 9, 3) := by decide +kernel
theorem dX11_give_170 : decode cX11_give 170 = .ok (.iconst 1, 1) := by decide +kernel
theorem dX11_give_171 : decode cX11_give 171 = .ok (.invokevirtual 68, 3) := by decide +kernel
theorem dX11_give_174 : decode cX11_give 174 = .ok (.aload_n 0, 1) := by decide +kernel
theorem dX11_give_175 : decode cX11_give 175 = .ok (.getfield 9, 3) := by decide +kernel
theorem dX11_give_178 : decode cX11_give 178 = .ok (.iconst 2, 1) := by decide +kernel
theorem dX11_give_179 : decode cX11_give 179 = .ok (.invokevirtual 68, 3) := by decide +kernel
theorem dX11_give_182 : decode cX11_give 182 = .ok (.ladd, 1) := by decide +kernel
theorem dX11_give_183 : decode cX11_give 183 = .ok (.invokevirtual 44, 3) := by decide +kernel
theorem dX11_give_186 : decode cX11_give 186 = .ok (.ireturn, 1) := by decide +kernel
theorem dX11_give_187 : decode cX11_give 187 = .ok (.aload_n 0, 1) := by decide +kernel
theorem dX11_give_188 : decode cX11_give 188 = .ok (.getfield 9, 3) := by decide +kernel
theorem dX11_give_191 : decode cX11_give 191 = .ok (.aload_n 0, 1) := by decide +kernel
theorem dX11_give_192 : decode cX11_give 192 = .ok (.getfield 9, 3) := by decide +kernel
theorem dX11_give_195 : decode cX11_give 195 = .ok (.iconst 1, 1) := by decide +kernel
theorem dX11_give_196 : decode cX11_give 196 = .ok (.invokevirtual 68, 3) := by decide +kernel
theorem dX11_give_199 : decode cX11_give 199 = .ok (.aload_n 0, 1) := by decide +kernel
theorem dX11_give_200 : decode cX11_give 200 = .ok (.getfield 9, 3) := by decide +kernel
theorem dX11_give_203 : decode cX11_give 203 = .ok (.iconst 2, 1) := by decide +kernel
theorem dX11_give_204 : decode cX11_give 204 = .ok (.invokevirtual 68, 3) := by decide +kernel
theorem dX11_give_207 : decode cX11_give 207 = .ok (.lsub, 1) := by decide +kernel
theorem dX11_give_208 : decode cX11_give 208 = .ok (.invokevirtual 44, 3) := by decide +kernel
theorem dX11_give_211 : decode cX11_give 211 = .ok (.ireturn, 1) := by decide +kernel
theorem dX11_give_212 : decode cX11_give 212 = .ok (.aload_n 0, 1) := by decide +kernel
theorem dX11_give_213 : decode cX11_give 213 = .ok (.getfield 9, 3) := by decide +kernel
theorem dX11_give_216 : decode cX11_give 216 = .ok (.aload_n 0, 1) := by decide +kernel
theorem dX11_give_217 : decode cX11_give 217 = .ok (.getfield 9, 3) := by decide +kernel
theorem dX11_give_220 : decode cX11_give 220 = .ok (.iconst 1, 1) := by decide +kernel
theorem dX11_give_221 : decode cX11_give 221 = .ok (.invokevirtual 68, 3) := by decide +kernel
theorem dX11_give_224 : decode cX11_give 224 = .ok (.aload_n 0, 1) := by decide +kernel
theorem dX11_give_225 : decode cX11_give 225 = .ok (.getfield 9, 3) := by decide +kernel
theorem dX11_give_228 : decode cX11_give 228 = .ok (.iconst 2, 1) := by decide +kernel
theorem dX11_give_229 : decode cX11_give 229 = .ok (.invokevirtual 68, 3) := by decide +kernel
theorem dX11_give_232 : decode cX11_give 232 = .ok (.lmul, 1) := by decide +kernel
theorem dX11_give_233 : decode cX11_give 233 = .ok (.invokevirtual 44, 3) := by decide +kernel
theorem dX11_give_236 : decode cX11_give 236 = .ok (.ireturn, 1) := by decide +kernel
theorem dX11_give_237 : decode cX11_give 237 = .ok (.aload_n 0, 1) := by decide +kernel
theorem dX11_give_238 : decode cX11_give 238 = .ok (.getfield 9, 3) := by decide +kernel
theorem dX11_give_241 : decode cX11_give 241 = .ok (.aload_n 0, 1) := by decide +kernel
theorem dX11_give_242 : decode cX11_give 242 = .ok (.getfield 21, 3) := by decide +kernel
theorem dX11_give_245 : decode cX11_give 245 = .ok (.aload_n 0, 1) := by decide +kernel
theorem dX11_give_246 : decode cX11_give 246 = .ok (.getfield 9, 3) := by decide +kernel
theorem dX11_give_249 : decode cX11_give 249 = .ok (.iconst 1, 1) := by decide +kernel
theorem dX11_give_250 : decode cX11_give 250 = .ok (.invokevirtual 72, 3) := by decide +kernel
theorem dX11_give_253 : decode cX11_give 253 = .ok (.invokevirtual 75, 3) := by decide +kernel
theorem dX11_give_256 : decode cX11_give 256 = .ok (.i2l, 1) := by decide +kernel
theorem dX11_give_257 : decode cX11_give 257 = .ok (.invokevirtual 44, 3) := by decide +kernel
theorem dX11_give_260 : decode cX11_give 260 = .ok (.ireturn, 1) := by decide +kernel
theorem dX11_give_261 : decode cX11_give 261 = .ok (.aload_n 0, 1) := by decide +kernel
theorem dX11_give_262 : decode cX11_give 262 = .ok (.getfield 9, 3) := by decide +kernel
theorem dX11_give_265 : decode cX11_give 265 = .ok (.aload_n 0, 1) := by decide +kernel
theorem dX11_give_266 : decode cX11_give 266 = .ok (.getfield 21, 3) := by decide +kernel
theorem dX11_give_269 : decode cX11_give 269 = .ok (.aload_n 0, 1) := by decide +kernel
theorem dX11_give_270 : decode cX11_give 270 = .ok (.getfield 9, 3) := by decide +kernel
theorem dX11_give_273 : decode cX11_give 273 = .ok (.iconst 1, 1) := by decide +kernel
theorem dX11_give_274 : decode cX11_give 274 = .ok (.invokevirtual 72, 3) := by decide +kernel
theorem dX11_give_277 : decode cX11_give 277 = .ok (.invokevirtual 80, 3) := by decide +kernel
theorem dX11_give_280 : decode cX11_give 280 = .ok (.i2l, 1) := by decide +kernel
theorem dX11_give_281 : decode cX11_give 281 = .ok (.invokevirtual 44, 3) := by decide +kernel
theorem dX11_give_284 : decode cX11_give 284 = .ok (.ireturn, 1) := by decide +kernel
theorem dX11_give_285 : decode cX11_give 285 = .ok (.aload_n 0, 1) := by decide +kernel
theorem dX11_give_286 : decode cX11_give 286 = .ok (.aload_n 0, 1) := by decide +kernel
theorem dX11_give_287 : decode cX11_give 287 = .ok (.getfield 9, 3) := by decide +kernel
theorem dX11_give_290 : decode cX11_give 290 = .ok (.iconst 1, 1) := by decide +kernel
theorem dX11_give_291 : decode cX11_give 291 = .ok (.invokevirtual 72, 3) := by decide +kernel
theorem dX11_give_294 : decode cX11_give 294 = .ok (.invokevirtual 83, 3) := by decide +kernel
theorem dX11_give_297 : decode cX11_give 297 = .ok (.ireturn, 1) := by decide +kernel
theorem dX11_give_298 : decode cX11_give 298 = .ok (.aload_n 0, 1) := by decide +kernel
theorem dX11_give_299 : decode cX11_give 299 = .ok (.aload_n 0, 1) := by decide +kernel
theorem dX11_give_300 : decode cX11_give 300 = .ok (.getfield 9, 3) := by decide +kernel
theorem dX11_give_303 : decode cX11_give 303 = .ok (.iconst 1, 1) := by decide +kernel
theorem dX11_give_304 : decode cX11_give 304 = .ok (.invokevirtual 72, 3) := by decide +kernel
theorem dX11_give_307 : decode cX11_give 307 = .ok (.invokevirtual 86, 3) := by decide +kernel
theorem dX11_give_310 : decode cX11_give 310 = .ok (.ireturn, 1) := by decide +kernel
theorem dX11_give_311 : decode cX11_give 311 = .ok (.aload_n 0, 1) := by decide +kernel
theorem dX11_give_312 : decode cX11_give 312 = .ok (.aload_n 0, 1) := by decide +kernel
theorem dX11_give_313 : decode cX11_give 313 = .ok (.getfield 9, 3) := by decide +kernel
theorem dX11_give_316 : decode cX11_give 316 = .ok (.iconst 1, 1) := by decide +kernel
theorem dX11_give_317 : decode cX11_give 317 = .ok (.invokevirtual 72, 3) := by decide +kernel
theorem dX11_give_320 : decode cX11_give 320 = .ok (.invokevirtual 89, 3) := by decide +kernel
theorem dX11_give_323 : decode cX11_give 323 = .ok (.ireturn, 1) := by decide +kernel
theorem dX11_give_324 : decode cX11_give 324 = .ok (.aload_n 0, 1) := by decide +kernel
theorem dX11_give_325 : decode cX11_give 325 = .ok (.aload_n 0, 1) := by decide +kernel
theorem dX11_give_326 : decode cX11_give 326 = .ok (.getfield 9, 3) := by decide +kernel
theorem dX11_give_329 : decode cX11_give 329 = .ok (.iconst 1, 1) := by decide +kernel
theorem dX11_give_330 : decode cX11_give 330 = .ok (.invokevirtual 72, 3) := by decide +kernel
theorem dX11_give_333 : decode cX11_give 333 = .ok (.invokevirtual 92, 3) := by decide +kernel
theorem dX11_give_336 : decode cX11_give 336 = .ok (.ireturn, 1) := by decide +kernel
theorem dX11_give_337 : decode cX11_give 337 = .ok (.aload_n 0, 1) := by decide +kernel
theorem dX11_give_338 : decode cX11_give 338 = .ok (.aload_n 0, 1) := by decide +kernel
theorem dX11_give_339 : decode cX11_give 339 = .ok (.getfield 9, 3) := by decide +kernel
theorem dX11_give_342 : decode cX11_give 342 = .ok (.iconst 1, 1) := by decide +kernel
theorem dX11_give_343 : decode cX11_give 343 = .ok (.invokevirtual 72, 3) := by decide +kernel
theorem dX11_give_346 : decode cX11_give 346 = .ok (.invokevirtual 95, 3) := by decide +kernel
theorem dX11_give_349 : decode cX11_give 349 = .ok (.ireturn, 1) := by decide +kernel
theorem dX11_give_350 : decode cX11_give 350 = .ok (.aload_n 0, 1) := by decide +kernel
theorem dX11_give_351 : decode cX11_give 351 = .ok (.aload_n 0, 1) := by decide +kernel
theorem dX11_give_352 : decode cX11_give 352 = .ok (.getfield 9, 3) := by decide +kernel
theorem dX11_give_355 : decode cX11_give 355 = .ok (.iconst 1, 1) := by decide +kernel
theorem dX11_give_356 : decode cX11_give 356 = .ok (.invokevirtual 72, 3) := by decide +kernel
theorem dX11_give_359 : decode cX11_give 359 = .ok (.invokevirtual 98, 3) := by decide +kernel
theorem dX11_give_362 : decode cX11_give 362 = .ok (.ireturn, 1) := by decide +kernel
theorem dX11_give_363 : decode cX11_give 363 = .ok (.aload_n 0, 1) := by decide +kernel
theorem dX11_give_364 : decode cX11_give 364 = .ok (.aload_n 1, 1) := by decide +kernel
theorem dX11_give_365 : decode cX11_give 365 = .ok (.aload_n 0, 1) := by decide +kernel
theorem dX11_give_366 : decode cX11_give 366 = .ok (.getfield 9, 3) := by decide +kernel
theorem dX11_give_369 : decode cX11_give 369 = .ok (.iconst 1, 1) := by decide +kernel
theorem dX11_give_370 : decode cX11_give 370 = .ok (.invokevirtual 72, 3) := by decide +kernel
theorem dX11_give_373 : decode cX11_give 373 = .ok (.aload_n 0, 1) := by decide +kernel
theorem dX11_give_374 : decode cX11_give 374 = .ok (.getfield 9, 3) := by decide +kernel
theorem dX11_give_377 : decode cX11_give 377 = .ok (.iconst 2, 1) := by decide +kernel
theorem dX11_give_378 : decode cX11_give 378 = .ok (.invokevirtual 72, 3) := by decide +kernel
theorem dX11_give_381 : decode cX11_give 381 = .ok (.invokevirtual 101, 3) := by decide +kernel
theorem dX11_give_384 : decode cX11_give 384 = .ok (.ireturn, 1) := by decide +kernel
def m_WS_give_161 (g : Nat) (S : St) (y0 : Int32) : Option (St × Int32) :=
some (S, y0)
def m_WS_give_384 (g : Nat) (S : St) (y0 : Int32) : Option (St × Int32) :=
some (S, y0)
def m_WS_give (g : Nat) (S : St) (x1 : Nat) : Option (St × Int32) :=
(eS (nI x1)).bind fun e_2 =>
if (swT.getD e_2 0) = (21 : Int32) then (
  (m_Bn_giveWhole g S ((gI S 22 2).toInt64)).bind fun (S_3, v_4) =>
  some (S_3, v_4)
) else
if (swT.getD e_2 0) = (22 : Int32) then (
  (m_Bn_builderAt g S (1 : Int32)).bind fun v_5 =>
  (aI S 77 v_5).bind fun v_6 =>
  (m_Bn_giveWhole g S (v_6.toInt64)).bind fun (S_7, v_8) =>
  some (S_7, v_8)
) else
if (swT.getD e_2 0) = (23 : Int32) then (
  (m_WS_giveFirst g S).bind fun (S_9, v_10) =>
  some (S_9, v_10)
) else
if (swT.getD e_2 0) = (24 : Int32) then (
  (m_WS_parse g S (-9223372036854775808 : Int64)).bind fun (S_11, v_12) =>
  some (S_11, v_12)
) else
if (swT.getD e_2 0) = (25 : Int32) then (
  (m_WS_parse g S (-2147483648 : Int64)).bind fun (S_13, v_14) =>
  some (S_13, v_14)
) else
if (swT.getD e_2 0) = (26 : Int32) then (
  (m_WS_truth g S).bind fun (S_15, v_16) =>
  m_WS_give_161 g S_15 v_16
) else
if (swT.getD e_2 0) = (27 : Int32) then (
  (m_Bn_wholeAt g S (1 : Int32)).bind fun v_17 =>
  (m_Bn_wholeAt g S (2 : Int32)).bind fun v_18 =>
  (m_Bn_giveWhole g S (v_17 + v_18)).bind fun (S_19, v_20) =>
  some (S_19, v_20)
) else
if (swT.getD e_2 0) = (28 : Int32) then (
  (m_Bn_wholeAt g S (1 : Int32)).bind fun v_21 =>
  (m_Bn_wholeAt g S (2 : Int32)).bind fun v_22 =>
  (m_Bn_giveWhole g S (v_21 - v_22)).bind fun (S_23, v_24) =>
  some (S_23, v_24)
) else
if (swT.getD e_2 0) = (29 : Int32) then (
  (m_Bn_wholeAt g S (1 : Int32)).bind fun v_25 =>
  (m_Bn_wholeAt g S (2 : Int32)).bind fun v_26 =>
  (m_Bn_giveWhole g S (v_25 * v_26)).bind fun (S_27, v_28) =>
  some (S_27, v_28)
) else
if (swT.getD e_2 0) = (30 : Int32) then (
  (m_Bn_textAt g S (1 : Int32)).bind fun v_29 =>
  (m_Tx_hashOf g S v_29).bind fun v_30 =>
  (m_Bn_giveWhole g S (v_30.toInt64)).bind fun (S_31, v_32) =>
  some (S_31, v_32)
) else
if (swT.getD e_2 0) = (31 : Int32) then (
  (m_Bn_textAt g S (1 : Int32)).bind fun v_33 =>
  (m_Tx_sizeOf g S v_33).bind fun v_34 =>
  (m_Bn_giveWhole g S (v_34.toInt64)).bind fun (S_35, v_36) =>
  some (S_35, v_36)
) else
if (swT.getD e_2 0) = (32 : Int32) then (
  (m_Bn_textAt g S (1 : Int32)).bind fun v_37 =>
  (m_WS_giveUnit g S v_37).bind fun (S_38, v_39) =>
  some (S_38, v_39)
) else
if (swT.getD e_2 0) = (33 : Int32) then (
  (m_Bn_textAt g S (1 : Int32)).bind fun v_40 =>
  (m_WS_givePoint g S v_40).bind fun (S_41, v_42) =>
  some (S_41, v_42)
) else
if (swT.getD e_2 0) = (34 : Int32) then (
  (m_Bn_textAt g S (1 : Int32)).bind fun v_43 =>
  (m_WS_givePointBefore g S v_43).bind fun (S_44, v_45) =>
  some (S_44, v_45)
) else
if (swT.getD e_2 0) = (35 : Int32) then (
  (m_Bn_textAt g S (1 : Int32)).bind fun v_46 =>
  (m_WS_countPoints g S v_46).bind fun (S_47, v_48) =>
  some (S_47, v_48)
) else
if (swT.getD e_2 0) = (36 : Int32) then (
  (m_Bn_textAt g S (1 : Int32)).bind fun v_49 =>
  (m_WS_offset g S v_49).bind fun (S_50, v_51) =>
  some (S_50, v_51)
) else
if (swT.getD e_2 0) = (37 : Int32) then (
  (m_Bn_textAt g S (1 : Int32)).bind fun v_52 =>
  (m_WS_seek g S v_52).bind fun (S_53, v_54) =>
  some (S_53, v_54)
) else
(
  (m_Bn_textAt g S (1 : Int32)).bind fun v_55 =>
  (m_Bn_textAt g S (2 : Int32)).bind fun v_56 =>
  (m_WS_giveOfTwo g S x1 v_55 v_56).bind fun (S_57, v_58) =>
  m_WS_give_384 g S_57 v_58
)
theorem km_WS_give_161 {g : Nat} {S : St} {y0 : Int32} {S' : St} {r : Int32} (h : m_WS_give_161 g S y0 = some (S', r)) : kap S ≤ kap S' := by
  unfold m_WS_give_161 at h
  have nn : nq S S := nq_rf
  obtain ⟨rfl, rfl⟩ := prI h
  have hkn := nq_kap nn
  omega
theorem km_WS_give_384 {g : Nat} {S : St} {y0 : Int32} {S' : St} {r : Int32} (h : m_WS_give_384 g S y0 = some (S', r)) : kap S ≤ kap S' := by
  unfold m_WS_give_384 at h
  have nn : nq S S := nq_rf
  obtain ⟨rfl, rfl⟩ := prI h
  have hkn := nq_kap nn
  omega
theorem km_WS_give {g : Nat} {S : St} {x1 : Nat} {S' : St} {r : Int32} (h : m_WS_give g S x1 = some (S', r)) : kap S ≤ kap S' := by
  unfold m_WS_give at h
  have nn : nq S S := nq_rf
  obtain ⟨e_2, he_2, h⟩ := bnd h
  by_cases hc1 : (swT.getD e_2 0) = (21 : Int32)
  · replace h := ift hc1 h
    obtain ⟨⟨S_3, v_4⟩, hv_4, h⟩ := bnd h
    replace nn : nq S_3 S := nq_tr (kq_Bn_giveWhole hv_4) nn
    obtain ⟨rfl, rfl⟩ := prI h
    have hkn := nq_kap nn
    omega
  replace h := iff0 hc1 h
  by_cases hc2 : (swT.getD e_2 0) = (22 : Int32)
  · replace h := ift hc2 h
    obtain ⟨v_5, hv_5, h⟩ := bnd h
    obtain ⟨v_6, hv_6, h⟩ := bnd h
    obtain ⟨⟨S_7, v_8⟩, hv_8, h⟩ := bnd h
    replace nn : nq S_7 S := nq_tr (kq_Bn_giveWhole hv_8) nn
    obtain ⟨rfl, rfl⟩ := prI h
    have hkn := nq_kap nn
    omega
  replace h := iff0 hc2 h
  by_cases hc3 : (swT.getD e_2 0) = (23 : Int32)
  · replace h := ift hc3 h
    obtain ⟨⟨S_9, v_10⟩, hv_10, h⟩ := bnd h
    replace nn : nq S_9 S := nq_tr (kq_WS_giveFirst hv_10) nn
    obtain ⟨rfl, rfl⟩ := prI h
    have hkn := nq_kap nn
    omega
  replace h := iff0 hc3 h
  by_cases hc4 : (swT.getD e_2 0) = (24 : Int32)
  · replace h := ift hc4 h
    obtain ⟨⟨S_11, v_12⟩, hv_12, h⟩ := bnd h
    replace nn : nq S_11 S := nq_tr (kq_WS_parse hv_12) nn
    obtain ⟨rfl, rfl⟩ := prI h
    have hkn := nq_kap nn
    omega
  replace h := iff0 hc4 h
  by_cases hc5 : (swT.getD e_2 0) = (25 : Int32)
  · replace h := ift hc5 h
    obtain ⟨⟨S_13, v_14⟩, hv_14, h⟩ := bnd h
    replace nn : nq S_13 S := nq_tr (kq_WS_parse hv_14) nn
    obtain ⟨rfl, rfl⟩ := prI h
    have hkn := nq_kap nn
    omega
  replace h := iff0 hc5 h
  by_cases hc6 : (swT.getD e_2 0) = (26 : Int32)
  · replace h := ift hc6 h
    obtain ⟨⟨S_15, v_16⟩, hv_16, h⟩ := bnd h
    have hk1 := km_WS_truth hv_16
    have hkn := nq_kap nn
    have h2 := km_WS_give_161 h
    omega
  replace h := iff0 hc6 h
  by_cases hc7 : (swT.getD e_2 0) = (27 : Int32)
  · replace h := ift hc7 h
    obtain ⟨v_17, hv_17, h⟩ := bnd h
    obtain ⟨v_18, hv_18, h⟩ := bnd h
    obtain ⟨⟨S_19, v_20⟩, hv_20, h⟩ := bnd h
    replace nn : nq S_19 S := nq_tr (kq_Bn_giveWhole hv_20) nn
    obtain ⟨rfl, rfl⟩ := prI h
    have hkn := nq_kap nn
    omega
  replace h := iff0 hc7 h
  by_cases hc8 : (swT.getD e_2 0) = (28 : Int32)
  · replace h := ift hc8 h
    obtain ⟨v_21, hv_21, h⟩ := bnd h
    obtain ⟨v_22, hv_22, h⟩ := bnd h
    obtain ⟨⟨S_23, v_24⟩, hv_24, h⟩ := bnd h
    replace nn : nq S_23 S := nq_tr (kq_Bn_giveWhole hv_24) nn
    obtain ⟨rfl, rfl⟩ := prI h
    have hkn := nq_kap nn
    omega
  replace h := iff0 hc8 h
  by_cases hc9 : (swT.getD e_2 0) = (29 : Int32)
  · replace h := ift hc9 h
    obtain ⟨v_25, hv_25, h⟩ := bnd h
    obtain ⟨v_26, hv_26, h⟩ := bnd h
    obtain ⟨⟨S_27, v_28⟩, hv_28, h⟩ := bnd h
    replace nn : nq S_27 S := nq_tr (kq_Bn_giveWhole hv_28) nn
    obtain ⟨rfl, rfl⟩ := prI h
    have hkn := nq_kap nn
    omega
  replace h := iff0 hc9 h
  by_cases hc10 : (swT.getD e_2 0) = (30 : Int32)
  · replace h := ift hc10 h
    obtain ⟨v_29, hv_29, h⟩ := bnd h
    obtain ⟨v_30, hv_30, h⟩ := bnd h
    obtain ⟨⟨S_31, v_32⟩, hv_32, h⟩ := bnd h
    replace nn : nq S_31 S := nq_tr (kq_Bn_giveWhole hv_32) nn
    obtain ⟨rfl, rfl⟩ := prI h
    have hkn := nq_kap nn
    omega
  replace h := iff0 hc10 h
  by_cases hc11 : (swT.getD e_2 0) = (31 : Int32)
  · replace h := ift hc11 h
    obtain ⟨v_33, hv_33, h⟩ := bnd h
    obtain ⟨v_34, hv_34, h⟩ := bnd h
    obtain ⟨⟨S_35, v_36⟩, hv_36, h⟩ := bnd h
    replace nn : nq S_35 S := nq_tr (kq_Bn_giveWhole hv_36) nn
    obtain ⟨rfl, rfl⟩ := prI h
    have hkn := nq_kap nn
    omega
  replace h := iff0 hc11 h
  by_cases hc12 : (swT.getD e_2 0) = (32 : Int32)
  · replace h := ift hc12 h
    obtain ⟨v_37, hv_37, h⟩ := bnd h
    obtain ⟨⟨S_38, v_39⟩, hv_39, h⟩ := bnd h
    replace nn : nq S_38 S := nq_tr (kq_WS_giveUnit hv_39) nn
    obtain ⟨rfl, rfl⟩ := prI h
    have hkn := nq_kap nn
    omega
  replace h := iff0 hc12 h
  by_cases hc13 : (swT.getD e_2 0) = (33 : Int32)
  · replace h := ift hc13 h
    obtain ⟨v_40, hv_40, h⟩ := bnd h
    obtain ⟨⟨S_41, v_42⟩, hv_42, h⟩ := bnd h
    replace nn : nq S_41 S := nq_tr (kq_WS_givePoint hv_42) nn
    obtain ⟨rfl, rfl⟩ := prI h
    have hkn := nq_kap nn
    omega
  replace h := iff0 hc13 h
  by_cases hc14 : (swT.getD e_2 0) = (34 : Int32)
  · replace h := ift hc14 h
    obtain ⟨v_43, hv_43, h⟩ := bnd h
    obtain ⟨⟨S_44, v_45⟩, hv_45, h⟩ := bnd h
    replace nn : nq S_44 S := nq_tr (kq_WS_givePointBefore hv_45) nn
    obtain ⟨rfl, rfl⟩ := prI h
    have hkn := nq_kap nn
    omega
  replace h := iff0 hc14 h
  by_cases hc15 : (swT.getD e_2 0) = (35 : Int32)
  · replace h := ift hc15 h
    obtain ⟨v_46, hv_46, h⟩ := bnd h
    obtain ⟨⟨S_47, v_48⟩, hv_48, h⟩ := bnd h
    replace nn : nq S_47 S := nq_tr (kq_WS_countPoints hv_48) nn
    obtain ⟨rfl, rfl⟩ := prI h
    have hkn := nq_kap nn
    omega
  replace h := iff0 hc15 h
  by_cases hc16 : (swT.getD e_2 0) = (36 : Int32)
  · replace h := ift hc16 h
    obtain ⟨v_49, hv_49, h⟩ := bnd h
    obtain ⟨⟨S_50, v_51⟩, hv_51, h⟩ := bnd h
    replace nn : nq S_50 S := nq_tr (kq_WS_offset hv_51) nn
    obtain ⟨rfl, rfl⟩ := prI h
    have hkn := nq_kap nn
    omega
  replace h := iff0 hc16 h
  by_cases hc17 : (swT.getD e_2 0) = (37 : Int32)
  · replace h := ift hc17 h
    obtain ⟨v_52, hv_52, h⟩ := bnd h
    obtain ⟨⟨S_53, v_54⟩, hv_54, h⟩ := bnd h
    replace nn : nq S_53 S := nq_tr (kq_WS_seek hv_54) nn
    obtain ⟨rfl, rfl⟩ := prI h
    have hkn := nq_kap nn
    omega
  replace h := iff0 hc17 h
  obtain ⟨v_55, hv_55, h⟩ := bnd h
  obtain ⟨v_56, hv_56, h⟩ := bnd h
  obtain ⟨⟨S_57, v_58⟩, hv_58, h⟩ := bnd h
  have hk1 := km_WS_giveOfTwo hv_58
  have hkn := nq_kap nn
  have h2 := km_WS_give_384 h
  omega
section S_WS_give
variable {p : Program} {l : Launch} {e : Env} {s : State} {m : MethodId} {args : Array Value} {below : List Frame} {meth : Method} {c : Code} {H : Heap} {locs : List Loc} {ls : Array Slot} {D : va_G} {T : Cy} {ρ ρ0 : Nat → Nat} {S0 : St} {A : Nat → Prop} {Z : Ad}
set_option maxRecDepth 100000 in
set_option maxHeartbeats 4000000 in
theorem w_WS_give_161 {g : Nat} {S : St} {y0 : Int32} (C : CallFix p m c cX11_give 2 s args tb RX11) (hr : meth.sig.returnType = (some .int)) (hk : meth.locks = false) (hcn : Kn Z A s s.heap) (hcw : Kw Z s) {S' : St} {r : Int32} (ha : Ag ρ0 ρ) (hm : kap S0 ≤ kap S) (w : Wn Yc D T ρ S A s H locs) (hl : lv_has ls 2 []) (h : m_WS_give_161 g S y0 = some (S', r)) : W p l e (rmK 5 114 (kap S' - kap S0)) s m args below meth c H locs (kap S - kap S0) (2 * (kap S - kap S0)) (MQ below (QiM D T ρ0 A S' r) args s (kap S' - kap S0) (2 * (kap S' - kap S0)) A) (F0 m 161 ls [.int y0]) := by
  have hT := km_WS_give_161 h
  unfold m_WS_give_161 at h
  have nn : nq S S := nq_rf
  obtain ⟨rfl, rfl⟩ := prI h
  exact x_iretM C w ha hr hk dX11_give_161 (by have := nq_kap nn; omega) (by have := nq_kap nn; omega)
set_option maxRecDepth 100000 in
set_option maxHeartbeats 4000000 in
theorem w_WS_give_384 {g : Nat} {S : St} {y0 : Int32} (C : CallFix p m c cX11_give 2 s args tb RX11) (hr : meth.sig.returnType = (some .int)) (hk : meth.locks = false) (hcn : Kn Z A s s.heap) (hcw : Kw Z s) {S' : St} {r : Int32} (ha : Ag ρ0 ρ) (hm : kap S0 ≤ kap S) (w : Wn Yc D T ρ S A s H locs) (hl : lv_has ls 2 []) (h : m_WS_give_384 g S y0 = some (S', r)) : W p l e (rmK 5 114 (kap S' - kap S0)) s m args below meth c H locs (kap S - kap S0) (2 * (kap S - kap S0)) (MQ below (QiM D T ρ0 A S' r) args s (kap S' - kap S0) (2 * (kap S' - kap S0)) A) (F0 m 384 ls [.int y0]) := by
  have hT := km_WS_give_384 h
  unfold m_WS_give_384 at h
  have nn : nq S S := nq_rf
  obtain ⟨rfl, rfl⟩ := prI h
  exact x_iretM C w ha hr hk dX11_give_384 (by have := nq_kap nn; omega) (by have := nq_kap nn; omega)
set_option maxRecDepth 100000 in
set_option maxHeartbeats 4000000 in
theorem w_WS_give_0 {g : Nat} {S : St} {x1 : Nat} (C : CallFix p m c cX11_give 2 s args tb RX11) (hr : meth.sig.returnType = (some .int)) (hk : meth.locks = false) (hcn : Kn Z A s s.heap) (hcw : Kw Z s) {S' : St} {r : Int32} (ha : Ag ρ0 ρ) (hm : kap S0 ≤ kap S) (w : Wn Yc D T ρ S A s H locs) (hl : lv_has ls 2 [(0, .ref (ρ 8)), (1, .ref (Z.1 x1))]) (ho_x1 : x1 < 56) (h : m_WS_give g S x1 = some (S', r)) : W p l e (rmK 5 114 (kap S' - kap S0)) s m args below meth c H locs (kap S - kap S0) (2 * (kap S - kap S0)) (MQ below (QiM D T ρ0 A S' r) args s (kap S' - kap S0) (2 * (kap S' - kap S0)) A) (F0 m 0 ls []) := by
  have hT := km_WS_give h
  unfold m_WS_give at h
  have nn : nq S S := nq_rf
  refine x_swm C w hcn gkX11_22 dX11_give_0 ?_
  refine lv_aload_n C.1 C.2.1 dX11_give_3 rfl (lv_at hl 1 rfl) ?_
  refine x_ord (rest := [.ref Z.2.2.1]) ho_x1 C w hcn hcw or_11 (hRK (by decide) (by decide)) hl.1 (Nat.le_of_ble_eq_true rfl) (hcK hT) dX11_give_4 (fun ρ_1 H locs hag w => ?_)
  replace ha := ha.trans hag
  rw [← hag 8 (by decide)] at hl
  obtain ⟨e_2, he_2, h⟩ := bnd h
  refine x_swl C w hcn he_2 dX11_give_7 ?_
  by_cases hz8_0 : (swT.getD e_2 0) = (21 : Int32)
  · replace h := ift hz8_0 h
    refine lv_tableIn (off := 84) (tgt := 92) C.1 C.2.1 dX11_give_8 (by rw [hz8_0]; decide) (by rw [hz8_0]; decide) (by rw [hz8_0]; decide +kernel) (by decide) ?_
    refine lv_aload_n C.1 C.2.1 dX11_give_92 rfl (lv_at hl 0 rfl) ?_
    refine x_getC C w 4 fX11_9 obC8 rfl dX11_give_93 ?_
    refine lv_aload_n C.1 C.2.1 dX11_give_96 rfl (lv_at hl 0 rfl) ?_
    refine x_getC C w 4 fX11_9 obC8 rfl dX11_give_97 ?_
    refine x_getC C w 22 fX11_34 obC4 rfl dX11_give_100 ?_
    refine x_getI C w fX11_38 obC22 dX11_give_103 ?_
    refine lv_i2l C.1 C.2.1 dX11_give_106 rfl ?_
    obtain ⟨⟨S_3, v_4⟩, hv_4, h⟩ := bnd h
    replace nn : nq S_3 S := nq_tr (kq_Bn_giveWhole hv_4) nn
    refine x_callVi (q := (RX1, TX1, 12)) (As := [.long ((gI S 22 2).toInt64)]) (rest := []) C w (k_Bn_giveWhole l D T ρ_1 g H.size S hv_4) vX11_44 (hRK (by decide) (by decide)) obC4 (by decide) rfl rfl rfl hl.1 (Nat.le_of_ble_eq_true rfl) (hcK hT) dX11_give_107 (fun H locs w => ?_)
    obtain ⟨rfl, rfl⟩ := prI h
    exact x_iretM C w ha hr hk dX11_give_110 (by have := nq_kap nn; omega) (by have := nq_kap nn; omega)
  replace h := iff0 hz8_0 h
  by_cases hz8_1 : (swT.getD e_2 0) = (22 : Int32)
  · replace h := ift hz8_1 h
    refine lv_tableIn (off := 103) (tgt := 111) C.1 C.2.1 dX11_give_8 (by rw [hz8_1]; decide) (by rw [hz8_1]; decide) (by rw [hz8_1]; decide +kernel) (by decide) ?_
    refine lv_aload_n C.1 C.2.1 dX11_give_111 rfl (lv_at hl 0 rfl) ?_
    refine x_getC C w 4 fX11_9 obC8 rfl dX11_give_112 ?_
    refine lv_aload_n C.1 C.2.1 dX11_give_115 rfl (lv_at hl 0 rfl) ?_
    refine x_getC C w 4 fX11_9 obC8 rfl dX11_give_116 ?_
    refine x_getC C w 77 fX11_48 obC4 rfl dX11_give_119 ?_
    refine lv_aload_n C.1 C.2.1 dX11_give_122 rfl (lv_at hl 0 rfl) ?_
    refine x_getC C w 4 fX11_9 obC8 rfl dX11_give_123 ?_
    refine lv_iconst (v := 1) C.1 C.2.1 dX11_give_126 (by decide) ?_
    obtain ⟨v_5, hv_5, h⟩ := bnd h
    refine x_callVi (q := (RX1, TX1, 12)) (As := [.int (1 : Int32)]) (rest := [.ref (ρ_1 77), .ref (ρ_1 4)]) C w (k_Bn_builderAt l D T ρ_1 g H.size S hv_5) vX11_51 (hRK (by decide) (by decide)) obC4 (by decide) rfl rfl rfl hl.1 (Nat.le_of_ble_eq_true rfl) (hcK hT) dX11_give_127 (fun H locs w => ?_)
    obtain ⟨v_6, hv_6, h⟩ := bnd h
    refine x_iald C w obC77 hv_6 dX11_give_130 ?_
    refine lv_i2l C.1 C.2.1 dX11_give_131 rfl ?_
    obtain ⟨⟨S_7, v_8⟩, hv_8, h⟩ := bnd h
    replace nn : nq S_7 S := nq_tr (kq_Bn_giveWhole hv_8) nn
    refine x_callVi (q := (RX1, TX1, 12)) (As := [.long (v_6.toInt64)]) (rest := []) C w (k_Bn_giveWhole l D T ρ_1 g H.size S hv_8) vX11_44 (hRK (by decide) (by decide)) obC4 (by decide) rfl rfl rfl hl.1 (Nat.le_of_ble_eq_true rfl) (hcK hT) dX11_give_132 (fun H locs w => ?_)
    obtain ⟨rfl, rfl⟩ := prI h
    exact x_iretM C w ha hr hk dX11_give_135 (by have := nq_kap nn; omega) (by have := nq_kap nn; omega)
  replace h := iff0 hz8_1 h
  by_cases hz8_2 : (swT.getD e_2 0) = (23 : Int32)
  · replace h := ift hz8_2 h
    refine lv_tableIn (off := 128) (tgt := 136) C.1 C.2.1 dX11_give_8 (by rw [hz8_2]; decide) (by rw [hz8_2]; decide) (by rw [hz8_2]; decide +kernel) (by decide) ?_
    refine lv_aload_n C.1 C.2.1 dX11_give_136 rfl (lv_at hl 0 rfl) ?_
    obtain ⟨⟨S_9, v_10⟩, hv_10, h⟩ := bnd h
    replace nn : nq S_9 S := nq_tr (kq_WS_giveFirst hv_10) nn
    refine x_callVi (q := (RX11, TX11, 2)) (As := []) (rest := []) C w (k_WS_giveFirst l D T ρ_1 g H.size S hv_10) vX11_55 (hRK (by decide) (by decide)) obC8 (by decide) rfl rfl rfl hl.1 (Nat.le_of_ble_eq_true rfl) (hcK hT) dX11_give_137 (fun H locs w => ?_)
    obtain ⟨rfl, rfl⟩ := prI h
    exact x_iretM C w ha hr hk dX11_give_140 (by have := nq_kap nn; omega) (by have := nq_kap nn; omega)
  replace h := iff0 hz8_2 h
  by_cases hz8_3 : (swT.getD e_2 0) = (24 : Int32)
  · replace h := ift hz8_3 h
    refine lv_tableIn (off := 133) (tgt := 141) C.1 C.2.1 dX11_give_8 (by rw [hz8_3]; decide) (by rw [hz8_3]; decide) (by rw [hz8_3]; decide +kernel) (by decide) ?_
    refine lv_aload_n C.1 C.2.1 dX11_give_141 rfl (lv_at hl 0 rfl) ?_
    refine lv_ldc2 C.1 C.2.1 C.2.2.2.1 (C.2.2.2.2 _ nX11_58) dX11_give_142 ?_
    obtain ⟨⟨S_11, v_12⟩, hv_12, h⟩ := bnd h
    replace nn : nq S_11 S := nq_tr (kq_WS_parse hv_12) nn
    refine x_callVi (q := (RX11, TX11, 2)) (As := [.long (-9223372036854775808 : Int64)]) (rest := []) C w (k_WS_parse l D T ρ_1 g H.size S hv_12) vX11_60 (hRK (by decide) (by decide)) obC8 (by decide) rfl rfl rfl hl.1 (Nat.le_of_ble_eq_true rfl) (hcK hT) dX11_give_145 (fun H locs w => ?_)
    obtain ⟨rfl, rfl⟩ := prI h
    exact x_iretM C w ha hr hk dX11_give_148 (by have := nq_kap nn; omega) (by have := nq_kap nn; omega)
  replace h := iff0 hz8_3 h
  by_cases hz8_4 : (swT.getD e_2 0) = (25 : Int32)
  · replace h := ift hz8_4 h
    refine lv_tableIn (off := 141) (tgt := 149) C.1 C.2.1 dX11_give_8 (by rw [hz8_4]; decide) (by rw [hz8_4]; decide) (by rw [hz8_4]; decide +kernel) (by decide) ?_
    refine lv_aload_n C.1 C.2.1 dX11_give_149 rfl (lv_at hl 0 rfl) ?_
    refine lv_ldc2 C.1 C.2.1 C.2.2.2.1 (C.2.2.2.2 _ nX11_63) dX11_give_150 ?_
    obtain ⟨⟨S_13, v_14⟩, hv_14, h⟩ := bnd h
    replace nn : nq S_13 S := nq_tr (kq_WS_parse hv_14) nn
    refine x_callVi (q := (RX11, TX11, 2)) (As := [.long (-2147483648 : Int64)]) (rest := []) C w (k_WS_parse l D T ρ_1 g H.size S hv_14) vX11_60 (hRK (by decide) (by decide)) obC8 (by decide) rfl rfl rfl hl.1 (Nat.le_of_ble_eq_true rfl) (hcK hT) dX11_give_153 (fun H locs w => ?_)
    obtain ⟨rfl, rfl⟩ := prI h
    exact x_iretM C w ha hr hk dX11_give_156 (by have := nq_kap nn; omega) (by have := nq_kap nn; omega)
  replace h := iff0 hz8_4 h
  by_cases hz8_5 : (swT.getD e_2 0) = (26 : Int32)
  · replace h := ift hz8_5 h
    refine lv_tableIn (off := 149) (tgt := 157) C.1 C.2.1 dX11_give_8 (by rw [hz8_5]; decide) (by rw [hz8_5]; decide) (by rw [hz8_5]; decide +kernel) (by decide) ?_
    refine lv_aload_n C.1 C.2.1 dX11_give_157 rfl (lv_at hl 0 rfl) ?_
    obtain ⟨⟨S_15, v_16⟩, hv_16, h⟩ := bnd h
    have hkn := nq_kap nn
    have hk1 := km_WS_truth hv_16
    have hT2 := km_WS_give_161 h
    refine x_callViC (q := (RX11, TX11, 2)) (As := []) (rest := []) C w hcn hcw (k_WS_truth l Z D T ρ_1 g H.size S hv_16) vX11_65 (hRK (by decide) (by decide)) obC8 (by decide) rfl rfl rfl hl.1 (Nat.le_of_ble_eq_true rfl) (hcM hm hkn hk1 hT2) dX11_give_158 (fun ρ1 H locs hag w => ?_)
    replace ha := ha.trans hag
    rw [← hag 8 (by decide)] at hl
    refine W.widen (k := kap S_15 - kap S0) (n := 2 * (kap S_15 - kap S0)) (by omega) (by omega) ?_
    exact w_WS_give_161 C hr hk hcn hcw ha (by omega) w (lv_sub hl [] rfl) h
  replace h := iff0 hz8_5 h
  by_cases hz8_6 : (swT.getD e_2 0) = (27 : Int32)
  · replace h := ift hz8_6 h
    refine lv_tableIn (off := 154) (tgt := 162) C.1 C.2.1 dX11_give_8 (by rw [hz8_6]; decide) (by rw [hz8_6]; decide) (by rw [hz8_6]; decide +kernel) (by decide) ?_
    refine lv_aload_n C.1 C.2.1 dX11_give_162 rfl (lv_at hl 0 rfl) ?_
    refine x_getC C w 4 fX11_9 obC8 rfl dX11_give_163 ?_
    refine lv_aload_n C.1 C.2.1 dX11_give_166 rfl (lv_at hl 0 rfl) ?_
    refine x_getC C w 4 fX11_9 obC8 rfl dX11_give_167 ?_
    refine lv_iconst (v := 1) C.1 C.2.1 dX11_give_170 (by decide) ?_
    obtain ⟨v_17, hv_17, h⟩ := bnd h
    refine x_callVj (q := (RX1, TX1, 12)) (As := [.int (1 : Int32)]) (rest := [.ref (ρ_1 4)]) C w (k_Bn_wholeAt l D T ρ_1 g H.size S hv_17) vX11_68 (hRK (by decide) (by decide)) obC4 (by decide) rfl rfl rfl hl.1 (Nat.le_of_ble_eq_true rfl) (hcK hT) dX11_give_171 (fun H locs w => ?_)
    refine lv_aload_n C.1 C.2.1 dX11_give_174 rfl (lv_at hl 0 rfl) ?_
    refine x_getC C w 4 fX11_9 obC8 rfl dX11_give_175 ?_
    refine lv_iconst (v := 2) C.1 C.2.1 dX11_give_178 (by decide) ?_
    obtain ⟨v_18, hv_18, h⟩ := bnd h
    refine x_callVj (q := (RX1, TX1, 12)) (As := [.int (2 : Int32)]) (rest := [.long v_17, .ref (ρ_1 4)]) C w (k_Bn_wholeAt l D T ρ_1 g H.size S hv_18) vX11_68 (hRK (by decide) (by decide)) obC4 (by decide) rfl rfl rfl hl.1 (Nat.le_of_ble_eq_true rfl) (hcK hT) dX11_give_179 (fun H locs w => ?_)
    refine lv_ladd C.1 C.2.1 dX11_give_182 ?_
    obtain ⟨⟨S_19, v_20⟩, hv_20, h⟩ := bnd h
    replace nn : nq S_19 S := nq_tr (kq_Bn_giveWhole hv_20) nn
    refine x_callVi (q := (RX1, TX1, 12)) (As := [.long (v_17 + v_18)]) (rest := []) C w (k_Bn_giveWhole l D T ρ_1 g H.size S hv_20) vX11_44 (hRK (by decide) (by decide)) obC4 (by decide) rfl rfl rfl hl.1 (Nat.le_of_ble_eq_true rfl) (hcK hT) dX11_give_183 (fun H locs w => ?_)
    obtain ⟨rfl, rfl⟩ := prI h
    exact x_iretM C w ha hr hk dX11_give_186 (by have := nq_kap nn; omega) (by have := nq_kap nn; omega)
  replace h := iff0 hz8_6 h
  by_cases hz8_7 : (swT.getD e_2 0) = (28 : Int32)
  · replace h := ift hz8_7 h
    refine lv_tableIn (off := 179) (tgt := 187) C.1 C.2.1 dX11_give_8 (by rw [hz8_7]; decide) (by rw [hz8_7]; decide) (by rw [hz8_7]; decide +kernel) (by decide) ?_
    refine lv_aload_n C.1 C.2.1 dX11_give_187 rfl (lv_at hl 0 rfl) ?_
    refine x_getC C w 4 fX11_9 obC8 rfl dX11_give_188 ?_
    refine lv_aload_n C.1 C.2.1 dX11_give_191 rfl (lv_at hl 0 rfl) ?_
    refine x_getC C w 4 fX11_9 obC8 rfl dX11_give_192 ?_
    refine lv_iconst (v := 1) C.1 C.2.1 dX11_give_195 (by decide) ?_
    obtain ⟨v_21, hv_21, h⟩ := bnd h
    refine x_callVj (q := (RX1, TX1, 12)) (As := [.int (1 : Int32)]) (rest := [.ref (ρ_1 4)]) C w (k_Bn_wholeAt l D T ρ_1 g H.size S hv_21) vX11_68 (hRK (by decide) (by decide)) obC4 (by decide) rfl rfl rfl hl.1 (Nat.le_of_ble_eq_true rfl) (hcK hT) dX11_give_196 (fun H locs w => ?_)
    refine lv_aload_n C.1 C.2.1 dX11_give_199 rfl (lv_at hl 0 rfl) ?_
    refine x_getC C w 4 fX11_9 obC8 rfl dX11_give_200 ?_
    refine lv_iconst (v := 2) C.1 C.2.1 dX11_give_203 (by decide) ?_
    obtain ⟨v_22, hv_22, h⟩ := bnd h
    refine x_callVj (q := (RX1, TX1, 12)) (As := [.int (2 : Int32)]) (rest := [.long v_21, .ref (ρ_1 4)]) C w (k_Bn_wholeAt l D T ρ_1 g H.size S hv_22) vX11_68 (hRK (by decide) (by decide)) obC4 (by decide) rfl rfl rfl hl.1 (Nat.le_of_ble_eq_true rfl) (hcK hT) dX11_give_204 (fun H locs w => ?_)
    refine lv_lsub C.1 C.2.1 dX11_give_207 ?_
    obtain ⟨⟨S_23, v_24⟩, hv_24, h⟩ := bnd h
    replace nn : nq S_23 S := nq_tr (kq_Bn_giveWhole hv_24) nn
    refine x_callVi (q := (RX1, TX1, 12)) (As := [.long (v_21 - v_22)]) (rest := []) C w (k_Bn_giveWhole l D T ρ_1 g H.size S hv_24) vX11_44 (hRK (by decide) (by decide)) obC4 (by decide) rfl rfl rfl hl.1 (Nat.le_of_ble_eq_true rfl) (hcK hT) dX11_give_208 (fun H locs w => ?_)
    obtain ⟨rfl, rfl⟩ := prI h
    exact x_iretM C w ha hr hk dX11_give_211 (by have := nq_kap nn; omega) (by have := nq_kap nn; omega)
  replace h := iff0 hz8_7 h
  by_cases hz8_8 : (swT.getD e_2 0) = (29 : Int32)
  · replace h := ift hz8_8 h
    refine lv_tableIn (off := 204) (tgt := 212) C.1 C.2.1 dX11_give_8 (by rw [hz8_8]; decide) (by rw [hz8_8]; decide) (by rw [hz8_8]; decide +kernel) (by decide) ?_
    refine lv_aload_n C.1 C.2.1 dX11_give_212 rfl (lv_at hl 0 rfl) ?_
    refine x_getC C w 4 fX11_9 obC8 rfl dX11_give_213 ?_
    refine lv_aload_n C.1 C.2.1 dX11_give_216 rfl (lv_at hl 0 rfl) ?_
    refine x_getC C w 4 fX11_9 obC8 rfl dX11_give_217 ?_
    refine lv_iconst (v := 1) C.1 C.2.1 dX11_give_220 (by decide) ?_
    obtain ⟨v_25, hv_25, h⟩ := bnd h
    refine x_callVj (q := (RX1, TX1, 12)) (As := [.int (1 : Int32)]) (rest := [.ref (ρ_1 4)]) C w (k_Bn_wholeAt l D T ρ_1 g H.size S hv_25) vX11_68 (hRK (by decide) (by decide)) obC4 (by decide) rfl rfl rfl hl.1 (Nat.le_of_ble_eq_true rfl) (hcK hT) dX11_give_221 (fun H locs w => ?_)
    refine lv_aload_n C.1 C.2.1 dX11_give_224 rfl (lv_at hl 0 rfl) ?_
    refine x_getC C w 4 fX11_9 obC8 rfl dX11_give_225 ?_
    refine lv_iconst (v := 2) C.1 C.2.1 dX11_give_228 (by decide) ?_
    obtain ⟨v_26, hv_26, h⟩ := bnd h
    refine x_callVj (q := (RX1, TX1, 12)) (As := [.int (2 : Int32)]) (rest := [.long v_25, .ref (ρ_1 4)]) C w (k_Bn_wholeAt l D T ρ_1 g H.size S hv_26) vX11_68 (hRK (by decide) (by decide)) obC4 (by decide) rfl rfl rfl hl.1 (Nat.le_of_ble_eq_true rfl) (hcK hT) dX11_give_229 (fun H locs w => ?_)
    refine lv_lmul C.1 C.2.1 dX11_give_232 ?_
    obtain ⟨⟨S_27, v_28⟩, hv_28, h⟩ := bnd h
    replace nn : nq S_27 S := nq_tr (kq_Bn_giveWhole hv_28) nn
    refine x_callVi (q := (RX1, TX1, 12)) (As := [.long (v_25 * v_26)]) (rest := []) C w (k_Bn_giveWhole l D T ρ_1 g H.size S hv_28) vX11_44 (hRK (by decide) (by decide)) obC4 (by decide) rfl rfl rfl hl.1 (Nat.le_of_ble_eq_true rfl) (hcK hT) dX11_give_233 (fun H locs w => ?_)
    obtain ⟨rfl, rfl⟩ := prI h
    exact x_iretM C w ha hr hk dX11_give_236 (by have := nq_kap nn; omega) (by have := nq_kap nn; omega)
  replace h := iff0 hz8_8 h
  by_cases hz8_9 : (swT.getD e_2 0) = (30 : Int32)
  · replace h := ift hz8_9 h
    refine lv_tableIn (off := 229) (tgt := 237) C.1 C.2.1 dX11_give_8 (by rw [hz8_9]; decide) (by rw [hz8_9]; decide) (by rw [hz8_9]; decide +kernel) (by decide) ?_
    refine lv_aload_n C.1 C.2.1 dX11_give_237 rfl (lv_at hl 0 rfl) ?_
    refine x_getC C w 4 fX11_9 obC8 rfl dX11_give_238 ?_
    refine lv_aload_n C.1 C.2.1 dX11_give_241 rfl (lv_at hl 0 rfl) ?_
    refine x_getC C w 5 fX11_21 obC8 rfl dX11_give_242 ?_
    refine lv_aload_n C.1 C.2.1 dX11_give_245 rfl (lv_at hl 0 rfl) ?_
    refine x_getC C w 4 fX11_9 obC8 rfl dX11_give_246 ?_
    refine lv_iconst (v := 1) C.1 C.2.1 dX11_give_249 (by decide) ?_
    obtain ⟨v_29, hv_29, h⟩ := bnd h
    refine x_callVi (q := (RX1, TX1, 12)) (As := [.int (1 : Int32)]) (rest := [.ref (ρ_1 5), .ref (ρ_1 4)]) C w (k_Bn_textAt l D T ρ_1 g H.size S hv_29) vX11_72 (hRK (by decide) (by decide)) obC4 (by decide) rfl rfl rfl hl.1 (Nat.le_of_ble_eq_true rfl) (hcK hT) dX11_give_250 (fun H locs w => ?_)
    obtain ⟨v_30, hv_30, h⟩ := bnd h
    refine x_callVi (q := (RX10, TX10, 5)) (As := [.int v_29]) (rest := [.ref (ρ_1 4)]) C w (k_Tx_hashOf l D T ρ_1 g H.size S hv_30) vX11_75 (hRK (by decide) (by decide)) obC5 (by decide) rfl rfl rfl hl.1 (Nat.le_of_ble_eq_true rfl) (hcK hT) dX11_give_253 (fun H locs w => ?_)
    refine lv_i2l C.1 C.2.1 dX11_give_256 rfl ?_
    obtain ⟨⟨S_31, v_32⟩, hv_32, h⟩ := bnd h
    replace nn : nq S_31 S := nq_tr (kq_Bn_giveWhole hv_32) nn
    refine x_callVi (q := (RX1, TX1, 12)) (As := [.long (v_30.toInt64)]) (rest := []) C w (k_Bn_giveWhole l D T ρ_1 g H.size S hv_32) vX11_44 (hRK (by decide) (by decide)) obC4 (by decide) rfl rfl rfl hl.1 (Nat.le_of_ble_eq_true rfl) (hcK hT) dX11_give_257 (fun H locs w => ?_)
    obtain ⟨rfl, rfl⟩ := prI h
    exact x_iretM C w ha hr hk dX11_give_260 (by have := nq_kap nn; omega) (by have := nq_kap nn; omega)
  replace h := iff0 hz8_9 h
  by_cases hz8_10 : (swT.getD e_2 0) = (31 : Int32)
  · replace h := ift hz8_10 h
    refine lv_tableIn (off := 253) (tgt := 261) C.1 C.2.1 dX11_give_8 (by rw [hz8_10]; decide) (by rw [hz8_10]; decide) (by rw [hz8_10]; decide +kernel) (by decide) ?_
    refine lv_aload_n C.1 C.2.1 dX11_give_261 rfl (lv_at hl 0 rfl) ?_
    refine x_getC C w 4 fX11_9 obC8 rfl dX11_give_262 ?_
    refine lv_aload_n C.1 C.2.1 dX11_give_265 rfl (lv_at hl 0 rfl) ?_
    refine x_getC C w 5 fX11_21 obC8 rfl dX11_give_266 ?_
    refine lv_aload_n C.1 C.2.1 dX11_give_269 rfl (lv_at hl 0 rfl) ?_
    refine x_getC C w 4 fX11_9 obC8 rfl dX11_give_270 ?_
    refine lv_iconst (v := 1) C.1 C.2.1 dX11_give_273 (by decide) ?_
    obtain ⟨v_33, hv_33, h⟩ := bnd h
    refine x_callVi (q := (RX1, TX1, 12)) (As := [.int (1 : Int32)]) (rest := [.ref (ρ_1 5), .ref (ρ_1 4)]) C w (k_Bn_textAt l D T ρ_1 g H.size S hv_33) vX11_72 (hRK (by decide) (by decide)) obC4 (by decide) rfl rfl rfl hl.1 (Nat.le_of_ble_eq_true rfl) (hcK hT) dX11_give_274 (fun H locs w => ?_)
    obtain ⟨v_34, hv_34, h⟩ := bnd h
    refine x_callVi (q := (RX10, TX10, 5)) (As := [.int v_33]) (rest := [.ref (ρ_1 4)]) C w (k_Tx_sizeOf l D T ρ_1 g H.size S hv_34) vX11_80 (hRK (by decide) (by decide)) obC5 (by decide) rfl rfl rfl hl.1 (Nat.le_of_ble_eq_true rfl) (hcK hT) dX11_give_277 (fun H locs w => ?_)
    refine lv_i2l C.1 C.2.1 dX11_give_280 rfl ?_
    obtain ⟨⟨S_35, v_36⟩, hv_36, h⟩ := bnd h
    replace nn : nq S_35 S := nq_tr (kq_Bn_giveWhole hv_36) nn
    refine x_callVi (q := (RX1, TX1, 12)) (As := [.long (v_34.toInt64)]) (rest := []) C w (k_Bn_giveWhole l D T ρ_1 g H.size S hv_36) vX11_44 (hRK (by decide) (by decide)) obC4 (by decide) rfl rfl rfl hl.1 (Nat.le_of_ble_eq_true rfl) (hcK hT) dX11_give_281 (fun H locs w => ?_)
    obtain ⟨rfl, rfl⟩ := prI h
    exact x_iretM C w ha hr hk dX11_give_284 (by have := nq_kap nn; omega) (by have := nq_kap nn; omega)
  replace h := iff0 hz8_10 h
  by_cases hz8_11 : (swT.getD e_2 0) = (32 : Int32)
  · replace h := ift hz8_11 h
    refine lv_tableIn (off := 277) (tgt := 285) C.1 C.2.1 dX11_give_8 (by rw [hz8_11]; decide) (by rw [hz8_11]; decide) (by rw [hz8_11]; decide +kernel) (by decide) ?_
    refine lv_aload_n C.1 C.2.1 dX11_give_285 rfl (lv_at hl 0 rfl) ?_
    refine lv_aload_n C.1 C.2.1 dX11_give_286 rfl (lv_at hl 0 rfl) ?_
    refine x_getC C w 4 fX11_9 obC8 rfl dX11_give_287 ?_
    refine lv_iconst (v := 1) C.1 C.2.1 dX11_give_290 (by decide) ?_
    obtain ⟨v_37, hv_37, h⟩ := bnd h
    refine x_callVi (q := (RX1, TX1, 12)) (As := [.int (1 : Int32)]) (rest := [.ref (ρ_1 8)]) C w (k_Bn_textAt l D T ρ_1 g H.size S hv_37) vX11_72 (hRK (by decide) (by decide)) obC4 (by decide) rfl rfl rfl hl.1 (Nat.le_of_ble_eq_true rfl) (hcK hT) dX11_give_291 (fun H locs w => ?_)
    obtain ⟨⟨S_38, v_39⟩, hv_39, h⟩ := bnd h
    replace nn : nq S_38 S := nq_tr (kq_WS_giveUnit hv_39) nn
    refine x_callVi (q := (RX11, TX11, 2)) (As := [.int v_37]) (rest := []) C w (k_WS_giveUnit l D T ρ_1 g H.size S hv_39) vX11_83 (hRK (by decide) (by decide)) obC8 (by decide) rfl rfl rfl hl.1 (Nat.le_of_ble_eq_true rfl) (hcK hT) dX11_give_294 (fun H locs w => ?_)
    obtain ⟨rfl, rfl⟩ := prI h
    exact x_iretM C w ha hr hk dX11_give_297 (by have := nq_kap nn; omega) (by have := nq_kap nn; omega)
  replace h := iff0 hz8_11 h
  by_cases hz8_12 : (swT.getD e_2 0) = (33 : Int32)
  · replace h := ift hz8_12 h
    refine lv_tableIn (off := 290) (tgt := 298) C.1 C.2.1 dX11_give_8 (by rw [hz8_12]; decide) (by rw [hz8_12]; decide) (by rw [hz8_12]; decide +kernel) (by decide) ?_
    refine lv_aload_n C.1 C.2.1 dX11_give_298 rfl (lv_at hl 0 rfl) ?_
    refine lv_aload_n C.1 C.2.1 dX11_give_299 rfl (lv_at hl 0 rfl) ?_
    refine x_getC C w 4 fX11_9 obC8 rfl dX11_give_300 ?_
    refine lv_iconst (v := 1) C.1 C.2.1 dX11_give_303 (by decide) ?_
    obtain ⟨v_40, hv_40, h⟩ := bnd h
    refine x_callVi (q := (RX1, TX1, 12)) (As := [.int (1 : Int32)]) (rest := [.ref (ρ_1 8)]) C w (k_Bn_textAt l D T ρ_1 g H.size S hv_40) vX11_72 (hRK (by decide) (by decide)) obC4 (by decide) rfl rfl rfl hl.1 (Nat.le_of_ble_eq_true rfl) (hcK hT) dX11_give_304 (fun H locs w => ?_)
    obtain ⟨⟨S_41, v_42⟩, hv_42, h⟩ := bnd h
    replace nn : nq S_41 S := nq_tr (kq_WS_givePoint hv_42) nn
    refine x_callVi (q := (RX11, TX11, 2)) (As := [.int v_40]) (rest := []) C w (k_WS_givePoint l D T ρ_1 g H.size S hv_42) vX11_86 (hRK (by decide) (by decide)) obC8 (by decide) rfl rfl rfl hl.1 (Nat.le_of_ble_eq_true rfl) (hcK hT) dX11_give_307 (fun H locs w => ?_)
    obtain ⟨rfl, rfl⟩ := prI h
    exact x_iretM C w ha hr hk dX11_give_310 (by have := nq_kap nn; omega) (by have := nq_kap nn; omega)
  replace h := iff0 hz8_12 h
  by_cases hz8_13 : (swT.getD e_2 0) = (34 : Int32)
  · replace h := ift hz8_13 h
    refine lv_tableIn (off := 303) (tgt := 311) C.1 C.2.1 dX11_give_8 (by rw [hz8_13]; decide) (by rw [hz8_13]; decide) (by rw [hz8_13]; decide +kernel) (by decide) ?_
    refine lv_aload_n C.1 C.2.1 dX11_give_311 rfl (lv_at hl 0 rfl) ?_
    refine lv_aload_n C.1 C.2.1 dX11_give_312 rfl (lv_at hl 0 rfl) ?_
    refine x_getC C w 4 fX11_9 obC8 rfl dX11_give_313 ?_
    refine lv_iconst (v := 1) C.1 C.2.1 dX11_give_316 (by decide) ?_
    obtain ⟨v_43, hv_43, h⟩ := bnd h
    refine x_callVi (q := (RX1, TX1, 12)) (As := [.int (1 : Int32)]) (rest := [.ref (ρ_1 8)]) C w (k_Bn_textAt l D T ρ_1 g H.size S hv_43) vX11_72 (hRK (by decide) (by decide)) obC4 (by decide) rfl rfl rfl hl.1 (Nat.le_of_ble_eq_true rfl) (hcK hT) dX11_give_317 (fun H locs w => ?_)
    obtain ⟨⟨S_44, v_45⟩, hv_45, h⟩ := bnd h
    replace nn : nq S_44 S := nq_tr (kq_WS_givePointBefore hv_45) nn
    refine x_callVi (q := (RX11, TX11, 2)) (As := [.int v_43]) (rest := []) C w (k_WS_givePointBefore l D T ρ_1 g H.size S hv_45) vX11_89 (hRK (by decide) (by decide)) obC8 (by decide) rfl rfl rfl hl.1 (Nat.le_of_ble_eq_true rfl) (hcK hT) dX11_give_320 (fun H locs w => ?_)
    obtain ⟨rfl, rfl⟩ := prI h
    exact x_iretM C w ha hr hk dX11_give_323 (by have := nq_kap nn; omega) (by have := nq_kap nn; omega)
  replace h := iff0 hz8_13 h
  by_cases hz8_14 : (swT.getD e_2 0) = (35 : Int32)
  · replace h := ift hz8_14 h
    refine lv_tableIn (off := 316) (tgt := 324) C.1 C.2.1 dX11_give_8 (by rw [hz8_14]; decide) (by rw [hz8_14]; decide) (by rw [hz8_14]; decide +kernel) (by decide) ?_
    refine lv_aload_n C.1 C.2.1 dX11_give_324 rfl (lv_at hl 0 rfl) ?_
    refine lv_aload_n C.1 C.2.1 dX11_give_325 rfl (lv_at hl 0 rfl) ?_
    refine x_getC C w 4 fX11_9 obC8 rfl dX11_give_326 ?_
    refine lv_iconst (v := 1) C.1 C.2.1 dX11_give_329 (by decide) ?_
    obtain ⟨v_46, hv_46, h⟩ := bnd h
    refine x_callVi (q := (RX1, TX1, 12)) (As := [.int (1 : Int32)]) (rest := [.ref (ρ_1 8)]) C w (k_Bn_textAt l D T ρ_1 g H.size S hv_46) vX11_72 (hRK (by decide) (by decide)) obC4 (by decide) rfl rfl rfl hl.1 (Nat.le_of_ble_eq_true rfl) (hcK hT) dX11_give_330 (fun H locs w => ?_)
    obtain ⟨⟨S_47, v_48⟩, hv_48, h⟩ := bnd h
    replace nn : nq S_47 S := nq_tr (kq_WS_countPoints hv_48) nn
    refine x_callVi (q := (RX11, TX11, 2)) (As := [.int v_46]) (rest := []) C w (k_WS_countPoints l D T ρ_1 g H.size S hv_48) vX11_92 (hRK (by decide) (by decide)) obC8 (by decide) rfl rfl rfl hl.1 (Nat.le_of_ble_eq_true rfl) (hcK hT) dX11_give_333 (fun H locs w => ?_)
    obtain ⟨rfl, rfl⟩ := prI h
    exact x_iretM C w ha hr hk dX11_give_336 (by have := nq_kap nn; omega) (by have := nq_kap nn; omega)
  replace h := iff0 hz8_14 h
  by_cases hz8_15 : (swT.getD e_2 0) = (36 : Int32)
  · replace h := ift hz8_15 h
    refine lv_tableIn (off := 329) (tgt := 337) C.1 C.2.1 dX11_give_8 (by rw [hz8_15]; decide) (by rw [hz8_15]; decide) (by rw [hz8_15]; decide +kernel) (by decide) ?_
    refine lv_aload_n C.1 C.2.1 dX11_give_337 rfl (lv_at hl 0 rfl) ?_
    refine lv_aload_n C.1 C.2.1 dX11_give_338 rfl (lv_at hl 0 rfl) ?_
    refine x_getC C w 4 fX11_9 obC8 rfl dX11_give_339 ?_
    refine lv_iconst (v := 1) C.1 C.2.1 dX11_give_342 (by decide) ?_
    obtain ⟨v_49, hv_49, h⟩ := bnd h
    refine x_callVi (q := (RX1, TX1, 12)) (As := [.int (1 : Int32)]) (rest := [.ref (ρ_1 8)]) C w (k_Bn_textAt l D T ρ_1 g H.size S hv_49) vX11_72 (hRK (by decide) (by decide)) obC4 (by decide) rfl rfl rfl hl.1 (Nat.le_of_ble_eq_true rfl) (hcK hT) dX11_give_343 (fun H locs w => ?_)
    obtain ⟨⟨S_50, v_51⟩, hv_51, h⟩ := bnd h
    replace nn : nq S_50 S := nq_tr (kq_WS_offset hv_51) nn
    refine x_callVi (q := (RX11, TX11, 2)) (As := [.int v_49]) (rest := []) C w (k_WS_offset l D T ρ_1 g H.size S hv_51) vX11_95 (hRK (by decide) (by decide)) obC8 (by decide) rfl rfl rfl hl.1 (Nat.le_of_ble_eq_true rfl) (hcK hT) dX11_give_346 (fun H locs w => ?_)
    obtain ⟨rfl, rfl⟩ := prI h
    exact x_iretM C w ha hr hk dX11_give_349 (by have := nq_kap nn; omega) (by have := nq_kap nn; omega)
  replace h := iff0 hz8_15 h
  by_cases hz8_16 : (swT.getD e_2 0) = (37 : Int32)
  · replace h := ift hz8_16 h
    refine lv_tableIn (off := 342) (tgt := 350) C.1 C.2.1 dX11_give_8 (by rw [hz8_16]; decide) (by rw [hz8_16]; decide) (by rw [hz8_16]; decide +kernel) (by decide) ?_
    refine lv_aload_n C.1 C.2.1 dX11_give_350 rfl (lv_at hl 0 rfl) ?_
    refine lv_aload_n C.1 C.2.1 dX11_give_351 rfl (lv_at hl 0 rfl) ?_
    refine x_getC C w 4 fX11_9 obC8 rfl dX11_give_352 ?_
    refine lv_iconst (v := 1) C.1 C.2.1 dX11_give_355 (by decide) ?_
    obtain ⟨v_52, hv_52, h⟩ := bnd h
    refine x_callVi (q := (RX1, TX1, 12)) (As := [.int (1 : Int32)]) (rest := [.ref (ρ_1 8)]) C w (k_Bn_textAt l D T ρ_1 g H.size S hv_52) vX11_72 (hRK (by decide) (by decide)) obC4 (by decide) rfl rfl rfl hl.1 (Nat.le_of_ble_eq_true rfl) (hcK hT) dX11_give_356 (fun H locs w => ?_)
    obtain ⟨⟨S_53, v_54⟩, hv_54, h⟩ := bnd h
    replace nn : nq S_53 S := nq_tr (kq_WS_seek hv_54) nn
    refine x_callVi (q := (RX11, TX11, 2)) (As := [.int v_52]) (rest := []) C w (k_WS_seek l D T ρ_1 g H.size S hv_54) vX11_98 (hRK (by decide) (by decide)) obC8 (by decide) rfl rfl rfl hl.1 (Nat.le_of_ble_eq_true rfl) (hcK hT) dX11_give_359 (fun H locs w => ?_)
    obtain ⟨rfl, rfl⟩ := prI h
    exact x_iretM C w ha hr hk dX11_give_362 (by have := nq_kap nn; omega) (by have := nq_kap nn; omega)
  replace h := iff0 hz8_16 h
  refine lv_tableOut (tgt := 363) C.1 C.2.1 dX11_give_8 (by have g0 := i_ne (v := (21 : Int32)) (k := 21) (by decide) hz8_0; have g1 := i_ne (v := (22 : Int32)) (k := 22) (by decide) hz8_1; have g2 := i_ne (v := (23 : Int32)) (k := 23) (by decide) hz8_2; have g3 := i_ne (v := (24 : Int32)) (k := 24) (by decide) hz8_3; have g4 := i_ne (v := (25 : Int32)) (k := 25) (by decide) hz8_4; have g5 := i_ne (v := (26 : Int32)) (k := 26) (by decide) hz8_5; have g6 := i_ne (v := (27 : Int32)) (k := 27) (by decide) hz8_6; have g7 := i_ne (v := (28 : Int32)) (k := 28) (by decide) hz8_7; have g8 := i_ne (v := (29 : Int32)) (k := 29) (by decide) hz8_8; have g9 := i_ne (v := (30 : Int32)) (k := 30) (by decide) hz8_9; have g10 := i_ne (v := (31 : Int32)) (k := 31) (by decide) hz8_10; have g11 := i_ne (v := (32 : Int32)) (k := 32) (by decide) hz8_11; have g12 := i_ne (v := (33 : Int32)) (k := 33) (by decide) hz8_12; have g13 := i_ne (v := (34 : Int32)) (k := 34) (by decide) hz8_13; have g14 := i_ne (v := (35 : Int32)) (k := 35) (by decide) hz8_14; have g15 := i_ne (v := (36 : Int32)) (k := 36) (by decide) hz8_15; have g16 := i_ne (v := (37 : Int32)) (k := 37) (by decide) hz8_16; omega) (by decide) ?_
  refine lv_aload_n C.1 C.2.1 dX11_give_363 rfl (lv_at hl 0 rfl) ?_
  refine lv_aload_n C.1 C.2.1 dX11_give_364 rfl (lv_at hl 1 rfl) ?_
  refine lv_aload_n C.1 C.2.1 dX11_give_365 rfl (lv_at hl 0 rfl) ?_
  refine x_getC C w 4 fX11_9 obC8 rfl dX11_give_366 ?_
  refine lv_iconst (v := 1) C.1 C.2.1 dX11_give_369 (by decide) ?_
  obtain ⟨v_55, hv_55, h⟩ := bnd h
  refine x_callVi (q := (RX1, TX1, 12)) (As := [.int (1 : Int32)]) (rest := [.ref (Z.1 x1), .ref (ρ_1 8)]) C w (k_Bn_textAt l D T ρ_1 g H.size S hv_55) vX11_72 (hRK (by decide) (by decide)) obC4 (by decide) rfl rfl rfl hl.1 (Nat.le_of_ble_eq_true rfl) (hcK hT) dX11_give_370 (fun H locs w => ?_)
  refine lv_aload_n C.1 C.2.1 dX11_give_373 rfl (lv_at hl 0 rfl) ?_
  refine x_getC C w 4 fX11_9 obC8 rfl dX11_give_374 ?_
  refine lv_iconst (v := 2) C.1 C.2.1 dX11_give_377 (by decide) ?_
  obtain ⟨v_56, hv_56, h⟩ := bnd h
  refine x_callVi (q := (RX1, TX1, 12)) (As := [.int (2 : Int32)]) (rest := [.int v_55, .ref (Z.1 x1), .ref (ρ_1 8)]) C w (k_Bn_textAt l D T ρ_1 g H.size S hv_56) vX11_72 (hRK (by decide) (by decide)) obC4 (by decide) rfl rfl rfl hl.1 (Nat.le_of_ble_eq_true rfl) (hcK hT) dX11_give_378 (fun H locs w => ?_)
  obtain ⟨⟨S_57, v_58⟩, hv_58, h⟩ := bnd h
  have hkn := nq_kap nn
  have hk1 := km_WS_giveOfTwo hv_58
  have hT2 := km_WS_give_384 h
  refine x_callViC (q := (RX11, TX11, 2)) (As := [.ref (Z.1 x1), .int v_55, .int v_56]) (rest := []) C w hcn hcw (k_WS_giveOfTwo l Z D T ρ_1 g H.size S ho_x1 hv_58) vX11_101 (hRK (by decide) (by decide)) obC8 (by decide) rfl rfl rfl hl.1 (Nat.le_of_ble_eq_true rfl) (hcM hm hkn hk1 hT2) dX11_give_381 (fun ρ1 H locs hag w => ?_)
  replace ha := ha.trans hag
  rw [← hag 8 (by decide)] at hl
  refine W.widen (k := kap S_57 - kap S0) (n := 2 * (kap S_57 - kap S0)) (by omega) (by omega) ?_
  exact w_WS_give_384 C hr hk hcn hcw ha (by omega) w (lv_sub hl [] rfl) h
end S_WS_give
set_option maxRecDepth 100000 in
theorem k_WS_give (l : Launch) (Z : Ad) (D : va_G) (T : Cy) (ρ : Nat → Nat) (g sz : Nat) (S : St) {x1 : Nat} (ho_x1 : x1 < 56) {S' : St} {r : Int32} (h : m_WS_give g S x1 = some (S', r)) : MiC l Z D T ρ yX11_give cX11_give 2 (some .int) 5 114 S S' r [.ref (ρ 8), .ref (Z.1 x1)] sz :=
  x_inC (by decide) (Nat.le_of_ble_eq_true rfl) (fun p e s m below meth c ls C hr hk hcn hcw w hl => W.widen (Nat.zero_le _) (Nat.zero_le _) (w_WS_give_0 C hr hk hcn hcw Ag.rf (Nat.le_refl _) w hl ho_x1 h))

theorem dX7_nextBehind_0 : decode cX7_nextBehind 0 = .ok (.aload_n 3, 1) := by decide +kernel
theorem dX7_nextBehind_1 : decode cX7_nextBehind 1 = .ok (.getstatic 134, 3) := by decide +kernel
theorem dX7_nextBehind_4 : decode cX7_nextBehind 4 = .ok (.if_acmp .ne 31, 3) := by decide +kernel
theorem dX7_nextBehind_7 : decode cX7_nextBehind 7 = .ok (.aload_n 0, 1) := by decide +kernel
theorem dX7_nextBehind_8 : decode cX7_nextBehind 8 = .ok (.getfield 23, 3) := by decide +kernel
theorem dX7_nextBehind_11 : decode cX7_nextBehind 11 = .ok (.aload_n 1, 1) := by decide +kernel
theorem dX7_nextBehind_12 : decode cX7_nextBehind 12 = .ok (.iload_n 2, 1) := by decide +kernel
theorem dX7_nextBehind_13 : decode cX7_nextBehind 13 = .ok (.invokevirtual 137, 3) := by decide +kernel
theorem dX7_nextBehind_16 : decode cX7_nextBehind 16 = .ok (.invokevirtual 140, 3) := by decide +kernel
theorem dX7_nextBehind_19 : decode cX7_nextBehind 19 = .ok (.aload_n 0, 1) := by decide +kernel
theorem dX7_nextBehind_20 : decode cX7_nextBehind 20 = .ok (.getfield 27, 3) := by decide +kernel
theorem dX7_nextBehind_23 : decode cX7_nextBehind 23 = .ok (.aload_n 0, 1) := by decide +kernel
theorem dX7_nextBehind_24 : decode cX7_nextBehind 24 = .ok (.getfield 30, 3) := by decide +kernel
theorem dX7_nextBehind_27 : decode cX7_nextBehind 27 = .ok (.iconst 0, 1) := by decide +kernel
theorem dX7_nextBehind_28 : decode cX7_nextBehind 28 = .ok (.invokevirtual 143, 3) := by decide +kernel
theorem dX7_nextBehind_31 : decode cX7_nextBehind 31 = .ok (.l2i, 1) := by decide +kernel
theorem dX7_nextBehind_32 : decode cX7_nextBehind 32 = .ok (.invokevirtual 140, 3) := by decide +kernel
theorem dX7_nextBehind_35 : decode cX7_nextBehind 35 = .ok (.aload_n 3, 1) := by decide +kernel
theorem dX7_nextBehind_36 : decode cX7_nextBehind 36 = .ok (.getstatic 147, 3) := by decide +kernel
theorem dX7_nextBehind_39 : decode cX7_nextBehind 39 = .ok (.if_acmp .ne 20, 3) := by decide +kernel
theorem dX7_nextBehind_42 : decode cX7_nextBehind 42 = .ok (.aload_n 0, 1) := by decide +kernel
theorem dX7_nextBehind_43 : decode cX7_nextBehind 43 = .ok (.getfield 30, 3) := by decide +kernel
theorem dX7_nextBehind_46 : decode cX7_nextBehind 46 = .ok (.iconst 0, 1) := by decide +kernel
theorem dX7_nextBehind_47 : decode cX7_nextBehind 47 = .ok (.invokevirtual 150, 3) := by decide +kernel
theorem dX7_nextBehind_50 : decode cX7_nextBehind 50 = .ok (.lconst 0, 1) := by decide +kernel
theorem dX7_nextBehind_51 : decode cX7_nextBehind 51 = .ok (.lcmp, 1) := by decide +kernel
theorem dX7_nextBehind_52 : decode cX7_nextBehind 52 = .ok (.ifCond .ne 7, 3) := by decide +kernel
theorem dX7_nextBehind_55 : decode cX7_nextBehind 55 = .ok (.iconst 1, 1) := by decide +kernel
theorem dX7_nextBehind_56 : decode cX7_nextBehind 56 = .ok (.goto 4, 3) := by decide +kernel
theorem dX7_nextBehind_59 : decode cX7_nextBehind 59 = .ok (.iconst 0, 1) := by decide +kernel
theorem dX7_nextBehind_60 : decode cX7_nextBehind 60 = .ok (.istore 4, 2) := by decide +kernel
theorem dX7_nextBehind_62 : decode cX7_nextBehind 62 = .ok (.iload 4, 2) := by decide +kernel
theorem dX7_nextBehind_64 : decode cX7_nextBehind 64 = .ok (.ifCond .eq 11, 3) := by decide +kernel
theorem dX7_nextBehind_67 : decode cX7_nextBehind 67 = .ok (.aload_n 1, 1) := by decide +kernel
theorem dX7_nextBehind_68 : decode cX7_nextBehind 68 = .ok (.iload_n 2, 1) := by decide +kernel
theorem dX7_nextBehind_69 : decode cX7_nextBehind 69 = .ok (.invokevirtual 137, 3) := by decide +kernel
theorem dX7_nextBehind_72 : decode cX7_nextBehind 72 = .ok (.goto 6, 3) := by decide +kernel
theorem dX7_nextBehind_75 : decode cX7_nextBehind 75 = .ok (.iload_n 2, 1) := by decide +kernel
theorem dX7_nextBehind_76 : decode cX7_nextBehind 76 = .ok (.iconst 1, 1) := by decide +kernel
theorem dX7_nextBehind_77 : decode cX7_nextBehind 77 = .ok (.iadd, 1) := by decide +kernel
theorem dX7_nextBehind_78 : decode cX7_nextBehind 78 = .ok (.ireturn, 1) := by decide +kernel
def m_Rn_nextBehind_60 (g : Nat) (S : St) (x1 : Nat) (x2 : Int32) (y0 : Int32) : Option (St × Int32) :=
if y0 = 0 then (
  some (S, x2 + (1 : Int32))
) else (
  (m_Pg_rangeEnd g S x1 x2).bind fun v_1 =>
  some (S, v_1)
)
def m_Rn_nextBehind_59 (g : Nat) (S : St) (x1 : Nat) (x2 : Int32) : Option (St × Int32) :=
m_Rn_nextBehind_60 g S x1 x2 (0 : Int32)
def m_Rn_nextBehind_35 (g : Nat) (S : St) (x1 : Nat) (x2 : Int32) (x3 : Nat) : Option (St × Int32) :=
if x3 = 53 then (
  (m_Bn_wholeAt g S (0 : Int32)).bind fun v_1 =>
  if v_1 = (0 : Int64) then (
    m_Rn_nextBehind_60 g S x1 x2 (1 : Int32)
  ) else (
    m_Rn_nextBehind_59 g S x1 x2
  )
) else (
  m_Rn_nextBehind_59 g S x1 x2
)
def m_Rn_nextBehind_19 (g : Nat) (S : St) (x1 : Nat) (x2 : Int32) (x3 : Nat) : Option (St × Int32) :=
(m_Bn_valueAt g S (0 : Int32)).bind fun v_3 =>
(m_Row_add g S 33 (v_3.toInt32)).bind fun S_4 =>
m_Rn_nextBehind_35 g S_4 x1 x2 x3
def m_Rn_nextBehind (g : Nat) (S : St) (x1 : Nat) (x2 : Int32) (x3 : Nat) : Option (St × Int32) :=
if x3 = 54 then (
  (m_Pg_rangeEnd g S x1 x2).bind fun v_1 =>
  (m_Row_add g S 32 v_1).bind fun S_2 =>
  m_Rn_nextBehind_19 g S_2 x1 x2 x3
) else (
  m_Rn_nextBehind_35 g S x1 x2 x3
)
theorem km_Rn_nextBehind_60 {g : Nat} {S : St} {x1 : Nat} {x2 : Int32} {y0 : Int32} {S' : St} {r : Int32} (h : m_Rn_nextBehind_60 g S x1 x2 y0 = some (S', r)) : kap S ≤ kap S' := by
  unfold m_Rn_nextBehind_60 at h
  have nn : nq S S := nq_rf
  by_cases hc1 : y0 = 0
  · replace h := ift hc1 h
    obtain ⟨rfl, rfl⟩ := prI h
    have hkn := nq_kap nn
    omega
  · replace h := iff0 hc1 h
    obtain ⟨v_1, hv_1, h⟩ := bnd h
    obtain ⟨rfl, rfl⟩ := prI h
    have hkn := nq_kap nn
    omega
theorem km_Rn_nextBehind_59 {g : Nat} {S : St} {x1 : Nat} {x2 : Int32} {S' : St} {r : Int32} (h : m_Rn_nextBehind_59 g S x1 x2 = some (S', r)) : kap S ≤ kap S' := by
  unfold m_Rn_nextBehind_59 at h
  have nn : nq S S := nq_rf
  have hkn := nq_kap nn
  have h2 := km_Rn_nextBehind_60 h
  omega
theorem km_Rn_nextBehind_35 {g : Nat} {S : St} {x1 : Nat} {x2 : Int32} {x3 : Nat} {S' : St} {r : Int32} (h : m_Rn_nextBehind_35 g S x1 x2 x3 = some (S', r)) : kap S ≤ kap S' := by
  unfold m_Rn_nextBehind_35 at h
  have nn : nq S S := nq_rf
  by_cases hc1 : x3 = 53
  · replace h := ift hc1 h
    obtain ⟨v_1, hv_1, h⟩ := bnd h
    by_cases hc2 : v_1 = (0 : Int64)
    · replace h := ift hc2 h
      have hkn := nq_kap nn
      have h2 := km_Rn_nextBehind_60 h
      omega
    · replace h := iff0 hc2 h
      have hkn := nq_kap nn
      have h2 := km_Rn_nextBehind_59 h
      omega
  · replace h := iff0 hc1 h
    have hkn := nq_kap nn
    have h2 := km_Rn_nextBehind_59 h
    omega
theorem km_Rn_nextBehind_19 {g : Nat} {S : St} {x1 : Nat} {x2 : Int32} {x3 : Nat} {S' : St} {r : Int32} (h : m_Rn_nextBehind_19 g S x1 x2 x3 = some (S', r)) : kap S ≤ kap S' := by
  unfold m_Rn_nextBehind_19 at h
  have nn : nq S S := nq_rf
  obtain ⟨v_3, hv_3, h⟩ := bnd h
  obtain ⟨S_4, hS_4, h⟩ := bnd h
  have hk1 := km_Row_add hS_4
  have hkn := nq_kap nn
  have h2 := km_Rn_nextBehind_35 h
  omega
theorem km_Rn_nextBehind {g : Nat} {S : St} {x1 : Nat} {x2 : Int32} {x3 : Nat} {S' : St} {r : Int32} (h : m_Rn_nextBehind g S x1 x2 x3 = some (S', r)) : kap S ≤ kap S' := by
  unfold m_Rn_nextBehind at h
  have nn : nq S S := nq_rf
  by_cases hc1 : x3 = 54
  · replace h := ift hc1 h
    obtain ⟨v_1, hv_1, h⟩ := bnd h
    obtain ⟨S_2, hS_2, h⟩ := bnd h
    have hk1 := km_Row_add hS_2
    have hkn := nq_kap nn
    have h2 := km_Rn_nextBehind_19 h
    omega
  · replace h := iff0 hc1 h
    have hkn := nq_kap nn
    have h2 := km_Rn_nextBehind_35 h
    omega
section S_Rn_nextBehind
variable {p : Program} {l : Launch} {e : Env} {s : State} {m : MethodId} {args : Array Value} {below : List Frame} {meth : Method} {c : Code} {H : Heap} {locs : List Loc} {ls : Array Slot} {D : va_G} {T : Cy} {ρ ρ0 : Nat → Nat} {S0 : St} {A : Nat → Prop} {Z : Ad}
set_option maxRecDepth 100000 in
set_option maxHeartbeats 4000000 in
theorem w_Rn_nextBehind_60 {g : Nat} {S : St} {x1 : Nat} {x2 : Int32} {y0 : Int32} (C : CallFix p m c cX7_nextBehind 5 s args tb RX7) (hr : meth.sig.returnType = (some .int)) (hk : meth.locks = false) (hcn : Kn Z A s s.heap) (hcw : Kw Z s) {S' : St} {r : Int32} (ha : Ag ρ0 ρ) (hm : kap S0 ≤ kap S) (w : Wn Yc D T ρ S A s H locs) (hl : lv_has ls 5 [(1, .ref (ρ x1)), (2, .int x2)]) (ho_x1 : Ob Yc x1 2) (h : m_Rn_nextBehind_60 g S x1 x2 y0 = some (S', r)) : W p l e (rmK 3 69 (kap S' - kap S0)) s m args below meth c H locs (kap S - kap S0) (2 * (kap S - kap S0)) (MQ below (QiM D T ρ0 A S' r) args s (kap S' - kap S0) (2 * (kap S' - kap S0)) A) (F0 m 60 ls [.int y0]) := by
  have hT := km_Rn_nextBehind_60 h
  unfold m_Rn_nextBehind_60 at h
  have nn : nq S S := nq_rf
  refine lv_istore (lv' := [(4, .int y0), (1, .ref (ρ x1)), (2, .int x2)]) C.1 C.2.1 dX7_nextBehind_60 hl (by decide) rfl (fun ls hl => ?_)
  refine lv_iload C.1 C.2.1 dX7_nextBehind_62 (lv_at hl 0 rfl) ?_
  refine lv_if_eq (tgt := 75) C.1 C.2.1 dX7_nextBehind_64 (by decide) (fun hc => ?_) (fun hc => ?_)
  · replace h := ift hc h
    refine lv_iload_n C.1 C.2.1 dX7_nextBehind_75 rfl (lv_at hl 2 rfl) ?_
    refine lv_iconst (v := 1) C.1 C.2.1 dX7_nextBehind_76 (by decide) ?_
    refine lv_iadd C.1 C.2.1 dX7_nextBehind_77 ?_
    obtain ⟨rfl, rfl⟩ := prI h
    exact x_iretM C w ha hr hk dX7_nextBehind_78 (by have := nq_kap nn; omega) (by have := nq_kap nn; omega)
  · replace h := iff0 hc h
    refine lv_aload_n C.1 C.2.1 dX7_nextBehind_67 rfl (lv_at hl 1 rfl) ?_
    refine lv_iload_n C.1 C.2.1 dX7_nextBehind_68 rfl (lv_at hl 2 rfl) ?_
    obtain ⟨v_1, hv_1, h⟩ := bnd h
    refine x_callVi (q := (RX4, TX4, 16)) (As := [.int x2]) (rest := []) C w (k_Pg_rangeEnd l D T ρ g H.size S ho_x1 hv_1) vX7_137 (hRK (by decide) (by decide)) ho_x1 (by decide) rfl rfl rfl hl.1 (Nat.le_of_ble_eq_true rfl) (hcK hT) dX7_nextBehind_69 (fun H locs w => ?_)
    refine lv_goto (tgt := 78) C.1 C.2.1 dX7_nextBehind_72 (by decide) ?_
    obtain ⟨rfl, rfl⟩ := prI h
    exact x_iretM C w ha hr hk dX7_nextBehind_78 (by have := nq_kap nn; omega) (by have := nq_kap nn; omega)
set_option maxRecDepth 100000 in
set_option maxHeartbeats 4000000 in
theorem w_Rn_nextBehind_59 {g : Nat} {S : St} {x1 : Nat} {x2 : Int32} (C : CallFix p m c cX7_nextBehind 5 s args tb RX7) (hr : meth.sig.returnType = (some .int)) (hk : meth.locks = false) (hcn : Kn Z A s s.heap) (hcw : Kw Z s) {S' : St} {r : Int32} (ha : Ag ρ0 ρ) (hm : kap S0 ≤ kap S) (w : Wn Yc D T ρ S A s H locs) (hl : lv_has ls 5 [(1, .ref (ρ x1)), (2, .int x2)]) (ho_x1 : Ob Yc x1 2) (h : m_Rn_nextBehind_59 g S x1 x2 = some (S', r)) : W p l e (rmK 3 69 (kap S' - kap S0)) s m args below meth c H locs (kap S - kap S0) (2 * (kap S - kap S0)) (MQ below (QiM D T ρ0 A S' r) args s (kap S' - kap S0) (2 * (kap S' - kap S0)) A) (F0 m 59 ls []) := by
  have hT := km_Rn_nextBehind_59 h
  unfold m_Rn_nextBehind_59 at h
  have nn : nq S S := nq_rf
  refine lv_iconst (v := 0) C.1 C.2.1 dX7_nextBehind_59 (by decide) ?_
  have hkn := nq_kap nn
  refine W.widen (k := kap S - kap S0) (n := 2 * (kap S - kap S0)) (by omega) (by omega) ?_
  exact w_Rn_nextBehind_60 C hr hk hcn hcw ha (by omega) w (lv_sub hl [0, 1] rfl) ho_x1 h
set_option maxRecDepth 100000 in
set_option maxHeartbeats 4000000 in
theorem w_Rn_nextBehind_35 {g : Nat} {S : St} {x1 : Nat} {x2 : Int32} {x3 : Nat} (C : CallFix p m c cX7_nextBehind 5 s args tb RX7) (hr : meth.sig.returnType = (some .int)) (hk : meth.locks = false) (hcn : Kn Z A s s.heap) (hcw : Kw Z s) {S' : St} {r : Int32} (ha : Ag ρ0 ρ) (hm : kap S0 ≤ kap S) (w : Wn Yc D T ρ S A s H locs) (hl : lv_has ls 5 [(0, .ref (ρ 6)), (1, .ref (ρ x1)), (2, .int x2), (3, .ref (Z.1 x3))]) (ho_x1 : Ob Yc x1 2) (ho_x3 : x3 < 56) (h : m_Rn_nextBehind_35 g S x1 x2 x3 = some (S', r)) : W p l e (rmK 3 69 (kap S' - kap S0)) s m args below meth c H locs (kap S - kap S0) (2 * (kap S - kap S0)) (MQ below (QiM D T ρ0 A S' r) args s (kap S' - kap S0) (2 * (kap S' - kap S0)) A) (F0 m 35 ls []) := by
  have hT := km_Rn_nextBehind_35 h
  unfold m_Rn_nextBehind_35 at h
  have nn : nq S S := nq_rf
  refine lv_aload_n C.1 C.2.1 dX7_nextBehind_35 rfl (lv_at hl 3 rfl) ?_
  refine x_gsE (k := 53) C w hcn (by decide) gkX7_147 dX7_nextBehind_36 ?_
  refine x_acmpN (tgt := 59) C hcn ho_x3 (by decide) dX7_nextBehind_39 (by decide) (fun hc => ?_) (fun hc => ?_)
  · replace h := iff0 hc h
    have hkn := nq_kap nn
    refine W.widen (k := kap S - kap S0) (n := 2 * (kap S - kap S0)) (by omega) (by omega) ?_
    exact w_Rn_nextBehind_59 C hr hk hcn hcw ha (by omega) w (lv_sub hl [1, 2] rfl) ho_x1 h
  · replace h := ift hc h
    refine lv_aload_n C.1 C.2.1 dX7_nextBehind_42 rfl (lv_at hl 0 rfl) ?_
    refine x_getC C w 4 fX7_30 obC6 rfl dX7_nextBehind_43 ?_
    refine lv_iconst (v := 0) C.1 C.2.1 dX7_nextBehind_46 (by decide) ?_
    obtain ⟨v_1, hv_1, h⟩ := bnd h
    refine x_callVj (q := (RX1, TX1, 12)) (As := [.int (0 : Int32)]) (rest := []) C w (k_Bn_wholeAt l D T ρ g H.size S hv_1) vX7_150 (hRK (by decide) (by decide)) obC4 (by decide) rfl rfl rfl hl.1 (Nat.le_of_ble_eq_true rfl) (hcK hT) dX7_nextBehind_47 (fun H locs w => ?_)
    refine lv_lconst (v := 0) C.1 C.2.1 dX7_nextBehind_50 (by decide) ?_
    refine x_l_ne (tgt := 59) C dX7_nextBehind_51 dX7_nextBehind_52 (by decide) (fun hc => ?_) (fun hc => ?_)
    · replace h := iff0 hc h
      have hkn := nq_kap nn
      refine W.widen (k := kap S - kap S0) (n := 2 * (kap S - kap S0)) (by omega) (by omega) ?_
      exact w_Rn_nextBehind_59 C hr hk hcn hcw ha (by omega) w (lv_sub hl [1, 2] rfl) ho_x1 h
    · replace h := ift hc h
      refine lv_iconst (v := 1) C.1 C.2.1 dX7_nextBehind_55 (by decide) ?_
      refine lv_goto (tgt := 60) C.1 C.2.1 dX7_nextBehind_56 (by decide) ?_
      have hkn := nq_kap nn
      refine W.widen (k := kap S - kap S0) (n := 2 * (kap S - kap S0)) (by omega) (by omega) ?_
      exact w_Rn_nextBehind_60 C hr hk hcn hcw ha (by omega) w (lv_sub hl [1, 2] rfl) ho_x1 h
set_option maxRecDepth 100000 in
set_option maxHeartbeats 4000000 in
theorem w_Rn_nextBehind_19 {g : Nat} {S : St} {x1 : Nat} {x2 : Int32} {x3 : Nat} (C : CallFix p m c cX7_nextBehind 5 s args tb RX7) (hr : meth.sig.returnType = (some .int)) (hk : meth.locks = false) (hcn : Kn Z A s s.heap) (hcw : Kw Z s) {S' : St} {r : Int32} (ha : Ag ρ0 ρ) (hm : kap S0 ≤ kap S) (w : Wn Yc D T ρ S A s H locs) (hl : lv_has ls 5 [(0, .ref (ρ 6)), (1, .ref (ρ x1)), (2, .int x2), (3, .ref (Z.1 x3))]) (ho_x1 : Ob Yc x1 2) (ho_x3 : x3 < 56) (h : m_Rn_nextBehind_19 g S x1 x2 x3 = some (S', r)) : W p l e (rmK 3 69 (kap S' - kap S0)) s m args below meth c H locs (kap S - kap S0) (2 * (kap S - kap S0)) (MQ below (QiM D T ρ0 A S' r) args s (kap S' - kap S0) (2 * (kap S' - kap S0)) A) (F0 m 19 ls []) := by
  have hT := km_Rn_nextBehind_19 h
  unfold m_Rn_nextBehind_19 at h
  have nn : nq S S := nq_rf
  refine lv_aload_n C.1 C.2.1 dX7_nextBehind_19 rfl (lv_at hl 0 rfl) ?_
  refine x_getC C w 33 fX7_27 obC6 rfl dX7_nextBehind_20 ?_
  refine lv_aload_n C.1 C.2.1 dX7_nextBehind_23 rfl (lv_at hl 0 rfl) ?_
  refine x_getC C w 4 fX7_30 obC6 rfl dX7_nextBehind_24 ?_
  refine lv_iconst (v := 0) C.1 C.2.1 dX7_nextBehind_27 (by decide) ?_
  obtain ⟨v_3, hv_3, h⟩ := bnd h
  refine x_callVj (q := (RX1, TX1, 12)) (As := [.int (0 : Int32)]) (rest := [.ref (ρ 33)]) C w (k_Bn_valueAt l D T ρ g H.size S hv_3) vX7_143 (hRK (by decide) (by decide)) obC4 (by decide) rfl rfl rfl hl.1 (Nat.le_of_ble_eq_true rfl) (hcK hT) dX7_nextBehind_28 (fun H locs w => ?_)
  refine lv_l2i C.1 C.2.1 dX7_nextBehind_31 rfl ?_
  obtain ⟨S_4, hS_4, h⟩ := bnd h
  have hkn := nq_kap nn
  have hk1 := km_Row_add hS_4
  have hT2 := km_Rn_nextBehind_35 h
  refine x_callVvM (q := (RX6, TX6, 4)) (As := [.int (v_3.toInt32)]) (rest := []) C w (k_Row_add l D T ρ g H.size S obC33 hS_4) vX7_140 (hRK (by decide) (by decide)) obC33 (by decide) rfl rfl rfl hl.1 (Nat.le_of_ble_eq_true rfl) (hcM hm hkn hk1 hT2) dX7_nextBehind_32 (fun ρ1 H locs hag w => ?_)
  replace ha := ha.trans hag
  rw [← hag 6 (by decide)] at hl
  rw [← hag x1 (ncP ho_x1)] at hl
  refine W.widen (k := kap S_4 - kap S0) (n := 2 * (kap S_4 - kap S0)) (by omega) (by omega) ?_
  exact w_Rn_nextBehind_35 C hr hk hcn hcw ha (by omega) w (lv_sub hl [0, 1, 2, 3] rfl) ho_x1 ho_x3 h
set_option maxRecDepth 100000 in
set_option maxHeartbeats 4000000 in
theorem w_Rn_nextBehind_0 {g : Nat} {S : St} {x1 : Nat} {x2 : Int32} {x3 : Nat} (C : CallFix p m c cX7_nextBehind 5 s args tb RX7) (hr : meth.sig.returnType = (some .int)) (hk : meth.locks = false) (hcn : Kn Z A s s.heap) (hcw : Kw Z s) {S' : St} {r : Int32} (ha : Ag ρ0 ρ) (hm : kap S0 ≤ kap S) (w : Wn Yc D T ρ S A s H locs) (hl : lv_has ls 5 [(0, .ref (ρ 6)), (1, .ref (ρ x1)), (2, .int x2), (3, .ref (Z.1 x3))]) (ho_x1 : Ob Yc x1 2) (ho_x3 : x3 < 56) (h : m_Rn_nextBehind g S x1 x2 x3 = some (S', r)) : W p l e (rmK 3 69 (kap S' - kap S0)) s m args below meth c H locs (kap S - kap S0) (2 * (kap S - kap S0)) (MQ below (QiM D T ρ0 A S' r) args s (kap S' - kap S0) (2 * (kap S' - kap S0)) A) (F0 m 0 ls []) := by
  have hT := km_Rn_nextBehind h
  unfold m_Rn_nextBehind at h
  have nn : nq S S := nq_rf
  refine lv_aload_n C.1 C.2.1 dX7_nextBehind_0 rfl (lv_at hl 3 rfl) ?_
  refine x_gsE (k := 54) C w hcn (by decide) gkX7_134 dX7_nextBehind_1 ?_
  refine x_acmpN (tgt := 35) C hcn ho_x3 (by decide) dX7_nextBehind_4 (by decide) (fun hc => ?_) (fun hc => ?_)
  · replace h := iff0 hc h
    have hkn := nq_kap nn
    refine W.widen (k := kap S - kap S0) (n := 2 * (kap S - kap S0)) (by omega) (by omega) ?_
    exact w_Rn_nextBehind_35 C hr hk hcn hcw ha (by omega) w (lv_sub hl [0, 1, 2, 3] rfl) ho_x1 ho_x3 h
  · replace h := ift hc h
    refine lv_aload_n C.1 C.2.1 dX7_nextBehind_7 rfl (lv_at hl 0 rfl) ?_
    refine x_getC C w 32 fX7_23 obC6 rfl dX7_nextBehind_8 ?_
    refine lv_aload_n C.1 C.2.1 dX7_nextBehind_11 rfl (lv_at hl 1 rfl) ?_
    refine lv_iload_n C.1 C.2.1 dX7_nextBehind_12 rfl (lv_at hl 2 rfl) ?_
    obtain ⟨v_1, hv_1, h⟩ := bnd h
    refine x_callVi (q := (RX4, TX4, 16)) (As := [.int x2]) (rest := [.ref (ρ 32)]) C w (k_Pg_rangeEnd l D T ρ g H.size S ho_x1 hv_1) vX7_137 (hRK (by decide) (by decide)) ho_x1 (by decide) rfl rfl rfl hl.1 (Nat.le_of_ble_eq_true rfl) (hcK hT) dX7_nextBehind_13 (fun H locs w => ?_)
    obtain ⟨S_2, hS_2, h⟩ := bnd h
    have hkn := nq_kap nn
    have hk1 := km_Row_add hS_2
    have hT2 := km_Rn_nextBehind_19 h
    refine x_callVvM (q := (RX6, TX6, 4)) (As := [.int v_1]) (rest := []) C w (k_Row_add l D T ρ g H.size S obC32 hS_2) vX7_140 (hRK (by decide) (by decide)) obC32 (by decide) rfl rfl rfl hl.1 (Nat.le_of_ble_eq_true rfl) (hcM hm hkn hk1 hT2) dX7_nextBehind_16 (fun ρ1 H locs hag w => ?_)
    replace ha := ha.trans hag
    rw [← hag 6 (by decide)] at hl
    rw [← hag x1 (ncP ho_x1)] at hl
    refine W.widen (k := kap S_2 - kap S0) (n := 2 * (kap S_2 - kap S0)) (by omega) (by omega) ?_
    exact w_Rn_nextBehind_19 C hr hk hcn hcw ha (by omega) w (lv_sub hl [0, 1, 2, 3] rfl) ho_x1 ho_x3 h
end S_Rn_nextBehind
set_option maxRecDepth 100000 in
theorem k_Rn_nextBehind (l : Launch) (Z : Ad) (D : va_G) (T : Cy) (ρ : Nat → Nat) (g sz : Nat) (S : St) {x1 : Nat} {x2 : Int32} {x3 : Nat} (ho_x1 : Ob Yc x1 2) (ho_x3 : x3 < 56) {S' : St} {r : Int32} (h : m_Rn_nextBehind g S x1 x2 x3 = some (S', r)) : MiC l Z D T ρ yX7_nextBehind cX7_nextBehind 5 (some .int) 3 69 S S' r [.ref (ρ 6), .ref (ρ x1), .int x2, .ref (Z.1 x3)] sz :=
  x_inC (by decide) (Nat.le_of_ble_eq_true rfl) (fun p e s m below meth c ls C hr hk hcn hcw w hl => W.widen (Nat.zero_le _) (Nat.zero_le _) (w_Rn_nextBehind_0 C hr hk hcn hcw Ag.rf (Nat.le_refl _) w hl ho_x1 ho_x3 h))

theorem dX9_join_0 : decode cX9_join 0 = .ok (.iconst 1, 1) := by decide +kernel
theorem dX9_join_1 : decode cX9_join 1 = .ok (.istore_n 1, 1) := by decide +kernel
theorem dX9_join_2 : decode cX9_join 2 = .ok (.iconst 1, 1) := by decide +kernel
theorem dX9_join_3 : decode cX9_join 3 = .ok (.istore_n 2, 1) := by decide +kernel
theorem dX9_join_4 : decode cX9_join 4 = .ok (.iload_n 2, 1) := by decide +kernel
theorem dX9_join_5 : decode cX9_join 5 = .ok (.aload_n 0, 1) := by decide +kernel
theorem dX9_join_6 : decode cX9_join 6 = .ok (.getfield 23, 3) := by decide +kernel
theorem dX9_join_9 : decode cX9_join 9 = .ok (.getfield 162, 3) := by decide +kernel
theorem dX9_join_12 : decode cX9_join 12 = .ok (.if_icmp .ge 60, 3) := by decide +kernel
theorem dX9_join_15 : decode cX9_join 15 = .ok (.aload_n 0, 1) := by decide +kernel
theorem dX9_join_16 : decode cX9_join 16 = .ok (.getfield 23, 3) := by decide +kernel
theorem dX9_join_19 : decode cX9_join 19 = .ok (.iload_n 2, 1) := by decide +kernel
theorem dX9_join_20 : decode cX9_join 20 = .ok (.invokevirtual 165, 3) := by decide +kernel
theorem dX9_join_23 : decode cX9_join 23 = .ok (.istore_n 3, 1) := by decide +kernel
theorem dX9_join_24 : decode cX9_join 24 = .ok (.iload_n 3, 1) := by decide +kernel
theorem dX9_join_25 : decode cX9_join 25 = .ok (.ifCond .eq 5, 3) := by decide +kernel
theorem dX9_join_28 : decode cX9_join 28 = .ok (.iload_n 3, 1) := by decide +kernel
theorem dX9_join_29 : decode cX9_join 29 = .ok (.ireturn, 1) := by decide +kernel
theorem dX9_join_30 : decode cX9_join 30 = .ok (.iload_n 1, 1) := by decide +kernel
theorem dX9_join_31 : decode cX9_join 31 = .ok (.ifCond .eq 33, 3) := by decide +kernel
theorem dX9_join_34 : decode cX9_join 34 = .ok (.aload_n 0, 1) := by decide +kernel
theorem dX9_join_35 : decode cX9_join 35 = .ok (.getfield 23, 3) := by decide +kernel
theorem dX9_join_38 : decode cX9_join 38 = .ok (.iload_n 2, 1) := by decide +kernel
theorem dX9_join_39 : decode cX9_join 39 = .ok (.invokevirtual 168, 3) := by decide +kernel
theorem dX9_join_42 : decode cX9_join 42 = .ok (.bipush 34, 2) := by decide +kernel
theorem dX9_join_44 : decode cX9_join 44 = .ok (.if_icmp .eq 16, 3) := by decide +kernel
theorem dX9_join_47 : decode cX9_join 47 = .ok (.aload_n 0, 1) := by decide +kernel
theorem dX9_join_48 : decode cX9_join 48 = .ok (.getfield 23, 3) := by decide +kernel
theorem dX9_join_51 : decode cX9_join 51 = .ok (.iload_n 2, 1) := by decide +kernel
theorem dX9_join_52 : decode cX9_join 52 = .ok (.invokevirtual 168, 3) := by decide +kernel
theorem dX9_join_55 : decode cX9_join 55 = .ok (.bipush 48, 2) := by decide +kernel
theorem dX9_join_57 : decode cX9_join 57 = .ok (.if_icmp .ne 7, 3) := by decide +kernel
theorem dX9_join_60 : decode cX9_join 60 = .ok (.iconst 1, 1) := by decide +kernel
theorem dX9_join_61 : decode cX9_join 61 = .ok (.goto 4, 3) := by decide +kernel
theorem dX9_join_64 : decode cX9_join 64 = .ok (.iconst 0, 1) := by decide +kernel
theorem dX9_join_65 : decode cX9_join 65 = .ok (.istore_n 1, 1) := by decide +kernel
theorem dX9_join_66 : decode cX9_join 66 = .ok (.iinc 2 1, 3) := by decide +kernel
theorem dX9_join_69 : decode cX9_join 69 = .ok (.goto (-65), 3) := by decide +kernel
theorem dX9_join_72 : decode cX9_join 72 = .ok (.aload_n 0, 1) := by decide +kernel
theorem dX9_join_73 : decode cX9_join 73 = .ok (.getfield 37, 3) := by decide +kernel
theorem dX9_join_76 : decode cX9_join 76 = .ok (.getfield 139, 3) := by decide +kernel
theorem dX9_join_79 : decode cX9_join 79 = .ok (.ifCond .eq 5, 3) := by decide +kernel
theorem dX9_join_82 : decode cX9_join 82 = .ok (.iconst 5, 1) := by decide +kernel
theorem dX9_join_83 : decode cX9_join 83 = .ok (.ireturn, 1) := by decide +kernel
theorem dX9_join_84 : decode cX9_join 84 = .ok (.iload_n 1, 1) := by decide +kernel
theorem dX9_join_85 : decode cX9_join 85 = .ok (.ifCond .eq 25, 3) := by decide +kernel
theorem dX9_join_88 : decode cX9_join 88 = .ok (.aload_n 0, 1) := by decide +kernel
theorem dX9_join_89 : decode cX9_join 89 = .ok (.getfield 33, 3) := by decide +kernel
theorem dX9_join_92 : decode cX9_join 92 = .ok (.aload_n 0, 1) := by decide +kernel
theorem dX9_join_93 : decode cX9_join 93 = .ok (.getfield 37, 3) := by decide +kernel
theorem dX9_join_96 : decode cX9_join 96 = .ok (.iconst 0, 1) := by decide +kernel
theorem dX9_join_97 : decode cX9_join 97 = .ok (.aload_n 0, 1) := by decide +kernel
theorem dX9_join_98 : decode cX9_join 98 = .ok (.getfield 37, 3) := by decide +kernel
theorem dX9_join_101 : decode cX9_join 101 = .ok (.getfield 105, 3) := by decide +kernel
theorem dX9_join_104 : decode cX9_join 104 = .ok (.invokevirtual 152, 3) := by decide +kernel
theorem dX9_join_107 : decode cX9_join 107 = .ok (.goto 4, 3) := by decide +kernel
theorem dX9_join_110 : decode cX9_join 110 = .ok (.iconst (-1), 1) := by decide +kernel
theorem dX9_join_111 : decode cX9_join 111 = .ok (.istore_n 2, 1) := by decide +kernel
theorem dX9_join_112 : decode cX9_join 112 = .ok (.iload_n 2, 1) := by decide +kernel
theorem dX9_join_113 : decode cX9_join 113 = .ok (.iconst (-1), 1) := by decide +kernel
theorem dX9_join_114 : decode cX9_join 114 = .ok (.if_icmp .eq 12, 3) := by decide +kernel
theorem dX9_join_117 : decode cX9_join 117 = .ok (.aload_n 0, 1) := by decide +kernel
theorem dX9_join_118 : decode cX9_join 118 = .ok (.getfield 23, 3) := by decide +kernel
theorem dX9_join_121 : decode cX9_join 121 = .ok (.iload_n 2, 1) := by decide +kernel
theorem dX9_join_122 : decode cX9_join 122 = .ok (.invokevirtual 61, 3) := by decide +kernel
theorem dX9_join_125 : decode cX9_join 125 = .ok (.ireturn, 1) := by decide +kernel
theorem dX9_join_126 : decode cX9_join 126 = .ok (.aload_n 0, 1) := by decide +kernel
theorem dX9_join_127 : decode cX9_join 127 = .ok (.getfield 33, 3) := by decide +kernel
theorem dX9_join_130 : decode cX9_join 130 = .ok (.aload_n 0, 1) := by decide +kernel
theorem dX9_join_131 : decode cX9_join 131 = .ok (.getfield 37, 3) := by decide +kernel
theorem dX9_join_134 : decode cX9_join 134 = .ok (.iconst 1, 1) := by decide +kernel
theorem dX9_join_135 : decode cX9_join 135 = .ok (.invokevirtual 67, 3) := by decide +kernel
theorem dX9_join_138 : decode cX9_join 138 = .ok (.istore_n 3, 1) := by decide +kernel
theorem dX9_join_139 : decode cX9_join 139 = .ok (.iload_n 1, 1) := by decide +kernel
theorem dX9_join_140 : decode cX9_join 140 = .ok (.ifCond .eq 14, 3) := by decide +kernel
theorem dX9_join_143 : decode cX9_join 143 = .ok (.aload_n 0, 1) := by decide +kernel
theorem dX9_join_144 : decode cX9_join 144 = .ok (.getfield 33, 3) := by decide +kernel
theorem dX9_join_147 : decode cX9_join 147 = .ok (.getfield 156, 3) := by decide +kernel
theorem dX9_join_150 : decode cX9_join 150 = .ok (.iload_n 3, 1) := by decide +kernel
theorem dX9_join_151 : decode cX9_join 151 = .ok (.invokevirtual 159, 3) := by decide +kernel
theorem dX9_join_154 : decode cX9_join 154 = .ok (.aload_n 0, 1) := by decide +kernel
theorem dX9_join_155 : decode cX9_join 155 = .ok (.getfield 23, 3) := by decide +kernel
theorem dX9_join_158 : decode cX9_join 158 = .ok (.iload_n 3, 1) := by decide +kernel
theorem dX9_join_159 : decode cX9_join 159 = .ok (.invokevirtual 61, 3) := by decide +kernel
theorem dX9_join_162 : decode cX9_join 162 = .ok (.ireturn, 1) := by decide +kernel
def m_TS_join_154 (g : Nat) (S : St) (x3 : Int32) : Option (St × Int32) :=
(m_Bn_giveText g S x3).bind fun (S_3, v_4) =>
some (S_3, v_4)
def m_TS_join_138 (g : Nat) (S : St) (x1 : Int32) (y0 : Int32) : Option (St × Int32) :=
if x1 = 0 then (
  m_TS_join_154 g S y0
) else (
  (m_Row_add g S 20 y0).bind fun S_3 =>
  m_TS_join_154 g S_3 y0
)
def m_TS_join_111 (g : Nat) (S : St) (x1 : Int32) (y0 : Int32) : Option (St × Int32) :=
if y0 = (-1 : Int32) then (
  (m_Tx_make g S 23 (1 : Int32)).bind fun (S_1, v_2) =>
  m_TS_join_138 g S_1 x1 v_2
) else (
  (m_Bn_giveText g S y0).bind fun (S_3, v_4) =>
  some (S_3, v_4)
)
def m_TS_join_23 (g : Nat) (k4 : St → Int32 → Int32 → Option (St × Int32)) (S : St) (x1 : Int32) (x2 : Int32) (y0 : Int32) : Option (St × Int32) :=
if y0 = 0 then (
  if x1 = 0 then (
    lt (x2 + (1 : Int32)) fun x2_4 =>
    k4 S (0 : Int32) x2_4
  ) else (
    (m_Bn_kindAt g S x2).bind fun v_5 =>
    if v_5 = (34 : Int32) then (
      lt (x2 + (1 : Int32)) fun x2_6 =>
      k4 S (1 : Int32) x2_6
    ) else (
      (m_Bn_kindAt g S x2).bind fun v_7 =>
      if v_7 = (48 : Int32) then (
        lt (x2 + (1 : Int32)) fun x2_9 =>
        k4 S (1 : Int32) x2_9
      ) else (
        lt (x2 + (1 : Int32)) fun x2_8 =>
        k4 S (0 : Int32) x2_8
      )
    )
  )
) else (
  some (S, y0)
)
def b_TS_join_4 (g : Nat) (k4 : St → Int32 → Int32 → Option (St × Int32)) (S : St) (x1 : Int32) (x2 : Int32) : Option (St × Int32) :=
if (gI S 4 11) ≤ x2 then (
  if (gI S 23 3) = 0 then (
    if x1 = 0 then (
      m_TS_join_111 g S x1 (-1 : Int32)
    ) else (
      (m_Tx_pooledWith g S 23 (0 : Int32) (gI S 23 2)).bind fun v_1 =>
      m_TS_join_111 g S x1 v_1
    )
  ) else (
    some (S, (5 : Int32))
  )
) else (
  (m_Bn_addX g S x2).bind fun (S_2, v_3) =>
  m_TS_join_23 g k4 S_2 x1 x2 v_3
)
def m_TS_join_4 (g : Nat) : Nat → St → Int32 → Int32 → Option (St × Int32)
  | 0, _, _, _ => none
  | n + 1, S, x1, x2 => b_TS_join_4 g (m_TS_join_4 g n) S x1 x2
def m_TS_join (g : Nat) (S : St) : Option (St × Int32) :=
m_TS_join_4 g g S (1 : Int32) (1 : Int32)
theorem km_TS_join_154 {g : Nat} {S : St} {x3 : Int32} {S' : St} {r : Int32} (h : m_TS_join_154 g S x3 = some (S', r)) : kap S ≤ kap S' := by
  unfold m_TS_join_154 at h
  have nn : nq S S := nq_rf
  obtain ⟨⟨S_3, v_4⟩, hv_4, h⟩ := bnd h
  replace nn : nq S_3 S := nq_tr (kq_Bn_giveText hv_4) nn
  obtain ⟨rfl, rfl⟩ := prI h
  have hkn := nq_kap nn
  omega
theorem km_TS_join_138 {g : Nat} {S : St} {x1 : Int32} {y0 : Int32} {S' : St} {r : Int32} (h : m_TS_join_138 g S x1 y0 = some (S', r)) : kap S ≤ kap S' := by
  unfold m_TS_join_138 at h
  have nn : nq S S := nq_rf
  by_cases hc1 : x1 = 0
  · replace h := ift hc1 h
    have hkn := nq_kap nn
    have h2 := km_TS_join_154 h
    omega
  · replace h := iff0 hc1 h
    obtain ⟨S_3, hS_3, h⟩ := bnd h
    have hk1 := km_Row_add hS_3
    have hkn := nq_kap nn
    have h2 := km_TS_join_154 h
    omega
theorem km_TS_join_111 {g : Nat} {S : St} {x1 : Int32} {y0 : Int32} {S' : St} {r : Int32} (h : m_TS_join_111 g S x1 y0 = some (S', r)) : kap S ≤ kap S' := by
  unfold m_TS_join_111 at h
  have nn : nq S S := nq_rf
  by_cases hc1 : y0 = (-1 : Int32)
  · replace h := ift hc1 h
    obtain ⟨⟨S_1, v_2⟩, hv_2, h⟩ := bnd h
    have hk1 := km_Tx_make hv_2
    have hkn := nq_kap nn
    have h2 := km_TS_join_138 h
    omega
  · replace h := iff0 hc1 h
    obtain ⟨⟨S_3, v_4⟩, hv_4, h⟩ := bnd h
    replace nn : nq S_3 S := nq_tr (kq_Bn_giveText hv_4) nn
    obtain ⟨rfl, rfl⟩ := prI h
    have hkn := nq_kap nn
    omega
theorem km_TS_join_23 {g : Nat} {S : St} {x1 : Int32} {x2 : Int32} {y0 : Int32} {S' : St} {r : Int32} {k4 : St → Int32 → Int32 → Option (St × Int32)} (km4 : ∀ (S : St) (x1 : Int32) (x2 : Int32), k4 S x1 x2 = some (S', r) → kap S ≤ kap S') (h : m_TS_join_23 g k4 S x1 x2 y0 = some (S', r)) : kap S ≤ kap S' := by
  unfold m_TS_join_23 at h
  have nn : nq S S := nq_rf
  by_cases hc1 : y0 = 0
  · replace h := ift hc1 h
    by_cases hc2 : x1 = 0
    · replace h := ift hc2 h
      obtain ⟨x2_4, ex2_4, h⟩ := lt_e h
      have hkn := nq_kap nn
      have h2 := km4 _ _ _ h
      omega
    · replace h := iff0 hc2 h
      obtain ⟨v_5, hv_5, h⟩ := bnd h
      by_cases hc3 : v_5 = (34 : Int32)
      · replace h := ift hc3 h
        obtain ⟨x2_6, ex2_6, h⟩ := lt_e h
        have hkn := nq_kap nn
        have h2 := km4 _ _ _ h
        omega
      · replace h := iff0 hc3 h
        obtain ⟨v_7, hv_7, h⟩ := bnd h
        by_cases hc4 : v_7 = (48 : Int32)
        · replace h := ift hc4 h
          obtain ⟨x2_9, ex2_9, h⟩ := lt_e h
          have hkn := nq_kap nn
          have h2 := km4 _ _ _ h
          omega
        · replace h := iff0 hc4 h
          obtain ⟨x2_8, ex2_8, h⟩ := lt_e h
          have hkn := nq_kap nn
          have h2 := km4 _ _ _ h
          omega
  · replace h := iff0 hc1 h
    obtain ⟨rfl, rfl⟩ := prI h
    have hkn := nq_kap nn
    omega
theorem kmb_TS_join_4 {g : Nat} {S : St} {x1 : Int32} {x2 : Int32} {S' : St} {r : Int32} {k4 : St → Int32 → Int32 → Option (St × Int32)} (km4 : ∀ (S : St) (x1 : Int32) (x2 : Int32), k4 S x1 x2 = some (S', r) → kap S ≤ kap S') (h : b_TS_join_4 g k4 S x1 x2 = some (S', r)) : kap S ≤ kap S' := by
  unfold b_TS_join_4 at h
  have nn : nq S S := nq_rf
  by_cases hc1 : (gI S 4 11) ≤ x2
  · replace h := ift hc1 h
    by_cases hc2 : (gI S 23 3) = 0
    · replace h := ift hc2 h
      by_cases hc3 : x1 = 0
      · replace h := ift hc3 h
        have hkn := nq_kap nn
        have h2 := km_TS_join_111 h
        omega
      · replace h := iff0 hc3 h
        obtain ⟨v_1, hv_1, h⟩ := bnd h
        have hkn := nq_kap nn
        have h2 := km_TS_join_111 h
        omega
    · replace h := iff0 hc2 h
      obtain ⟨rfl, rfl⟩ := prI h
      have hkn := nq_kap nn
      omega
  · replace h := iff0 hc1 h
    obtain ⟨⟨S_2, v_3⟩, hv_3, h⟩ := bnd h
    have hk1 := km_Bn_addX hv_3
    have hkn := nq_kap nn
    have h2 := km_TS_join_23 km4 h
    omega
theorem km_TS_join_4 {g : Nat} {S' : St} {r : Int32} (n : Nat) : ∀ (S : St) (x1 : Int32) (x2 : Int32), m_TS_join_4 g n S x1 x2 = some (S', r) → kap S ≤ kap S' := by
  induction n with
  | zero => intro S x1 x2 h; exact absurd h (fun q => by cases q)
  | succ n ih => intro S x1 x2 h; exact kmb_TS_join_4 ih h
theorem km_TS_join {g : Nat} {S : St} {S' : St} {r : Int32} (h : m_TS_join g S = some (S', r)) : kap S ≤ kap S' := by
  unfold m_TS_join at h
  have nn : nq S S := nq_rf
  have hkn := nq_kap nn
  have h2 := km_TS_join_4 g _ _ _ h
  omega
section S_TS_join
variable {p : Program} {l : Launch} {e : Env} {s : State} {m : MethodId} {args : Array Value} {below : List Frame} {meth : Method} {c : Code} {H : Heap} {locs : List Loc} {ls : Array Slot} {D : va_G} {T : Cy} {ρ ρ0 : Nat → Nat} {S0 : St} {A : Nat → Prop} {Z : Ad}
set_option maxRecDepth 100000 in
set_option maxHeartbeats 4000000 in
theorem w_TS_join_154 {g : Nat} {S : St} {x3 : Int32} (C : CallFix p m c cX9_join 4 s args tb RX9) (hr : meth.sig.returnType = (some .int)) (hk : meth.locks = false) (hcn : Kn Z A s s.heap) (hcw : Kw Z s) {S' : St} {r : Int32} (ha : Ag ρ0 ρ) (hm : kap S0 ≤ kap S) (w : Wn Yc D T ρ S A s H locs) (hl : lv_has ls 4 [(0, .ref (ρ 7)), (3, .int x3)]) (h : m_TS_join_154 g S x3 = some (S', r)) : W p l e (rmK 6 130 (kap S' - kap S0)) s m args below meth c H locs (kap S - kap S0) (2 * (kap S - kap S0)) (MQ below (QiM D T ρ0 A S' r) args s (kap S' - kap S0) (2 * (kap S' - kap S0)) A) (F0 m 154 ls []) := by
  have hT := km_TS_join_154 h
  unfold m_TS_join_154 at h
  have nn : nq S S := nq_rf
  refine lv_aload_n C.1 C.2.1 dX9_join_154 rfl (lv_at hl 0 rfl) ?_
  refine x_getC C w 4 fX9_23 obC7 rfl dX9_join_155 ?_
  refine lv_iload_n C.1 C.2.1 dX9_join_158 rfl (lv_at hl 1 rfl) ?_
  obtain ⟨⟨S_3, v_4⟩, hv_4, h⟩ := bnd h
  replace nn : nq S_3 S := nq_tr (kq_Bn_giveText hv_4) nn
  refine x_callVi (q := (RX1, TX1, 12)) (As := [.int x3]) (rest := []) C w (k_Bn_giveText l D T ρ g H.size S hv_4) vX9_61 (hRK (by decide) (by decide)) obC4 (by decide) rfl rfl rfl hl.1 (Nat.le_of_ble_eq_true rfl) (hcK hT) dX9_join_159 (fun H locs w => ?_)
  obtain ⟨rfl, rfl⟩ := prI h
  exact x_iretM C w ha hr hk dX9_join_162 (by have := nq_kap nn; omega) (by have := nq_kap nn; omega)
set_option maxRecDepth 100000 in
set_option maxHeartbeats 4000000 in
theorem w_TS_join_138 {g : Nat} {S : St} {x1 : Int32} {y0 : Int32} (C : CallFix p m c cX9_join 4 s args tb RX9) (hr : meth.sig.returnType = (some .int)) (hk : meth.locks = false) (hcn : Kn Z A s s.heap) (hcw : Kw Z s) {S' : St} {r : Int32} (ha : Ag ρ0 ρ) (hm : kap S0 ≤ kap S) (w : Wn Yc D T ρ S A s H locs) (hl : lv_has ls 4 [(0, .ref (ρ 7)), (1, .int x1)]) (h : m_TS_join_138 g S x1 y0 = some (S', r)) : W p l e (rmK 6 130 (kap S' - kap S0)) s m args below meth c H locs (kap S - kap S0) (2 * (kap S - kap S0)) (MQ below (QiM D T ρ0 A S' r) args s (kap S' - kap S0) (2 * (kap S' - kap S0)) A) (F0 m 138 ls [.int y0]) := by
  have hT := km_TS_join_138 h
  unfold m_TS_join_138 at h
  have nn : nq S S := nq_rf
  refine lv_istore_n (lv' := [(3, .int y0), (0, .ref (ρ 7)), (1, .int x1)]) C.1 C.2.1 dX9_join_138 rfl hl (by decide) rfl (fun ls hl => ?_)
  refine lv_iload_n C.1 C.2.1 dX9_join_139 rfl (lv_at hl 2 rfl) ?_
  refine lv_if_eq (tgt := 154) C.1 C.2.1 dX9_join_140 (by decide) (fun hc => ?_) (fun hc => ?_)
  · replace h := ift hc h
    have hkn := nq_kap nn
    refine W.widen (k := kap S - kap S0) (n := 2 * (kap S - kap S0)) (by omega) (by omega) ?_
    exact w_TS_join_154 C hr hk hcn hcw ha (by omega) w (lv_sub hl [1, 0] rfl) h
  · replace h := iff0 hc h
    refine lv_aload_n C.1 C.2.1 dX9_join_143 rfl (lv_at hl 1 rfl) ?_
    refine x_getC C w 5 fX9_33 obC7 rfl dX9_join_144 ?_
    refine x_getC C w 20 fX9_156 obC5 rfl dX9_join_147 ?_
    refine lv_iload_n C.1 C.2.1 dX9_join_150 rfl (lv_at hl 0 rfl) ?_
    obtain ⟨S_3, hS_3, h⟩ := bnd h
    have hkn := nq_kap nn
    have hk1 := km_Row_add hS_3
    have hT2 := km_TS_join_154 h
    refine x_callVvM (q := (RX6, TX6, 4)) (As := [.int y0]) (rest := []) C w (k_Row_add l D T ρ g H.size S obC20 hS_3) vX9_159 (hRK (by decide) (by decide)) obC20 (by decide) rfl rfl rfl hl.1 (Nat.le_of_ble_eq_true rfl) (hcM hm hkn hk1 hT2) dX9_join_151 (fun ρ1 H locs hag w => ?_)
    replace ha := ha.trans hag
    rw [← hag 7 (by decide)] at hl
    refine W.widen (k := kap S_3 - kap S0) (n := 2 * (kap S_3 - kap S0)) (by omega) (by omega) ?_
    exact w_TS_join_154 C hr hk hcn hcw ha (by omega) w (lv_sub hl [1, 0] rfl) h
set_option maxRecDepth 100000 in
set_option maxHeartbeats 4000000 in
theorem w_TS_join_111 {g : Nat} {S : St} {x1 : Int32} {y0 : Int32} (C : CallFix p m c cX9_join 4 s args tb RX9) (hr : meth.sig.returnType = (some .int)) (hk : meth.locks = false) (hcn : Kn Z A s s.heap) (hcw : Kw Z s) {S' : St} {r : Int32} (ha : Ag ρ0 ρ) (hm : kap S0 ≤ kap S) (w : Wn Yc D T ρ S A s H locs) (hl : lv_has ls 4 [(0, .ref (ρ 7)), (1, .int x1)]) (h : m_TS_join_111 g S x1 y0 = some (S', r)) : W p l e (rmK 6 130 (kap S' - kap S0)) s m args below meth c H locs (kap S - kap S0) (2 * (kap S - kap S0)) (MQ below (QiM D T ρ0 A S' r) args s (kap S' - kap S0) (2 * (kap S' - kap S0)) A) (F0 m 111 ls [.int y0]) := by
  have hT := km_TS_join_111 h
  unfold m_TS_join_111 at h
  have nn : nq S S := nq_rf
  refine lv_istore_n (lv' := [(2, .int y0), (0, .ref (ρ 7)), (1, .int x1)]) C.1 C.2.1 dX9_join_111 rfl hl (by decide) rfl (fun ls hl => ?_)
  refine lv_iload_n C.1 C.2.1 dX9_join_112 rfl (lv_at hl 0 rfl) ?_
  refine lv_iconst (v := (-1)) C.1 C.2.1 dX9_join_113 (by decide) ?_
  refine lv_icmp_eq (tgt := 126) C.1 C.2.1 dX9_join_114 (by decide) (fun hc => ?_) (fun hc => ?_)
  · replace h := ift hc h
    refine lv_aload_n C.1 C.2.1 dX9_join_126 rfl (lv_at hl 1 rfl) ?_
    refine x_getC C w 5 fX9_33 obC7 rfl dX9_join_127 ?_
    refine lv_aload_n C.1 C.2.1 dX9_join_130 rfl (lv_at hl 1 rfl) ?_
    refine x_getC C w 23 fX9_37 obC7 rfl dX9_join_131 ?_
    refine lv_iconst (v := 1) C.1 C.2.1 dX9_join_134 (by decide) ?_
    obtain ⟨⟨S_1, v_2⟩, hv_2, h⟩ := bnd h
    have hkn := nq_kap nn
    have hk1 := km_Tx_make hv_2
    have hT2 := km_TS_join_138 h
    refine x_callViM (q := (RX10, TX10, 5)) (As := [.ref (ρ 23), .int (1 : Int32)]) (rest := []) C w (k_Tx_make l D T ρ g H.size S obC23 hv_2) vX9_67 (hRK (by decide) (by decide)) obC5 (by decide) rfl rfl rfl hl.1 (Nat.le_of_ble_eq_true rfl) (hcM hm hkn hk1 hT2) dX9_join_135 (fun ρ1 H locs hag w => ?_)
    replace ha := ha.trans hag
    rw [← hag 7 (by decide)] at hl
    refine W.widen (k := kap S_1 - kap S0) (n := 2 * (kap S_1 - kap S0)) (by omega) (by omega) ?_
    exact w_TS_join_138 C hr hk hcn hcw ha (by omega) w (lv_sub hl [1, 2] rfl) h
  · replace h := iff0 hc h
    refine lv_aload_n C.1 C.2.1 dX9_join_117 rfl (lv_at hl 1 rfl) ?_
    refine x_getC C w 4 fX9_23 obC7 rfl dX9_join_118 ?_
    refine lv_iload_n C.1 C.2.1 dX9_join_121 rfl (lv_at hl 0 rfl) ?_
    obtain ⟨⟨S_3, v_4⟩, hv_4, h⟩ := bnd h
    replace nn : nq S_3 S := nq_tr (kq_Bn_giveText hv_4) nn
    refine x_callVi (q := (RX1, TX1, 12)) (As := [.int y0]) (rest := []) C w (k_Bn_giveText l D T ρ g H.size S hv_4) vX9_61 (hRK (by decide) (by decide)) obC4 (by decide) rfl rfl rfl hl.1 (Nat.le_of_ble_eq_true rfl) (hcK hT) dX9_join_122 (fun H locs w => ?_)
    obtain ⟨rfl, rfl⟩ := prI h
    exact x_iretM C w ha hr hk dX9_join_125 (by have := nq_kap nn; omega) (by have := nq_kap nn; omega)
set_option maxRecDepth 100000 in
set_option maxHeartbeats 4000000 in
theorem w_TS_join_23 {g : Nat} {S : St} {x1 : Int32} {x2 : Int32} {y0 : Int32} (C : CallFix p m c cX9_join 4 s args tb RX9) (hr : meth.sig.returnType = (some .int)) (hk : meth.locks = false) (hcn : Kn Z A s s.heap) (hcw : Kw Z s) {S' : St} {r : Int32} {k4 : St → Int32 → Int32 → Option (St × Int32)} (kk4 : ∀ (ρ : Nat → Nat) (S : St) (x1 : Int32) (x2 : Int32) (H : Heap) (locs : List Loc) (ls : Array Slot), Ag ρ0 ρ → kap S0 ≤ kap S → Wn Yc D T ρ S A s H locs → lv_has ls 4 [(0, .ref (ρ 7)), (1, .int x1), (2, .int x2)] → k4 S x1 x2 = some (S', r) → W p l e (rmK 6 130 (kap S' - kap S0)) s m args below meth c H locs (kap S - kap S0) (2 * (kap S - kap S0)) (MQ below (QiM D T ρ0 A S' r) args s (kap S' - kap S0) (2 * (kap S' - kap S0)) A) (F0 m 4 ls [])) (km4 : ∀ (S : St) (x1 : Int32) (x2 : Int32), k4 S x1 x2 = some (S', r) → kap S ≤ kap S') (ha : Ag ρ0 ρ) (hm : kap S0 ≤ kap S) (w : Wn Yc D T ρ S A s H locs) (hl : lv_has ls 4 [(0, .ref (ρ 7)), (1, .int x1), (2, .int x2)]) (h : m_TS_join_23 g k4 S x1 x2 y0 = some (S', r)) : W p l e (rmK 6 130 (kap S' - kap S0)) s m args below meth c H locs (kap S - kap S0) (2 * (kap S - kap S0)) (MQ below (QiM D T ρ0 A S' r) args s (kap S' - kap S0) (2 * (kap S' - kap S0)) A) (F0 m 23 ls [.int y0]) := by
  have hT := km_TS_join_23 km4 h
  unfold m_TS_join_23 at h
  have nn : nq S S := nq_rf
  refine lv_istore_n (lv' := [(3, .int y0), (0, .ref (ρ 7)), (1, .int x1), (2, .int x2)]) C.1 C.2.1 dX9_join_23 rfl hl (by decide) rfl (fun ls hl => ?_)
  refine lv_iload_n C.1 C.2.1 dX9_join_24 rfl (lv_at hl 0 rfl) ?_
  refine lv_if_eq (tgt := 30) C.1 C.2.1 dX9_join_25 (by decide) (fun hc => ?_) (fun hc => ?_)
  · replace h := ift hc h
    refine lv_iload_n C.1 C.2.1 dX9_join_30 rfl (lv_at hl 2 rfl) ?_
    refine lv_if_eq (tgt := 64) C.1 C.2.1 dX9_join_31 (by decide) (fun hc => ?_) (fun hc => ?_)
    · replace h := ift hc h
      refine lv_iconst (v := 0) C.1 C.2.1 dX9_join_64 (by decide) ?_
      refine lv_istore_n (lv' := [(1, .int (0 : Int32)), (3, .int y0), (0, .ref (ρ 7)), (2, .int x2)]) C.1 C.2.1 dX9_join_65 rfl hl (by decide) rfl (fun ls hl => ?_)
      obtain ⟨x2_4, ex2_4, h⟩ := lt_e h
      refine lv_iinc (v := x2_4) (lv' := [(2, .int x2_4), (1, .int (0 : Int32)), (3, .int y0), (0, .ref (ρ 7))]) C.1 C.2.1 dX9_join_66 hl (k := 3) rfl (by rw [ex2_4]; rfl) (by decide) rfl (fun ls hl => ?_)
      refine lv_goto (tgt := 4) C.1 C.2.1 dX9_join_69 (by decide) ?_
      have hkn := nq_kap nn
      refine W.widen (k := kap S - kap S0) (n := 2 * (kap S - kap S0)) (by omega) (by omega) ?_
      exact kk4 _ _ _ _ _ _ _ ha (by omega) w (lv_sub hl [3, 1, 0] rfl) h
    · replace h := iff0 hc h
      refine lv_aload_n C.1 C.2.1 dX9_join_34 rfl (lv_at hl 1 rfl) ?_
      refine x_getC C w 4 fX9_23 obC7 rfl dX9_join_35 ?_
      refine lv_iload_n C.1 C.2.1 dX9_join_38 rfl (lv_at hl 3 rfl) ?_
      obtain ⟨v_5, hv_5, h⟩ := bnd h
      refine x_callVi (q := (RX1, TX1, 12)) (As := [.int x2]) (rest := []) C w (k_Bn_kindAt l D T ρ g H.size S hv_5) vX9_168 (hRK (by decide) (by decide)) obC4 (by decide) rfl rfl rfl hl.1 (Nat.le_of_ble_eq_true rfl) (hcK hT) dX9_join_39 (fun H locs w => ?_)
      refine lv_bipush (v := 34) C.1 C.2.1 dX9_join_42 (by decide) ?_
      refine lv_icmp_eq (tgt := 60) C.1 C.2.1 dX9_join_44 (by decide) (fun hc => ?_) (fun hc => ?_)
      · replace h := ift hc h
        refine lv_iconst (v := 1) C.1 C.2.1 dX9_join_60 (by decide) ?_
        refine lv_goto (tgt := 65) C.1 C.2.1 dX9_join_61 (by decide) ?_
        refine lv_istore_n (lv' := [(1, .int (1 : Int32)), (3, .int y0), (0, .ref (ρ 7)), (2, .int x2)]) C.1 C.2.1 dX9_join_65 rfl hl (by decide) rfl (fun ls hl => ?_)
        obtain ⟨x2_6, ex2_6, h⟩ := lt_e h
        refine lv_iinc (v := x2_6) (lv' := [(2, .int x2_6), (1, .int (1 : Int32)), (3, .int y0), (0, .ref (ρ 7))]) C.1 C.2.1 dX9_join_66 hl (k := 3) rfl (by rw [ex2_6]; rfl) (by decide) rfl (fun ls hl => ?_)
        refine lv_goto (tgt := 4) C.1 C.2.1 dX9_join_69 (by decide) ?_
        have hkn := nq_kap nn
        refine W.widen (k := kap S - kap S0) (n := 2 * (kap S - kap S0)) (by omega) (by omega) ?_
        exact kk4 _ _ _ _ _ _ _ ha (by omega) w (lv_sub hl [3, 1, 0] rfl) h
      · replace h := iff0 hc h
        refine lv_aload_n C.1 C.2.1 dX9_join_47 rfl (lv_at hl 1 rfl) ?_
        refine x_getC C w 4 fX9_23 obC7 rfl dX9_join_48 ?_
        refine lv_iload_n C.1 C.2.1 dX9_join_51 rfl (lv_at hl 3 rfl) ?_
        obtain ⟨v_7, hv_7, h⟩ := bnd h
        refine x_callVi (q := (RX1, TX1, 12)) (As := [.int x2]) (rest := []) C w (k_Bn_kindAt l D T ρ g H.size S hv_7) vX9_168 (hRK (by decide) (by decide)) obC4 (by decide) rfl rfl rfl hl.1 (Nat.le_of_ble_eq_true rfl) (hcK hT) dX9_join_52 (fun H locs w => ?_)
        refine lv_bipush (v := 48) C.1 C.2.1 dX9_join_55 (by decide) ?_
        refine lv_icmp_ne (tgt := 64) C.1 C.2.1 dX9_join_57 (by decide) (fun hc => ?_) (fun hc => ?_)
        · replace h := iff0 hc h
          refine lv_iconst (v := 0) C.1 C.2.1 dX9_join_64 (by decide) ?_
          refine lv_istore_n (lv' := [(1, .int (0 : Int32)), (3, .int y0), (0, .ref (ρ 7)), (2, .int x2)]) C.1 C.2.1 dX9_join_65 rfl hl (by decide) rfl (fun ls hl => ?_)
          obtain ⟨x2_8, ex2_8, h⟩ := lt_e h
          refine lv_iinc (v := x2_8) (lv' := [(2, .int x2_8), (1, .int (0 : Int32)), (3, .int y0), (0, .ref (ρ 7))]) C.1 C.2.1 dX9_join_66 hl (k := 3) rfl (by rw [ex2_8]; rfl) (by decide) rfl (fun ls hl => ?_)
          refine lv_goto (tgt := 4) C.1 C.2.1 dX9_join_69 (by decide) ?_
          have hkn := nq_kap nn
          refine W.widen (k := kap S - kap S0) (n := 2 * (kap S - kap S0)) (by omega) (by omega) ?_
          exact kk4 _ _ _ _ _ _ _ ha (by omega) w (lv_sub hl [3, 1, 0] rfl) h
        · replace h := ift hc h
          refine lv_iconst (v := 1) C.1 C.2.1 dX9_join_60 (by decide) ?_
          refine lv_goto (tgt := 65) C.1 C.2.1 dX9_join_61 (by decide) ?_
          refine lv_istore_n (lv' := [(1, .int (1 : Int32)), (3, .int y0), (0, .ref (ρ 7)), (2, .int x2)]) C.1 C.2.1 dX9_join_65 rfl hl (by decide) rfl (fun ls hl => ?_)
          obtain ⟨x2_9, ex2_9, h⟩ := lt_e h
          refine lv_iinc (v := x2_9) (lv' := [(2, .int x2_9), (1, .int (1 : Int32)), (3, .int y0), (0, .ref (ρ 7))]) C.1 C.2.1 dX9_join_66 hl (k := 3) rfl (by rw [ex2_9]; rfl) (by decide) rfl (fun ls hl => ?_)
          refine lv_goto (tgt := 4) C.1 C.2.1 dX9_join_69 (by decide) ?_
          have hkn := nq_kap nn
          refine W.widen (k := kap S - kap S0) (n := 2 * (kap S - kap S0)) (by omega) (by omega) ?_
          exact kk4 _ _ _ _ _ _ _ ha (by omega) w (lv_sub hl [3, 1, 0] rfl) h
  · replace h := iff0 hc h
    refine lv_iload_n C.1 C.2.1 dX9_join_28 rfl (lv_at hl 0 rfl) ?_
    obtain ⟨rfl, rfl⟩ := prI h
    exact x_iretM C w ha hr hk dX9_join_29 (by have := nq_kap nn; omega) (by have := nq_kap nn; omega)
set_option maxRecDepth 100000 in
set_option maxHeartbeats 4000000 in
theorem wb_TS_join_4 {g : Nat} {S : St} {x1 : Int32} {x2 : Int32} (C : CallFix p m c cX9_join 4 s args tb RX9) (hr : meth.sig.returnType = (some .int)) (hk : meth.locks = false) (hcn : Kn Z A s s.heap) (hcw : Kw Z s) {S' : St} {r : Int32} {k4 : St → Int32 → Int32 → Option (St × Int32)} (kk4 : ∀ (ρ : Nat → Nat) (S : St) (x1 : Int32) (x2 : Int32) (H : Heap) (locs : List Loc) (ls : Array Slot), Ag ρ0 ρ → kap S0 ≤ kap S → Wn Yc D T ρ S A s H locs → lv_has ls 4 [(0, .ref (ρ 7)), (1, .int x1), (2, .int x2)] → k4 S x1 x2 = some (S', r) → W p l e (rmK 6 130 (kap S' - kap S0)) s m args below meth c H locs (kap S - kap S0) (2 * (kap S - kap S0)) (MQ below (QiM D T ρ0 A S' r) args s (kap S' - kap S0) (2 * (kap S' - kap S0)) A) (F0 m 4 ls [])) (km4 : ∀ (S : St) (x1 : Int32) (x2 : Int32), k4 S x1 x2 = some (S', r) → kap S ≤ kap S') (ha : Ag ρ0 ρ) (hm : kap S0 ≤ kap S) (w : Wn Yc D T ρ S A s H locs) (hl : lv_has ls 4 [(0, .ref (ρ 7)), (1, .int x1), (2, .int x2)]) (h : b_TS_join_4 g k4 S x1 x2 = some (S', r)) : W p l e (rmK 6 130 (kap S' - kap S0)) s m args below meth c H locs (kap S - kap S0) (2 * (kap S - kap S0)) (MQ below (QiM D T ρ0 A S' r) args s (kap S' - kap S0) (2 * (kap S' - kap S0)) A) (F0 m 4 ls []) := by
  have hT := kmb_TS_join_4 km4 h
  unfold b_TS_join_4 at h
  have nn : nq S S := nq_rf
  refine lv_iload_n C.1 C.2.1 dX9_join_4 rfl (lv_at hl 2 rfl) ?_
  refine lv_aload_n C.1 C.2.1 dX9_join_5 rfl (lv_at hl 0 rfl) ?_
  refine x_getC C w 4 fX9_23 obC7 rfl dX9_join_6 ?_
  refine x_getI C w fX9_162 obC4 dX9_join_9 ?_
  refine lv_icmp_ge (tgt := 72) C.1 C.2.1 dX9_join_12 (by decide) (fun hc => ?_) (fun hc => ?_)
  · replace h := ift hc h
    refine lv_aload_n C.1 C.2.1 dX9_join_72 rfl (lv_at hl 0 rfl) ?_
    refine x_getC C w 23 fX9_37 obC7 rfl dX9_join_73 ?_
    refine x_getI C w fX9_139 obC23 dX9_join_76 ?_
    refine lv_if_eq (tgt := 84) C.1 C.2.1 dX9_join_79 (by decide) (fun hc => ?_) (fun hc => ?_)
    · replace h := ift hc h
      refine lv_iload_n C.1 C.2.1 dX9_join_84 rfl (lv_at hl 1 rfl) ?_
      refine lv_if_eq (tgt := 110) C.1 C.2.1 dX9_join_85 (by decide) (fun hc => ?_) (fun hc => ?_)
      · replace h := ift hc h
        refine lv_iconst (v := (-1)) C.1 C.2.1 dX9_join_110 (by decide) ?_
        have hkn := nq_kap nn
        refine W.widen (k := kap S - kap S0) (n := 2 * (kap S - kap S0)) (by omega) (by omega) ?_
        exact w_TS_join_111 C hr hk hcn hcw ha (by omega) w (lv_sub hl [0, 1] rfl) h
      · replace h := iff0 hc h
        refine lv_aload_n C.1 C.2.1 dX9_join_88 rfl (lv_at hl 0 rfl) ?_
        refine x_getC C w 5 fX9_33 obC7 rfl dX9_join_89 ?_
        refine lv_aload_n C.1 C.2.1 dX9_join_92 rfl (lv_at hl 0 rfl) ?_
        refine x_getC C w 23 fX9_37 obC7 rfl dX9_join_93 ?_
        refine lv_iconst (v := 0) C.1 C.2.1 dX9_join_96 (by decide) ?_
        refine lv_aload_n C.1 C.2.1 dX9_join_97 rfl (lv_at hl 0 rfl) ?_
        refine x_getC C w 23 fX9_37 obC7 rfl dX9_join_98 ?_
        refine x_getI C w fX9_105 obC23 dX9_join_101 ?_
        obtain ⟨v_1, hv_1, h⟩ := bnd h
        refine x_callVi (q := (RX10, TX10, 5)) (As := [.ref (ρ 23), .int (0 : Int32), .int (gI S 23 2)]) (rest := []) C w (k_Tx_pooledWith l D T ρ g H.size S obC23 hv_1) vX9_152 (hRK (by decide) (by decide)) obC5 (by decide) rfl rfl rfl hl.1 (Nat.le_of_ble_eq_true rfl) (hcK hT) dX9_join_104 (fun H locs w => ?_)
        refine lv_goto (tgt := 111) C.1 C.2.1 dX9_join_107 (by decide) ?_
        have hkn := nq_kap nn
        refine W.widen (k := kap S - kap S0) (n := 2 * (kap S - kap S0)) (by omega) (by omega) ?_
        exact w_TS_join_111 C hr hk hcn hcw ha (by omega) w (lv_sub hl [0, 1] rfl) h
    · replace h := iff0 hc h
      refine lv_iconst (v := 5) C.1 C.2.1 dX9_join_82 (by decide) ?_
      obtain ⟨rfl, rfl⟩ := prI h
      exact x_iretM C w ha hr hk dX9_join_83 (by have := nq_kap nn; omega) (by have := nq_kap nn; omega)
  · replace h := iff0 hc h
    refine lv_aload_n C.1 C.2.1 dX9_join_15 rfl (lv_at hl 0 rfl) ?_
    refine x_getC C w 4 fX9_23 obC7 rfl dX9_join_16 ?_
    refine lv_iload_n C.1 C.2.1 dX9_join_19 rfl (lv_at hl 2 rfl) ?_
    obtain ⟨⟨S_2, v_3⟩, hv_3, h⟩ := bnd h
    have hkn := nq_kap nn
    have hk1 := km_Bn_addX hv_3
    have hT2 := km_TS_join_23 km4 h
    refine x_callViC (q := (RX1, TX1, 12)) (As := [.int x2]) (rest := []) C w hcn hcw (k_Bn_addX l Z D T ρ g H.size S hv_3) vX9_165 (hRK (by decide) (by decide)) obC4 (by decide) rfl rfl rfl hl.1 (Nat.le_of_ble_eq_true rfl) (hcM hm hkn hk1 hT2) dX9_join_20 (fun ρ1 H locs hag w => ?_)
    replace ha := ha.trans hag
    rw [← hag 7 (by decide)] at hl
    refine W.widen (k := kap S_2 - kap S0) (n := 2 * (kap S_2 - kap S0)) (by omega) (by omega) ?_
    exact w_TS_join_23 C hr hk hcn hcw kk4 km4 ha (by omega) w (lv_sub hl [0, 1, 2] rfl) h
theorem w_TS_join_4 {g : Nat} (C : CallFix p m c cX9_join 4 s args tb RX9) (hr : meth.sig.returnType = (some .int)) (hk : meth.locks = false) (hcn : Kn Z A s s.heap) (hcw : Kw Z s) {S' : St} {r : Int32} (n : Nat) : ∀ (ρ : Nat → Nat) (S : St) (x1 : Int32) (x2 : Int32) (H : Heap) (locs : List Loc) (ls : Array Slot), Ag ρ0 ρ → kap S0 ≤ kap S → Wn Yc D T ρ S A s H locs → lv_has ls 4 [(0, .ref (ρ 7)), (1, .int x1), (2, .int x2)] → m_TS_join_4 g n S x1 x2 = some (S', r) → W p l e (rmK 6 130 (kap S' - kap S0)) s m args below meth c H locs (kap S - kap S0) (2 * (kap S - kap S0)) (MQ below (QiM D T ρ0 A S' r) args s (kap S' - kap S0) (2 * (kap S' - kap S0)) A) (F0 m 4 ls []) := by
  induction n with
  | zero => intro ρ S x1 x2 H locs ls ha hm w hl h; exact absurd h (fun q => by cases q)
  | succ n ih => intro ρ S x1 x2 H locs ls ha hm w hl h; exact wb_TS_join_4 C hr hk hcn hcw ih (km_TS_join_4 n) ha hm w hl h
set_option maxRecDepth 100000 in
set_option maxHeartbeats 4000000 in
theorem w_TS_join_0 {g : Nat} {S : St} (C : CallFix p m c cX9_join 4 s args tb RX9) (hr : meth.sig.returnType = (some .int)) (hk : meth.locks = false) (hcn : Kn Z A s s.heap) (hcw : Kw Z s) {S' : St} {r : Int32} (ha : Ag ρ0 ρ) (hm : kap S0 ≤ kap S) (w : Wn Yc D T ρ S A s H locs) (hl : lv_has ls 4 [(0, .ref (ρ 7))]) (h : m_TS_join g S = some (S', r)) : W p l e (rmK 6 130 (kap S' - kap S0)) s m args below meth c H locs (kap S - kap S0) (2 * (kap S - kap S0)) (MQ below (QiM D T ρ0 A S' r) args s (kap S' - kap S0) (2 * (kap S' - kap S0)) A) (F0 m 0 ls []) := by
  have hT := km_TS_join h
  unfold m_TS_join at h
  have nn : nq S S := nq_rf
  refine lv_iconst (v := 1) C.1 C.2.1 dX9_join_0 (by decide) ?_
  refine lv_istore_n (lv' := [(1, .int (1 : Int32)), (0, .ref (ρ 7))]) C.1 C.2.1 dX9_join_1 rfl hl (by decide) rfl (fun ls hl => ?_)
  refine lv_iconst (v := 1) C.1 C.2.1 dX9_join_2 (by decide) ?_
  refine lv_istore_n (lv' := [(2, .int (1 : Int32)), (1, .int (1 : Int32)), (0, .ref (ρ 7))]) C.1 C.2.1 dX9_join_3 rfl hl (by decide) rfl (fun ls hl => ?_)
  have hkn := nq_kap nn
  refine W.widen (k := kap S - kap S0) (n := 2 * (kap S - kap S0)) (by omega) (by omega) ?_
  exact w_TS_join_4 C hr hk hcn hcw g _ _ _ _ _ _ _ ha (by omega) w (lv_sub hl [2, 1, 0] rfl) h
end S_TS_join
set_option maxRecDepth 100000 in
theorem k_TS_join (l : Launch) (Z : Ad) (D : va_G) (T : Cy) (ρ : Nat → Nat) (g sz : Nat) (S : St) {S' : St} {r : Int32} (h : m_TS_join g S = some (S', r)) : MiC l Z D T ρ yX9_join cX9_join 4 (some .int) 6 130 S S' r [.ref (ρ 7)] sz :=
  x_inC (by decide) (Nat.le_of_ble_eq_true rfl) (fun p e s m below meth c ls C hr hk hcn hcw w hl => W.widen (Nat.zero_le _) (Nat.zero_le _) (w_TS_join_0 C hr hk hcn hcw Ag.rf (Nat.le_refl _) w hl h))

theorem dX9_give_0 : decode cX9_give 0 = .ok (.aload_n 0, 1) := by decide +kernel
theorem dX9_give_1 : decode cX9_give 1 = .ok (.getfield 23, 3) := by decide +kernel
theorem dX9_give_4 : decode cX9_give 4 = .ok (.iconst 1, 1) := by decide +kernel
theorem dX9_give_5 : decode cX9_give 5 = .ok (.invokevirtual 42, 3) := by decide +kernel
theorem dX9_give_8 : decode cX9_give 8 = .ok (.istore_n 2, 1) := by decide +kernel
theorem dX9_give_9 : decode cX9_give 9 = .ok (.aload_n 0, 1) := by decide +kernel
theorem dX9_give_10 : decode cX9_give 10 = .ok (.getfield 37, 3) := by decide +kernel
theorem dX9_give_13 : decode cX9_give 13 = .ok (.invokevirtual 46, 3) := by decide +kernel
theorem dX9_give_16 : decode cX9_give 16 = .ok (.getstatic 49, 3) := by decide +kernel
theorem dX9_give_19 : decode cX9_give 19 = .ok (.aload_n 1, 1) := by decide +kernel
theorem dX9_give_20 : decode cX9_give 20 = .ok (.invokevirtual 55, 3) := by decide +kernel
theorem dX9_give_23 : decode cX9_give 23 = .ok (.iaload, 1) := by decide +kernel
theorem dX9_give_24 : decode cX9_give 24 = .ok (.tableswitch 262 1 16 #[80, 89, 98, 126, 132, 137, 143, 150, 157, 163, 169, 175, 182, 189, 227, 232], 80) := by decide +kernel
theorem dX9_give_104 : decode cX9_give 104 = .ok (.aload_n 0, 1) := by decide +kernel
theorem dX9_give_105 : decode cX9_give 105 = .ok (.getfield 23, 3) := by decide +kernel
theorem dX9_give_108 : decode cX9_give 108 = .ok (.iload_n 2, 1) := by decide +kernel
theorem dX9_give_109 : decode cX9_give 109 = .ok (.invokevirtual 61, 3) := by decide +kernel
theorem dX9_give_112 : decode cX9_give 112 = .ok (.ireturn, 1) := by decide +kernel
theorem dX9_give_113 : decode cX9_give 113 = .ok (.aload_n 0, 1) := by decide +kernel
theorem dX9_give_114 : decode cX9_give 114 = .ok (.getfield 23, 3) := by decide +kernel
theorem dX9_give_117 : decode cX9_give 117 = .ok (.iconst (-1), 1) := by decide +kernel
theorem dX9_give_118 : decode cX9_give 118 = .ok (.invokevirtual 61, 3) := by decide +kernel
theorem dX9_give_121 : decode cX9_give 121 = .ok (.ireturn, 1) := by decide +kernel
theorem dX9_give_122 : decode cX9_give 122 = .ok (.aload_n 0, 1) := by decide +kernel
theorem dX9_give_123 : decode cX9_give 123 = .ok (.getfield 23, 3) := by decide +kernel
theorem dX9_give_126 : decode cX9_give 126 = .ok (.iload_n 2, 1) := by decide +kernel
theorem dX9_give_127 : decode cX9_give 127 = .ok (.invokevirtual 64, 3) := by decide +kernel
theorem dX9_give_130 : decode cX9_give 130 = .ok (.aload_n 0, 1) := by decide +kernel
theorem dX9_give_131 : decode cX9_give 131 = .ok (.getfield 23, 3) := by decide +kernel
theorem dX9_give_134 : decode cX9_give 134 = .ok (.aload_n 0, 1) := by decide +kernel
theorem dX9_give_135 : decode cX9_give 135 = .ok (.getfield 33, 3) := by decide +kernel
theorem dX9_give_138 : decode cX9_give 138 = .ok (.aload_n 0, 1) := by decide +kernel
theorem dX9_give_139 : decode cX9_give 139 = .ok (.getfield 37, 3) := by decide +kernel
theorem dX9_give_142 : decode cX9_give 142 = .ok (.iconst 1, 1) := by decide +kernel
theorem dX9_give_143 : decode cX9_give 143 = .ok (.invokevirtual 67, 3) := by decide +kernel
theorem dX9_give_146 : decode cX9_give 146 = .ok (.invokevirtual 61, 3) := by decide +kernel
theorem dX9_give_149 : decode cX9_give 149 = .ok (.ireturn, 1) := by decide +kernel
theorem dX9_give_150 : decode cX9_give 150 = .ok (.aload_n 0, 1) := by decide +kernel
theorem dX9_give_151 : decode cX9_give 151 = .ok (.iload_n 2, 1) := by decide +kernel
theorem dX9_give_152 : decode cX9_give 152 = .ok (.invokevirtual 73, 3) := by decide +kernel
theorem dX9_give_155 : decode cX9_give 155 = .ok (.ireturn, 1) := by decide +kernel
theorem dX9_give_156 : decode cX9_give 156 = .ok (.aload_n 0, 1) := by decide +kernel
theorem dX9_give_157 : decode cX9_give 157 = .ok (.invokevirtual 76, 3) := by decide +kernel
theorem dX9_give_160 : decode cX9_give 160 = .ok (.ireturn, 1) := by decide +kernel
theorem dX9_give_161 : decode cX9_give 161 = .ok (.aload_n 0, 1) := by decide +kernel
theorem dX9_give_162 : decode cX9_give 162 = .ok (.iload_n 2, 1) := by decide +kernel
theorem dX9_give_163 : decode cX9_give 163 = .ok (.invokevirtual 79, 3) := by decide +kernel
theorem dX9_give_166 : decode cX9_give 166 = .ok (.ireturn, 1) := by decide +kernel
theorem dX9_give_167 : decode cX9_give 167 = .ok (.aload_n 0, 1) := by decide +kernel
theorem dX9_give_168 : decode cX9_give 168 = .ok (.iload_n 2, 1) := by decide +kernel
theorem dX9_give_169 : decode cX9_give 169 = .ok (.iconst 0, 1) := by decide +kernel
theorem dX9_give_170 : decode cX9_give 170 = .ok (.invokevirtual 82, 3) := by decide +kernel
theorem dX9_give_173 : decode cX9_give 173 = .ok (.ireturn, 1) := by decide +kernel
theorem dX9_give_174 : decode cX9_give 174 = .ok (.aload_n 0, 1) := by decide +kernel
theorem dX9_give_175 : decode cX9_give 175 = .ok (.iload_n 2, 1) := by decide +kernel
theorem dX9_give_176 : decode cX9_give 176 = .ok (.iconst 1, 1) := by decide +kernel
theorem dX9_give_177 : decode cX9_give 177 = .ok (.invokevirtual 82, 3) := by decide +kernel
theorem dX9_give_180 : decode cX9_give 180 = .ok (.ireturn, 1) := by decide +kernel
theorem dX9_give_181 : decode cX9_give 181 = .ok (.aload_n 0, 1) := by decide +kernel
theorem dX9_give_182 : decode cX9_give 182 = .ok (.iload_n 2, 1) := by decide +kernel
theorem dX9_give_183 : decode cX9_give 183 = .ok (.invokevirtual 86, 3) := by decide +kernel
theorem dX9_give_186 : decode cX9_give 186 = .ok (.ireturn, 1) := by decide +kernel
theorem dX9_give_187 : decode cX9_give 187 = .ok (.aload_n 0, 1) := by decide +kernel
theorem dX9_give_188 : decode cX9_give 188 = .ok (.iload_n 2, 1) := by decide +kernel
theorem dX9_give_189 : decode cX9_give 189 = .ok (.invokevirtual 89, 3) := by decide +kernel
theorem dX9_give_192 : decode cX9_give 192 = .ok (.ireturn, 1) := by decide +kernel
theorem dX9_give_193 : decode cX9_give 193 = .ok (.aload_n 0, 1) := by decide +kernel
theorem dX9_give_194 : decode cX9_give 194 = .ok (.iload_n 2, 1) := by decide +kernel
theorem dX9_give_195 : decode cX9_give 195 = .ok (.invokevirtual 92, 3) := by decide +kernel
theorem dX9_give_198 : decode cX9_give 198 = .ok (.ireturn, 1) := by decide +kernel
theorem dX9_give_199 : decode cX9_give 199 = .ok (.aload_n 0, 1) := by decide +kernel
theorem dX9_give_200 : decode cX9_give 200 = .ok (.iload_n 2, 1) := by decide +kernel
theorem dX9_give_201 : decode cX9_give 201 = .ok (.iconst 1, 1) := by decide +kernel
theorem dX9_give_202 : decode cX9_give 202 = .ok (.invokevirtual 95, 3) := by decide +kernel
theorem dX9_give_205 : decode cX9_give 205 = .ok (.ireturn, 1) := by decide +kernel
theorem dX9_give_206 : decode cX9_give 206 = .ok (.aload_n 0, 1) := by decide +kernel
theorem dX9_give_207 : decode cX9_give 207 = .ok (.iload_n 2, 1) := by decide +kernel
theorem dX9_give_208 : decode cX9_give 208 = .ok (.iconst 0, 1) := by decide +kernel
theorem dX9_give_209 : decode cX9_give 209 = .ok (.invokevirtual 95, 3) := by decide +kernel
theorem dX9_give_212 : decode cX9_give 212 = .ok (.ireturn, 1) := by decide +kernel
theorem dX9_give_213 : decode cX9_give 213 = .ok (.aload_n 0, 1) := by decide +kernel
theorem dX9_give_214 : decode cX9_give 214 = .ok (.getfield 23, 3) := by decide +kernel
theorem dX9_give_217 : decode cX9_give 217 = .ok (.getfield 98, 3) := by decide +kernel
theorem dX9_give_220 : decode cX9_give 220 = .ok (.aload_n 0, 1) := by decide +kernel
theorem dX9_give_221 : decode cX9_give 221 = .ok (.getfield 23, 3) := by decide +kernel
theorem dX9_give_224 : decode cX9_give 224 = .ok (.iconst 1, 1) := by decide +kernel
theorem dX9_give_225 : decode cX9_give 225 = .ok (.invokevirtual 102, 3) := by decide +kernel
theorem dX9_give_228 : decode cX9_give 228 = .ok (.aaload, 1) := by decide +kernel
theorem dX9_give_229 : decode cX9_give 229 = .ok (.astore_n 3, 1) := by decide +kernel
theorem dX9_give_230 : decode cX9_give 230 = .ok (.aload_n 0, 1) := by decide +kernel
theorem dX9_give_231 : decode cX9_give 231 = .ok (.getfield 37, 3) := by decide +kernel
theorem dX9_give_234 : decode cX9_give 234 = .ok (.iconst 0, 1) := by decide +kernel
theorem dX9_give_235 : decode cX9_give 235 = .ok (.aload_n 3, 1) := by decide +kernel
theorem dX9_give_236 : decode cX9_give 236 = .ok (.iconst 0, 1) := by decide +kernel
theorem dX9_give_237 : decode cX9_give 237 = .ok (.aload_n 3, 1) := by decide +kernel
theorem dX9_give_238 : decode cX9_give 238 = .ok (.getfield 105, 3) := by decide +kernel
theorem dX9_give_241 : decode cX9_give 241 = .ok (.invokevirtual 109, 3) := by decide +kernel
theorem dX9_give_244 : decode cX9_give 244 = .ok (.aload_n 0, 1) := by decide +kernel
theorem dX9_give_245 : decode cX9_give 245 = .ok (.iconst (-1), 1) := by decide +kernel
theorem dX9_give_246 : decode cX9_give 246 = .ok (.iconst 1, 1) := by decide +kernel
theorem dX9_give_247 : decode cX9_give 247 = .ok (.invokevirtual 113, 3) := by decide +kernel
theorem dX9_give_250 : decode cX9_give 250 = .ok (.ireturn, 1) := by decide +kernel
theorem dX9_give_251 : decode cX9_give 251 = .ok (.aload_n 0, 1) := by decide +kernel
theorem dX9_give_252 : decode cX9_give 252 = .ok (.invokevirtual 116, 3) := by decide +kernel
theorem dX9_give_255 : decode cX9_give 255 = .ok (.ireturn, 1) := by decide +kernel
theorem dX9_give_256 : decode cX9_give 256 = .ok (.aload_n 0, 1) := by decide +kernel
theorem dX9_give_257 : decode cX9_give 257 = .ok (.getfield 37, 3) := by decide +kernel
theorem dX9_give_260 : decode cX9_give 260 = .ok (.aload_n 0, 1) := by decide +kernel
theorem dX9_give_261 : decode cX9_give 261 = .ok (.getfield 23, 3) := by decide +kernel
theorem dX9_give_264 : decode cX9_give 264 = .ok (.iconst 1, 1) := by decide +kernel
theorem dX9_give_265 : decode cX9_give 265 = .ok (.invokevirtual 119, 3) := by decide +kernel
theorem dX9_give_268 : decode cX9_give 268 = .ok (.aload_n 0, 1) := by decide +kernel
theorem dX9_give_269 : decode cX9_give 269 = .ok (.getfield 23, 3) := by decide +kernel
theorem dX9_give_272 : decode cX9_give 272 = .ok (.iconst 2, 1) := by decide +kernel
theorem dX9_give_273 : decode cX9_give 273 = .ok (.invokevirtual 119, 3) := by decide +kernel
theorem dX9_give_276 : decode cX9_give 276 = .ok (.invokevirtual 123, 3) := by decide +kernel
theorem dX9_give_279 : decode cX9_give 279 = .ok (.aload_n 0, 1) := by decide +kernel
theorem dX9_give_280 : decode cX9_give 280 = .ok (.iconst (-1), 1) := by decide +kernel
theorem dX9_give_281 : decode cX9_give 281 = .ok (.iconst 1, 1) := by decide +kernel
theorem dX9_give_282 : decode cX9_give 282 = .ok (.invokevirtual 113, 3) := by decide +kernel
theorem dX9_give_285 : decode cX9_give 285 = .ok (.ireturn, 1) := by decide +kernel
theorem dX9_give_286 : decode cX9_give 286 = .ok (.iconst 0, 1) := by decide +kernel
theorem dX9_give_287 : decode cX9_give 287 = .ok (.ireturn, 1) := by decide +kernel
def m_TS_give_146 (g : Nat) (S : St) (y1 : Int32) : Option (St × Int32) :=
(m_Bn_giveText g S y1).bind fun (S_12, v_13) =>
some (S_12, v_13)
def m_TS_give_130 (g : Nat) (S : St) : Option (St × Int32) :=
(m_Tx_make g S 23 (1 : Int32)).bind fun (S_10, v_11) =>
m_TS_give_146 g S_10 v_11
def m_TS_give_155 (g : Nat) (S : St) (y0 : Int32) : Option (St × Int32) :=
some (S, y0)
def m_TS_give_160 (g : Nat) (S : St) (y0 : Int32) : Option (St × Int32) :=
some (S, y0)
def m_TS_give_166 (g : Nat) (S : St) (y0 : Int32) : Option (St × Int32) :=
some (S, y0)
def m_TS_give_173 (g : Nat) (S : St) (y0 : Int32) : Option (St × Int32) :=
some (S, y0)
def m_TS_give_180 (g : Nat) (S : St) (y0 : Int32) : Option (St × Int32) :=
some (S, y0)
def m_TS_give_186 (g : Nat) (S : St) (y0 : Int32) : Option (St × Int32) :=
some (S, y0)
def m_TS_give_192 (g : Nat) (S : St) (y0 : Int32) : Option (St × Int32) :=
some (S, y0)
def m_TS_give_198 (g : Nat) (S : St) (y0 : Int32) : Option (St × Int32) :=
some (S, y0)
def m_TS_give_205 (g : Nat) (S : St) (y0 : Int32) : Option (St × Int32) :=
some (S, y0)
def m_TS_give_212 (g : Nat) (S : St) (y0 : Int32) : Option (St × Int32) :=
some (S, y0)
def m_TS_give_250 (g : Nat) (S : St) (y0 : Int32) : Option (St × Int32) :=
some (S, y0)
def m_TS_give_244 (g : Nat) (S : St) : Option (St × Int32) :=
(m_TS_become g S (-1 : Int32) (1 : Int32)).bind fun (S_33, v_34) =>
m_TS_give_250 g S_33 v_34
def m_TS_give_255 (g : Nat) (S : St) (y0 : Int32) : Option (St × Int32) :=
some (S, y0)
def m_TS_give_285 (g : Nat) (S : St) (y0 : Int32) : Option (St × Int32) :=
some (S, y0)
def m_TS_give_279 (g : Nat) (S : St) : Option (St × Int32) :=
(m_TS_become g S (-1 : Int32) (1 : Int32)).bind fun (S_38, v_39) =>
m_TS_give_285 g S_38 v_39
def m_TS_give (g : Nat) (S : St) (x1 : Nat) : Option (St × Int32) :=
(m_Bn_textAt g S (1 : Int32)).bind fun v_1 =>
(m_Row_clear g S 23).bind fun S_2 =>
(eS (nI x1)).bind fun e_4 =>
if (swT.getD e_4 0) = (1 : Int32) then (
  (m_Bn_giveText g S_2 v_1).bind fun (S_5, v_6) =>
  some (S_5, v_6)
) else
if (swT.getD e_4 0) = (2 : Int32) then (
  (m_Bn_giveText g S_2 (-1 : Int32)).bind fun (S_7, v_8) =>
  some (S_7, v_8)
) else
if (swT.getD e_4 0) = (3 : Int32) then (
  (m_Bn_addText g S_2 v_1).bind fun S_9 =>
  m_TS_give_130 g S_9
) else
if (swT.getD e_4 0) = (4 : Int32) then (
  (m_TS_intern g S_2 v_1).bind fun (S_10, v_11) =>
  m_TS_give_155 g S_10 v_11
) else
if (swT.getD e_4 0) = (5 : Int32) then (
  (m_TS_join g S_2).bind fun (S_12, v_13) =>
  m_TS_give_160 g S_12 v_13
) else
if (swT.getD e_4 0) = (6 : Int32) then (
  (m_TS_part g S_2 v_1).bind fun (S_14, v_15) =>
  m_TS_give_166 g S_14 v_15
) else
if (swT.getD e_4 0) = (7 : Int32) then (
  (m_TS_trim g S_2 v_1 (0 : Int32)).bind fun (S_16, v_17) =>
  m_TS_give_173 g S_16 v_17
) else
if (swT.getD e_4 0) = (8 : Int32) then (
  (m_TS_trim g S_2 v_1 (1 : Int32)).bind fun (S_18, v_19) =>
  m_TS_give_180 g S_18 v_19
) else
if (swT.getD e_4 0) = (9 : Int32) then (
  (m_TS_repeat g S_2 v_1).bind fun (S_20, v_21) =>
  m_TS_give_186 g S_20 v_21
) else
if (swT.getD e_4 0) = (10 : Int32) then (
  (m_TS_change g S_2 v_1).bind fun (S_22, v_23) =>
  m_TS_give_192 g S_22 v_23
) else
if (swT.getD e_4 0) = (11 : Int32) then (
  (m_TS_replace g S_2 v_1).bind fun (S_24, v_25) =>
  m_TS_give_198 g S_24 v_25
) else
if (swT.getD e_4 0) = (12 : Int32) then (
  (m_TS_changeCase g S_2 v_1 (1 : Int32)).bind fun (S_26, v_27) =>
  m_TS_give_205 g S_26 v_27
) else
if (swT.getD e_4 0) = (13 : Int32) then (
  (m_TS_changeCase g S_2 v_1 (0 : Int32)).bind fun (S_28, v_29) =>
  m_TS_give_212 g S_28 v_29
) else
if (swT.getD e_4 0) = (14 : Int32) then (
  (m_Bn_builderAt g S_2 (1 : Int32)).bind fun v_30 =>
  (bR S_2 v_30).bind fun r_31 =>
  (m_Row_insert g S_2 23 (0 : Int32) r_31 (0 : Int32) (gI S_2 r_31 2)).bind fun S_32 =>
  m_TS_give_244 g S_32
) else
if (swT.getD e_4 0) = (15 : Int32) then (
  (m_TS_from g S_2).bind fun (S_33, v_34) =>
  m_TS_give_255 g S_33 v_34
) else
if (swT.getD e_4 0) = (16 : Int32) then (
  (m_Bn_wholeAt g S_2 (1 : Int32)).bind fun v_35 =>
  (m_Bn_wholeAt g S_2 (2 : Int32)).bind fun v_36 =>
  (m_Row_addWhole g S_2 23 v_35 v_36).bind fun S_37 =>
  m_TS_give_279 g S_37
) else
(
  some (S_2, (0 : Int32))
)
theorem km_TS_give_146 {g : Nat} {S : St} {y1 : Int32} {S' : St} {r : Int32} (h : m_TS_give_146 g S y1 = some (S', r)) : kap S ≤ kap S' := by
  unfold m_TS_give_146 at h
  have nn : nq S S := nq_rf
  obtain ⟨⟨S_12, v_13⟩, hv_13, h⟩ := bnd h
  replace nn : nq S_12 S := nq_tr (kq_Bn_giveText hv_13) nn
  obtain ⟨rfl, rfl⟩ := prI h
  have hkn := nq_kap nn
  omega
theorem km_TS_give_130 {g : Nat} {S : St} {S' : St} {r : Int32} (h : m_TS_give_130 g S = some (S', r)) : kap S ≤ kap S' := by
  unfold m_TS_give_130 at h
  have nn : nq S S := nq_rf
  obtain ⟨⟨S_10, v_11⟩, hv_11, h⟩ := bnd h
  have hk1 := km_Tx_make hv_11
  have hkn := nq_kap nn
  have h2 := km_TS_give_146 h
  omega
theorem km_TS_give_155 {g : Nat} {S : St} {y0 : Int32} {S' : St} {r : Int32} (h : m_TS_give_155 g S y0 = some (S', r)) : kap S ≤ kap S' := by
  unfold m_TS_give_155 at h
  have nn : nq S S := nq_rf
  obtain ⟨rfl, rfl⟩ := prI h
  have hkn := nq_kap nn
  omega
theorem km_TS_give_160 {g : Nat} {S : St} {y0 : Int32} {S' : St} {r : Int32} (h : m_TS_give_160 g S y0 = some (S', r)) : kap S ≤ kap S' := by
  unfold m_TS_give_160 at h
  have nn : nq S S := nq_rf
  obtain ⟨rfl, rfl⟩ := prI h
  have hkn := nq_kap nn
  omega
theorem km_TS_give_166 {g : Nat} {S : St} {y0 : Int32} {S' : St} {r : Int32} (h : m_TS_give_166 g S y0 = some (S', r)) : kap S ≤ kap S' := by
  unfold m_TS_give_166 at h
  have nn : nq S S := nq_rf
  obtain ⟨rfl, rfl⟩ := prI h
  have hkn := nq_kap nn
  omega
theorem km_TS_give_173 {g : Nat} {S : St} {y0 : Int32} {S' : St} {r : Int32} (h : m_TS_give_173 g S y0 = some (S', r)) : kap S ≤ kap S' := by
  unfold m_TS_give_173 at h
  have nn : nq S S := nq_rf
  obtain ⟨rfl, rfl⟩ := prI h
  have hkn := nq_kap nn
  omega
theorem km_TS_give_180 {g : Nat} {S : St} {y0 : Int32} {S' : St} {r : Int32} (h : m_TS_give_180 g S y0 = some (S', r)) : kap S ≤ kap S' := by
  unfold m_TS_give_180 at h
  have nn : nq S S := nq_rf
  obtain ⟨rfl, rfl⟩ := prI h
  have hkn := nq_kap nn
  omega
theorem km_TS_give_186 {g : Nat} {S : St} {y0 : Int32} {S' : St} {r : Int32} (h : m_TS_give_186 g S y0 = some (S', r)) : kap S ≤ kap S' := by
  unfold m_TS_give_186 at h
  have nn : nq S S := nq_rf
  obtain ⟨rfl, rfl⟩ := prI h
  have hkn := nq_kap nn
  omega
theorem km_TS_give_192 {g : Nat} {S : St} {y0 : Int32} {S' : St} {r : Int32} (h : m_TS_give_192 g S y0 = some (S', r)) : kap S ≤ kap S' := by
  unfold m_TS_give_192 at h
  have nn : nq S S := nq_rf
  obtain ⟨rfl, rfl⟩ := prI h
  have hkn := nq_kap nn
  omega
theorem km_TS_give_198 {g : Nat} {S : St} {y0 : Int32} {S' : St} {r : Int32} (h : m_TS_give_198 g S y0 = some (S', r)) : kap S ≤ kap S' := by
  unfold m_TS_give_198 at h
  have nn : nq S S := nq_rf
  obtain ⟨rfl, rfl⟩ := prI h
  have hkn := nq_kap nn
  omega
theorem km_TS_give_205 {g : Nat} {S : St} {y0 : Int32} {S' : St} {r : Int32} (h : m_TS_give_205 g S y0 = some (S', r)) : kap S ≤ kap S' := by
  unfold m_TS_give_205 at h
  have nn : nq S S := nq_rf
  obtain ⟨rfl, rfl⟩ := prI h
  have hkn := nq_kap nn
  omega
theorem km_TS_give_212 {g : Nat} {S : St} {y0 : Int32} {S' : St} {r : Int32} (h : m_TS_give_212 g S y0 = some (S', r)) : kap S ≤ kap S' := by
  unfold m_TS_give_212 at h
  have nn : nq S S := nq_rf
  obtain ⟨rfl, rfl⟩ := prI h
  have hkn := nq_kap nn
  omega
theorem km_TS_give_250 {g : Nat} {S : St} {y0 : Int32} {S' : St} {r : Int32} (h : m_TS_give_250 g S y0 = some (S', r)) : kap S ≤ kap S' := by
  unfold m_TS_give_250 at h
  have nn : nq S S := nq_rf
  obtain ⟨rfl, rfl⟩ := prI h
  have hkn := nq_kap nn
  omega
theorem km_TS_give_244 {g : Nat} {S : St} {S' : St} {r : Int32} (h : m_TS_give_244 g S = some (S', r)) : kap S ≤ kap S' := by
  unfold m_TS_give_244 at h
  have nn : nq S S := nq_rf
  obtain ⟨⟨S_33, v_34⟩, hv_34, h⟩ := bnd h
  have hk1 := km_TS_become hv_34
  have hkn := nq_kap nn
  have h2 := km_TS_give_250 h
  omega
theorem km_TS_give_255 {g : Nat} {S : St} {y0 : Int32} {S' : St} {r : Int32} (h : m_TS_give_255 g S y0 = some (S', r)) : kap S ≤ kap S' := by
  unfold m_TS_give_255 at h
  have nn : nq S S := nq_rf
  obtain ⟨rfl, rfl⟩ := prI h
  have hkn := nq_kap nn
  omega
theorem km_TS_give_285 {g : Nat} {S : St} {y0 : Int32} {S' : St} {r : Int32} (h : m_TS_give_285 g S y0 = some (S', r)) : kap S ≤ kap S' := by
  unfold m_TS_give_285 at h
  have nn : nq S S := nq_rf
  obtain ⟨rfl, rfl⟩ := prI h
  have hkn := nq_kap nn
  omega
theorem km_TS_give_279 {g : Nat} {S : St} {S' : St} {r : Int32} (h : m_TS_give_279 g S = some (S', r)) : kap S ≤ kap S' := by
  unfold m_TS_give_279 at h
  have nn : nq S S := nq_rf
  obtain ⟨⟨S_38, v_39⟩, hv_39, h⟩ := bnd h
  have hk1 := km_TS_become hv_39
  have hkn := nq_kap nn
  have h2 := km_TS_give_285 h
  omega
theorem km_TS_give {g : Nat} {S : St} {x1 : Nat} {S' : St} {r : Int32} (h : m_TS_give g S x1 = some (S', r)) : kap S ≤ kap S' := by
  unfold m_TS_give at h
  have nn : nq S S := nq_rf
  obtain ⟨v_1, hv_1, h⟩ := bnd h
  obtain ⟨S_2, hS_2, h⟩ := bnd h
  replace nn : nq S_2 S := nq_tr (kq_Row_clear hS_2) nn
  obtain ⟨e_4, he_4, h⟩ := bnd h
  by_cases hc1 : (swT.getD e_4 0) = (1 : Int32)
  · replace h := ift hc1 h
    obtain ⟨⟨S_5, v_6⟩, hv_6, h⟩ := bnd h
    replace nn : nq S_5 S := nq_tr (kq_Bn_giveText hv_6) nn
    obtain ⟨rfl, rfl⟩ := prI h
    have hkn := nq_kap nn
    omega
  replace h := iff0 hc1 h
  by_cases hc2 : (swT.getD e_4 0) = (2 : Int32)
  · replace h := ift hc2 h
    obtain ⟨⟨S_7, v_8⟩, hv_8, h⟩ := bnd h
    replace nn : nq S_7 S := nq_tr (kq_Bn_giveText hv_8) nn
    obtain ⟨rfl, rfl⟩ := prI h
    have hkn := nq_kap nn
    omega
  replace h := iff0 hc2 h
  by_cases hc3 : (swT.getD e_4 0) = (3 : Int32)
  · replace h := ift hc3 h
    obtain ⟨S_9, hS_9, h⟩ := bnd h
    have hk1 := km_Bn_addText hS_9
    have hkn := nq_kap nn
    have h2 := km_TS_give_130 h
    omega
  replace h := iff0 hc3 h
  by_cases hc4 : (swT.getD e_4 0) = (4 : Int32)
  · replace h := ift hc4 h
    obtain ⟨⟨S_10, v_11⟩, hv_11, h⟩ := bnd h
    have hk1 := km_TS_intern hv_11
    have hkn := nq_kap nn
    have h2 := km_TS_give_155 h
    omega
  replace h := iff0 hc4 h
  by_cases hc5 : (swT.getD e_4 0) = (5 : Int32)
  · replace h := ift hc5 h
    obtain ⟨⟨S_12, v_13⟩, hv_13, h⟩ := bnd h
    have hk1 := km_TS_join hv_13
    have hkn := nq_kap nn
    have h2 := km_TS_give_160 h
    omega
  replace h := iff0 hc5 h
  by_cases hc6 : (swT.getD e_4 0) = (6 : Int32)
  · replace h := ift hc6 h
    obtain ⟨⟨S_14, v_15⟩, hv_15, h⟩ := bnd h
    have hk1 := km_TS_part hv_15
    have hkn := nq_kap nn
    have h2 := km_TS_give_166 h
    omega
  replace h := iff0 hc6 h
  by_cases hc7 : (swT.getD e_4 0) = (7 : Int32)
  · replace h := ift hc7 h
    obtain ⟨⟨S_16, v_17⟩, hv_17, h⟩ := bnd h
    have hk1 := km_TS_trim hv_17
    have hkn := nq_kap nn
    have h2 := km_TS_give_173 h
    omega
  replace h := iff0 hc7 h
  by_cases hc8 : (swT.getD e_4 0) = (8 : Int32)
  · replace h := ift hc8 h
    obtain ⟨⟨S_18, v_19⟩, hv_19, h⟩ := bnd h
    have hk1 := km_TS_trim hv_19
    have hkn := nq_kap nn
    have h2 := km_TS_give_180 h
    omega
  replace h := iff0 hc8 h
  by_cases hc9 : (swT.getD e_4 0) = (9 : Int32)
  · replace h := ift hc9 h
    obtain ⟨⟨S_20, v_21⟩, hv_21, h⟩ := bnd h
    have hk1 := km_TS_repeat hv_21
    have hkn := nq_kap nn
    have h2 := km_TS_give_186 h
    omega
  replace h := iff0 hc9 h
  by_cases hc10 : (swT.getD e_4 0) = (10 : Int32)
  · replace h := ift hc10 h
    obtain ⟨⟨S_22, v_23⟩, hv_23, h⟩ := bnd h
    have hk1 := km_TS_change hv_23
    have hkn := nq_kap nn
    have h2 := km_TS_give_192 h
    omega
  replace h := iff0 hc10 h
  by_cases hc11 : (swT.getD e_4 0) = (11 : Int32)
  · replace h := ift hc11 h
    obtain ⟨⟨S_24, v_25⟩, hv_25, h⟩ := bnd h
    have hk1 := km_TS_replace hv_25
    have hkn := nq_kap nn
    have h2 := km_TS_give_198 h
    omega
  replace h := iff0 hc11 h
  by_cases hc12 : (swT.getD e_4 0) = (12 : Int32)
  · replace h := ift hc12 h
    obtain ⟨⟨S_26, v_27⟩, hv_27, h⟩ := bnd h
    have hk1 := km_TS_changeCase hv_27
    have hkn := nq_kap nn
    have h2 := km_TS_give_205 h
    omega
  replace h := iff0 hc12 h
  by_cases hc13 : (swT.getD e_4 0) = (13 : Int32)
  · replace h := ift hc13 h
    obtain ⟨⟨S_28, v_29⟩, hv_29, h⟩ := bnd h
    have hk1 := km_TS_changeCase hv_29
    have hkn := nq_kap nn
    have h2 := km_TS_give_212 h
    omega
  replace h := iff0 hc13 h
  by_cases hc14 : (swT.getD e_4 0) = (14 : Int32)
  · replace h := ift hc14 h
    obtain ⟨v_30, hv_30, h⟩ := bnd h
    obtain ⟨r_31, hr_31, h⟩ := bnd h
    obtain ⟨S_32, hS_32, h⟩ := bnd h
    have hk1 := km_Row_insert hS_32
    have hkn := nq_kap nn
    have h2 := km_TS_give_244 h
    omega
  replace h := iff0 hc14 h
  by_cases hc15 : (swT.getD e_4 0) = (15 : Int32)
  · replace h := ift hc15 h
    obtain ⟨⟨S_33, v_34⟩, hv_34, h⟩ := bnd h
    have hk1 := km_TS_from hv_34
    have hkn := nq_kap nn
    have h2 := km_TS_give_255 h
    omega
  replace h := iff0 hc15 h
  by_cases hc16 : (swT.getD e_4 0) = (16 : Int32)
  · replace h := ift hc16 h
    obtain ⟨v_35, hv_35, h⟩ := bnd h
    obtain ⟨v_36, hv_36, h⟩ := bnd h
    obtain ⟨S_37, hS_37, h⟩ := bnd h
    have hk1 := km_Row_addWhole hS_37
    have hkn := nq_kap nn
    have h2 := km_TS_give_279 h
    omega
  replace h := iff0 hc16 h
  obtain ⟨rfl, rfl⟩ := prI h
  have hkn := nq_kap nn
  omega
section S_TS_give
variable {p : Program} {l : Launch} {e : Env} {s : State} {m : MethodId} {args : Array Value} {below : List Frame} {meth : Method} {c : Code} {H : Heap} {locs : List Loc} {ls : Array Slot} {D : va_G} {T : Cy} {ρ ρ0 : Nat → Nat} {S0 : St} {A : Nat → Prop} {Z : Ad}
set_option maxRecDepth 100000 in
set_option maxHeartbeats 4000000 in
theorem w_TS_give_146 {g : Nat} {S : St} {y1 : Int32} (C : CallFix p m c cX9_give 4 s args tb RX9) (hr : meth.sig.returnType = (some .int)) (hk : meth.locks = false) (hcn : Kn Z A s s.heap) (hcw : Kw Z s) {S' : St} {r : Int32} (ha : Ag ρ0 ρ) (hm : kap S0 ≤ kap S) (w : Wn Yc D T ρ S A s H locs) (hl : lv_has ls 4 []) (h : m_TS_give_146 g S y1 = some (S', r)) : W p l e (rmK 7 153 (kap S' - kap S0)) s m args below meth c H locs (kap S - kap S0) (2 * (kap S - kap S0)) (MQ below (QiM D T ρ0 A S' r) args s (kap S' - kap S0) (2 * (kap S' - kap S0)) A) (F0 m 146 ls [.int y1, .ref (ρ 4)]) := by
  have hT := km_TS_give_146 h
  unfold m_TS_give_146 at h
  have nn : nq S S := nq_rf
  obtain ⟨⟨S_12, v_13⟩, hv_13, h⟩ := bnd h
  replace nn : nq S_12 S := nq_tr (kq_Bn_giveText hv_13) nn
  refine x_callVi (q := (RX1, TX1, 12)) (As := [.int y1]) (rest := []) C w (k_Bn_giveText l D T ρ g H.size S hv_13) vX9_61 (hRK (by decide) (by decide)) obC4 (by decide) rfl rfl rfl hl.1 (Nat.le_of_ble_eq_true rfl) (hcK hT) dX9_give_146 (fun H locs w => ?_)
  obtain ⟨rfl, rfl⟩ := prI h
  exact x_iretM C w ha hr hk dX9_give_149 (by have := nq_kap nn; omega) (by have := nq_kap nn; omega)
set_option maxRecDepth 100000 in
set_option maxHeartbeats 4000000 in
theorem w_TS_give_130 {g : Nat} {S : St} (C : CallFix p m c cX9_give 4 s args tb RX9) (hr : meth.sig.returnType = (some .int)) (hk : meth.locks = false) (hcn : Kn Z A s s.heap) (hcw : Kw Z s) {S' : St} {r : Int32} (ha : Ag ρ0 ρ) (hm : kap S0 ≤ kap S) (w : Wn Yc D T ρ S A s H locs) (hl : lv_has ls 4 [(0, .ref (ρ 7))]) (h : m_TS_give_130 g S = some (S', r)) : W p l e (rmK 7 153 (kap S' - kap S0)) s m args below meth c H locs (kap S - kap S0) (2 * (kap S - kap S0)) (MQ below (QiM D T ρ0 A S' r) args s (kap S' - kap S0) (2 * (kap S' - kap S0)) A) (F0 m 130 ls []) := by
  have hT := km_TS_give_130 h
  unfold m_TS_give_130 at h
  have nn : nq S S := nq_rf
  refine lv_aload_n C.1 C.2.1 dX9_give_130 rfl (lv_at hl 0 rfl) ?_
  refine x_getC C w 4 fX9_23 obC7 rfl dX9_give_131 ?_
  refine lv_aload_n C.1 C.2.1 dX9_give_134 rfl (lv_at hl 0 rfl) ?_
  refine x_getC C w 5 fX9_33 obC7 rfl dX9_give_135 ?_
  refine lv_aload_n C.1 C.2.1 dX9_give_138 rfl (lv_at hl 0 rfl) ?_
  refine x_getC C w 23 fX9_37 obC7 rfl dX9_give_139 ?_
  refine lv_iconst (v := 1) C.1 C.2.1 dX9_give_142 (by decide) ?_
  obtain ⟨⟨S_10, v_11⟩, hv_11, h⟩ := bnd h
  have hkn := nq_kap nn
  have hk1 := km_Tx_make hv_11
  have hT2 := km_TS_give_146 h
  refine x_callViM (q := (RX10, TX10, 5)) (As := [.ref (ρ 23), .int (1 : Int32)]) (rest := [.ref (ρ 4)]) C w (k_Tx_make l D T ρ g H.size S obC23 hv_11) vX9_67 (hRK (by decide) (by decide)) obC5 (by decide) rfl rfl rfl hl.1 (Nat.le_of_ble_eq_true rfl) (hcM hm hkn hk1 hT2) dX9_give_143 (fun ρ1 H locs hag w => ?_)
  replace ha := ha.trans hag
  rw [← hag 7 (by decide)] at hl
  rw [← hag 4 (by decide)]
  refine W.widen (k := kap S_10 - kap S0) (n := 2 * (kap S_10 - kap S0)) (by omega) (by omega) ?_
  exact w_TS_give_146 C hr hk hcn hcw ha (by omega) w (lv_sub hl [] rfl) h
set_option maxRecDepth 100000 in
set_option maxHeartbeats 4000000 in
theorem w_TS_give_155 {g : Nat} {S : St} {y0 : Int32} (C : CallFix p m c cX9_give 4 s args tb RX9) (hr : meth.sig.returnType = (some .int)) (hk : meth.locks = false) (hcn : Kn Z A s s.heap) (hcw : Kw Z s) {S' : St} {r : Int32} (ha : Ag ρ0 ρ) (hm : kap S0 ≤ kap S) (w : Wn Yc D T ρ S A s H locs) (hl : lv_has ls 4 []) (h : m_TS_give_155 g S y0 = some (S', r)) : W p l e (rmK 7 153 (kap S' - kap S0)) s m args below meth c H locs (kap S - kap S0) (2 * (kap S - kap S0)) (MQ below (QiM D T ρ0 A S' r) args s (kap S' - kap S0) (2 * (kap S' - kap S0)) A) (F0 m 155 ls [.int y0]) := by
  have hT := km_TS_give_155 h
  unfold m_TS_give_155 at h
  have nn : nq S S := nq_rf
  obtain ⟨rfl, rfl⟩ := prI h
  exact x_iretM C w ha hr hk dX9_give_155 (by have := nq_kap nn; omega) (by have := nq_kap nn; omega)
set_option maxRecDepth 100000 in
set_option maxHeartbeats 4000000 in
theorem w_TS_give_160 {g : Nat} {S : St} {y0 : Int32} (C : CallFix p m c cX9_give 4 s args tb RX9) (hr : meth.sig.returnType = (some .int)) (hk : meth.locks = false) (hcn : Kn Z A s s.heap) (hcw : Kw Z s) {S' : St} {r : Int32} (ha : Ag ρ0 ρ) (hm : kap S0 ≤ kap S) (w : Wn Yc D T ρ S A s H locs) (hl : lv_has ls 4 []) (h : m_TS_give_160 g S y0 = some (S', r)) : W p l e (rmK 7 153 (kap S' - kap S0)) s m args below meth c H locs (kap S - kap S0) (2 * (kap S - kap S0)) (MQ below (QiM D T ρ0 A S' r) args s (kap S' - kap S0) (2 * (kap S' - kap S0)) A) (F0 m 160 ls [.int y0]) := by
  have hT := km_TS_give_160 h
  unfold m_TS_give_160 at h
  have nn : nq S S := nq_rf
  obtain ⟨rfl, rfl⟩ := prI h
  exact x_iretM C w ha hr hk dX9_give_160 (by have := nq_kap nn; omega) (by have := nq_kap nn; omega)
set_option maxRecDepth 100000 in
set_option maxHeartbeats 4000000 in
theorem w_TS_give_166 {g : Nat} {S : St} {y0 : Int32} (C : CallFix p m c cX9_give 4 s args tb RX9) (hr : meth.sig.returnType = (some .int)) (hk : meth.locks = false) (hcn : Kn Z A s s.heap) (hcw : Kw Z s) {S' : St} {r : Int32} (ha : Ag ρ0 ρ) (hm : kap S0 ≤ kap S) (w : Wn Yc D T ρ S A s H locs) (hl : lv_has ls 4 []) (h : m_TS_give_166 g S y0 = some (S', r)) : W p l e (rmK 7 153 (kap S' - kap S0)) s m args below meth c H locs (kap S - kap S0) (2 * (kap S - kap S0)) (MQ below (QiM D T ρ0 A S' r) args s (kap S' - kap S0) (2 * (kap S' - kap S0)) A) (F0 m 166 ls [.int y0]) := by
  have hT := km_TS_give_166 h
  unfold m_TS_give_166 at h
  have nn : nq S S := nq_rf
  obtain ⟨rfl, rfl⟩ := prI h
  exact x_iretM C w ha hr hk dX9_give_166 (by have := nq_kap nn; omega) (by have := nq_kap nn; omega)
set_option maxRecDepth 100000 in
set_option maxHeartbeats 4000000 in
theorem w_TS_give_173 {g : Nat} {S : St} {y0 : Int32} (C : CallFix p m c cX9_give 4 s args tb RX9) (hr : meth.sig.returnType = (some .int)) (hk : meth.locks = false) (hcn : Kn Z A s s.heap) (hcw : Kw Z s) {S' : St} {r : Int32} (ha : Ag ρ0 ρ) (hm : kap S0 ≤ kap S) (w : Wn Yc D T ρ S A s H locs) (hl : lv_has ls 4 []) (h : m_TS_give_173 g S y0 = some (S', r)) : W p l e (rmK 7 153 (kap S' - kap S0)) s m args below meth c H locs (kap S - kap S0) (2 * (kap S - kap S0)) (MQ below (QiM D T ρ0 A S' r) args s (kap S' - kap S0) (2 * (kap S' - kap S0)) A) (F0 m 173 ls [.int y0]) := by
  have hT := km_TS_give_173 h
  unfold m_TS_give_173 at h
  have nn : nq S S := nq_rf
  obtain ⟨rfl, rfl⟩ := prI h
  exact x_iretM C w ha hr hk dX9_give_173 (by have := nq_kap nn; omega) (by have := nq_kap nn; omega)
set_option maxRecDepth 100000 in
set_option maxHeartbeats 4000000 in
theorem w_TS_give_180 {g : Nat} {S : St} {y0 : Int32} (C : CallFix p m c cX9_give 4 s args tb RX9) (hr : meth.sig.returnType = (some .int)) (hk : meth.locks = false) (hcn : Kn Z A s s.heap) (hcw : Kw Z s) {S' : St} {r : Int32} (ha : Ag ρ0 ρ) (hm : kap S0 ≤ kap S) (w : Wn Yc D T ρ S A s H locs) (hl : lv_has ls 4 []) (h : m_TS_give_180 g S y0 = some (S', r)) : W p l e (rmK 7 153 (kap S' - kap S0)) s m args below meth c H locs (kap S - kap S0) (2 * (kap S - kap S0)) (MQ below (QiM D T ρ0 A S' r) args s (kap S' - kap S0) (2 * (kap S' - kap S0)) A) (F0 m 180 ls [.int y0]) := by
  have hT := km_TS_give_180 h
  unfold m_TS_give_180 at h
  have nn : nq S S := nq_rf
  obtain ⟨rfl, rfl⟩ := prI h
  exact x_iretM C w ha hr hk dX9_give_180 (by have := nq_kap nn; omega) (by have := nq_kap nn; omega)
set_option maxRecDepth 100000 in
set_option maxHeartbeats 4000000 in
theorem w_TS_give_186 {g : Nat} {S : St} {y0 : Int32} (C : CallFix p m c cX9_give 4 s args tb RX9) (hr : meth.sig.returnType = (some .int)) (hk : meth.locks = false) (hcn : Kn Z A s s.heap) (hcw : Kw Z s) {S' : St} {r : Int32} (ha : Ag ρ0 ρ) (hm : kap S0 ≤ kap S) (w : Wn Yc D T ρ S A s H locs) (hl : lv_has ls 4 []) (h : m_TS_give_186 g S y0 = some (S', r)) : W p l e (rmK 7 153 (kap S' - kap S0)) s m args below meth c H locs (kap S - kap S0) (2 * (kap S - kap S0)) (MQ below (QiM D T ρ0 A S' r) args s (kap S' - kap S0) (2 * (kap S' - kap S0)) A) (F0 m 186 ls [.int y0]) := by
  have hT := km_TS_give_186 h
  unfold m_TS_give_186 at h
  have nn : nq S S := nq_rf
  obtain ⟨rfl, rfl⟩ := prI h
  exact x_iretM C w ha hr hk dX9_give_186 (by have := nq_kap nn; omega) (by have := nq_kap nn; omega)
set_option maxRecDepth 100000 in
set_option maxHeartbeats 4000000 in
theorem w_TS_give_192 {g : Nat} {S : St} {y0 : Int32} (C : CallFix p m c cX9_give 4 s args tb RX9) (hr : meth.sig.returnType = (some .int)) (hk : meth.locks = false) (hcn : Kn Z A s s.heap) (hcw : Kw Z s) {S' : St} {r : Int32} (ha : Ag ρ0 ρ) (hm : kap S0 ≤ kap S) (w : Wn Yc D T ρ S A s H locs) (hl : lv_has ls 4 []) (h : m_TS_give_192 g S y0 = some (S', r)) : W p l e (rmK 7 153 (kap S' - kap S0)) s m args below meth c H locs (kap S - kap S0) (2 * (kap S - kap S0)) (MQ below (QiM D T ρ0 A S' r) args s (kap S' - kap S0) (2 * (kap S' - kap S0)) A) (F0 m 192 ls [.int y0]) := by
  have hT := km_TS_give_192 h
  unfold m_TS_give_192 at h
  have nn : nq S S := nq_rf
  obtain ⟨rfl, rfl⟩ := prI h
  exact x_iretM C w ha hr hk dX9_give_192 (by have := nq_kap nn; omega) (by have := nq_kap nn; omega)
set_option maxRecDepth 100000 in
set_option maxHeartbeats 4000000 in
theorem w_TS_give_198 {g : Nat} {S : St} {y0 : Int32} (C : CallFix p m c cX9_give 4 s args tb RX9) (hr : meth.sig.returnType = (some .int)) (hk : meth.locks = false) (hcn : Kn Z A s s.heap) (hcw : Kw Z s) {S' : St} {r : Int32} (ha : Ag ρ0 ρ) (hm : kap S0 ≤ kap S) (w : Wn Yc D T ρ S A s H locs) (hl : lv_has ls 4 []) (h : m_TS_give_198 g S y0 = some (S', r)) : W p l e (rmK 7 153 (kap S' - kap S0)) s m args below meth c H locs (kap S - kap S0) (2 * (kap S - kap S0)) (MQ below (QiM D T ρ0 A S' r) args s (kap S' - kap S0) (2 * (kap S' - kap S0)) A) (F0 m 198 ls [.int y0]) := by
  have hT := km_TS_give_198 h
  unfold m_TS_give_198 at h
  have nn : nq S S := nq_rf
  obtain ⟨rfl, rfl⟩ := prI h
  exact x_iretM C w ha hr hk dX9_give_198 (by have := nq_kap nn; omega) (by have := nq_kap nn; omega)
set_option maxRecDepth 100000 in
set_option maxHeartbeats 4000000 in
theorem w_TS_give_205 {g : Nat} {S : St} {y0 : Int32} (C : CallFix p m c cX9_give 4 s args tb RX9) (hr : meth.sig.returnType = (some .int)) (hk : meth.locks = false) (hcn : Kn Z A s s.heap) (hcw : Kw Z s) {S' : St} {r : Int32} (ha : Ag ρ0 ρ) (hm : kap S0 ≤ kap S) (w : Wn Yc D T ρ S A s H locs) (hl : lv_has ls 4 []) (h : m_TS_give_205 g S y0 = some (S', r)) : W p l e (rmK 7 153 (kap S' - kap S0)) s m args below meth c H locs (kap S - kap S0) (2 * (kap S - kap S0)) (MQ below (QiM D T ρ0 A S' r) args s (kap S' - kap S0) (2 * (kap S' - kap S0)) A) (F0 m 205 ls [.int y0]) := by
  have hT := km_TS_give_205 h
  unfold m_TS_give_205 at h
  have nn : nq S S := nq_rf
  obtain ⟨rfl, rfl⟩ := prI h
  exact x_iretM C w ha hr hk dX9_give_205 (by have := nq_kap nn; omega) (by have := nq_kap nn; omega)
set_option maxRecDepth 100000 in
set_option maxHeartbeats 4000000 in
theorem w_TS_give_212 {g : Nat} {S : St} {y0 : Int32} (C : CallFix p m c cX9_give 4 s args tb RX9) (hr : meth.sig.returnType = (some .int)) (hk : meth.locks = false) (hcn : Kn Z A s s.heap) (hcw : Kw Z s) {S' : St} {r : Int32} (ha : Ag ρ0 ρ) (hm : kap S0 ≤ kap S) (w : Wn Yc D T ρ S A s H locs) (hl : lv_has ls 4 []) (h : m_TS_give_212 g S y0 = some (S', r)) : W p l e (rmK 7 153 (kap S' - kap S0)) s m args below meth c H locs (kap S - kap S0) (2 * (kap S - kap S0)) (MQ below (QiM D T ρ0 A S' r) args s (kap S' - kap S0) (2 * (kap S' - kap S0)) A) (F0 m 212 ls [.int y0]) := by
  have hT := km_TS_give_212 h
  unfold m_TS_give_212 at h
  have nn : nq S S := nq_rf
  obtain ⟨rfl, rfl⟩ := prI h
  exact x_iretM C w ha hr hk dX9_give_212 (by have := nq_kap nn; omega) (by have := nq_kap nn; omega)
set_option maxRecDepth 100000 in
set_option maxHeartbeats 4000000 in
theorem w_TS_give_250 {g : Nat} {S : St} {y0 : Int32} (C : CallFix p m c cX9_give 4 s args tb RX9) (hr : meth.sig.returnType = (some .int)) (hk : meth.locks = false) (hcn : Kn Z A s s.heap) (hcw : Kw Z s) {S' : St} {r : Int32} (ha : Ag ρ0 ρ) (hm : kap S0 ≤ kap S) (w : Wn Yc D T ρ S A s H locs) (hl : lv_has ls 4 []) (h : m_TS_give_250 g S y0 = some (S', r)) : W p l e (rmK 7 153 (kap S' - kap S0)) s m args below meth c H locs (kap S - kap S0) (2 * (kap S - kap S0)) (MQ below (QiM D T ρ0 A S' r) args s (kap S' - kap S0) (2 * (kap S' - kap S0)) A) (F0 m 250 ls [.int y0]) := by
  have hT := km_TS_give_250 h
  unfold m_TS_give_250 at h
  have nn : nq S S := nq_rf
  obtain ⟨rfl, rfl⟩ := prI h
  exact x_iretM C w ha hr hk dX9_give_250 (by have := nq_kap nn; omega) (by have := nq_kap nn; omega)
set_option maxRecDepth 100000 in
set_option maxHeartbeats 4000000 in
theorem w_TS_give_244 {g : Nat} {S : St} (C : CallFix p m c cX9_give 4 s args tb RX9) (hr : meth.sig.returnType = (some .int)) (hk : meth.locks = false) (hcn : Kn Z A s s.heap) (hcw : Kw Z s) {S' : St} {r : Int32} (ha : Ag ρ0 ρ) (hm : kap S0 ≤ kap S) (w : Wn Yc D T ρ S A s H locs) (hl : lv_has ls 4 [(0, .ref (ρ 7))]) (h : m_TS_give_244 g S = some (S', r)) : W p l e (rmK 7 153 (kap S' - kap S0)) s m args below meth c H locs (kap S - kap S0) (2 * (kap S - kap S0)) (MQ below (QiM D T ρ0 A S' r) args s (kap S' - kap S0) (2 * (kap S' - kap S0)) A) (F0 m 244 ls []) := by
  have hT := km_TS_give_244 h
  unfold m_TS_give_244 at h
  have nn : nq S S := nq_rf
  refine lv_aload_n C.1 C.2.1 dX9_give_244 rfl (lv_at hl 0 rfl) ?_
  refine lv_iconst (v := (-1)) C.1 C.2.1 dX9_give_245 (by decide) ?_
  refine lv_iconst (v := 1) C.1 C.2.1 dX9_give_246 (by decide) ?_
  obtain ⟨⟨S_33, v_34⟩, hv_34, h⟩ := bnd h
  have hkn := nq_kap nn
  have hk1 := km_TS_become hv_34
  have hT2 := km_TS_give_250 h
  refine x_callViM (q := (RX9, TX9, 6)) (As := [.int (-1 : Int32), .int (1 : Int32)]) (rest := []) C w (k_TS_become l D T ρ g H.size S hv_34) vX9_113 (hRK (by decide) (by decide)) obC7 (by decide) rfl rfl rfl hl.1 (Nat.le_of_ble_eq_true rfl) (hcM hm hkn hk1 hT2) dX9_give_247 (fun ρ1 H locs hag w => ?_)
  replace ha := ha.trans hag
  rw [← hag 7 (by decide)] at hl
  refine W.widen (k := kap S_33 - kap S0) (n := 2 * (kap S_33 - kap S0)) (by omega) (by omega) ?_
  exact w_TS_give_250 C hr hk hcn hcw ha (by omega) w (lv_sub hl [] rfl) h
set_option maxRecDepth 100000 in
set_option maxHeartbeats 4000000 in
theorem w_TS_give_255 {g : Nat} {S : St} {y0 : Int32} (C : CallFix p m c cX9_give 4 s args tb RX9) (hr : meth.sig.returnType = (some .int)) (hk : meth.locks = false) (hcn : Kn Z A s s.heap) (hcw : Kw Z s) {S' : St} {r : Int32} (ha : Ag ρ0 ρ) (hm : kap S0 ≤ kap S) (w : Wn Yc D T ρ S A s H locs) (hl : lv_has ls 4 []) (h : m_TS_give_255 g S y0 = some (S', r)) : W p l e (rmK 7 153 (kap S' - kap S0)) s m args below meth c H locs (kap S - kap S0) (2 * (kap S - kap S0)) (MQ below (QiM D T ρ0 A S' r) args s (kap S' - kap S0) (2 * (kap S' - kap S0)) A) (F0 m 255 ls [.int y0]) := by
  have hT := km_TS_give_255 h
  unfold m_TS_give_255 at h
  have nn : nq S S := nq_rf
  obtain ⟨rfl, rfl⟩ := prI h
  exact x_iretM C w ha hr hk dX9_give_255 (by have := nq_kap nn; omega) (by have := nq_kap nn; omega)
set_option maxRecDepth 100000 in
set_option maxHeartbeats 4000000 in
theorem w_TS_give_285 {g : Nat} {S : St} {y0 : Int32} (C : CallFix p m c cX9_give 4 s args tb RX9) (hr : meth.sig.returnType = (some .int)) (hk : meth.locks = false) (hcn : Kn Z A s s.heap) (hcw : Kw Z s) {S' : St} {r : Int32} (ha : Ag ρ0 ρ) (hm : kap S0 ≤ kap S) (w : Wn Yc D T ρ S A s H locs) (hl : lv_has ls 4 []) (h : m_TS_give_285 g S y0 = some (S', r)) : W p l e (rmK 7 153 (kap S' - kap S0)) s m args below meth c H locs (kap S - kap S0) (2 * (kap S - kap S0)) (MQ below (QiM D T ρ0 A S' r) args s (kap S' - kap S0) (2 * (kap S' - kap S0)) A) (F0 m 285 ls [.int y0]) := by
  have hT := km_TS_give_285 h
  unfold m_TS_give_285 at h
  have nn : nq S S := nq_rf
  obtain ⟨rfl, rfl⟩ := prI h
  exact x_iretM C w ha hr hk dX9_give_285 (by have := nq_kap nn; omega) (by have := nq_kap nn; omega)
set_option maxRecDepth 100000 in
set_option maxHeartbeats 4000000 in
theorem w_TS_give_279 {g : Nat} {S : St} (C : CallFix p m c cX9_give 4 s args tb RX9) (hr : meth.sig.returnType = (some .int)) (hk : meth.locks = false) (hcn : Kn Z A s s.heap) (hcw : Kw Z s) {S' : St} {r : Int32} (ha : Ag ρ0 ρ) (hm : kap S0 ≤ kap S) (w : Wn Yc D T ρ S A s H locs) (hl : lv_has ls 4 [(0, .ref (ρ 7))]) (h : m_TS_give_279 g S = some (S', r)) : W p l e (rmK 7 153 (kap S' - kap S0)) s m args below meth c H locs (kap S - kap S0) (2 * (kap S - kap S0)) (MQ below (QiM D T ρ0 A S' r) args s (kap S' - kap S0) (2 * (kap S' - kap S0)) A) (F0 m 279 ls []) := by
  have hT := km_TS_give_279 h
  unfold m_TS_give_279 at h
  have nn : nq S S := nq_rf
  refine lv_aload_n C.1 C.2.1 dX9_give_279 rfl (lv_at hl 0 rfl) ?_
  refine lv_iconst (v := (-1)) C.1 C.2.1 dX9_give_280 (by decide) ?_
  refine lv_iconst (v := 1) C.1 C.2.1 dX9_give_281 (by decide) ?_
  obtain ⟨⟨S_38, v_39⟩, hv_39, h⟩ := bnd h
  have hkn := nq_kap nn
  have hk1 := km_TS_become hv_39
  have hT2 := km_TS_give_285 h
  refine x_callViM (q := (RX9, TX9, 6)) (As := [.int (-1 : Int32), .int (1 : Int32)]) (rest := []) C w (k_TS_become l D T ρ g H.size S hv_39) vX9_113 (hRK (by decide) (by decide)) obC7 (by decide) rfl rfl rfl hl.1 (Nat.le_of_ble_eq_true rfl) (hcM hm hkn hk1 hT2) dX9_give_282 (fun ρ1 H locs hag w => ?_)
  replace ha := ha.trans hag
  rw [← hag 7 (by decide)] at hl
  refine W.widen (k := kap S_38 - kap S0) (n := 2 * (kap S_38 - kap S0)) (by omega) (by omega) ?_
  exact w_TS_give_285 C hr hk hcn hcw ha (by omega) w (lv_sub hl [] rfl) h
set_option maxRecDepth 100000 in
set_option maxHeartbeats 4000000 in
theorem w_TS_give_0 {g : Nat} {S : St} {x1 : Nat} (C : CallFix p m c cX9_give 4 s args tb RX9) (hr : meth.sig.returnType = (some .int)) (hk : meth.locks = false) (hcn : Kn Z A s s.heap) (hcw : Kw Z s) {S' : St} {r : Int32} (ha : Ag ρ0 ρ) (hm : kap S0 ≤ kap S) (w : Wn Yc D T ρ S A s H locs) (hl : lv_has ls 4 [(0, .ref (ρ 7)), (1, .ref (Z.1 x1))]) (ho_x1 : x1 < 56) (h : m_TS_give g S x1 = some (S', r)) : W p l e (rmK 7 153 (kap S' - kap S0)) s m args below meth c H locs (kap S - kap S0) (2 * (kap S - kap S0)) (MQ below (QiM D T ρ0 A S' r) args s (kap S' - kap S0) (2 * (kap S' - kap S0)) A) (F0 m 0 ls []) := by
  have hT := km_TS_give h
  unfold m_TS_give at h
  have nn : nq S S := nq_rf
  refine lv_aload_n C.1 C.2.1 dX9_give_0 rfl (lv_at hl 0 rfl) ?_
  refine x_getC C w 4 fX9_23 obC7 rfl dX9_give_1 ?_
  refine lv_iconst (v := 1) C.1 C.2.1 dX9_give_4 (by decide) ?_
  obtain ⟨v_1, hv_1, h⟩ := bnd h
  refine x_callVi (q := (RX1, TX1, 12)) (As := [.int (1 : Int32)]) (rest := []) C w (k_Bn_textAt l D T ρ g H.size S hv_1) vX9_42 (hRK (by decide) (by decide)) obC4 (by decide) rfl rfl rfl hl.1 (Nat.le_of_ble_eq_true rfl) (hcK hT) dX9_give_5 (fun H locs w => ?_)
  refine lv_istore_n (lv' := [(2, .int v_1), (0, .ref (ρ 7)), (1, .ref (Z.1 x1))]) C.1 C.2.1 dX9_give_8 rfl hl (by decide) rfl (fun ls hl => ?_)
  refine lv_aload_n C.1 C.2.1 dX9_give_9 rfl (lv_at hl 1 rfl) ?_
  refine x_getC C w 23 fX9_37 obC7 rfl dX9_give_10 ?_
  obtain ⟨S_2, hS_2, h⟩ := bnd h
  replace nn : nq S_2 S := nq_tr (kq_Row_clear hS_2) nn
  refine x_callVv (q := (RX6, TX6, 4)) (As := []) (rest := []) C w (k_Row_clear l D T ρ g H.size S obC23 hS_2) vX9_46 (hRK (by decide) (by decide)) obC23 (by decide) rfl rfl rfl hl.1 (Nat.le_of_ble_eq_true rfl) (hcK hT) dX9_give_13 (fun H locs w => ?_)
  refine x_swm C w hcn gkX9_49 dX9_give_16 ?_
  refine lv_aload_n C.1 C.2.1 dX9_give_19 rfl (lv_at hl 2 rfl) ?_
  refine x_ord (rest := [.ref Z.2.2.1]) ho_x1 C w hcn hcw or_9 (hRK (by decide) (by decide)) hl.1 (Nat.le_of_ble_eq_true rfl) (hcK hT) dX9_give_20 (fun ρ_3 H locs hag w => ?_)
  replace ha := ha.trans hag
  rw [← hag 7 (by decide)] at hl
  obtain ⟨e_4, he_4, h⟩ := bnd h
  refine x_swl C w hcn he_4 dX9_give_23 ?_
  by_cases hz24_0 : (swT.getD e_4 0) = (1 : Int32)
  · replace h := ift hz24_0 h
    refine lv_tableIn (off := 80) (tgt := 104) C.1 C.2.1 dX9_give_24 (by rw [hz24_0]; decide) (by rw [hz24_0]; decide) (by rw [hz24_0]; decide +kernel) (by decide) ?_
    refine lv_aload_n C.1 C.2.1 dX9_give_104 rfl (lv_at hl 1 rfl) ?_
    refine x_getC C w 4 fX9_23 obC7 rfl dX9_give_105 ?_
    refine lv_iload_n C.1 C.2.1 dX9_give_108 rfl (lv_at hl 0 rfl) ?_
    obtain ⟨⟨S_5, v_6⟩, hv_6, h⟩ := bnd h
    replace nn : nq S_5 S := nq_tr (kq_Bn_giveText hv_6) nn
    refine x_callVi (q := (RX1, TX1, 12)) (As := [.int v_1]) (rest := []) C w (k_Bn_giveText l D T ρ_3 g H.size S_2 hv_6) vX9_61 (hRK (by decide) (by decide)) obC4 (by decide) rfl rfl rfl hl.1 (Nat.le_of_ble_eq_true rfl) (hcK hT) dX9_give_109 (fun H locs w => ?_)
    obtain ⟨rfl, rfl⟩ := prI h
    exact x_iretM C w ha hr hk dX9_give_112 (by have := nq_kap nn; omega) (by have := nq_kap nn; omega)
  replace h := iff0 hz24_0 h
  by_cases hz24_1 : (swT.getD e_4 0) = (2 : Int32)
  · replace h := ift hz24_1 h
    refine lv_tableIn (off := 89) (tgt := 113) C.1 C.2.1 dX9_give_24 (by rw [hz24_1]; decide) (by rw [hz24_1]; decide) (by rw [hz24_1]; decide +kernel) (by decide) ?_
    refine lv_aload_n C.1 C.2.1 dX9_give_113 rfl (lv_at hl 1 rfl) ?_
    refine x_getC C w 4 fX9_23 obC7 rfl dX9_give_114 ?_
    refine lv_iconst (v := (-1)) C.1 C.2.1 dX9_give_117 (by decide) ?_
    obtain ⟨⟨S_7, v_8⟩, hv_8, h⟩ := bnd h
    replace nn : nq S_7 S := nq_tr (kq_Bn_giveText hv_8) nn
    refine x_callVi (q := (RX1, TX1, 12)) (As := [.int (-1 : Int32)]) (rest := []) C w (k_Bn_giveText l D T ρ_3 g H.size S_2 hv_8) vX9_61 (hRK (by decide) (by decide)) obC4 (by decide) rfl rfl rfl hl.1 (Nat.le_of_ble_eq_true rfl) (hcK hT) dX9_give_118 (fun H locs w => ?_)
    obtain ⟨rfl, rfl⟩ := prI h
    exact x_iretM C w ha hr hk dX9_give_121 (by have := nq_kap nn; omega) (by have := nq_kap nn; omega)
  replace h := iff0 hz24_1 h
  by_cases hz24_2 : (swT.getD e_4 0) = (3 : Int32)
  · replace h := ift hz24_2 h
    refine lv_tableIn (off := 98) (tgt := 122) C.1 C.2.1 dX9_give_24 (by rw [hz24_2]; decide) (by rw [hz24_2]; decide) (by rw [hz24_2]; decide +kernel) (by decide) ?_
    refine lv_aload_n C.1 C.2.1 dX9_give_122 rfl (lv_at hl 1 rfl) ?_
    refine x_getC C w 4 fX9_23 obC7 rfl dX9_give_123 ?_
    refine lv_iload_n C.1 C.2.1 dX9_give_126 rfl (lv_at hl 0 rfl) ?_
    obtain ⟨S_9, hS_9, h⟩ := bnd h
    have hkn := nq_kap nn
    have hk1 := km_Bn_addText hS_9
    have hT2 := km_TS_give_130 h
    refine x_callVvM (q := (RX1, TX1, 12)) (As := [.int v_1]) (rest := []) C w (k_Bn_addText l D T ρ_3 g H.size S_2 hS_9) vX9_64 (hRK (by decide) (by decide)) obC4 (by decide) rfl rfl rfl hl.1 (Nat.le_of_ble_eq_true rfl) (hcM hm hkn hk1 hT2) dX9_give_127 (fun ρ1 H locs hag w => ?_)
    replace ha := ha.trans hag
    rw [← hag 7 (by decide)] at hl
    refine W.widen (k := kap S_9 - kap S0) (n := 2 * (kap S_9 - kap S0)) (by omega) (by omega) ?_
    exact w_TS_give_130 C hr hk hcn hcw ha (by omega) w (lv_sub hl [1] rfl) h
  replace h := iff0 hz24_2 h
  by_cases hz24_3 : (swT.getD e_4 0) = (4 : Int32)
  · replace h := ift hz24_3 h
    refine lv_tableIn (off := 126) (tgt := 150) C.1 C.2.1 dX9_give_24 (by rw [hz24_3]; decide) (by rw [hz24_3]; decide) (by rw [hz24_3]; decide +kernel) (by decide) ?_
    refine lv_aload_n C.1 C.2.1 dX9_give_150 rfl (lv_at hl 1 rfl) ?_
    refine lv_iload_n C.1 C.2.1 dX9_give_151 rfl (lv_at hl 0 rfl) ?_
    obtain ⟨⟨S_10, v_11⟩, hv_11, h⟩ := bnd h
    have hkn := nq_kap nn
    have hk1 := km_TS_intern hv_11
    have hT2 := km_TS_give_155 h
    refine x_callViM (q := (RX9, TX9, 6)) (As := [.int v_1]) (rest := []) C w (k_TS_intern l D T ρ_3 g H.size S_2 hv_11) vX9_73 (hRK (by decide) (by decide)) obC7 (by decide) rfl rfl rfl hl.1 (Nat.le_of_ble_eq_true rfl) (hcM hm hkn hk1 hT2) dX9_give_152 (fun ρ1 H locs hag w => ?_)
    replace ha := ha.trans hag
    rw [← hag 7 (by decide)] at hl
    refine W.widen (k := kap S_10 - kap S0) (n := 2 * (kap S_10 - kap S0)) (by omega) (by omega) ?_
    exact w_TS_give_155 C hr hk hcn hcw ha (by omega) w (lv_sub hl [] rfl) h
  replace h := iff0 hz24_3 h
  by_cases hz24_4 : (swT.getD e_4 0) = (5 : Int32)
  · replace h := ift hz24_4 h
    refine lv_tableIn (off := 132) (tgt := 156) C.1 C.2.1 dX9_give_24 (by rw [hz24_4]; decide) (by rw [hz24_4]; decide) (by rw [hz24_4]; decide +kernel) (by decide) ?_
    refine lv_aload_n C.1 C.2.1 dX9_give_156 rfl (lv_at hl 1 rfl) ?_
    obtain ⟨⟨S_12, v_13⟩, hv_13, h⟩ := bnd h
    have hkn := nq_kap nn
    have hk1 := km_TS_join hv_13
    have hT2 := km_TS_give_160 h
    refine x_callViC (q := (RX9, TX9, 6)) (As := []) (rest := []) C w hcn hcw (k_TS_join l Z D T ρ_3 g H.size S_2 hv_13) vX9_76 (hRK (by decide) (by decide)) obC7 (by decide) rfl rfl rfl hl.1 (Nat.le_of_ble_eq_true rfl) (hcM hm hkn hk1 hT2) dX9_give_157 (fun ρ1 H locs hag w => ?_)
    replace ha := ha.trans hag
    rw [← hag 7 (by decide)] at hl
    refine W.widen (k := kap S_12 - kap S0) (n := 2 * (kap S_12 - kap S0)) (by omega) (by omega) ?_
    exact w_TS_give_160 C hr hk hcn hcw ha (by omega) w (lv_sub hl [] rfl) h
  replace h := iff0 hz24_4 h
  by_cases hz24_5 : (swT.getD e_4 0) = (6 : Int32)
  · replace h := ift hz24_5 h
    refine lv_tableIn (off := 137) (tgt := 161) C.1 C.2.1 dX9_give_24 (by rw [hz24_5]; decide) (by rw [hz24_5]; decide) (by rw [hz24_5]; decide +kernel) (by decide) ?_
    refine lv_aload_n C.1 C.2.1 dX9_give_161 rfl (lv_at hl 1 rfl) ?_
    refine lv_iload_n C.1 C.2.1 dX9_give_162 rfl (lv_at hl 0 rfl) ?_
    obtain ⟨⟨S_14, v_15⟩, hv_15, h⟩ := bnd h
    have hkn := nq_kap nn
    have hk1 := km_TS_part hv_15
    have hT2 := km_TS_give_166 h
    refine x_callViM (q := (RX9, TX9, 6)) (As := [.int v_1]) (rest := []) C w (k_TS_part l D T ρ_3 g H.size S_2 hv_15) vX9_79 (hRK (by decide) (by decide)) obC7 (by decide) rfl rfl rfl hl.1 (Nat.le_of_ble_eq_true rfl) (hcM hm hkn hk1 hT2) dX9_give_163 (fun ρ1 H locs hag w => ?_)
    replace ha := ha.trans hag
    rw [← hag 7 (by decide)] at hl
    refine W.widen (k := kap S_14 - kap S0) (n := 2 * (kap S_14 - kap S0)) (by omega) (by omega) ?_
    exact w_TS_give_166 C hr hk hcn hcw ha (by omega) w (lv_sub hl [] rfl) h
  replace h := iff0 hz24_5 h
  by_cases hz24_6 : (swT.getD e_4 0) = (7 : Int32)
  · replace h := ift hz24_6 h
    refine lv_tableIn (off := 143) (tgt := 167) C.1 C.2.1 dX9_give_24 (by rw [hz24_6]; decide) (by rw [hz24_6]; decide) (by rw [hz24_6]; decide +kernel) (by decide) ?_
    refine lv_aload_n C.1 C.2.1 dX9_give_167 rfl (lv_at hl 1 rfl) ?_
    refine lv_iload_n C.1 C.2.1 dX9_give_168 rfl (lv_at hl 0 rfl) ?_
    refine lv_iconst (v := 0) C.1 C.2.1 dX9_give_169 (by decide) ?_
    obtain ⟨⟨S_16, v_17⟩, hv_17, h⟩ := bnd h
    have hkn := nq_kap nn
    have hk1 := km_TS_trim hv_17
    have hT2 := km_TS_give_173 h
    refine x_callViM (q := (RX9, TX9, 6)) (As := [.int v_1, .int (0 : Int32)]) (rest := []) C w (k_TS_trim l D T ρ_3 g H.size S_2 hv_17) vX9_82 (hRK (by decide) (by decide)) obC7 (by decide) rfl rfl rfl hl.1 (Nat.le_of_ble_eq_true rfl) (hcM hm hkn hk1 hT2) dX9_give_170 (fun ρ1 H locs hag w => ?_)
    replace ha := ha.trans hag
    rw [← hag 7 (by decide)] at hl
    refine W.widen (k := kap S_16 - kap S0) (n := 2 * (kap S_16 - kap S0)) (by omega) (by omega) ?_
    exact w_TS_give_173 C hr hk hcn hcw ha (by omega) w (lv_sub hl [] rfl) h
  replace h := iff0 hz24_6 h
  by_cases hz24_7 : (swT.getD e_4 0) = (8 : Int32)
  · replace h := ift hz24_7 h
    refine lv_tableIn (off := 150) (tgt := 174) C.1 C.2.1 dX9_give_24 (by rw [hz24_7]; decide) (by rw [hz24_7]; decide) (by rw [hz24_7]; decide +kernel) (by decide) ?_
    refine lv_aload_n C.1 C.2.1 dX9_give_174 rfl (lv_at hl 1 rfl) ?_
    refine lv_iload_n C.1 C.2.1 dX9_give_175 rfl (lv_at hl 0 rfl) ?_
    refine lv_iconst (v := 1) C.1 C.2.1 dX9_give_176 (by decide) ?_
    obtain ⟨⟨S_18, v_19⟩, hv_19, h⟩ := bnd h
    have hkn := nq_kap nn
    have hk1 := km_TS_trim hv_19
    have hT2 := km_TS_give_180 h
    refine x_callViM (q := (RX9, TX9, 6)) (As := [.int v_1, .int (1 : Int32)]) (rest := []) C w (k_TS_trim l D T ρ_3 g H.size S_2 hv_19) vX9_82 (hRK (by decide) (by decide)) obC7 (by decide) rfl rfl rfl hl.1 (Nat.le_of_ble_eq_true rfl) (hcM hm hkn hk1 hT2) dX9_give_177 (fun ρ1 H locs hag w => ?_)
    replace ha := ha.trans hag
    rw [← hag 7 (by decide)] at hl
    refine W.widen (k := kap S_18 - kap S0) (n := 2 * (kap S_18 - kap S0)) (by omega) (by omega) ?_
    exact w_TS_give_180 C hr hk hcn hcw ha (by omega) w (lv_sub hl [] rfl) h
  replace h := iff0 hz24_7 h
  by_cases hz24_8 : (swT.getD e_4 0) = (9 : Int32)
  · replace h := ift hz24_8 h
    refine lv_tableIn (off := 157) (tgt := 181) C.1 C.2.1 dX9_give_24 (by rw [hz24_8]; decide) (by rw [hz24_8]; decide) (by rw [hz24_8]; decide +kernel) (by decide) ?_
    refine lv_aload_n C.1 C.2.1 dX9_give_181 rfl (lv_at hl 1 rfl) ?_
    refine lv_iload_n C.1 C.2.1 dX9_give_182 rfl (lv_at hl 0 rfl) ?_
    obtain ⟨⟨S_20, v_21⟩, hv_21, h⟩ := bnd h
    have hkn := nq_kap nn
    have hk1 := km_TS_repeat hv_21
    have hT2 := km_TS_give_186 h
    refine x_callViM (q := (RX9, TX9, 6)) (As := [.int v_1]) (rest := []) C w (k_TS_repeat l D T ρ_3 g H.size S_2 hv_21) vX9_86 (hRK (by decide) (by decide)) obC7 (by decide) rfl rfl rfl hl.1 (Nat.le_of_ble_eq_true rfl) (hcM hm hkn hk1 hT2) dX9_give_183 (fun ρ1 H locs hag w => ?_)
    replace ha := ha.trans hag
    rw [← hag 7 (by decide)] at hl
    refine W.widen (k := kap S_20 - kap S0) (n := 2 * (kap S_20 - kap S0)) (by omega) (by omega) ?_
    exact w_TS_give_186 C hr hk hcn hcw ha (by omega) w (lv_sub hl [] rfl) h
  replace h := iff0 hz24_8 h
  by_cases hz24_9 : (swT.getD e_4 0) = (10 : Int32)
  · replace h := ift hz24_9 h
    refine lv_tableIn (off := 163) (tgt := 187) C.1 C.2.1 dX9_give_24 (by rw [hz24_9]; decide) (by rw [hz24_9]; decide) (by rw [hz24_9]; decide +kernel) (by decide) ?_
    refine lv_aload_n C.1 C.2.1 dX9_give_187 rfl (lv_at hl 1 rfl) ?_
    refine lv_iload_n C.1 C.2.1 dX9_give_188 rfl (lv_at hl 0 rfl) ?_
    obtain ⟨⟨S_22, v_23⟩, hv_23, h⟩ := bnd h
    have hkn := nq_kap nn
    have hk1 := km_TS_change hv_23
    have hT2 := km_TS_give_192 h
    refine x_callViM (q := (RX9, TX9, 6)) (As := [.int v_1]) (rest := []) C w (k_TS_change l D T ρ_3 g H.size S_2 hv_23) vX9_89 (hRK (by decide) (by decide)) obC7 (by decide) rfl rfl rfl hl.1 (Nat.le_of_ble_eq_true rfl) (hcM hm hkn hk1 hT2) dX9_give_189 (fun ρ1 H locs hag w => ?_)
    replace ha := ha.trans hag
    rw [← hag 7 (by decide)] at hl
    refine W.widen (k := kap S_22 - kap S0) (n := 2 * (kap S_22 - kap S0)) (by omega) (by omega) ?_
    exact w_TS_give_192 C hr hk hcn hcw ha (by omega) w (lv_sub hl [] rfl) h
  replace h := iff0 hz24_9 h
  by_cases hz24_10 : (swT.getD e_4 0) = (11 : Int32)
  · replace h := ift hz24_10 h
    refine lv_tableIn (off := 169) (tgt := 193) C.1 C.2.1 dX9_give_24 (by rw [hz24_10]; decide) (by rw [hz24_10]; decide) (by rw [hz24_10]; decide +kernel) (by decide) ?_
    refine lv_aload_n C.1 C.2.1 dX9_give_193 rfl (lv_at hl 1 rfl) ?_
    refine lv_iload_n C.1 C.2.1 dX9_give_194 rfl (lv_at hl 0 rfl) ?_
    obtain ⟨⟨S_24, v_25⟩, hv_25, h⟩ := bnd h
    have hkn := nq_kap nn
    have hk1 := km_TS_replace hv_25
    have hT2 := km_TS_give_198 h
    refine x_callViM (q := (RX9, TX9, 6)) (As := [.int v_1]) (rest := []) C w (k_TS_replace l D T ρ_3 g H.size S_2 hv_25) vX9_92 (hRK (by decide) (by decide)) obC7 (by decide) rfl rfl rfl hl.1 (Nat.le_of_ble_eq_true rfl) (hcM hm hkn hk1 hT2) dX9_give_195 (fun ρ1 H locs hag w => ?_)
    replace ha := ha.trans hag
    rw [← hag 7 (by decide)] at hl
    refine W.widen (k := kap S_24 - kap S0) (n := 2 * (kap S_24 - kap S0)) (by omega) (by omega) ?_
    exact w_TS_give_198 C hr hk hcn hcw ha (by omega) w (lv_sub hl [] rfl) h
  replace h := iff0 hz24_10 h
  by_cases hz24_11 : (swT.getD e_4 0) = (12 : Int32)
  · replace h := ift hz24_11 h
    refine lv_tableIn (off := 175) (tgt := 199) C.1 C.2.1 dX9_give_24 (by rw [hz24_11]; decide) (by rw [hz24_11]; decide) (by rw [hz24_11]; decide +kernel) (by decide) ?_
    refine lv_aload_n C.1 C.2.1 dX9_give_199 rfl (lv_at hl 1 rfl) ?_
    refine lv_iload_n C.1 C.2.1 dX9_give_200 rfl (lv_at hl 0 rfl) ?_
    refine lv_iconst (v := 1) C.1 C.2.1 dX9_give_201 (by decide) ?_
    obtain ⟨⟨S_26, v_27⟩, hv_27, h⟩ := bnd h
    have hkn := nq_kap nn
    have hk1 := km_TS_changeCase hv_27
    have hT2 := km_TS_give_205 h
    refine x_callViM (q := (RX9, TX9, 6)) (As := [.int v_1, .int (1 : Int32)]) (rest := []) C w (k_TS_changeCase l D T ρ_3 g H.size S_2 hv_27) vX9_95 (hRK (by decide) (by decide)) obC7 (by decide) rfl rfl rfl hl.1 (Nat.le_of_ble_eq_true rfl) (hcM hm hkn hk1 hT2) dX9_give_202 (fun ρ1 H locs hag w => ?_)
    replace ha := ha.trans hag
    rw [← hag 7 (by decide)] at hl
    refine W.widen (k := kap S_26 - kap S0) (n := 2 * (kap S_26 - kap S0)) (by omega) (by omega) ?_
    exact w_TS_give_205 C hr hk hcn hcw ha (by omega) w (lv_sub hl [] rfl) h
  replace h := iff0 hz24_11 h
  by_cases hz24_12 : (swT.getD e_4 0) = (13 : Int32)
  · replace h := ift hz24_12 h
    refine lv_tableIn (off := 182) (tgt := 206) C.1 C.2.1 dX9_give_24 (by rw [hz24_12]; decide) (by rw [hz24_12]; decide) (by rw [hz24_12]; decide +kernel) (by decide) ?_
    refine lv_aload_n C.1 C.2.1 dX9_give_206 rfl (lv_at hl 1 rfl) ?_
    refine lv_iload_n C.1 C.2.1 dX9_give_207 rfl (lv_at hl 0 rfl) ?_
    refine lv_iconst (v := 0) C.1 C.2.1 dX9_give_208 (by decide) ?_
    obtain ⟨⟨S_28, v_29⟩, hv_29, h⟩ := bnd h
    have hkn := nq_kap nn
    have hk1 := km_TS_changeCase hv_29
    have hT2 := km_TS_give_212 h
    refine x_callViM (q := (RX9, TX9, 6)) (As := [.int v_1, .int (0 : Int32)]) (rest := []) C w (k_TS_changeCase l D T ρ_3 g H.size S_2 hv_29) vX9_95 (hRK (by decide) (by decide)) obC7 (by decide) rfl rfl rfl hl.1 (Nat.le_of_ble_eq_true rfl) (hcM hm hkn hk1 hT2) dX9_give_209 (fun ρ1 H locs hag w => ?_)
    replace ha := ha.trans hag
    rw [← hag 7 (by decide)] at hl
    refine W.widen (k := kap S_28 - kap S0) (n := 2 * (kap S_28 - kap S0)) (by omega) (by omega) ?_
    exact w_TS_give_212 C hr hk hcn hcw ha (by omega) w (lv_sub hl [] rfl) h
  replace h := iff0 hz24_12 h
  by_cases hz24_13 : (swT.getD e_4 0) = (14 : Int32)
  · replace h := ift hz24_13 h
    refine lv_tableIn (off := 189) (tgt := 213) C.1 C.2.1 dX9_give_24 (by rw [hz24_13]; decide) (by rw [hz24_13]; decide) (by rw [hz24_13]; decide +kernel) (by decide) ?_
    refine lv_aload_n C.1 C.2.1 dX9_give_213 rfl (lv_at hl 1 rfl) ?_
    refine x_getC C w 4 fX9_23 obC7 rfl dX9_give_214 ?_
    refine x_getC C w 76 fX9_98 obC4 rfl dX9_give_217 ?_
    refine lv_aload_n C.1 C.2.1 dX9_give_220 rfl (lv_at hl 1 rfl) ?_
    refine x_getC C w 4 fX9_23 obC7 rfl dX9_give_221 ?_
    refine lv_iconst (v := 1) C.1 C.2.1 dX9_give_224 (by decide) ?_
    obtain ⟨v_30, hv_30, h⟩ := bnd h
    refine x_callVi (q := (RX1, TX1, 12)) (As := [.int (1 : Int32)]) (rest := [.ref (ρ_3 76)]) C w (k_Bn_builderAt l D T ρ_3 g H.size S_2 hv_30) vX9_102 (hRK (by decide) (by decide)) obC4 (by decide) rfl rfl rfl hl.1 (Nat.le_of_ble_eq_true rfl) (hcK hT) dX9_give_225 (fun H locs w => ?_)
    obtain ⟨r_31, hr_31, h⟩ := bnd h
    refine x_bald C w hr_31 dX9_give_228 ?_
    refine lv_astore_n (lv' := [(3, .ref (ρ_3 r_31)), (2, .int v_1), (0, .ref (ρ_3 7)), (1, .ref (Z.1 x1))]) C.1 C.2.1 dX9_give_229 rfl hl (by decide) rfl (fun ls hl => ?_)
    refine lv_aload_n C.1 C.2.1 dX9_give_230 rfl (lv_at hl 2 rfl) ?_
    refine x_getC C w 23 fX9_37 obC7 rfl dX9_give_231 ?_
    refine lv_iconst (v := 0) C.1 C.2.1 dX9_give_234 (by decide) ?_
    refine lv_aload_n C.1 C.2.1 dX9_give_235 rfl (lv_at hl 0 rfl) ?_
    refine lv_iconst (v := 0) C.1 C.2.1 dX9_give_236 (by decide) ?_
    refine lv_aload_n C.1 C.2.1 dX9_give_237 rfl (lv_at hl 0 rfl) ?_
    refine x_getI C w fX9_105 (bR_ob hr_31) dX9_give_238 ?_
    obtain ⟨S_32, hS_32, h⟩ := bnd h
    have hkn := nq_kap nn
    have hk1 := km_Row_insert hS_32
    have hT2 := km_TS_give_244 h
    refine x_callVvM (q := (RX6, TX6, 4)) (As := [.int (0 : Int32), .ref (ρ_3 r_31), .int (0 : Int32), .int (gI S_2 r_31 2)]) (rest := []) C w (k_Row_insert l D T ρ_3 g H.size S_2 obC23 (bR_ob hr_31) hS_32) vX9_109 (hRK (by decide) (by decide)) obC23 (by decide) rfl rfl rfl hl.1 (Nat.le_of_ble_eq_true rfl) (hcM hm hkn hk1 hT2) dX9_give_241 (fun ρ1 H locs hag w => ?_)
    replace ha := ha.trans hag
    rw [← hag r_31 (ncR (bR_ob hr_31))] at hl
    rw [← hag 7 (by decide)] at hl
    refine W.widen (k := kap S_32 - kap S0) (n := 2 * (kap S_32 - kap S0)) (by omega) (by omega) ?_
    exact w_TS_give_244 C hr hk hcn hcw ha (by omega) w (lv_sub hl [2] rfl) h
  replace h := iff0 hz24_13 h
  by_cases hz24_14 : (swT.getD e_4 0) = (15 : Int32)
  · replace h := ift hz24_14 h
    refine lv_tableIn (off := 227) (tgt := 251) C.1 C.2.1 dX9_give_24 (by rw [hz24_14]; decide) (by rw [hz24_14]; decide) (by rw [hz24_14]; decide +kernel) (by decide) ?_
    refine lv_aload_n C.1 C.2.1 dX9_give_251 rfl (lv_at hl 1 rfl) ?_
    obtain ⟨⟨S_33, v_34⟩, hv_34, h⟩ := bnd h
    have hkn := nq_kap nn
    have hk1 := km_TS_from hv_34
    have hT2 := km_TS_give_255 h
    refine x_callViM (q := (RX9, TX9, 6)) (As := []) (rest := []) C w (k_TS_from l D T ρ_3 g H.size S_2 hv_34) vX9_116 (hRK (by decide) (by decide)) obC7 (by decide) rfl rfl rfl hl.1 (Nat.le_of_ble_eq_true rfl) (hcM hm hkn hk1 hT2) dX9_give_252 (fun ρ1 H locs hag w => ?_)
    replace ha := ha.trans hag
    rw [← hag 7 (by decide)] at hl
    refine W.widen (k := kap S_33 - kap S0) (n := 2 * (kap S_33 - kap S0)) (by omega) (by omega) ?_
    exact w_TS_give_255 C hr hk hcn hcw ha (by omega) w (lv_sub hl [] rfl) h
  replace h := iff0 hz24_14 h
  by_cases hz24_15 : (swT.getD e_4 0) = (16 : Int32)
  · replace h := ift hz24_15 h
    refine lv_tableIn (off := 232) (tgt := 256) C.1 C.2.1 dX9_give_24 (by rw [hz24_15]; decide) (by rw [hz24_15]; decide) (by rw [hz24_15]; decide +kernel) (by decide) ?_
    refine lv_aload_n C.1 C.2.1 dX9_give_256 rfl (lv_at hl 1 rfl) ?_
    refine x_getC C w 23 fX9_37 obC7 rfl dX9_give_257 ?_
    refine lv_aload_n C.1 C.2.1 dX9_give_260 rfl (lv_at hl 1 rfl) ?_
    refine x_getC C w 4 fX9_23 obC7 rfl dX9_give_261 ?_
    refine lv_iconst (v := 1) C.1 C.2.1 dX9_give_264 (by decide) ?_
    obtain ⟨v_35, hv_35, h⟩ := bnd h
    refine x_callVj (q := (RX1, TX1, 12)) (As := [.int (1 : Int32)]) (rest := [.ref (ρ_3 23)]) C w (k_Bn_wholeAt l D T ρ_3 g H.size S_2 hv_35) vX9_119 (hRK (by decide) (by decide)) obC4 (by decide) rfl rfl rfl hl.1 (Nat.le_of_ble_eq_true rfl) (hcK hT) dX9_give_265 (fun H locs w => ?_)
    refine lv_aload_n C.1 C.2.1 dX9_give_268 rfl (lv_at hl 1 rfl) ?_
    refine x_getC C w 4 fX9_23 obC7 rfl dX9_give_269 ?_
    refine lv_iconst (v := 2) C.1 C.2.1 dX9_give_272 (by decide) ?_
    obtain ⟨v_36, hv_36, h⟩ := bnd h
    refine x_callVj (q := (RX1, TX1, 12)) (As := [.int (2 : Int32)]) (rest := [.long v_35, .ref (ρ_3 23)]) C w (k_Bn_wholeAt l D T ρ_3 g H.size S_2 hv_36) vX9_119 (hRK (by decide) (by decide)) obC4 (by decide) rfl rfl rfl hl.1 (Nat.le_of_ble_eq_true rfl) (hcK hT) dX9_give_273 (fun H locs w => ?_)
    obtain ⟨S_37, hS_37, h⟩ := bnd h
    have hkn := nq_kap nn
    have hk1 := km_Row_addWhole hS_37
    have hT2 := km_TS_give_279 h
    refine x_callVvM (q := (RX6, TX6, 4)) (As := [.long v_35, .long v_36]) (rest := []) C w (k_Row_addWhole l D T ρ_3 g H.size S_2 obC23 hS_37) vX9_123 (hRK (by decide) (by decide)) obC23 (by decide) rfl rfl rfl hl.1 (Nat.le_of_ble_eq_true rfl) (hcM hm hkn hk1 hT2) dX9_give_276 (fun ρ1 H locs hag w => ?_)
    replace ha := ha.trans hag
    rw [← hag 7 (by decide)] at hl
    refine W.widen (k := kap S_37 - kap S0) (n := 2 * (kap S_37 - kap S0)) (by omega) (by omega) ?_
    exact w_TS_give_279 C hr hk hcn hcw ha (by omega) w (lv_sub hl [1] rfl) h
  replace h := iff0 hz24_15 h
  refine lv_tableOut (tgt := 286) C.1 C.2.1 dX9_give_24 (by have g0 := i_ne (v := (1 : Int32)) (k := 1) (by decide) hz24_0; have g1 := i_ne (v := (2 : Int32)) (k := 2) (by decide) hz24_1; have g2 := i_ne (v := (3 : Int32)) (k := 3) (by decide) hz24_2; have g3 := i_ne (v := (4 : Int32)) (k := 4) (by decide) hz24_3; have g4 := i_ne (v := (5 : Int32)) (k := 5) (by decide) hz24_4; have g5 := i_ne (v := (6 : Int32)) (k := 6) (by decide) hz24_5; have g6 := i_ne (v := (7 : Int32)) (k := 7) (by decide) hz24_6; have g7 := i_ne (v := (8 : Int32)) (k := 8) (by decide) hz24_7; have g8 := i_ne (v := (9 : Int32)) (k := 9) (by decide) hz24_8; have g9 := i_ne (v := (10 : Int32)) (k := 10) (by decide) hz24_9; have g10 := i_ne (v := (11 : Int32)) (k := 11) (by decide) hz24_10; have g11 := i_ne (v := (12 : Int32)) (k := 12) (by decide) hz24_11; have g12 := i_ne (v := (13 : Int32)) (k := 13) (by decide) hz24_12; have g13 := i_ne (v := (14 : Int32)) (k := 14) (by decide) hz24_13; have g14 := i_ne (v := (15 : Int32)) (k := 15) (by decide) hz24_14; have g15 := i_ne (v := (16 : Int32)) (k := 16) (by decide) hz24_15; omega) (by decide) ?_
  refine lv_iconst (v := 0) C.1 C.2.1 dX9_give_286 (by decide) ?_
  obtain ⟨rfl, rfl⟩ := prI h
  exact x_iretM C w ha hr hk dX9_give_287 (by have := nq_kap nn; omega) (by have := nq_kap nn; omega)
end S_TS_give
set_option maxRecDepth 100000 in
theorem k_TS_give (l : Launch) (Z : Ad) (D : va_G) (T : Cy) (ρ : Nat → Nat) (g sz : Nat) (S : St) {x1 : Nat} (ho_x1 : x1 < 56) {S' : St} {r : Int32} (h : m_TS_give g S x1 = some (S', r)) : MiC l Z D T ρ yX9_give cX9_give 4 (some .int) 7 153 S S' r [.ref (ρ 7), .ref (Z.1 x1)] sz :=
  x_inC (by decide) (Nat.le_of_ble_eq_true rfl) (fun p e s m below meth c ls C hr hk hcn hcw w hl => W.widen (Nat.zero_le _) (Nat.zero_le _) (w_TS_give_0 C hr hk hcn hcw Ag.rf (Nat.le_refl _) w hl ho_x1 h))
