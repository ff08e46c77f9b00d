theorem dX13_init_0 : decode cX13_init 0 = .ok (.aload_n 0, 1) := by decide +kernel
theorem dX13_init_1 : decode cX13_init 1 = .ok (.invokespecial 1, 3) := by decide +kernel
theorem dX13_init_4 : decode cX13_init 4 = .ok (.aload_n 0, 1) := by decide +kernel
theorem dX13_init_5 : decode cX13_init 5 = .ok (.bipush 28, 2) := by decide +kernel
theorem dX13_init_7 : decode cX13_init 7 = .ok (.newarray .long, 2) := by decide +kernel
theorem dX13_init_9 : decode cX13_init 9 = .ok (.dup, 1) := by decide +kernel
theorem dX13_init_10 : decode cX13_init 10 = .ok (.iconst 0, 1) := by decide +kernel
theorem dX13_init_11 : decode cX13_init 11 = .ok (.ldc2_w 7, 3) := by decide +kernel
theorem dX13_init_14 : decode cX13_init 14 = .ok (.lastore, 1) := by decide +kernel
theorem dX13_init_15 : decode cX13_init 15 = .ok (.dup, 1) := by decide +kernel
theorem dX13_init_16 : decode cX13_init 16 = .ok (.iconst 1, 1) := by decide +kernel
theorem dX13_init_17 : decode cX13_init 17 = .ok (.ldc2_w 9, 3) := by decide +kernel
theorem dX13_init_20 : decode cX13_init 20 = .ok (.lastore, 1) := by decide +kernel
theorem dX13_init_21 : decode cX13_init 21 = .ok (.dup, 1) := by decide +kernel
theorem dX13_init_22 : decode cX13_init 22 = .ok (.iconst 2, 1) := by decide +kernel
theorem dX13_init_23 : decode cX13_init 23 = .ok (.ldc2_w 11, 3) := by decide +kernel
theorem dX13_init_26 : decode cX13_init 26 = .ok (.lastore, 1) := by decide +kernel
theorem dX13_init_27 : decode cX13_init 27 = .ok (.dup, 1) := by decide +kernel
theorem dX13_init_28 : decode cX13_init 28 = .ok (.iconst 3, 1) := by decide +kernel
theorem dX13_init_29 : decode cX13_init 29 = .ok (.ldc2_w 13, 3) := by decide +kernel
theorem dX13_init_32 : decode cX13_init 32 = .ok (.lastore, 1) := by decide +kernel
theorem dX13_init_33 : decode cX13_init 33 = .ok (.dup, 1) := by decide +kernel
theorem dX13_init_34 : decode cX13_init 34 = .ok (.iconst 4, 1) := by decide +kernel
theorem dX13_init_35 : decode cX13_init 35 = .ok (.ldc2_w 15, 3) := by decide +kernel
theorem dX13_init_38 : decode cX13_init 38 = .ok (.lastore, 1) := by decide +kernel
theorem dX13_init_39 : decode cX13_init 39 = .ok (.dup, 1) := by decide +kernel
theorem dX13_init_40 : decode cX13_init 40 = .ok (.iconst 5, 1) := by decide +kernel
theorem dX13_init_41 : decode cX13_init 41 = .ok (.ldc2_w 17, 3) := by decide +kernel
theorem dX13_init_44 : decode cX13_init 44 = .ok (.lastore, 1) := by decide +kernel
theorem dX13_init_45 : decode cX13_init 45 = .ok (.dup, 1) := by decide +kernel
theorem dX13_init_46 : decode cX13_init 46 = .ok (.bipush 6, 2) := by decide +kernel
theorem dX13_init_48 : decode cX13_init 48 = .ok (.ldc2_w 19, 3) := by decide +kernel
theorem dX13_init_51 : decode cX13_init 51 = .ok (.lastore, 1) := by decide +kernel
theorem dX13_init_52 : decode cX13_init 52 = .ok (.dup, 1) := by decide +kernel
theorem dX13_init_53 : decode cX13_init 53 = .ok (.bipush 7, 2) := by decide +kernel
theorem dX13_init_55 : decode cX13_init 55 = .ok (.ldc2_w 21, 3) := by decide +kernel
theorem dX13_init_58 : decode cX13_init 58 = .ok (.lastore, 1) := by decide +kernel
theorem dX13_init_59 : decode cX13_init 59 = .ok (.dup, 1) := by decide +kernel
theorem dX13_init_60 : decode cX13_init 60 = .ok (.bipush 8, 2) := by decide +kernel
theorem dX13_init_62 : decode cX13_init 62 = .ok (.ldc2_w 23, 3) := by decide +kernel
theorem dX13_init_65 : decode cX13_init 65 = .ok (.lastore, 1) := by decide +kernel
theorem dX13_init_66 : decode cX13_init 66 = .ok (.dup, 1) := by decide +kernel
theorem dX13_init_67 : decode cX13_init 67 = .ok (.bipush 9, 2) := by decide +kernel
theorem dX13_init_69 : decode cX13_init 69 = .ok (.ldc2_w 25, 3) := by decide +kernel
theorem dX13_init_72 : decode cX13_init 72 = .ok (.lastore, 1) := by decide +kernel
theorem dX13_init_73 : decode cX13_init 73 = .ok (.dup, 1) := by decide +kernel
theorem dX13_init_74 : decode cX13_init 74 = .ok (.bipush 10, 2) := by decide +kernel
theorem dX13_init_76 : decode cX13_init 76 = .ok (.ldc2_w 27, 3) := by decide +kernel
theorem dX13_init_79 : decode cX13_init 79 = .ok (.lastore, 1) := by decide +kernel
theorem dX13_init_80 : decode cX13_init 80 = .ok (.dup, 1) := by decide +kernel
theorem dX13_init_81 : decode cX13_init 81 = .ok (.bipush 11, 2) := by decide +kernel
theorem dX13_init_83 : decode cX13_init 83 = .ok (.ldc2_w 29, 3) := by decide +kernel
theorem dX13_init_86 : decode cX13_init 86 = .ok (.lastore, 1) := by decide +kernel
theorem dX13_init_87 : decode cX13_init 87 = .ok (.dup, 1) := by decide +kernel
theorem dX13_init_88 : decode cX13_init 88 = .ok (.bipush 12, 2) := by decide +kernel
theorem dX13_init_90 : decode cX13_init 90 = .ok (.ldc2_w 31, 3) := by decide +kernel
theorem dX13_init_93 : decode cX13_init 93 = .ok (.lastore, 1) := by decide +kernel
theorem dX13_init_94 : decode cX13_init 94 = .ok (.dup, 1) := by decide +kernel
theorem dX13_init_95 : decode cX13_init 95 = .ok (.bipush 13, 2) := by decide +kernel
theorem dX13_init_97 : decode cX13_init 97 = .ok (.ldc2_w 33, 3) := by decide +kernel
theorem dX13_init_100 : decode cX13_init 100 = .ok (.lastore, 1) := by decide +kernel
theorem dX13_init_101 : decode cX13_init 101 = .ok (.dup, 1) := by decide +kernel
theorem dX13_init_102 : decode cX13_init 102 = .ok (.bipush 14, 2) := by decide +kernel
theorem dX13_init_104 : decode cX13_init 104 = .ok (.ldc2_w 35, 3) := by decide +kernel
theorem dX13_init_107 : decode cX13_init 107 = .ok (.lastore, 1) := by decide +kernel
theorem dX13_init_108 : decode cX13_init 108 = .ok (.dup, 1) := by decide +kernel
theorem dX13_init_109 : decode cX13_init 109 = .ok (.bipush 15, 2) := by decide +kernel
theorem dX13_init_111 : decode cX13_init 111 = .ok (.ldc2_w 37, 3) := by decide +kernel
theorem dX13_init_114 : decode cX13_init 114 = .ok (.lastore, 1) := by decide +kernel
theorem dX13_init_115 : decode cX13_init 115 = .ok (.dup, 1) := by decide +kernel
theorem dX13_init_116 : decode cX13_init 116 = .ok (.bipush 16, 2) := by decide +kernel
theorem dX13_init_118 : decode cX13_init 118 = .ok (.ldc2_w 39, 3) := by decide +kernel
theorem dX13_init_121 : decode cX13_init 121 = .ok (.lastore, 1) := by decide +kernel
theorem dX13_init_122 : decode cX13_init 122 = .ok (.dup, 1) := by decide +kernel
theorem dX13_init_123 : decode cX13_init 123 = .ok (.bipush 17, 2) := by decide +kernel
theorem dX13_init_125 : decode cX13_init 125 = .ok (.ldc2_w 41, 3) := by decide +kernel
theorem dX13_init_128 : decode cX13_init 128 = .ok (.lastore, 1) := by decide +kernel
theorem dX13_init_129 : decode cX13_init 129 = .ok (.dup, 1) := by decide +kernel
theorem dX13_init_130 : decode cX13_init 130 = .ok (.bipush 18, 2) := by decide +kernel
theorem dX13_init_132 : decode cX13_init 132 = .ok (.ldc2_w 43, 3) := by decide +kernel
theorem dX13_init_135 : decode cX13_init 135 = .ok (.lastore, 1) := by decide +kernel
theorem dX13_init_136 : decode cX13_init 136 = .ok (.dup, 1) := by decide +kernel
theorem dX13_init_137 : decode cX13_init 137 = .ok (.bipush 19, 2) := by decide +kernel
theorem dX13_init_139 : decode cX13_init 139 = .ok (.ldc2_w 45, 3) := by decide +kernel
theorem dX13_init_142 : decode cX13_init 142 = .ok (.lastore, 1) := by decide +kernel
theorem dX13_init_143 : decode cX13_init 143 = .ok (.dup, 1) := by decide +kernel
theorem dX13_init_144 : decode cX13_init 144 = .ok (.bipush 20, 2) := by decide +kernel
theorem dX13_init_146 : decode cX13_init 146 = .ok (.ldc2_w 47, 3) := by decide +kernel
theorem dX13_init_149 : decode cX13_init 149 = .ok (.lastore, 1) := by decide +kernel
theorem dX13_init_150 : decode cX13_init 150 = .ok (.dup, 1) := by decide +kernel
theorem dX13_init_151 : decode cX13_init 151 = .ok (.bipush 21, 2) := by decide +kernel
theorem dX13_init_153 : decode cX13_init 153 = .ok (.ldc2_w 49, 3) := by decide +kernel
theorem dX13_init_156 : decode cX13_init 156 = .ok (.lastore, 1) := by decide +kernel
theorem dX13_init_157 : decode cX13_init 157 = .ok (.dup, 1) := by decide +kernel
theorem dX13_init_158 : decode cX13_init 158 = .ok (.bipush 22, 2) := by decide +kernel
theorem dX13_init_160 : decode cX13_init 160 = .ok (.ldc2_w 51, 3) := by decide +kernel
theorem dX13_init_163 : decode cX13_init 163 = .ok (.lastore, 1) := by decide +kernel
theorem dX13_init_164 : decode cX13_init 164 = .ok (.dup, 1) := by decide +kernel
theorem dX13_init_165 : decode cX13_init 165 = .ok (.bipush 23, 2) := by decide +kernel
theorem dX13_init_167 : decode cX13_init 167 = .ok (.ldc2_w 53, 3) := by decide +kernel
theorem dX13_init_170 : decode cX13_init 170 = .ok (.lastore, 1) := by decide +kernel
theorem dX13_init_171 : decode cX13_init 171 = .ok (.dup, 1) := by decide +kernel
theorem dX13_init_172 : decode cX13_init 172 = .ok (.bipush 24, 2) := by decide +kernel
theorem dX13_init_174 : decode cX13_init 174 = .ok (.ldc2_w 55, 3) := by decide +kernel
theorem dX13_init_177 : decode cX13_init 177 = .ok (.lastore, 1) := by decide +kernel
theorem dX13_init_178 : decode cX13_init 178 = .ok (.dup, 1) := by decide +kernel
theorem dX13_init_179 : decode cX13_init 179 = .ok (.bipush 25, 2) := by decide +kernel
theorem dX13_init_181 : decode cX13_init 181 = .ok (.ldc2_w 57, 3) := by decide +kernel
theorem dX13_init_184 : decode cX13_init 184 = .ok (.lastore, 1) := by decide +kernel
theorem dX13_init_185 : decode cX13_init 185 = .ok (.dup, 1) := by decide +kernel
theorem dX13_init_186 : decode cX13_init 186 = .ok (.bipush 26, 2) := by decide +kernel
theorem dX13_init_188 : decode cX13_init 188 = .ok (.ldc2_w 59, 3) := by decide +kernel
theorem dX13_init_191 : decode cX13_init 191 = .ok (.lastore, 1) := by decide +kernel
theorem dX13_init_192 : decode cX13_init 192 = .ok (.dup, 1) := by decide +kernel
theorem dX13_init_193 : decode cX13_init 193 = .ok (.bipush 27, 2) := by decide +kernel
theorem dX13_init_195 : decode cX13_init 195 = .ok (.ldc2_w 61, 3) := by decide +kernel
theorem dX13_init_198 : decode cX13_init 198 = .ok (.lastore, 1) := by decide +kernel
theorem dX13_init_199 : decode cX13_init 199 = .ok (.putfield 63, 3) := by decide +kernel
theorem dX13_init_202 : decode cX13_init 202 = .ok (.aload_n 0, 1) := by decide +kernel
theorem dX13_init_203 : decode cX13_init 203 = .ok (.bipush 28, 2) := by decide +kernel
theorem dX13_init_205 : decode cX13_init 205 = .ok (.newarray .long, 2) := by decide +kernel
theorem dX13_init_207 : decode cX13_init 207 = .ok (.dup, 1) := by decide +kernel
theorem dX13_init_208 : decode cX13_init 208 = .ok (.iconst 0, 1) := by decide +kernel
theorem dX13_init_209 : decode cX13_init 209 = .ok (.ldc2_w 69, 3) := by decide +kernel
theorem dX13_init_212 : decode cX13_init 212 = .ok (.lastore, 1) := by decide +kernel
theorem dX13_init_213 : decode cX13_init 213 = .ok (.dup, 1) := by decide +kernel
theorem dX13_init_214 : decode cX13_init 214 = .ok (.iconst 1, 1) := by decide +kernel
theorem dX13_init_215 : decode cX13_init 215 = .ok (.ldc2_w 71, 3) := by decide +kernel
theorem dX13_init_218 : decode cX13_init 218 = .ok (.lastore, 1) := by decide +kernel
theorem dX13_init_219 : decode cX13_init 219 = .ok (.dup, 1) := by decide +kernel
theorem dX13_init_220 : decode cX13_init 220 = .ok (.iconst 2, 1) := by decide +kernel
theorem dX13_init_221 : decode cX13_init 221 = .ok (.ldc2_w 73, 3) := by decide +kernel
theorem dX13_init_224 : decode cX13_init 224 = .ok (.lastore, 1) := by decide +kernel
theorem dX13_init_225 : decode cX13_init 225 = .ok (.dup, 1) := by decide +kernel
theorem dX13_init_226 : decode cX13_init 226 = .ok (.iconst 3, 1) := by decide +kernel
theorem dX13_init_227 : decode cX13_init 227 = .ok (.ldc2_w 75, 3) := by decide +kernel
theorem dX13_init_230 : decode cX13_init 230 = .ok (.lastore, 1) := by decide +kernel
theorem dX13_init_231 : decode cX13_init 231 = .ok (.dup, 1) := by decide +kernel
theorem dX13_init_232 : decode cX13_init 232 = .ok (.iconst 4, 1) := by decide +kernel
theorem dX13_init_233 : decode cX13_init 233 = .ok (.ldc2_w 77, 3) := by decide +kernel
theorem dX13_init_236 : decode cX13_init 236 = .ok (.lastore, 1) := by decide +kernel
theorem dX13_init_237 : decode cX13_init 237 = .ok (.dup, 1) := by decide +kernel
theorem dX13_init_238 : decode cX13_init 238 = .ok (.iconst 5, 1) := by decide +kernel
theorem dX13_init_239 : decode cX13_init 239 = .ok (.ldc2_w 79, 3) := by decide +kernel
theorem dX13_init_242 : decode cX13_init 242 = .ok (.lastore, 1) := by decide +kernel
theorem dX13_init_243 : decode cX13_init 243 = .ok (.dup, 1) := by decide +kernel
theorem dX13_init_244 : decode cX13_init 244 = .ok (.bipush 6, 2) := by decide +kernel
theorem dX13_init_246 : decode cX13_init 246 = .ok (.ldc2_w 81, 3) := by decide +kernel
theorem dX13_init_249 : decode cX13_init 249 = .ok (.lastore, 1) := by decide +kernel
theorem dX13_init_250 : decode cX13_init 250 = .ok (.dup, 1) := by decide +kernel
theorem dX13_init_251 : decode cX13_init 251 = .ok (.bipush 7, 2) := by decide +kernel
theorem dX13_init_253 : decode cX13_init 253 = .ok (.ldc2_w 83, 3) := by decide +kernel
theorem dX13_init_256 : decode cX13_init 256 = .ok (.lastore, 1) := by decide +kernel
theorem dX13_init_257 : decode cX13_init 257 = .ok (.dup, 1) := by decide +kernel
theorem dX13_init_258 : decode cX13_init 258 = .ok (.bipush 8, 2) := by decide +kernel
theorem dX13_init_260 : decode cX13_init 260 = .ok (.ldc2_w 85, 3) := by decide +kernel
theorem dX13_init_263 : decode cX13_init 263 = .ok (.lastore, 1) := by decide +kernel
theorem dX13_init_264 : decode cX13_init 264 = .ok (.dup, 1) := by decide +kernel
theorem dX13_init_265 : decode cX13_init 265 = .ok (.bipush 9, 2) := by decide +kernel
theorem dX13_init_267 : decode cX13_init 267 = .ok (.ldc2_w 87, 3) := by decide +kernel
theorem dX13_init_270 : decode cX13_init 270 = .ok (.lastore, 1) := by decide +kernel
theorem dX13_init_271 : decode cX13_init 271 = .ok (.dup, 1) := by decide +kernel
theorem dX13_init_272 : decode cX13_init 272 = .ok (.bipush 10, 2) := by decide +kernel
theorem dX13_init_274 : decode cX13_init 274 = .ok (.ldc2_w 89, 3) := by decide +kernel
theorem dX13_init_277 : decode cX13_init 277 = .ok (.lastore, 1) := by decide +kernel
theorem dX13_init_278 : decode cX13_init 278 = .ok (.dup, 1) := by decide +kernel
theorem dX13_init_279 : decode cX13_init 279 = .ok (.bipush 11, 2) := by decide +kernel
theorem dX13_init_281 : decode cX13_init 281 = .ok (.ldc2_w 91, 3) := by decide +kernel
theorem dX13_init_284 : decode cX13_init 284 = .ok (.lastore, 1) := by decide +kernel
theorem dX13_init_285 : decode cX13_init 285 = .ok (.dup, 1) := by decide +kernel
theorem dX13_init_286 : decode cX13_init 286 = .ok (.bipush 12, 2) := by decide +kernel
theorem dX13_init_288 : decode cX13_init 288 = .ok (.ldc2_w 93, 3) := by decide +kernel
theorem dX13_init_291 : decode cX13_init 291 = .ok (.lastore, 1) := by decide +kernel
theorem dX13_init_292 : decode cX13_init 292 = .ok (.dup, 1) := by decide +kernel
theorem dX13_init_293 : decode cX13_init 293 = .ok (.bipush 13, 2) := by decide +kernel
theorem dX13_init_295 : decode cX13_init 295 = .ok (.ldc2_w 95, 3) := by decide +kernel
theorem dX13_init_298 : decode cX13_init 298 = .ok (.lastore, 1) := by decide +kernel
theorem dX13_init_299 : decode cX13_init 299 = .ok (.dup, 1) := by decide +kernel
theorem dX13_init_300 : decode cX13_init 300 = .ok (.bipush 14, 2) := by decide +kernel
theorem dX13_init_302 : decode cX13_init 302 = .ok (.ldc2_w 97, 3) := by decide +kernel
theorem dX13_init_305 : decode cX13_init 305 = .ok (.lastore, 1) := by decide +kernel
theorem dX13_init_306 : decode cX13_init 306 = .ok (.dup, 1) := by decide +kernel
theorem dX13_init_307 : decode cX13_init 307 = .ok (.bipush 15, 2) := by decide +kernel
theorem dX13_init_309 : decode cX13_init 309 = .ok (.ldc2_w 99, 3) := by decide +kernel
theorem dX13_init_312 : decode cX13_init 312 = .ok (.lastore, 1) := by decide +kernel
theorem dX13_init_313 : decode cX13_init 313 = .ok (.dup, 1) := by decide +kernel
theorem dX13_init_314 : decode cX13_init 314 = .ok (.bipush 16, 2) := by decide +kernel
theorem dX13_init_316 : decode cX13_init 316 = .ok (.ldc2_w 101, 3) := by decide +kernel
theorem dX13_init_319 : decode cX13_init 319 = .ok (.lastore, 1) := by decide +kernel
theorem dX13_init_320 : decode cX13_init 320 = .ok (.dup, 1) := by decide +kernel
theorem dX13_init_321 : decode cX13_init 321 = .ok (.bipush 17, 2) := by decide +kernel
theorem dX13_init_323 : decode cX13_init 323 = .ok (.ldc2_w 103, 3) := by decide +kernel
theorem dX13_init_326 : decode cX13_init 326 = .ok (.lastore, 1) := by decide +kernel
theorem dX13_init_327 : decode cX13_init 327 = .ok (.dup, 1) := by decide +kernel
theorem dX13_init_328 : decode cX13_init 328 = .ok (.bipush 18, 2) := by decide +kernel
theorem dX13_init_330 : decode cX13_init 330 = .ok (.ldc2_w 105, 3) := by decide +kernel
theorem dX13_init_333 : decode cX13_init 333 = .ok (.lastore, 1) := by decide +kernel
theorem dX13_init_334 : decode cX13_init 334 = .ok (.dup, 1) := by decide +kernel
theorem dX13_init_335 : decode cX13_init 335 = .ok (.bipush 19, 2) := by decide +kernel
theorem dX13_init_337 : decode cX13_init 337 = .ok (.ldc2_w 107, 3) := by decide +kernel
theorem dX13_init_340 : decode cX13_init 340 = .ok (.lastore, 1) := by decide +kernel
theorem dX13_init_341 : decode cX13_init 341 = .ok (.dup, 1) := by decide +kernel
theorem dX13_init_342 : decode cX13_init 342 = .ok (.bipush 20, 2) := by decide +kernel
theorem dX13_init_344 : decode cX13_init 344 = .ok (.ldc2_w 109, 3) := by decide +kernel
theorem dX13_init_347 : decode cX13_init 347 = .ok (.lastore, 1) := by decide +kernel
theorem dX13_init_348 : decode cX13_init 348 = .ok (.dup, 1) := by decide +kernel
theorem dX13_init_349 : decode cX13_init 349 = .ok (.bipush 21, 2) := by decide +kernel
theorem dX13_init_351 : decode cX13_init 351 = .ok (.ldc2_w 111, 3) := by decide +kernel
theorem dX13_init_354 : decode cX13_init 354 = .ok (.lastore, 1) := by decide +kernel
theorem dX13_init_355 : decode cX13_init 355 = .ok (.dup, 1) := by decide +kernel
theorem dX13_init_356 : decode cX13_init 356 = .ok (.bipush 22, 2) := by decide +kernel
theorem dX13_init_358 : decode cX13_init 358 = .ok (.ldc2_w 113, 3) := by decide +kernel
theorem dX13_init_361 : decode cX13_init 361 = .ok (.lastore, 1) := by decide +kernel
theorem dX13_init_362 : decode cX13_init 362 = .ok (.dup, 1) := by decide +kernel
theorem dX13_init_363 : decode cX13_init 363 = .ok (.bipush 23, 2) := by decide +kernel
theorem dX13_init_365 : decode cX13_init 365 = .ok (.ldc2_w 115, 3) := by decide +kernel
theorem dX13_init_368 : decode cX13_init 368 = .ok (.lastore, 1) := by decide +kernel
theorem dX13_init_369 : decode cX13_init 369 = .ok (.dup, 1) := by decide +kernel
theorem dX13_init_370 : decode cX13_init 370 = .ok (.bipush 24, 2) := by decide +kernel
theorem dX13_init_372 : decode cX13_init 372 = .ok (.ldc2_w 117, 3) := by decide +kernel
theorem dX13_init_375 : decode cX13_init 375 = .ok (.lastore, 1) := by decide +kernel
theorem dX13_init_376 : decode cX13_init 376 = .ok (.dup, 1) := by decide +kernel
theorem dX13_init_377 : decode cX13_init 377 = .ok (.bipush 25, 2) := by decide +kernel
theorem dX13_init_379 : decode cX13_init 379 = .ok (.ldc2_w 119, 3) := by decide +kernel
theorem dX13_init_382 : decode cX13_init 382 = .ok (.lastore, 1) := by decide +kernel
theorem dX13_init_383 : decode cX13_init 383 = .ok (.dup, 1) := by decide +kernel
theorem dX13_init_384 : decode cX13_init 384 = .ok (.bipush 26, 2) := by decide +kernel
theorem dX13_init_386 : decode cX13_init 386 = .ok (.ldc2_w 121, 3) := by decide +kernel
theorem dX13_init_389 : decode cX13_init 389 = .ok (.lastore, 1) := by decide +kernel
theorem dX13_init_390 : decode cX13_init 390 = .ok (.dup, 1) := by decide +kernel
theorem dX13_init_391 : decode cX13_init 391 = .ok (.bipush 27, 2) := by decide +kernel
theorem dX13_init_393 : decode cX13_init 393 = .ok (.ldc2_w 123, 3) := by decide +kernel
theorem dX13_init_396 : decode cX13_init 396 = .ok (.lastore, 1) := by decide +kernel
theorem dX13_init_397 : decode cX13_init 397 = .ok (.putfield 125, 3) := by decide +kernel
theorem dX13_init_400 : decode cX13_init 400 = .ok (.aload_n 0, 1) := by decide +kernel
theorem dX13_init_401 : decode cX13_init 401 = .ok (.bipush 28, 2) := by decide +kernel
theorem dX13_init_403 : decode cX13_init 403 = .ok (.newarray .int, 2) := by decide +kernel
theorem dX13_init_405 : decode cX13_init 405 = .ok (.dup, 1) := by decide +kernel
theorem dX13_init_406 : decode cX13_init 406 = .ok (.iconst 0, 1) := by decide +kernel
theorem dX13_init_407 : decode cX13_init 407 = .ok (.bipush 41, 2) := by decide +kernel
theorem dX13_init_409 : decode cX13_init 409 = .ok (.iastore, 1) := by decide +kernel
theorem dX13_init_410 : decode cX13_init 410 = .ok (.dup, 1) := by decide +kernel
theorem dX13_init_411 : decode cX13_init 411 = .ok (.iconst 1, 1) := by decide +kernel
theorem dX13_init_412 : decode cX13_init 412 = .ok (.iconst 1, 1) := by decide +kernel
theorem dX13_init_413 : decode cX13_init 413 = .ok (.iastore, 1) := by decide +kernel
theorem dX13_init_414 : decode cX13_init 414 = .ok (.dup, 1) := by decide +kernel
theorem dX13_init_415 : decode cX13_init 415 = .ok (.iconst 2, 1) := by decide +kernel
theorem dX13_init_416 : decode cX13_init 416 = .ok (.bipush 41, 2) := by decide +kernel
theorem dX13_init_418 : decode cX13_init 418 = .ok (.iastore, 1) := by decide +kernel
theorem dX13_init_419 : decode cX13_init 419 = .ok (.dup, 1) := by decide +kernel
theorem dX13_init_420 : decode cX13_init 420 = .ok (.iconst 3, 1) := by decide +kernel
theorem dX13_init_421 : decode cX13_init 421 = .ok (.bipush 41, 2) := by decide +kernel
theorem dX13_init_423 : decode cX13_init 423 = .ok (.iastore, 1) := by decide +kernel
theorem dX13_init_424 : decode cX13_init 424 = .ok (.dup, 1) := by decide +kernel
theorem dX13_init_425 : decode cX13_init 425 = .ok (.iconst 4, 1) := by decide +kernel
theorem dX13_init_426 : decode cX13_init 426 = .ok (.bipush 61, 2) := by decide +kernel
theorem dX13_init_428 : decode cX13_init 428 = .ok (.iastore, 1) := by decide +kernel
theorem dX13_init_429 : decode cX13_init 429 = .ok (.dup, 1) := by decide +kernel
theorem dX13_init_430 : decode cX13_init 430 = .ok (.iconst 5, 1) := by decide +kernel
theorem dX13_init_431 : decode cX13_init 431 = .ok (.sipush 442, 3) := by decide +kernel
theorem dX13_init_434 : decode cX13_init 434 = .ok (.iastore, 1) := by decide +kernel
theorem dX13_init_435 : decode cX13_init 435 = .ok (.dup, 1) := by decide +kernel
theorem dX13_init_436 : decode cX13_init 436 = .ok (.bipush 6, 2) := by decide +kernel
theorem dX13_init_438 : decode cX13_init 438 = .ok (.sipush 442, 3) := by decide +kernel
theorem dX13_init_441 : decode cX13_init 441 = .ok (.iastore, 1) := by decide +kernel
theorem dX13_init_442 : decode cX13_init 442 = .ok (.dup, 1) := by decide +kernel
theorem dX13_init_443 : decode cX13_init 443 = .ok (.bipush 7, 2) := by decide +kernel
theorem dX13_init_445 : decode cX13_init 445 = .ok (.sipush 442, 3) := by decide +kernel
theorem dX13_init_448 : decode cX13_init 448 = .ok (.iastore, 1) := by decide +kernel
theorem dX13_init_449 : decode cX13_init 449 = .ok (.dup, 1) := by decide +kernel
theorem dX13_init_450 : decode cX13_init 450 = .ok (.bipush 8, 2) := by decide +kernel
theorem dX13_init_452 : decode cX13_init 452 = .ok (.sipush 442, 3) := by decide +kernel
theorem dX13_init_455 : decode cX13_init 455 = .ok (.iastore, 1) := by decide +kernel
theorem dX13_init_456 : decode cX13_init 456 = .ok (.dup, 1) := by decide +kernel
theorem dX13_init_457 : decode cX13_init 457 = .ok (.bipush 9, 2) := by decide +kernel
theorem dX13_init_459 : decode cX13_init 459 = .ok (.bipush 42, 2) := by decide +kernel
theorem dX13_init_461 : decode cX13_init 461 = .ok (.iastore, 1) := by decide +kernel
theorem dX13_init_462 : decode cX13_init 462 = .ok (.dup, 1) := by decide +kernel
theorem dX13_init_463 : decode cX13_init 463 = .ok (.bipush 10, 2) := by decide +kernel
theorem dX13_init_465 : decode cX13_init 465 = .ok (.bipush 42, 2) := by decide +kernel
theorem dX13_init_467 : decode cX13_init 467 = .ok (.iastore, 1) := by decide +kernel
theorem dX13_init_468 : decode cX13_init 468 = .ok (.dup, 1) := by decide +kernel
theorem dX13_init_469 : decode cX13_init 469 = .ok (.bipush 11, 2) := by decide +kernel
theorem dX13_init_471 : decode cX13_init 471 = .ok (.sipush 542, 3) := by decide +kernel
theorem dX13_init_474 : decode cX13_init 474 = .ok (.iastore, 1) := by decide +kernel
theorem dX13_init_475 : decode cX13_init 475 = .ok (.dup, 1) := by decide +kernel
theorem dX13_init_476 : decode cX13_init 476 = .ok (.bipush 12, 2) := by decide +kernel
theorem dX13_init_478 : decode cX13_init 478 = .ok (.sipush 542, 3) := by decide +kernel
theorem dX13_init_481 : decode cX13_init 481 = .ok (.iastore, 1) := by decide +kernel
theorem dX13_init_482 : decode cX13_init 482 = .ok (.dup, 1) := by decide +kernel
theorem dX13_init_483 : decode cX13_init 483 = .ok (.bipush 13, 2) := by decide +kernel
theorem dX13_init_485 : decode cX13_init 485 = .ok (.sipush 542, 3) := by decide +kernel
theorem dX13_init_488 : decode cX13_init 488 = .ok (.iastore, 1) := by decide +kernel
theorem dX13_init_489 : decode cX13_init 489 = .ok (.dup, 1) := by decide +kernel
theorem dX13_init_490 : decode cX13_init 490 = .ok (.bipush 14, 2) := by decide +kernel
theorem dX13_init_492 : decode cX13_init 492 = .ok (.sipush 5542, 3) := by decide +kernel
theorem dX13_init_495 : decode cX13_init 495 = .ok (.iastore, 1) := by decide +kernel
theorem dX13_init_496 : decode cX13_init 496 = .ok (.dup, 1) := by decide +kernel
theorem dX13_init_497 : decode cX13_init 497 = .ok (.bipush 15, 2) := by decide +kernel
theorem dX13_init_499 : decode cX13_init 499 = .ok (.sipush 5542, 3) := by decide +kernel
theorem dX13_init_502 : decode cX13_init 502 = .ok (.iastore, 1) := by decide +kernel
theorem dX13_init_503 : decode cX13_init 503 = .ok (.dup, 1) := by decide +kernel
theorem dX13_init_504 : decode cX13_init 504 = .ok (.bipush 16, 2) := by decide +kernel
theorem dX13_init_506 : decode cX13_init 506 = .ok (.sipush 5541, 3) := by decide +kernel
theorem dX13_init_509 : decode cX13_init 509 = .ok (.iastore, 1) := by decide +kernel
theorem dX13_init_510 : decode cX13_init 510 = .ok (.dup, 1) := by decide +kernel
theorem dX13_init_511 : decode cX13_init 511 = .ok (.bipush 17, 2) := by decide +kernel
theorem dX13_init_513 : decode cX13_init 513 = .ok (.bipush 41, 2) := by decide +kernel
theorem dX13_init_515 : decode cX13_init 515 = .ok (.iastore, 1) := by decide +kernel
theorem dX13_init_516 : decode cX13_init 516 = .ok (.dup, 1) := by decide +kernel
theorem dX13_init_517 : decode cX13_init 517 = .ok (.bipush 18, 2) := by decide +kernel
theorem dX13_init_519 : decode cX13_init 519 = .ok (.bipush 41, 2) := by decide +kernel
theorem dX13_init_521 : decode cX13_init 521 = .ok (.iastore, 1) := by decide +kernel
theorem dX13_init_522 : decode cX13_init 522 = .ok (.dup, 1) := by decide +kernel
theorem dX13_init_523 : decode cX13_init 523 = .ok (.bipush 19, 2) := by decide +kernel
theorem dX13_init_525 : decode cX13_init 525 = .ok (.sipush 541, 3) := by decide +kernel
theorem dX13_init_528 : decode cX13_init 528 = .ok (.iastore, 1) := by decide +kernel
theorem dX13_init_529 : decode cX13_init 529 = .ok (.dup, 1) := by decide +kernel
theorem dX13_init_530 : decode cX13_init 530 = .ok (.bipush 20, 2) := by decide +kernel
theorem dX13_init_532 : decode cX13_init 532 = .ok (.sipush 5541, 3) := by decide +kernel
theorem dX13_init_535 : decode cX13_init 535 = .ok (.iastore, 1) := by decide +kernel
theorem dX13_init_536 : decode cX13_init 536 = .ok (.dup, 1) := by decide +kernel
theorem dX13_init_537 : decode cX13_init 537 = .ok (.bipush 21, 2) := by decide +kernel
theorem dX13_init_539 : decode cX13_init 539 = .ok (.sipush 4441, 3) := by decide +kernel
theorem dX13_init_542 : decode cX13_init 542 = .ok (.iastore, 1) := by decide +kernel
theorem dX13_init_543 : decode cX13_init 543 = .ok (.dup, 1) := by decide +kernel
theorem dX13_init_544 : decode cX13_init 544 = .ok (.bipush 22, 2) := by decide +kernel
theorem dX13_init_546 : decode cX13_init 546 = .ok (.sipush 5442, 3) := by decide +kernel
theorem dX13_init_549 : decode cX13_init 549 = .ok (.iastore, 1) := by decide +kernel
theorem dX13_init_550 : decode cX13_init 550 = .ok (.dup, 1) := by decide +kernel
theorem dX13_init_551 : decode cX13_init 551 = .ok (.bipush 23, 2) := by decide +kernel
theorem dX13_init_553 : decode cX13_init 553 = .ok (.sipush 5442, 3) := by decide +kernel
theorem dX13_init_556 : decode cX13_init 556 = .ok (.iastore, 1) := by decide +kernel
theorem dX13_init_557 : decode cX13_init 557 = .ok (.dup, 1) := by decide +kernel
theorem dX13_init_558 : decode cX13_init 558 = .ok (.bipush 24, 2) := by decide +kernel
theorem dX13_init_560 : decode cX13_init 560 = .ok (.sipush 5542, 3) := by decide +kernel
theorem dX13_init_563 : decode cX13_init 563 = .ok (.iastore, 1) := by decide +kernel
theorem dX13_init_564 : decode cX13_init 564 = .ok (.dup, 1) := by decide +kernel
theorem dX13_init_565 : decode cX13_init 565 = .ok (.bipush 25, 2) := by decide +kernel
theorem dX13_init_567 : decode cX13_init 567 = .ok (.sipush 5442, 3) := by decide +kernel
theorem dX13_init_570 : decode cX13_init 570 = .ok (.iastore, 1) := by decide +kernel
theorem dX13_init_571 : decode cX13_init 571 = .ok (.dup, 1) := by decide +kernel
theorem dX13_init_572 : decode cX13_init 572 = .ok (.bipush 26, 2) := by decide +kernel
theorem dX13_init_574 : decode cX13_init 574 = .ok (.sipush 442, 3) := by decide +kernel
theorem dX13_init_577 : decode cX13_init 577 = .ok (.iastore, 1) := by decide +kernel
theorem dX13_init_578 : decode cX13_init 578 = .ok (.dup, 1) := by decide +kernel
theorem dX13_init_579 : decode cX13_init 579 = .ok (.bipush 27, 2) := by decide +kernel
theorem dX13_init_581 : decode cX13_init 581 = .ok (.sipush 554, 3) := by decide +kernel
theorem dX13_init_584 : decode cX13_init 584 = .ok (.iastore, 1) := by decide +kernel
theorem dX13_init_585 : decode cX13_init 585 = .ok (.putfield 128, 3) := by decide +kernel
theorem dX13_init_588 : decode cX13_init 588 = .ok (.aload_n 0, 1) := by decide +kernel
theorem dX13_init_589 : decode cX13_init 589 = .ok (.bipush 28, 2) := by decide +kernel
theorem dX13_init_591 : decode cX13_init 591 = .ok (.newarray .int, 2) := by decide +kernel
theorem dX13_init_593 : decode cX13_init 593 = .ok (.dup, 1) := by decide +kernel
theorem dX13_init_594 : decode cX13_init 594 = .ok (.iconst 0, 1) := by decide +kernel
theorem dX13_init_595 : decode cX13_init 595 = .ok (.iconst 4, 1) := by decide +kernel
theorem dX13_init_596 : decode cX13_init 596 = .ok (.iastore, 1) := by decide +kernel
theorem dX13_init_597 : decode cX13_init 597 = .ok (.dup, 1) := by decide +kernel
theorem dX13_init_598 : decode cX13_init 598 = .ok (.iconst 1, 1) := by decide +kernel
theorem dX13_init_599 : decode cX13_init 599 = .ok (.bipush 51, 2) := by decide +kernel
theorem dX13_init_601 : decode cX13_init 601 = .ok (.iastore, 1) := by decide +kernel
theorem dX13_init_602 : decode cX13_init 602 = .ok (.dup, 1) := by decide +kernel
theorem dX13_init_603 : decode cX13_init 603 = .ok (.iconst 2, 1) := by decide +kernel
theorem dX13_init_604 : decode cX13_init 604 = .ok (.iconst 2, 1) := by decide +kernel
theorem dX13_init_605 : decode cX13_init 605 = .ok (.iastore, 1) := by decide +kernel
theorem dX13_init_606 : decode cX13_init 606 = .ok (.dup, 1) := by decide +kernel
theorem dX13_init_607 : decode cX13_init 607 = .ok (.iconst 3, 1) := by decide +kernel
theorem dX13_init_608 : decode cX13_init 608 = .ok (.bipush 41, 2) := by decide +kernel
theorem dX13_init_610 : decode cX13_init 610 = .ok (.iastore, 1) := by decide +kernel
theorem dX13_init_611 : decode cX13_init 611 = .ok (.dup, 1) := by decide +kernel
theorem dX13_init_612 : decode cX13_init 612 = .ok (.iconst 4, 1) := by decide +kernel
theorem dX13_init_613 : decode cX13_init 613 = .ok (.bipush 41, 2) := by decide +kernel
theorem dX13_init_615 : decode cX13_init 615 = .ok (.iastore, 1) := by decide +kernel
theorem dX13_init_616 : decode cX13_init 616 = .ok (.dup, 1) := by decide +kernel
theorem dX13_init_617 : decode cX13_init 617 = .ok (.iconst 5, 1) := by decide +kernel
theorem dX13_init_618 : decode cX13_init 618 = .ok (.bipush 41, 2) := by decide +kernel
theorem dX13_init_620 : decode cX13_init 620 = .ok (.iastore, 1) := by decide +kernel
theorem dX13_init_621 : decode cX13_init 621 = .ok (.dup, 1) := by decide +kernel
theorem dX13_init_622 : decode cX13_init 622 = .ok (.bipush 6, 2) := by decide +kernel
theorem dX13_init_624 : decode cX13_init 624 = .ok (.bipush 53, 2) := by decide +kernel
theorem dX13_init_626 : decode cX13_init 626 = .ok (.iastore, 1) := by decide +kernel
theorem dX13_init_627 : decode cX13_init 627 = .ok (.dup, 1) := by decide +kernel
theorem dX13_init_628 : decode cX13_init 628 = .ok (.bipush 7, 2) := by decide +kernel
theorem dX13_init_630 : decode cX13_init 630 = .ok (.bipush 43, 2) := by decide +kernel
theorem dX13_init_632 : decode cX13_init 632 = .ok (.iastore, 1) := by decide +kernel
theorem dX13_init_633 : decode cX13_init 633 = .ok (.dup, 1) := by decide +kernel
theorem dX13_init_634 : decode cX13_init 634 = .ok (.bipush 8, 2) := by decide +kernel
theorem dX13_init_636 : decode cX13_init 636 = .ok (.bipush 67, 2) := by decide +kernel
theorem dX13_init_638 : decode cX13_init 638 = .ok (.iastore, 1) := by decide +kernel
theorem dX13_init_639 : decode cX13_init 639 = .ok (.dup, 1) := by decide +kernel
theorem dX13_init_640 : decode cX13_init 640 = .ok (.bipush 9, 2) := by decide +kernel
theorem dX13_init_642 : decode cX13_init 642 = .ok (.sipush 657, 3) := by decide +kernel
theorem dX13_init_645 : decode cX13_init 645 = .ok (.iastore, 1) := by decide +kernel
theorem dX13_init_646 : decode cX13_init 646 = .ok (.dup, 1) := by decide +kernel
theorem dX13_init_647 : decode cX13_init 647 = .ok (.bipush 10, 2) := by decide +kernel
theorem dX13_init_649 : decode cX13_init 649 = .ok (.sipush 557, 3) := by decide +kernel
theorem dX13_init_652 : decode cX13_init 652 = .ok (.iastore, 1) := by decide +kernel
theorem dX13_init_653 : decode cX13_init 653 = .ok (.dup, 1) := by decide +kernel
theorem dX13_init_654 : decode cX13_init 654 = .ok (.bipush 11, 2) := by decide +kernel
theorem dX13_init_656 : decode cX13_init 656 = .ok (.sipush 557, 3) := by decide +kernel
theorem dX13_init_659 : decode cX13_init 659 = .ok (.iastore, 1) := by decide +kernel
theorem dX13_init_660 : decode cX13_init 660 = .ok (.dup, 1) := by decide +kernel
theorem dX13_init_661 : decode cX13_init 661 = .ok (.bipush 12, 2) := by decide +kernel
theorem dX13_init_663 : decode cX13_init 663 = .ok (.bipush 7, 2) := by decide +kernel
theorem dX13_init_665 : decode cX13_init 665 = .ok (.iastore, 1) := by decide +kernel
theorem dX13_init_666 : decode cX13_init 666 = .ok (.dup, 1) := by decide +kernel
theorem dX13_init_667 : decode cX13_init 667 = .ok (.bipush 13, 2) := by decide +kernel
theorem dX13_init_669 : decode cX13_init 669 = .ok (.bipush 57, 2) := by decide +kernel
theorem dX13_init_671 : decode cX13_init 671 = .ok (.iastore, 1) := by decide +kernel
theorem dX13_init_672 : decode cX13_init 672 = .ok (.dup, 1) := by decide +kernel
theorem dX13_init_673 : decode cX13_init 673 = .ok (.bipush 14, 2) := by decide +kernel
theorem dX13_init_675 : decode cX13_init 675 = .ok (.bipush 71, 2) := by decide +kernel
theorem dX13_init_677 : decode cX13_init 677 = .ok (.iastore, 1) := by decide +kernel
theorem dX13_init_678 : decode cX13_init 678 = .ok (.dup, 1) := by decide +kernel
theorem dX13_init_679 : decode cX13_init 679 = .ok (.bipush 15, 2) := by decide +kernel
theorem dX13_init_681 : decode cX13_init 681 = .ok (.bipush 72, 2) := by decide +kernel
theorem dX13_init_683 : decode cX13_init 683 = .ok (.iastore, 1) := by decide +kernel
theorem dX13_init_684 : decode cX13_init 684 = .ok (.dup, 1) := by decide +kernel
theorem dX13_init_685 : decode cX13_init 685 = .ok (.bipush 16, 2) := by decide +kernel
theorem dX13_init_687 : decode cX13_init 687 = .ok (.sipush 772, 3) := by decide +kernel
theorem dX13_init_690 : decode cX13_init 690 = .ok (.iastore, 1) := by decide +kernel
theorem dX13_init_691 : decode cX13_init 691 = .ok (.dup, 1) := by decide +kernel
theorem dX13_init_692 : decode cX13_init 692 = .ok (.bipush 17, 2) := by decide +kernel
theorem dX13_init_694 : decode cX13_init 694 = .ok (.bipush 51, 2) := by decide +kernel
theorem dX13_init_696 : decode cX13_init 696 = .ok (.iastore, 1) := by decide +kernel
theorem dX13_init_697 : decode cX13_init 697 = .ok (.dup, 1) := by decide +kernel
theorem dX13_init_698 : decode cX13_init 698 = .ok (.bipush 18, 2) := by decide +kernel
theorem dX13_init_700 : decode cX13_init 700 = .ok (.sipush 551, 3) := by decide +kernel
theorem dX13_init_703 : decode cX13_init 703 = .ok (.iastore, 1) := by decide +kernel
theorem dX13_init_704 : decode cX13_init 704 = .ok (.dup, 1) := by decide +kernel
theorem dX13_init_705 : decode cX13_init 705 = .ok (.bipush 19, 2) := by decide +kernel
theorem dX13_init_707 : decode cX13_init 707 = .ok (.sipush 542, 3) := by decide +kernel
theorem dX13_init_710 : decode cX13_init 710 = .ok (.iastore, 1) := by decide +kernel
theorem dX13_init_711 : decode cX13_init 711 = .ok (.dup, 1) := by decide +kernel
theorem dX13_init_712 : decode cX13_init 712 = .ok (.bipush 20, 2) := by decide +kernel
theorem dX13_init_714 : decode cX13_init 714 = .ok (.sipush 542, 3) := by decide +kernel
theorem dX13_init_717 : decode cX13_init 717 = .ok (.iastore, 1) := by decide +kernel
theorem dX13_init_718 : decode cX13_init 718 = .ok (.dup, 1) := by decide +kernel
theorem dX13_init_719 : decode cX13_init 719 = .ok (.bipush 21, 2) := by decide +kernel
theorem dX13_init_721 : decode cX13_init 721 = .ok (.bipush 42, 2) := by decide +kernel
theorem dX13_init_723 : decode cX13_init 723 = .ok (.iastore, 1) := by decide +kernel
theorem dX13_init_724 : decode cX13_init 724 = .ok (.dup, 1) := by decide +kernel
theorem dX13_init_725 : decode cX13_init 725 = .ok (.bipush 22, 2) := by decide +kernel
theorem dX13_init_727 : decode cX13_init 727 = .ok (.sipush 552, 3) := by decide +kernel
theorem dX13_init_730 : decode cX13_init 730 = .ok (.iastore, 1) := by decide +kernel
theorem dX13_init_731 : decode cX13_init 731 = .ok (.dup, 1) := by decide +kernel
theorem dX13_init_732 : decode cX13_init 732 = .ok (.bipush 23, 2) := by decide +kernel
theorem dX13_init_734 : decode cX13_init 734 = .ok (.sipush 552, 3) := by decide +kernel
theorem dX13_init_737 : decode cX13_init 737 = .ok (.iastore, 1) := by decide +kernel
theorem dX13_init_738 : decode cX13_init 738 = .ok (.dup, 1) := by decide +kernel
theorem dX13_init_739 : decode cX13_init 739 = .ok (.bipush 24, 2) := by decide +kernel
theorem dX13_init_741 : decode cX13_init 741 = .ok (.sipush 552, 3) := by decide +kernel
theorem dX13_init_744 : decode cX13_init 744 = .ok (.iastore, 1) := by decide +kernel
theorem dX13_init_745 : decode cX13_init 745 = .ok (.dup, 1) := by decide +kernel
theorem dX13_init_746 : decode cX13_init 746 = .ok (.bipush 25, 2) := by decide +kernel
theorem dX13_init_748 : decode cX13_init 748 = .ok (.bipush 85, 2) := by decide +kernel
theorem dX13_init_750 : decode cX13_init 750 = .ok (.iastore, 1) := by decide +kernel
theorem dX13_init_751 : decode cX13_init 751 = .ok (.dup, 1) := by decide +kernel
theorem dX13_init_752 : decode cX13_init 752 = .ok (.bipush 26, 2) := by decide +kernel
theorem dX13_init_754 : decode cX13_init 754 = .ok (.bipush 82, 2) := by decide +kernel
theorem dX13_init_756 : decode cX13_init 756 = .ok (.iastore, 1) := by decide +kernel
theorem dX13_init_757 : decode cX13_init 757 = .ok (.dup, 1) := by decide +kernel
theorem dX13_init_758 : decode cX13_init 758 = .ok (.bipush 27, 2) := by decide +kernel
theorem dX13_init_760 : decode cX13_init 760 = .ok (.iconst 5, 1) := by decide +kernel
theorem dX13_init_761 : decode cX13_init 761 = .ok (.iastore, 1) := by decide +kernel
theorem dX13_init_762 : decode cX13_init 762 = .ok (.putfield 132, 3) := by decide +kernel
theorem dX13_init_765 : decode cX13_init 765 = .ok (.aload_n 0, 1) := by decide +kernel
theorem dX13_init_766 : decode cX13_init 766 = .ok (.sipush 3000, 3) := by decide +kernel
theorem dX13_init_769 : decode cX13_init 769 = .ok (.newarray .int, 2) := by decide +kernel
theorem dX13_init_771 : decode cX13_init 771 = .ok (.putfield 135, 3) := by decide +kernel
theorem dX13_init_774 : decode cX13_init 774 = .ok (.aload_n 0, 1) := by decide +kernel
theorem dX13_init_775 : decode cX13_init 775 = .ok (.sipush 180, 3) := by decide +kernel
theorem dX13_init_778 : decode cX13_init 778 = .ok (.newarray .int, 2) := by decide +kernel
theorem dX13_init_780 : decode cX13_init 780 = .ok (.putfield 138, 3) := by decide +kernel
theorem dX13_init_783 : decode cX13_init 783 = .ok (.aload_n 0, 1) := by decide +kernel
theorem dX13_init_784 : decode cX13_init 784 = .ok (.sipush 180, 3) := by decide +kernel
theorem dX13_init_787 : decode cX13_init 787 = .ok (.newarray .int, 2) := by decide +kernel
theorem dX13_init_789 : decode cX13_init 789 = .ok (.putfield 141, 3) := by decide +kernel
theorem dX13_init_792 : decode cX13_init 792 = .ok (.aload_n 0, 1) := by decide +kernel
theorem dX13_init_793 : decode cX13_init 793 = .ok (.sipush 1800, 3) := by decide +kernel
theorem dX13_init_796 : decode cX13_init 796 = .ok (.newarray .int, 2) := by decide +kernel
theorem dX13_init_798 : decode cX13_init 798 = .ok (.putfield 144, 3) := by decide +kernel
theorem dX13_init_801 : decode cX13_init 801 = .ok (.aload_n 0, 1) := by decide +kernel
theorem dX13_init_802 : decode cX13_init 802 = .ok (.sipush 1800, 3) := by decide +kernel
theorem dX13_init_805 : decode cX13_init 805 = .ok (.newarray .int, 2) := by decide +kernel
theorem dX13_init_807 : decode cX13_init 807 = .ok (.putfield 147, 3) := by decide +kernel
theorem dX13_init_810 : decode cX13_init 810 = .ok (.aload_n 0, 1) := by decide +kernel
theorem dX13_init_811 : decode cX13_init 811 = .ok (.sipush 1800, 3) := by decide +kernel
theorem dX13_init_814 : decode cX13_init 814 = .ok (.newarray .long, 2) := by decide +kernel
theorem dX13_init_816 : decode cX13_init 816 = .ok (.putfield 150, 3) := by decide +kernel
theorem dX13_init_819 : decode cX13_init 819 = .ok (.aload_n 0, 1) := by decide +kernel
theorem dX13_init_820 : decode cX13_init 820 = .ok (.iconst 3, 1) := by decide +kernel
theorem dX13_init_821 : decode cX13_init 821 = .ok (.newarray .int, 2) := by decide +kernel
theorem dX13_init_823 : decode cX13_init 823 = .ok (.putfield 153, 3) := by decide +kernel
theorem dX13_init_826 : decode cX13_init 826 = .ok (.aload_n 0, 1) := by decide +kernel
theorem dX13_init_827 : decode cX13_init 827 = .ok (.sipush 6000, 3) := by decide +kernel
theorem dX13_init_830 : decode cX13_init 830 = .ok (.newarray .int, 2) := by decide +kernel
theorem dX13_init_832 : decode cX13_init 832 = .ok (.putfield 156, 3) := by decide +kernel
theorem dX13_init_835 : decode cX13_init 835 = .ok (.aload_n 0, 1) := by decide +kernel
theorem dX13_init_836 : decode cX13_init 836 = .ok (.bipush 48, 2) := by decide +kernel
theorem dX13_init_838 : decode cX13_init 838 = .ok (.newarray .int, 2) := by decide +kernel
theorem dX13_init_840 : decode cX13_init 840 = .ok (.putfield 159, 3) := by decide +kernel
theorem dX13_init_843 : decode cX13_init 843 = .ok (.aload_n 0, 1) := by decide +kernel
theorem dX13_init_844 : decode cX13_init 844 = .ok (.bipush 48, 2) := by decide +kernel
theorem dX13_init_846 : decode cX13_init 846 = .ok (.newarray .int, 2) := by decide +kernel
theorem dX13_init_848 : decode cX13_init 848 = .ok (.putfield 162, 3) := by decide +kernel
theorem dX13_init_851 : decode cX13_init 851 = .ok (.aload_n 0, 1) := by decide +kernel
theorem dX13_init_852 : decode cX13_init 852 = .ok (.iconst 2, 1) := by decide +kernel
theorem dX13_init_853 : decode cX13_init 853 = .ok (.newarray .int, 2) := by decide +kernel
theorem dX13_init_855 : decode cX13_init 855 = .ok (.putfield 165, 3) := by decide +kernel
theorem dX13_init_858 : decode cX13_init 858 = .ok (.aload_n 0, 1) := by decide +kernel
theorem dX13_init_859 : decode cX13_init 859 = .ok (.bipush 24, 2) := by decide +kernel
theorem dX13_init_861 : decode cX13_init 861 = .ok (.newarray .int, 2) := by decide +kernel
theorem dX13_init_863 : decode cX13_init 863 = .ok (.putfield 168, 3) := by decide +kernel
theorem dX13_init_866 : decode cX13_init 866 = .ok (.aload_n 0, 1) := by decide +kernel
theorem dX13_init_867 : decode cX13_init 867 = .ok (.sipush 401, 3) := by decide +kernel
theorem dX13_init_870 : decode cX13_init 870 = .ok (.newarray .int, 2) := by decide +kernel
theorem dX13_init_872 : decode cX13_init 872 = .ok (.putfield 171, 3) := by decide +kernel
theorem dX13_init_875 : decode cX13_init 875 = .ok (.aload_n 0, 1) := by decide +kernel
theorem dX13_init_876 : decode cX13_init 876 = .ok (.bipush 61, 2) := by decide +kernel
theorem dX13_init_878 : decode cX13_init 878 = .ok (.newarray .int, 2) := by decide +kernel
theorem dX13_init_880 : decode cX13_init 880 = .ok (.putfield 174, 3) := by decide +kernel
theorem dX13_init_883 : decode cX13_init 883 = .ok (.aload_n 0, 1) := by decide +kernel
theorem dX13_init_884 : decode cX13_init 884 = .ok (.bipush 61, 2) := by decide +kernel
theorem dX13_init_886 : decode cX13_init 886 = .ok (.newarray .int, 2) := by decide +kernel
theorem dX13_init_888 : decode cX13_init 888 = .ok (.putfield 177, 3) := by decide +kernel
theorem dX13_init_891 : decode cX13_init 891 = .ok (.aload_n 0, 1) := by decide +kernel
theorem dX13_init_892 : decode cX13_init 892 = .ok (.bipush 61, 2) := by decide +kernel
theorem dX13_init_894 : decode cX13_init 894 = .ok (.newarray .int, 2) := by decide +kernel
theorem dX13_init_896 : decode cX13_init 896 = .ok (.putfield 180, 3) := by decide +kernel
theorem dX13_init_899 : decode cX13_init 899 = .ok (.aload_n 0, 1) := by decide +kernel
theorem dX13_init_900 : decode cX13_init 900 = .ok (.bipush 61, 2) := by decide +kernel
theorem dX13_init_902 : decode cX13_init 902 = .ok (.newarray .int, 2) := by decide +kernel
theorem dX13_init_904 : decode cX13_init 904 = .ok (.putfield 183, 3) := by decide +kernel
theorem dX13_init_907 : decode cX13_init 907 = .ok (.aload_n 0, 1) := by decide +kernel
theorem dX13_init_908 : decode cX13_init 908 = .ok (.ldc 186, 2) := by decide +kernel
theorem dX13_init_910 : decode cX13_init 910 = .ok (.newarray .int, 2) := by decide +kernel
theorem dX13_init_912 : decode cX13_init 912 = .ok (.putfield 187, 3) := by decide +kernel
theorem dX13_init_915 : decode cX13_init 915 = .ok (.aload_n 0, 1) := by decide +kernel
theorem dX13_init_916 : decode cX13_init 916 = .ok (.sipush 1700, 3) := by decide +kernel
theorem dX13_init_919 : decode cX13_init 919 = .ok (.newarray .int, 2) := by decide +kernel
theorem dX13_init_921 : decode cX13_init 921 = .ok (.putfield 190, 3) := by decide +kernel
theorem dX13_init_924 : decode cX13_init 924 = .ok (.aload_n 0, 1) := by decide +kernel
theorem dX13_init_925 : decode cX13_init 925 = .ok (.sipush 1700, 3) := by decide +kernel
theorem dX13_init_928 : decode cX13_init 928 = .ok (.newarray .int, 2) := by decide +kernel
theorem dX13_init_930 : decode cX13_init 930 = .ok (.putfield 193, 3) := by decide +kernel
theorem dX13_init_933 : decode cX13_init 933 = .ok (.aload_n 0, 1) := by decide +kernel
theorem dX13_init_934 : decode cX13_init 934 = .ok (.bipush 90, 2) := by decide +kernel
theorem dX13_init_936 : decode cX13_init 936 = .ok (.newarray .int, 2) := by decide +kernel
theorem dX13_init_938 : decode cX13_init 938 = .ok (.putfield 196, 3) := by decide +kernel
theorem dX13_init_941 : decode cX13_init 941 = .ok (.aload_n 0, 1) := by decide +kernel
theorem dX13_init_942 : decode cX13_init 942 = .ok (.bipush 20, 2) := by decide +kernel
theorem dX13_init_944 : decode cX13_init 944 = .ok (.newarray .int, 2) := by decide +kernel
theorem dX13_init_946 : decode cX13_init 946 = .ok (.putfield 199, 3) := by decide +kernel
theorem dX13_init_949 : decode cX13_init 949 = .ok (.aload_n 0, 1) := by decide +kernel
theorem dX13_init_950 : decode cX13_init 950 = .ok (.bipush 24, 2) := by decide +kernel
theorem dX13_init_952 : decode cX13_init 952 = .ok (.newarray .int, 2) := by decide +kernel
theorem dX13_init_954 : decode cX13_init 954 = .ok (.putfield 202, 3) := by decide +kernel
theorem dX13_init_957 : decode cX13_init 957 = .ok (.aload_n 0, 1) := by decide +kernel
theorem dX13_init_958 : decode cX13_init 958 = .ok (.bipush 6, 2) := by decide +kernel
theorem dX13_init_960 : decode cX13_init 960 = .ok (.newarray .int, 2) := by decide +kernel
theorem dX13_init_962 : decode cX13_init 962 = .ok (.putfield 205, 3) := by decide +kernel
theorem dX13_init_965 : decode cX13_init 965 = .ok (.aload_n 0, 1) := by decide +kernel
theorem dX13_init_966 : decode cX13_init 966 = .ok (.bipush 6, 2) := by decide +kernel
theorem dX13_init_968 : decode cX13_init 968 = .ok (.newarray .int, 2) := by decide +kernel
theorem dX13_init_970 : decode cX13_init 970 = .ok (.putfield 208, 3) := by decide +kernel
theorem dX13_init_973 : decode cX13_init 973 = .ok (.aload_n 0, 1) := by decide +kernel
theorem dX13_init_974 : decode cX13_init 974 = .ok (.sipush 2400, 3) := by decide +kernel
theorem dX13_init_977 : decode cX13_init 977 = .ok (.newarray .int, 2) := by decide +kernel
theorem dX13_init_979 : decode cX13_init 979 = .ok (.putfield 211, 3) := by decide +kernel
theorem dX13_init_982 : decode cX13_init 982 = .ok (.aload_n 0, 1) := by decide +kernel
theorem dX13_init_983 : decode cX13_init 983 = .ok (.bipush 56, 2) := by decide +kernel
theorem dX13_init_985 : decode cX13_init 985 = .ok (.newarray .int, 2) := by decide +kernel
theorem dX13_init_987 : decode cX13_init 987 = .ok (.putfield 214, 3) := by decide +kernel
theorem dX13_init_990 : decode cX13_init 990 = .ok (.aload_n 0, 1) := by decide +kernel
theorem dX13_init_991 : decode cX13_init 991 = .ok (.bipush 12, 2) := by decide +kernel
theorem dX13_init_993 : decode cX13_init 993 = .ok (.newarray .long, 2) := by decide +kernel
theorem dX13_init_995 : decode cX13_init 995 = .ok (.putfield 217, 3) := by decide +kernel
theorem dX13_init_998 : decode cX13_init 998 = .ok (.aload_n 0, 1) := by decide +kernel
theorem dX13_init_999 : decode cX13_init 999 = .ok (.bipush 30, 2) := by decide +kernel
theorem dX13_init_1001 : decode cX13_init 1001 = .ok (.newarray .long, 2) := by decide +kernel
theorem dX13_init_1003 : decode cX13_init 1003 = .ok (.putfield 220, 3) := by decide +kernel
theorem dX13_init_1006 : decode cX13_init 1006 = .ok (.aload_n 0, 1) := by decide +kernel
theorem dX13_init_1007 : decode cX13_init 1007 = .ok (.sipush 600, 3) := by decide +kernel
theorem dX13_init_1010 : decode cX13_init 1010 = .ok (.newarray .int, 2) := by decide +kernel
theorem dX13_init_1012 : decode cX13_init 1012 = .ok (.putfield 223, 3) := by decide +kernel
theorem dX13_init_1015 : decode cX13_init 1015 = .ok (.aload_n 0, 1) := by decide +kernel
theorem dX13_init_1016 : decode cX13_init 1016 = .ok (.bipush 61, 2) := by decide +kernel
theorem dX13_init_1018 : decode cX13_init 1018 = .ok (.newarray .int, 2) := by decide +kernel
theorem dX13_init_1020 : decode cX13_init 1020 = .ok (.putfield 226, 3) := by decide +kernel
theorem dX13_init_1023 : decode cX13_init 1023 = .ok (.aload_n 0, 1) := by decide +kernel
theorem dX13_init_1024 : decode cX13_init 1024 = .ok (.bipush 61, 2) := by decide +kernel
theorem dX13_init_1026 : decode cX13_init 1026 = .ok (.newarray .int, 2) := by decide +kernel
theorem dX13_init_1028 : decode cX13_init 1028 = .ok (.putfield 229, 3) := by decide +kernel
theorem dX13_init_1031 : decode cX13_init 1031 = .ok (.aload_n 0, 1) := by decide +kernel
theorem dX13_init_1032 : decode cX13_init 1032 = .ok (.bipush 66, 2) := by decide +kernel
theorem dX13_init_1034 : decode cX13_init 1034 = .ok (.newarray .int, 2) := by decide +kernel
theorem dX13_init_1036 : decode cX13_init 1036 = .ok (.putfield 232, 3) := by decide +kernel
theorem dX13_init_1039 : decode cX13_init 1039 = .ok (.aload_n 0, 1) := by decide +kernel
theorem dX13_init_1040 : decode cX13_init 1040 = .ok (.sipush 402, 3) := by decide +kernel
theorem dX13_init_1043 : decode cX13_init 1043 = .ok (.newarray .int, 2) := by decide +kernel
theorem dX13_init_1045 : decode cX13_init 1045 = .ok (.putfield 235, 3) := by decide +kernel
theorem dX13_init_1048 : decode cX13_init 1048 = .ok (.aload_n 0, 1) := by decide +kernel
theorem dX13_init_1049 : decode cX13_init 1049 = .ok (.sipush 402, 3) := by decide +kernel
theorem dX13_init_1052 : decode cX13_init 1052 = .ok (.newarray .int, 2) := by decide +kernel
theorem dX13_init_1054 : decode cX13_init 1054 = .ok (.putfield 238, 3) := by decide +kernel
theorem dX13_init_1057 : decode cX13_init 1057 = .ok (.aload_n 0, 1) := by decide +kernel
theorem dX13_init_1058 : decode cX13_init 1058 = .ok (.sipush 6500, 3) := by decide +kernel
theorem dX13_init_1061 : decode cX13_init 1061 = .ok (.newarray .int, 2) := by decide +kernel
theorem dX13_init_1063 : decode cX13_init 1063 = .ok (.putfield 241, 3) := by decide +kernel
theorem dX13_init_1066 : decode cX13_init 1066 = .ok (.aload_n 0, 1) := by decide +kernel
theorem dX13_init_1067 : decode cX13_init 1067 = .ok (.iconst 0, 1) := by decide +kernel
theorem dX13_init_1068 : decode cX13_init 1068 = .ok (.invokevirtual 244, 3) := by decide +kernel
theorem dX13_init_1071 : decode cX13_init 1071 = .ok (.return_, 1) := by decide +kernel
theorem ncM_7 : Cond.constantLong RX13 7 (19636 : Int64) ∈ tb := (tb6 137 rfl rfl)
theorem ncM_9 : Cond.constantLong RX13 9 (480652 : Int64) ∈ tb := (tb6 138 rfl rfl)
theorem ncM_11 : Cond.constantLong RX13 11 (114201 : Int64) ∈ tb := (tb6 139 rfl rfl)
theorem ncM_13 : Cond.constantLong RX13 13 (317331022 : Int64) ∈ tb := (tb6 140 rfl rfl)
theorem ncM_15 : Cond.constantLong RX13 15 (343342 : Int64) ∈ tb := (tb6 141 rfl rfl)
theorem ncM_17 : Cond.constantLong RX13 17 (624037 : Int64) ∈ tb := (tb6 142 rfl rfl)
theorem ncM_19 : Cond.constantLong RX13 19 (5821484 : Int64) ∈ tb := (tb6 143 rfl rfl)
theorem ncM_21 : Cond.constantLong RX13 21 (1451365 : Int64) ∈ tb := (tb6 144 rfl rfl)
theorem ncM_23 : Cond.constantLong RX13 23 (16322738 : Int64) ∈ tb := (tb6 145 rfl rfl)
theorem ncM_25 : Cond.constantLong RX13 25 (263784 : Int64) ∈ tb := (tb6 146 rfl rfl)
theorem ncM_27 : Cond.constantLong RX13 27 (408362632 : Int64) ∈ tb := (tb6 147 rfl rfl)
theorem ncM_29 : Cond.constantLong RX13 29 (702772 : Int64) ∈ tb := (tb6 148 rfl rfl)
theorem ncM_31 : Cond.constantLong RX13 31 (17278420 : Int64) ∈ tb := (tb6 149 rfl rfl)
theorem ncM_33 : Cond.constantLong RX13 33 (72564293 : Int64) ∈ tb := (tb6 150 rfl rfl)
theorem ncM_35 : Cond.constantLong RX13 35 (552909459 : Int64) ∈ tb := (tb6 151 rfl rfl)
theorem ncM_37 : Cond.constantLong RX13 37 (509824180 : Int64) ∈ tb := (tb6 152 rfl rfl)
theorem ncM_39 : Cond.constantLong RX13 39 (525908 : Int64) ∈ tb := (tb6 153 rfl rfl)
theorem ncM_41 : Cond.constantLong RX13 41 (674093 : Int64) ∈ tb := (tb6 154 rfl rfl)
theorem ncM_43 : Cond.constantLong RX13 43 (20597040 : Int64) ∈ tb := (tb6 155 rfl rfl)
theorem ncM_45 : Cond.constantLong RX13 45 (609752116 : Int64) ∈ tb := (tb6 156 rfl rfl)
theorem ncM_47 : Cond.constantLong RX13 47 (109099237 : Int64) ∈ tb := (tb6 157 rfl rfl)
theorem ncM_49 : Cond.constantLong RX13 49 (19512296549 : Int64) ∈ tb := (tb6 158 rfl rfl)
theorem ncM_51 : Cond.constantLong RX13 51 (206276 : Int64) ∈ tb := (tb6 159 rfl rfl)
theorem ncM_53 : Cond.constantLong RX13 53 (394868 : Int64) ∈ tb := (tb6 160 rfl rfl)
theorem ncM_55 : Cond.constantLong RX13 55 (627883 : Int64) ∈ tb := (tb6 161 rfl rfl)
theorem ncM_57 : Cond.constantLong RX13 57 (72590803 : Int64) ∈ tb := (tb6 162 rfl rfl)
theorem ncM_59 : Cond.constantLong RX13 59 (178323 : Int64) ∈ tb := (tb6 163 rfl rfl)
theorem ncM_61 : Cond.constantLong RX13 61 (20459828 : Int64) ∈ tb := (tb6 164 rfl rfl)
theorem ncM_69 : Cond.constantLong RX13 69 (12892339 : Int64) ∈ tb := (tb6 165 rfl rfl)
theorem ncM_71 : Cond.constantLong RX13 71 (17077349 : Int64) ∈ tb := (tb6 166 rfl rfl)
theorem ncM_73 : Cond.constantLong RX13 73 (546475187 : Int64) ∈ tb := (tb6 167 rfl rfl)
theorem ncM_75 : Cond.constantLong RX13 75 (24282821 : Int64) ∈ tb := (tb6 168 rfl rfl)
theorem ncM_77 : Cond.constantLong RX13 77 (22560946 : Int64) ∈ tb := (tb6 169 rfl rfl)
theorem ncM_79 : Cond.constantLong RX13 79 (13098162 : Int64) ∈ tb := (tb6 170 rfl rfl)
theorem ncM_81 : Cond.constantLong RX13 81 (6887016 : Int64) ∈ tb := (tb6 171 rfl rfl)
theorem ncM_83 : Cond.constantLong RX13 83 (508078 : Int64) ∈ tb := (tb6 172 rfl rfl)
theorem ncM_85 : Cond.constantLong RX13 85 (1156 : Int64) ∈ tb := (tb6 173 rfl rfl)
theorem ncM_87 : Cond.constantLong RX13 87 (317298260 : Int64) ∈ tb := (tb6 174 rfl rfl)
theorem ncM_89 : Cond.constantLong RX13 89 (139859589 : Int64) ∈ tb := (tb6 175 rfl rfl)
theorem ncM_91 : Cond.constantLong RX13 91 (17076 : Int64) ∈ tb := (tb6 176 rfl rfl)
theorem ncM_93 : Cond.constantLong RX13 93 (677454 : Int64) ∈ tb := (tb6 177 rfl rfl)
theorem ncM_95 : Cond.constantLong RX13 95 (632645 : Int64) ∈ tb := (tb6 178 rfl rfl)
theorem ncM_97 : Cond.constantLong RX13 97 (661268 : Int64) ∈ tb := (tb6 179 rfl rfl)
theorem ncM_99 : Cond.constantLong RX13 99 (605677 : Int64) ∈ tb := (tb6 180 rfl rfl)
theorem ncM_101 : Cond.constantLong RX13 101 (6605428 : Int64) ∈ tb := (tb6 181 rfl rfl)
theorem ncM_103 : Cond.constantLong RX13 103 (215533 : Int64) ∈ tb := (tb6 182 rfl rfl)
theorem ncM_105 : Cond.constantLong RX13 105 (492210354 : Int64) ∈ tb := (tb6 183 rfl rfl)
theorem ncM_107 : Cond.constantLong RX13 107 (16829029 : Int64) ∈ tb := (tb6 184 rfl rfl)
theorem ncM_109 : Cond.constantLong RX13 109 (20350348 : Int64) ∈ tb := (tb6 185 rfl rfl)
theorem ncM_111 : Cond.constantLong RX13 111 (21583496 : Int64) ∈ tb := (tb6 186 rfl rfl)
theorem ncM_113 : Cond.constantLong RX13 113 (537267 : Int64) ∈ tb := (tb6 187 rfl rfl)
theorem ncM_115 : Cond.constantLong RX13 115 (13941427 : Int64) ∈ tb := (tb6 188 rfl rfl)
theorem ncM_117 : Cond.constantLong RX13 117 (21279923 : Int64) ∈ tb := (tb6 189 rfl rfl)
theorem ncM_119 : Cond.constantLong RX13 119 (294 : Int64) ∈ tb := (tb6 190 rfl rfl)
theorem ncM_121 : Cond.constantLong RX13 121 (3199080 : Int64) ∈ tb := (tb6 191 rfl rfl)
theorem ncM_123 : Cond.constantLong RX13 123 (427595 : Int64) ∈ tb := (tb6 192 rfl rfl)
def knamesA : List Int64 := [19636, 480652, 114201, 317331022, 343342, 624037, 5821484, 1451365, 16322738, 263784, 408362632, 702772, 17278420, 72564293, 552909459, 509824180, 525908, 674093, 20597040, 609752116, 109099237, 19512296549, 206276, 394868, 627883, 72590803, 178323, 20459828]
def knamesB : List Int64 := [12892339, 17077349, 546475187, 24282821, 22560946, 13098162, 6887016, 508078, 1156, 317298260, 139859589, 17076, 677454, 632645, 661268, 605677, 6605428, 215533, 492210354, 16829029, 20350348, 21583496, 537267, 13941427, 21279923, 294, 3199080, 427595]
def kwordsA : List Int32 := [41, 1, 41, 41, 61, 442, 442, 442, 442, 42, 42, 542, 542, 542, 5542, 5542, 5541, 41, 41, 541, 5541, 4441, 5442, 5442, 5542, 5442, 442, 554]
def kwordsB : List Int32 := [4, 51, 2, 41, 41, 41, 53, 43, 67, 657, 557, 557, 7, 57, 71, 72, 772, 51, 551, 542, 542, 42, 552, 552, 552, 85, 82, 5]
section INM
variable {p : Program} {l : Launch} {e : Env} {R : Room} {s : State} {m : MethodId} {args : Array Value} {below : List Frame} {meth : Method} {c : Code} {H : Heap} {locs : List Loc} {cells slots : Nat} {Q : State → Prop} {ls : Array Slot} {D : va_G} {T : Cy} {A : Nat → Prop} {ws : va_W}
set_option maxRecDepth 100000 in
set_option maxHeartbeats 4000000 in
theorem bM_namesA (C : CallFix p m c cX13_init 1 s args tb RX13) {q h0 : Nat} (w : Wg D T (ws ++ [(q, .inl (T.2.1, 28, .inr (.inl (fun _ => 0))))]) A s H locs) (kk : ∀ (H : Heap) (locs : List Loc), Wg D T (ws ++ [(q, .inl (T.2.1, 28, .inr (.inl (fun j => knamesA.getD j 0))))]) A s H locs → W p l e R s m args below meth c H locs cells slots Q (F0 m 199 ls [.ref q, .ref h0])) : W p l e R s m args below meth c H locs cells slots Q (F0 m 9 ls [.ref q, .ref h0]) := by
  refine lv_dup C.1 C.2.1 dX13_init_9 rfl ?_
  refine lv_iconst (v := 0) C.1 C.2.1 dX13_init_10 (by decide) ?_
  refine lv_ldc2 C.1 C.2.1 C.2.2.2.1 (C.2.2.2.2 _ ncM_7) dX13_init_11 ?_
  refine i_lastE (L := []) C w (vpi (by decide +kernel)) (by decide +kernel) dX13_init_14 (fun H locs w => ?_)
  refine lv_dup C.1 C.2.1 dX13_init_15 rfl ?_
  refine lv_iconst (v := 1) C.1 C.2.1 dX13_init_16 (by decide) ?_
  refine lv_ldc2 C.1 C.2.1 C.2.2.2.1 (C.2.2.2.2 _ ncM_9) dX13_init_17 ?_
  refine i_lastE (L := [19636]) C w (vpi (by decide +kernel)) (by decide +kernel) dX13_init_20 (fun H locs w => ?_)
  refine lv_dup C.1 C.2.1 dX13_init_21 rfl ?_
  refine lv_iconst (v := 2) C.1 C.2.1 dX13_init_22 (by decide) ?_
  refine lv_ldc2 C.1 C.2.1 C.2.2.2.1 (C.2.2.2.2 _ ncM_11) dX13_init_23 ?_
  refine i_lastE (L := [19636, 480652]) C w (vpi (by decide +kernel)) (by decide +kernel) dX13_init_26 (fun H locs w => ?_)
  refine lv_dup C.1 C.2.1 dX13_init_27 rfl ?_
  refine lv_iconst (v := 3) C.1 C.2.1 dX13_init_28 (by decide) ?_
  refine lv_ldc2 C.1 C.2.1 C.2.2.2.1 (C.2.2.2.2 _ ncM_13) dX13_init_29 ?_
  refine i_lastE (L := [19636, 480652, 114201]) C w (vpi (by decide +kernel)) (by decide +kernel) dX13_init_32 (fun H locs w => ?_)
  refine lv_dup C.1 C.2.1 dX13_init_33 rfl ?_
  refine lv_iconst (v := 4) C.1 C.2.1 dX13_init_34 (by decide) ?_
  refine lv_ldc2 C.1 C.2.1 C.2.2.2.1 (C.2.2.2.2 _ ncM_15) dX13_init_35 ?_
  refine i_lastE (L := [19636, 480652, 114201, 317331022]) C w (vpi (by decide +kernel)) (by decide +kernel) dX13_init_38 (fun H locs w => ?_)
  refine lv_dup C.1 C.2.1 dX13_init_39 rfl ?_
  refine lv_iconst (v := 5) C.1 C.2.1 dX13_init_40 (by decide) ?_
  refine lv_ldc2 C.1 C.2.1 C.2.2.2.1 (C.2.2.2.2 _ ncM_17) dX13_init_41 ?_
  refine i_lastE (L := [19636, 480652, 114201, 317331022, 343342]) C w (vpi (by decide +kernel)) (by decide +kernel) dX13_init_44 (fun H locs w => ?_)
  refine lv_dup C.1 C.2.1 dX13_init_45 rfl ?_
  refine lv_bipush (v := 6) C.1 C.2.1 dX13_init_46 (by decide) ?_
  refine lv_ldc2 C.1 C.2.1 C.2.2.2.1 (C.2.2.2.2 _ ncM_19) dX13_init_48 ?_
  refine i_lastE (L := [19636, 480652, 114201, 317331022, 343342, 624037]) C w (vpi (by decide +kernel)) (by decide +kernel) dX13_init_51 (fun H locs w => ?_)
  refine lv_dup C.1 C.2.1 dX13_init_52 rfl ?_
  refine lv_bipush (v := 7) C.1 C.2.1 dX13_init_53 (by decide) ?_
  refine lv_ldc2 C.1 C.2.1 C.2.2.2.1 (C.2.2.2.2 _ ncM_21) dX13_init_55 ?_
  refine i_lastE (L := [19636, 480652, 114201, 317331022, 343342, 624037, 5821484]) C w (vpi (by decide +kernel)) (by decide +kernel) dX13_init_58 (fun H locs w => ?_)
  refine lv_dup C.1 C.2.1 dX13_init_59 rfl ?_
  refine lv_bipush (v := 8) C.1 C.2.1 dX13_init_60 (by decide) ?_
  refine lv_ldc2 C.1 C.2.1 C.2.2.2.1 (C.2.2.2.2 _ ncM_23) dX13_init_62 ?_
  refine i_lastE (L := [19636, 480652, 114201, 317331022, 343342, 624037, 5821484, 1451365]) C w (vpi (by decide +kernel)) (by decide +kernel) dX13_init_65 (fun H locs w => ?_)
  refine lv_dup C.1 C.2.1 dX13_init_66 rfl ?_
  refine lv_bipush (v := 9) C.1 C.2.1 dX13_init_67 (by decide) ?_
  refine lv_ldc2 C.1 C.2.1 C.2.2.2.1 (C.2.2.2.2 _ ncM_25) dX13_init_69 ?_
  refine i_lastE (L := [19636, 480652, 114201, 317331022, 343342, 624037, 5821484, 1451365, 16322738]) C w (vpi (by decide +kernel)) (by decide +kernel) dX13_init_72 (fun H locs w => ?_)
  refine lv_dup C.1 C.2.1 dX13_init_73 rfl ?_
  refine lv_bipush (v := 10) C.1 C.2.1 dX13_init_74 (by decide) ?_
  refine lv_ldc2 C.1 C.2.1 C.2.2.2.1 (C.2.2.2.2 _ ncM_27) dX13_init_76 ?_
  refine i_lastE (L := [19636, 480652, 114201, 317331022, 343342, 624037, 5821484, 1451365, 16322738, 263784]) C w (vpi (by decide +kernel)) (by decide +kernel) dX13_init_79 (fun H locs w => ?_)
  refine lv_dup C.1 C.2.1 dX13_init_80 rfl ?_
  refine lv_bipush (v := 11) C.1 C.2.1 dX13_init_81 (by decide) ?_
  refine lv_ldc2 C.1 C.2.1 C.2.2.2.1 (C.2.2.2.2 _ ncM_29) dX13_init_83 ?_
  refine i_lastE (L := [19636, 480652, 114201, 317331022, 343342, 624037, 5821484, 1451365, 16322738, 263784, 408362632]) C w (vpi (by decide +kernel)) (by decide +kernel) dX13_init_86 (fun H locs w => ?_)
  refine lv_dup C.1 C.2.1 dX13_init_87 rfl ?_
  refine lv_bipush (v := 12) C.1 C.2.1 dX13_init_88 (by decide) ?_
  refine lv_ldc2 C.1 C.2.1 C.2.2.2.1 (C.2.2.2.2 _ ncM_31) dX13_init_90 ?_
  refine i_lastE (L := [19636, 480652, 114201, 317331022, 343342, 624037, 5821484, 1451365, 16322738, 263784, 408362632, 702772]) C w (vpi (by decide +kernel)) (by decide +kernel) dX13_init_93 (fun H locs w => ?_)
  refine lv_dup C.1 C.2.1 dX13_init_94 rfl ?_
  refine lv_bipush (v := 13) C.1 C.2.1 dX13_init_95 (by decide) ?_
  refine lv_ldc2 C.1 C.2.1 C.2.2.2.1 (C.2.2.2.2 _ ncM_33) dX13_init_97 ?_
  refine i_lastE (L := [19636, 480652, 114201, 317331022, 343342, 624037, 5821484, 1451365, 16322738, 263784, 408362632, 702772, 17278420]) C w (vpi (by decide +kernel)) (by decide +kernel) dX13_init_100 (fun H locs w => ?_)
  refine lv_dup C.1 C.2.1 dX13_init_101 rfl ?_
  refine lv_bipush (v := 14) C.1 C.2.1 dX13_init_102 (by decide) ?_
  refine lv_ldc2 C.1 C.2.1 C.2.2.2.1 (C.2.2.2.2 _ ncM_35) dX13_init_104 ?_
  refine i_lastE (L := [19636, 480652, 114201, 317331022, 343342, 624037, 5821484, 1451365, 16322738, 263784, 408362632, 702772, 17278420, 72564293]) C w (vpi (by decide +kernel)) (by decide +kernel) dX13_init_107 (fun H locs w => ?_)
  refine lv_dup C.1 C.2.1 dX13_init_108 rfl ?_
  refine lv_bipush (v := 15) C.1 C.2.1 dX13_init_109 (by decide) ?_
  refine lv_ldc2 C.1 C.2.1 C.2.2.2.1 (C.2.2.2.2 _ ncM_37) dX13_init_111 ?_
  refine i_lastE (L := [19636, 480652, 114201, 317331022, 343342, 624037, 5821484, 1451365, 16322738, 263784, 408362632, 702772, 17278420, 72564293, 552909459]) C w (vpi (by decide +kernel)) (by decide +kernel) dX13_init_114 (fun H locs w => ?_)
  refine lv_dup C.1 C.2.1 dX13_init_115 rfl ?_
  refine lv_bipush (v := 16) C.1 C.2.1 dX13_init_116 (by decide) ?_
  refine lv_ldc2 C.1 C.2.1 C.2.2.2.1 (C.2.2.2.2 _ ncM_39) dX13_init_118 ?_
  refine i_lastE (L := [19636, 480652, 114201, 317331022, 343342, 624037, 5821484, 1451365, 16322738, 263784, 408362632, 702772, 17278420, 72564293, 552909459, 509824180]) C w (vpi (by decide +kernel)) (by decide +kernel) dX13_init_121 (fun H locs w => ?_)
  refine lv_dup C.1 C.2.1 dX13_init_122 rfl ?_
  refine lv_bipush (v := 17) C.1 C.2.1 dX13_init_123 (by decide) ?_
  refine lv_ldc2 C.1 C.2.1 C.2.2.2.1 (C.2.2.2.2 _ ncM_41) dX13_init_125 ?_
  refine i_lastE (L := [19636, 480652, 114201, 317331022, 343342, 624037, 5821484, 1451365, 16322738, 263784, 408362632, 702772, 17278420, 72564293, 552909459, 509824180, 525908]) C w (vpi (by decide +kernel)) (by decide +kernel) dX13_init_128 (fun H locs w => ?_)
  refine lv_dup C.1 C.2.1 dX13_init_129 rfl ?_
  refine lv_bipush (v := 18) C.1 C.2.1 dX13_init_130 (by decide) ?_
  refine lv_ldc2 C.1 C.2.1 C.2.2.2.1 (C.2.2.2.2 _ ncM_43) dX13_init_132 ?_
  refine i_lastE (L := [19636, 480652, 114201, 317331022, 343342, 624037, 5821484, 1451365, 16322738, 263784, 408362632, 702772, 17278420, 72564293, 552909459, 509824180, 525908, 674093]) C w (vpi (by decide +kernel)) (by decide +kernel) dX13_init_135 (fun H locs w => ?_)
  refine lv_dup C.1 C.2.1 dX13_init_136 rfl ?_
  refine lv_bipush (v := 19) C.1 C.2.1 dX13_init_137 (by decide) ?_
  refine lv_ldc2 C.1 C.2.1 C.2.2.2.1 (C.2.2.2.2 _ ncM_45) dX13_init_139 ?_
  refine i_lastE (L := [19636, 480652, 114201, 317331022, 343342, 624037, 5821484, 1451365, 16322738, 263784, 408362632, 702772, 17278420, 72564293, 552909459, 509824180, 525908, 674093, 20597040]) C w (vpi (by decide +kernel)) (by decide +kernel) dX13_init_142 (fun H locs w => ?_)
  refine lv_dup C.1 C.2.1 dX13_init_143 rfl ?_
  refine lv_bipush (v := 20) C.1 C.2.1 dX13_init_144 (by decide) ?_
  refine lv_ldc2 C.1 C.2.1 C.2.2.2.1 (C.2.2.2.2 _ ncM_47) dX13_init_146 ?_
  refine i_lastE (L := [19636, 480652, 114201, 317331022, 343342, 624037, 5821484, 1451365, 16322738, 263784, 408362632, 702772, 17278420, 72564293, 552909459, 509824180, 525908, 674093, 20597040, 609752116]) C w (vpi (by decide +kernel)) (by decide +kernel) dX13_init_149 (fun H locs w => ?_)
  refine lv_dup C.1 C.2.1 dX13_init_150 rfl ?_
  refine lv_bipush (v := 21) C.1 C.2.1 dX13_init_151 (by decide) ?_
  refine lv_ldc2 C.1 C.2.1 C.2.2.2.1 (C.2.2.2.2 _ ncM_49) dX13_init_153 ?_
  refine i_lastE (L := [19636, 480652, 114201, 317331022, 343342, 624037, 5821484, 1451365, 16322738, 263784, 408362632, 702772, 17278420, 72564293, 552909459, 509824180, 525908, 674093, 20597040, 609752116, 109099237]) C w (vpi (by decide +kernel)) (by decide +kernel) dX13_init_156 (fun H locs w => ?_)
  refine lv_dup C.1 C.2.1 dX13_init_157 rfl ?_
  refine lv_bipush (v := 22) C.1 C.2.1 dX13_init_158 (by decide) ?_
  refine lv_ldc2 C.1 C.2.1 C.2.2.2.1 (C.2.2.2.2 _ ncM_51) dX13_init_160 ?_
  refine i_lastE (L := [19636, 480652, 114201, 317331022, 343342, 624037, 5821484, 1451365, 16322738, 263784, 408362632, 702772, 17278420, 72564293, 552909459, 509824180, 525908, 674093, 20597040, 609752116, 109099237, 19512296549]) C w (vpi (by decide +kernel)) (by decide +kernel) dX13_init_163 (fun H locs w => ?_)
  refine lv_dup C.1 C.2.1 dX13_init_164 rfl ?_
  refine lv_bipush (v := 23) C.1 C.2.1 dX13_init_165 (by decide) ?_
  refine lv_ldc2 C.1 C.2.1 C.2.2.2.1 (C.2.2.2.2 _ ncM_53) dX13_init_167 ?_
  refine i_lastE (L := [19636, 480652, 114201, 317331022, 343342, 624037, 5821484, 1451365, 16322738, 263784, 408362632, 702772, 17278420, 72564293, 552909459, 509824180, 525908, 674093, 20597040, 609752116, 109099237, 19512296549, 206276]) C w (vpi (by decide +kernel)) (by decide +kernel) dX13_init_170 (fun H locs w => ?_)
  refine lv_dup C.1 C.2.1 dX13_init_171 rfl ?_
  refine lv_bipush (v := 24) C.1 C.2.1 dX13_init_172 (by decide) ?_
  refine lv_ldc2 C.1 C.2.1 C.2.2.2.1 (C.2.2.2.2 _ ncM_55) dX13_init_174 ?_
  refine i_lastE (L := [19636, 480652, 114201, 317331022, 343342, 624037, 5821484, 1451365, 16322738, 263784, 408362632, 702772, 17278420, 72564293, 552909459, 509824180, 525908, 674093, 20597040, 609752116, 109099237, 19512296549, 206276, 394868]) C w (vpi (by decide +kernel)) (by decide +kernel) dX13_init_177 (fun H locs w => ?_)
  refine lv_dup C.1 C.2.1 dX13_init_178 rfl ?_
  refine lv_bipush (v := 25) C.1 C.2.1 dX13_init_179 (by decide) ?_
  refine lv_ldc2 C.1 C.2.1 C.2.2.2.1 (C.2.2.2.2 _ ncM_57) dX13_init_181 ?_
  refine i_lastE (L := [19636, 480652, 114201, 317331022, 343342, 624037, 5821484, 1451365, 16322738, 263784, 408362632, 702772, 17278420, 72564293, 552909459, 509824180, 525908, 674093, 20597040, 609752116, 109099237, 19512296549, 206276, 394868, 627883]) C w (vpi (by decide +kernel)) (by decide +kernel) dX13_init_184 (fun H locs w => ?_)
  refine lv_dup C.1 C.2.1 dX13_init_185 rfl ?_
  refine lv_bipush (v := 26) C.1 C.2.1 dX13_init_186 (by decide) ?_
  refine lv_ldc2 C.1 C.2.1 C.2.2.2.1 (C.2.2.2.2 _ ncM_59) dX13_init_188 ?_
  refine i_lastE (L := [19636, 480652, 114201, 317331022, 343342, 624037, 5821484, 1451365, 16322738, 263784, 408362632, 702772, 17278420, 72564293, 552909459, 509824180, 525908, 674093, 20597040, 609752116, 109099237, 19512296549, 206276, 394868, 627883, 72590803]) C w (vpi (by decide +kernel)) (by decide +kernel) dX13_init_191 (fun H locs w => ?_)
  refine lv_dup C.1 C.2.1 dX13_init_192 rfl ?_
  refine lv_bipush (v := 27) C.1 C.2.1 dX13_init_193 (by decide) ?_
  refine lv_ldc2 C.1 C.2.1 C.2.2.2.1 (C.2.2.2.2 _ ncM_61) dX13_init_195 ?_
  refine i_lastE (L := [19636, 480652, 114201, 317331022, 343342, 624037, 5821484, 1451365, 16322738, 263784, 408362632, 702772, 17278420, 72564293, 552909459, 509824180, 525908, 674093, 20597040, 609752116, 109099237, 19512296549, 206276, 394868, 627883, 72590803, 178323]) C w (vpi (by decide +kernel)) (by decide +kernel) dX13_init_198 (fun H locs w => ?_)
  exact kk H locs w
set_option maxRecDepth 100000 in
set_option maxHeartbeats 4000000 in
theorem bM_namesB (C : CallFix p m c cX13_init 1 s args tb RX13) {q h0 : Nat} (w : Wg D T (ws ++ [(q, .inl (T.2.1, 28, .inr (.inl (fun _ => 0))))]) A s H locs) (kk : ∀ (H : Heap) (locs : List Loc), Wg D T (ws ++ [(q, .inl (T.2.1, 28, .inr (.inl (fun j => knamesB.getD j 0))))]) A s H locs → W p l e R s m args below meth c H locs cells slots Q (F0 m 397 ls [.ref q, .ref h0])) : W p l e R s m args below meth c H locs cells slots Q (F0 m 207 ls [.ref q, .ref h0]) := by
  refine lv_dup C.1 C.2.1 dX13_init_207 rfl ?_
  refine lv_iconst (v := 0) C.1 C.2.1 dX13_init_208 (by decide) ?_
  refine lv_ldc2 C.1 C.2.1 C.2.2.2.1 (C.2.2.2.2 _ ncM_69) dX13_init_209 ?_
  refine i_lastE (L := []) C w (vpi (by decide +kernel)) (by decide +kernel) dX13_init_212 (fun H locs w => ?_)
  refine lv_dup C.1 C.2.1 dX13_init_213 rfl ?_
  refine lv_iconst (v := 1) C.1 C.2.1 dX13_init_214 (by decide) ?_
  refine lv_ldc2 C.1 C.2.1 C.2.2.2.1 (C.2.2.2.2 _ ncM_71) dX13_init_215 ?_
  refine i_lastE (L := [12892339]) C w (vpi (by decide +kernel)) (by decide +kernel) dX13_init_218 (fun H locs w => ?_)
  refine lv_dup C.1 C.2.1 dX13_init_219 rfl ?_
  refine lv_iconst (v := 2) C.1 C.2.1 dX13_init_220 (by decide) ?_
  refine lv_ldc2 C.1 C.2.1 C.2.2.2.1 (C.2.2.2.2 _ ncM_73) dX13_init_221 ?_
  refine i_lastE (L := [12892339, 17077349]) C w (vpi (by decide +kernel)) (by decide +kernel) dX13_init_224 (fun H locs w => ?_)
  refine lv_dup C.1 C.2.1 dX13_init_225 rfl ?_
  refine lv_iconst (v := 3) C.1 C.2.1 dX13_init_226 (by decide) ?_
  refine lv_ldc2 C.1 C.2.1 C.2.2.2.1 (C.2.2.2.2 _ ncM_75) dX13_init_227 ?_
  refine i_lastE (L := [12892339, 17077349, 546475187]) C w (vpi (by decide +kernel)) (by decide +kernel) dX13_init_230 (fun H locs w => ?_)
  refine lv_dup C.1 C.2.1 dX13_init_231 rfl ?_
  refine lv_iconst (v := 4) C.1 C.2.1 dX13_init_232 (by decide) ?_
  refine lv_ldc2 C.1 C.2.1 C.2.2.2.1 (C.2.2.2.2 _ ncM_77) dX13_init_233 ?_
  refine i_lastE (L := [12892339, 17077349, 546475187, 24282821]) C w (vpi (by decide +kernel)) (by decide +kernel) dX13_init_236 (fun H locs w => ?_)
  refine lv_dup C.1 C.2.1 dX13_init_237 rfl ?_
  refine lv_iconst (v := 5) C.1 C.2.1 dX13_init_238 (by decide) ?_
  refine lv_ldc2 C.1 C.2.1 C.2.2.2.1 (C.2.2.2.2 _ ncM_79) dX13_init_239 ?_
  refine i_lastE (L := [12892339, 17077349, 546475187, 24282821, 22560946]) C w (vpi (by decide +kernel)) (by decide +kernel) dX13_init_242 (fun H locs w => ?_)
  refine lv_dup C.1 C.2.1 dX13_init_243 rfl ?_
  refine lv_bipush (v := 6) C.1 C.2.1 dX13_init_244 (by decide) ?_
  refine lv_ldc2 C.1 C.2.1 C.2.2.2.1 (C.2.2.2.2 _ ncM_81) dX13_init_246 ?_
  refine i_lastE (L := [12892339, 17077349, 546475187, 24282821, 22560946, 13098162]) C w (vpi (by decide +kernel)) (by decide +kernel) dX13_init_249 (fun H locs w => ?_)
  refine lv_dup C.1 C.2.1 dX13_init_250 rfl ?_
  refine lv_bipush (v := 7) C.1 C.2.1 dX13_init_251 (by decide) ?_
  refine lv_ldc2 C.1 C.2.1 C.2.2.2.1 (C.2.2.2.2 _ ncM_83) dX13_init_253 ?_
  refine i_lastE (L := [12892339, 17077349, 546475187, 24282821, 22560946, 13098162, 6887016]) C w (vpi (by decide +kernel)) (by decide +kernel) dX13_init_256 (fun H locs w => ?_)
  refine lv_dup C.1 C.2.1 dX13_init_257 rfl ?_
  refine lv_bipush (v := 8) C.1 C.2.1 dX13_init_258 (by decide) ?_
  refine lv_ldc2 C.1 C.2.1 C.2.2.2.1 (C.2.2.2.2 _ ncM_85) dX13_init_260 ?_
  refine i_lastE (L := [12892339, 17077349, 546475187, 24282821, 22560946, 13098162, 6887016, 508078]) C w (vpi (by decide +kernel)) (by decide +kernel) dX13_init_263 (fun H locs w => ?_)
  refine lv_dup C.1 C.2.1 dX13_init_264 rfl ?_
  refine lv_bipush (v := 9) C.1 C.2.1 dX13_init_265 (by decide) ?_
  refine lv_ldc2 C.1 C.2.1 C.2.2.2.1 (C.2.2.2.2 _ ncM_87) dX13_init_267 ?_
  refine i_lastE (L := [12892339, 17077349, 546475187, 24282821, 22560946, 13098162, 6887016, 508078, 1156]) C w (vpi (by decide +kernel)) (by decide +kernel) dX13_init_270 (fun H locs w => ?_)
  refine lv_dup C.1 C.2.1 dX13_init_271 rfl ?_
  refine lv_bipush (v := 10) C.1 C.2.1 dX13_init_272 (by decide) ?_
  refine lv_ldc2 C.1 C.2.1 C.2.2.2.1 (C.2.2.2.2 _ ncM_89) dX13_init_274 ?_
  refine i_lastE (L := [12892339, 17077349, 546475187, 24282821, 22560946, 13098162, 6887016, 508078, 1156, 317298260]) C w (vpi (by decide +kernel)) (by decide +kernel) dX13_init_277 (fun H locs w => ?_)
  refine lv_dup C.1 C.2.1 dX13_init_278 rfl ?_
  refine lv_bipush (v := 11) C.1 C.2.1 dX13_init_279 (by decide) ?_
  refine lv_ldc2 C.1 C.2.1 C.2.2.2.1 (C.2.2.2.2 _ ncM_91) dX13_init_281 ?_
  refine i_lastE (L := [12892339, 17077349, 546475187, 24282821, 22560946, 13098162, 6887016, 508078, 1156, 317298260, 139859589]) C w (vpi (by decide +kernel)) (by decide +kernel) dX13_init_284 (fun H locs w => ?_)
  refine lv_dup C.1 C.2.1 dX13_init_285 rfl ?_
  refine lv_bipush (v := 12) C.1 C.2.1 dX13_init_286 (by decide) ?_
  refine lv_ldc2 C.1 C.2.1 C.2.2.2.1 (C.2.2.2.2 _ ncM_93) dX13_init_288 ?_
  refine i_lastE (L := [12892339, 17077349, 546475187, 24282821, 22560946, 13098162, 6887016, 508078, 1156, 317298260, 139859589, 17076]) C w (vpi (by decide +kernel)) (by decide +kernel) dX13_init_291 (fun H locs w => ?_)
  refine lv_dup C.1 C.2.1 dX13_init_292 rfl ?_
  refine lv_bipush (v := 13) C.1 C.2.1 dX13_init_293 (by decide) ?_
  refine lv_ldc2 C.1 C.2.1 C.2.2.2.1 (C.2.2.2.2 _ ncM_95) dX13_init_295 ?_
  refine i_lastE (L := [12892339, 17077349, 546475187, 24282821, 22560946, 13098162, 6887016, 508078, 1156, 317298260, 139859589, 17076, 677454]) C w (vpi (by decide +kernel)) (by decide +kernel) dX13_init_298 (fun H locs w => ?_)
  refine lv_dup C.1 C.2.1 dX13_init_299 rfl ?_
  refine lv_bipush (v := 14) C.1 C.2.1 dX13_init_300 (by decide) ?_
  refine lv_ldc2 C.1 C.2.1 C.2.2.2.1 (C.2.2.2.2 _ ncM_97) dX13_init_302 ?_
  refine i_lastE (L := [12892339, 17077349, 546475187, 24282821, 22560946, 13098162, 6887016, 508078, 1156, 317298260, 139859589, 17076, 677454, 632645]) C w (vpi (by decide +kernel)) (by decide +kernel) dX13_init_305 (fun H locs w => ?_)
  refine lv_dup C.1 C.2.1 dX13_init_306 rfl ?_
  refine lv_bipush (v := 15) C.1 C.2.1 dX13_init_307 (by decide) ?_
  refine lv_ldc2 C.1 C.2.1 C.2.2.2.1 (C.2.2.2.2 _ ncM_99) dX13_init_309 ?_
  refine i_lastE (L := [12892339, 17077349, 546475187, 24282821, 22560946, 13098162, 6887016, 508078, 1156, 317298260, 139859589, 17076, 677454, 632645, 661268]) C w (vpi (by decide +kernel)) (by decide +kernel) dX13_init_312 (fun H locs w => ?_)
  refine lv_dup C.1 C.2.1 dX13_init_313 rfl ?_
  refine lv_bipush (v := 16) C.1 C.2.1 dX13_init_314 (by decide) ?_
  refine lv_ldc2 C.1 C.2.1 C.2.2.2.1 (C.2.2.2.2 _ ncM_101) dX13_init_316 ?_
  refine i_lastE (L := [12892339, 17077349, 546475187, 24282821, 22560946, 13098162, 6887016, 508078, 1156, 317298260, 139859589, 17076, 677454, 632645, 661268, 605677]) C w (vpi (by decide +kernel)) (by decide +kernel) dX13_init_319 (fun H locs w => ?_)
  refine lv_dup C.1 C.2.1 dX13_init_320 rfl ?_
  refine lv_bipush (v := 17) C.1 C.2.1 dX13_init_321 (by decide) ?_
  refine lv_ldc2 C.1 C.2.1 C.2.2.2.1 (C.2.2.2.2 _ ncM_103) dX13_init_323 ?_
  refine i_lastE (L := [12892339, 17077349, 546475187, 24282821, 22560946, 13098162, 6887016, 508078, 1156, 317298260, 139859589, 17076, 677454, 632645, 661268, 605677, 6605428]) C w (vpi (by decide +kernel)) (by decide +kernel) dX13_init_326 (fun H locs w => ?_)
  refine lv_dup C.1 C.2.1 dX13_init_327 rfl ?_
  refine lv_bipush (v := 18) C.1 C.2.1 dX13_init_328 (by decide) ?_
  refine lv_ldc2 C.1 C.2.1 C.2.2.2.1 (C.2.2.2.2 _ ncM_105) dX13_init_330 ?_
  refine i_lastE (L := [12892339, 17077349, 546475187, 24282821, 22560946, 13098162, 6887016, 508078, 1156, 317298260, 139859589, 17076, 677454, 632645, 661268, 605677, 6605428, 215533]) C w (vpi (by decide +kernel)) (by decide +kernel) dX13_init_333 (fun H locs w => ?_)
  refine lv_dup C.1 C.2.1 dX13_init_334 rfl ?_
  refine lv_bipush (v := 19) C.1 C.2.1 dX13_init_335 (by decide) ?_
  refine lv_ldc2 C.1 C.2.1 C.2.2.2.1 (C.2.2.2.2 _ ncM_107) dX13_init_337 ?_
  refine i_lastE (L := [12892339, 17077349, 546475187, 24282821, 22560946, 13098162, 6887016, 508078, 1156, 317298260, 139859589, 17076, 677454, 632645, 661268, 605677, 6605428, 215533, 492210354]) C w (vpi (by decide +kernel)) (by decide +kernel) dX13_init_340 (fun H locs w => ?_)
  refine lv_dup C.1 C.2.1 dX13_init_341 rfl ?_
  refine lv_bipush (v := 20) C.1 C.2.1 dX13_init_342 (by decide) ?_
  refine lv_ldc2 C.1 C.2.1 C.2.2.2.1 (C.2.2.2.2 _ ncM_109) dX13_init_344 ?_
  refine i_lastE (L := [12892339, 17077349, 546475187, 24282821, 22560946, 13098162, 6887016, 508078, 1156, 317298260, 139859589, 17076, 677454, 632645, 661268, 605677, 6605428, 215533, 492210354, 16829029]) C w (vpi (by decide +kernel)) (by decide +kernel) dX13_init_347 (fun H locs w => ?_)
  refine lv_dup C.1 C.2.1 dX13_init_348 rfl ?_
  refine lv_bipush (v := 21) C.1 C.2.1 dX13_init_349 (by decide) ?_
  refine lv_ldc2 C.1 C.2.1 C.2.2.2.1 (C.2.2.2.2 _ ncM_111) dX13_init_351 ?_
  refine i_lastE (L := [12892339, 17077349, 546475187, 24282821, 22560946, 13098162, 6887016, 508078, 1156, 317298260, 139859589, 17076, 677454, 632645, 661268, 605677, 6605428, 215533, 492210354, 16829029, 20350348]) C w (vpi (by decide +kernel)) (by decide +kernel) dX13_init_354 (fun H locs w => ?_)
  refine lv_dup C.1 C.2.1 dX13_init_355 rfl ?_
  refine lv_bipush (v := 22) C.1 C.2.1 dX13_init_356 (by decide) ?_
  refine lv_ldc2 C.1 C.2.1 C.2.2.2.1 (C.2.2.2.2 _ ncM_113) dX13_init_358 ?_
  refine i_lastE (L := [12892339, 17077349, 546475187, 24282821, 22560946, 13098162, 6887016, 508078, 1156, 317298260, 139859589, 17076, 677454, 632645, 661268, 605677, 6605428, 215533, 492210354, 16829029, 20350348, 21583496]) C w (vpi (by decide +kernel)) (by decide +kernel) dX13_init_361 (fun H locs w => ?_)
  refine lv_dup C.1 C.2.1 dX13_init_362 rfl ?_
  refine lv_bipush (v := 23) C.1 C.2.1 dX13_init_363 (by decide) ?_
  refine lv_ldc2 C.1 C.2.1 C.2.2.2.1 (C.2.2.2.2 _ ncM_115) dX13_init_365 ?_
  refine i_lastE (L := [12892339, 17077349, 546475187, 24282821, 22560946, 13098162, 6887016, 508078, 1156, 317298260, 139859589, 17076, 677454, 632645, 661268, 605677, 6605428, 215533, 492210354, 16829029, 20350348, 21583496, 537267]) C w (vpi (by decide +kernel)) (by decide +kernel) dX13_init_368 (fun H locs w => ?_)
  refine lv_dup C.1 C.2.1 dX13_init_369 rfl ?_
  refine lv_bipush (v := 24) C.1 C.2.1 dX13_init_370 (by decide) ?_
  refine lv_ldc2 C.1 C.2.1 C.2.2.2.1 (C.2.2.2.2 _ ncM_117) dX13_init_372 ?_
  refine i_lastE (L := [12892339, 17077349, 546475187, 24282821, 22560946, 13098162, 6887016, 508078, 1156, 317298260, 139859589, 17076, 677454, 632645, 661268, 605677, 6605428, 215533, 492210354, 16829029, 20350348, 21583496, 537267, 13941427]) C w (vpi (by decide +kernel)) (by decide +kernel) dX13_init_375 (fun H locs w => ?_)
  refine lv_dup C.1 C.2.1 dX13_init_376 rfl ?_
  refine lv_bipush (v := 25) C.1 C.2.1 dX13_init_377 (by decide) ?_
  refine lv_ldc2 C.1 C.2.1 C.2.2.2.1 (C.2.2.2.2 _ ncM_119) dX13_init_379 ?_
  refine i_lastE (L := [12892339, 17077349, 546475187, 24282821, 22560946, 13098162, 6887016, 508078, 1156, 317298260, 139859589, 17076, 677454, 632645, 661268, 605677, 6605428, 215533, 492210354, 16829029, 20350348, 21583496, 537267, 13941427, 21279923]) C w (vpi (by decide +kernel)) (by decide +kernel) dX13_init_382 (fun H locs w => ?_)
  refine lv_dup C.1 C.2.1 dX13_init_383 rfl ?_
  refine lv_bipush (v := 26) C.1 C.2.1 dX13_init_384 (by decide) ?_
  refine lv_ldc2 C.1 C.2.1 C.2.2.2.1 (C.2.2.2.2 _ ncM_121) dX13_init_386 ?_
  refine i_lastE (L := [12892339, 17077349, 546475187, 24282821, 22560946, 13098162, 6887016, 508078, 1156, 317298260, 139859589, 17076, 677454, 632645, 661268, 605677, 6605428, 215533, 492210354, 16829029, 20350348, 21583496, 537267, 13941427, 21279923, 294]) C w (vpi (by decide +kernel)) (by decide +kernel) dX13_init_389 (fun H locs w => ?_)
  refine lv_dup C.1 C.2.1 dX13_init_390 rfl ?_
  refine lv_bipush (v := 27) C.1 C.2.1 dX13_init_391 (by decide) ?_
  refine lv_ldc2 C.1 C.2.1 C.2.2.2.1 (C.2.2.2.2 _ ncM_123) dX13_init_393 ?_
  refine i_lastE (L := [12892339, 17077349, 546475187, 24282821, 22560946, 13098162, 6887016, 508078, 1156, 317298260, 139859589, 17076, 677454, 632645, 661268, 605677, 6605428, 215533, 492210354, 16829029, 20350348, 21583496, 537267, 13941427, 21279923, 294, 3199080]) C w (vpi (by decide +kernel)) (by decide +kernel) dX13_init_396 (fun H locs w => ?_)
  exact kk H locs w
set_option maxRecDepth 100000 in
set_option maxHeartbeats 4000000 in
theorem bM_wordsA (C : CallFix p m c cX13_init 1 s args tb RX13) {q h0 : Nat} (w : Wg D T (ws ++ [(q, .inl (T.1, 28, .inl (fun _ => 0)))]) A s H locs) (kk : ∀ (H : Heap) (locs : List Loc), Wg D T (ws ++ [(q, .inl (T.1, 28, .inl (fun j => kwordsA.getD j 0)))]) A s H locs → W p l e R s m args below meth c H locs cells slots Q (F0 m 585 ls [.ref q, .ref h0])) : W p l e R s m args below meth c H locs cells slots Q (F0 m 405 ls [.ref q, .ref h0]) := by
  refine lv_dup C.1 C.2.1 dX13_init_405 rfl ?_
  refine lv_iconst (v := 0) C.1 C.2.1 dX13_init_406 (by decide) ?_
  refine lv_bipush (v := 41) C.1 C.2.1 dX13_init_407 (by decide) ?_
  refine i_iastE (L := []) C w (vpi (by decide +kernel)) (by decide +kernel) dX13_init_409 (fun H locs w => ?_)
  refine lv_dup C.1 C.2.1 dX13_init_410 rfl ?_
  refine lv_iconst (v := 1) C.1 C.2.1 dX13_init_411 (by decide) ?_
  refine lv_iconst (v := 1) C.1 C.2.1 dX13_init_412 (by decide) ?_
  refine i_iastE (L := [41]) C w (vpi (by decide +kernel)) (by decide +kernel) dX13_init_413 (fun H locs w => ?_)
  refine lv_dup C.1 C.2.1 dX13_init_414 rfl ?_
  refine lv_iconst (v := 2) C.1 C.2.1 dX13_init_415 (by decide) ?_
  refine lv_bipush (v := 41) C.1 C.2.1 dX13_init_416 (by decide) ?_
  refine i_iastE (L := [41, 1]) C w (vpi (by decide +kernel)) (by decide +kernel) dX13_init_418 (fun H locs w => ?_)
  refine lv_dup C.1 C.2.1 dX13_init_419 rfl ?_
  refine lv_iconst (v := 3) C.1 C.2.1 dX13_init_420 (by decide) ?_
  refine lv_bipush (v := 41) C.1 C.2.1 dX13_init_421 (by decide) ?_
  refine i_iastE (L := [41, 1, 41]) C w (vpi (by decide +kernel)) (by decide +kernel) dX13_init_423 (fun H locs w => ?_)
  refine lv_dup C.1 C.2.1 dX13_init_424 rfl ?_
  refine lv_iconst (v := 4) C.1 C.2.1 dX13_init_425 (by decide) ?_
  refine lv_bipush (v := 61) C.1 C.2.1 dX13_init_426 (by decide) ?_
  refine i_iastE (L := [41, 1, 41, 41]) C w (vpi (by decide +kernel)) (by decide +kernel) dX13_init_428 (fun H locs w => ?_)
  refine lv_dup C.1 C.2.1 dX13_init_429 rfl ?_
  refine lv_iconst (v := 5) C.1 C.2.1 dX13_init_430 (by decide) ?_
  refine lv_sipush (v := 442) C.1 C.2.1 dX13_init_431 (by decide) ?_
  refine i_iastE (L := [41, 1, 41, 41, 61]) C w (vpi (by decide +kernel)) (by decide +kernel) dX13_init_434 (fun H locs w => ?_)
  refine lv_dup C.1 C.2.1 dX13_init_435 rfl ?_
  refine lv_bipush (v := 6) C.1 C.2.1 dX13_init_436 (by decide) ?_
  refine lv_sipush (v := 442) C.1 C.2.1 dX13_init_438 (by decide) ?_
  refine i_iastE (L := [41, 1, 41, 41, 61, 442]) C w (vpi (by decide +kernel)) (by decide +kernel) dX13_init_441 (fun H locs w => ?_)
  refine lv_dup C.1 C.2.1 dX13_init_442 rfl ?_
  refine lv_bipush (v := 7) C.1 C.2.1 dX13_init_443 (by decide) ?_
  refine lv_sipush (v := 442) C.1 C.2.1 dX13_init_445 (by decide) ?_
  refine i_iastE (L := [41, 1, 41, 41, 61, 442, 442]) C w (vpi (by decide +kernel)) (by decide +kernel) dX13_init_448 (fun H locs w => ?_)
  refine lv_dup C.1 C.2.1 dX13_init_449 rfl ?_
  refine lv_bipush (v := 8) C.1 C.2.1 dX13_init_450 (by decide) ?_
  refine lv_sipush (v := 442) C.1 C.2.1 dX13_init_452 (by decide) ?_
  refine i_iastE (L := [41, 1, 41, 41, 61, 442, 442, 442]) C w (vpi (by decide +kernel)) (by decide +kernel) dX13_init_455 (fun H locs w => ?_)
  refine lv_dup C.1 C.2.1 dX13_init_456 rfl ?_
  refine lv_bipush (v := 9) C.1 C.2.1 dX13_init_457 (by decide) ?_
  refine lv_bipush (v := 42) C.1 C.2.1 dX13_init_459 (by decide) ?_
  refine i_iastE (L := [41, 1, 41, 41, 61, 442, 442, 442, 442]) C w (vpi (by decide +kernel)) (by decide +kernel) dX13_init_461 (fun H locs w => ?_)
  refine lv_dup C.1 C.2.1 dX13_init_462 rfl ?_
  refine lv_bipush (v := 10) C.1 C.2.1 dX13_init_463 (by decide) ?_
  refine lv_bipush (v := 42) C.1 C.2.1 dX13_init_465 (by decide) ?_
  refine i_iastE (L := [41, 1, 41, 41, 61, 442, 442, 442, 442, 42]) C w (vpi (by decide +kernel)) (by decide +kernel) dX13_init_467 (fun H locs w => ?_)
  refine lv_dup C.1 C.2.1 dX13_init_468 rfl ?_
  refine lv_bipush (v := 11) C.1 C.2.1 dX13_init_469 (by decide) ?_
  refine lv_sipush (v := 542) C.1 C.2.1 dX13_init_471 (by decide) ?_
  refine i_iastE (L := [41, 1, 41, 41, 61, 442, 442, 442, 442, 42, 42]) C w (vpi (by decide +kernel)) (by decide +kernel) dX13_init_474 (fun H locs w => ?_)
  refine lv_dup C.1 C.2.1 dX13_init_475 rfl ?_
  refine lv_bipush (v := 12) C.1 C.2.1 dX13_init_476 (by decide) ?_
  refine lv_sipush (v := 542) C.1 C.2.1 dX13_init_478 (by decide) ?_
  refine i_iastE (L := [41, 1, 41, 41, 61, 442, 442, 442, 442, 42, 42, 542]) C w (vpi (by decide +kernel)) (by decide +kernel) dX13_init_481 (fun H locs w => ?_)
  refine lv_dup C.1 C.2.1 dX13_init_482 rfl ?_
  refine lv_bipush (v := 13) C.1 C.2.1 dX13_init_483 (by decide) ?_
  refine lv_sipush (v := 542) C.1 C.2.1 dX13_init_485 (by decide) ?_
  refine i_iastE (L := [41, 1, 41, 41, 61, 442, 442, 442, 442, 42, 42, 542, 542]) C w (vpi (by decide +kernel)) (by decide +kernel) dX13_init_488 (fun H locs w => ?_)
  refine lv_dup C.1 C.2.1 dX13_init_489 rfl ?_
  refine lv_bipush (v := 14) C.1 C.2.1 dX13_init_490 (by decide) ?_
  refine lv_sipush (v := 5542) C.1 C.2.1 dX13_init_492 (by decide) ?_
  refine i_iastE (L := [41, 1, 41, 41, 61, 442, 442, 442, 442, 42, 42, 542, 542, 542]) C w (vpi (by decide +kernel)) (by decide +kernel) dX13_init_495 (fun H locs w => ?_)
  refine lv_dup C.1 C.2.1 dX13_init_496 rfl ?_
  refine lv_bipush (v := 15) C.1 C.2.1 dX13_init_497 (by decide) ?_
  refine lv_sipush (v := 5542) C.1 C.2.1 dX13_init_499 (by decide) ?_
  refine i_iastE (L := [41, 1, 41, 41, 61, 442, 442, 442, 442, 42, 42, 542, 542, 542, 5542]) C w (vpi (by decide +kernel)) (by decide +kernel) dX13_init_502 (fun H locs w => ?_)
  refine lv_dup C.1 C.2.1 dX13_init_503 rfl ?_
  refine lv_bipush (v := 16) C.1 C.2.1 dX13_init_504 (by decide) ?_
  refine lv_sipush (v := 5541) C.1 C.2.1 dX13_init_506 (by decide) ?_
  refine i_iastE (L := [41, 1, 41, 41, 61, 442, 442, 442, 442, 42, 42, 542, 542, 542, 5542, 5542]) C w (vpi (by decide +kernel)) (by decide +kernel) dX13_init_509 (fun H locs w => ?_)
  refine lv_dup C.1 C.2.1 dX13_init_510 rfl ?_
  refine lv_bipush (v := 17) C.1 C.2.1 dX13_init_511 (by decide) ?_
  refine lv_bipush (v := 41) C.1 C.2.1 dX13_init_513 (by decide) ?_
  refine i_iastE (L := [41, 1, 41, 41, 61, 442, 442, 442, 442, 42, 42, 542, 542, 542, 5542, 5542, 5541]) C w (vpi (by decide +kernel)) (by decide +kernel) dX13_init_515 (fun H locs w => ?_)
  refine lv_dup C.1 C.2.1 dX13_init_516 rfl ?_
  refine lv_bipush (v := 18) C.1 C.2.1 dX13_init_517 (by decide) ?_
  refine lv_bipush (v := 41) C.1 C.2.1 dX13_init_519 (by decide) ?_
  refine i_iastE (L := [41, 1, 41, 41, 61, 442, 442, 442, 442, 42, 42, 542, 542, 542, 5542, 5542, 5541, 41]) C w (vpi (by decide +kernel)) (by decide +kernel) dX13_init_521 (fun H locs w => ?_)
  refine lv_dup C.1 C.2.1 dX13_init_522 rfl ?_
  refine lv_bipush (v := 19) C.1 C.2.1 dX13_init_523 (by decide) ?_
  refine lv_sipush (v := 541) C.1 C.2.1 dX13_init_525 (by decide) ?_
  refine i_iastE (L := [41, 1, 41, 41, 61, 442, 442, 442, 442, 42, 42, 542, 542, 542, 5542, 5542, 5541, 41, 41]) C w (vpi (by decide +kernel)) (by decide +kernel) dX13_init_528 (fun H locs w => ?_)
  refine lv_dup C.1 C.2.1 dX13_init_529 rfl ?_
  refine lv_bipush (v := 20) C.1 C.2.1 dX13_init_530 (by decide) ?_
  refine lv_sipush (v := 5541) C.1 C.2.1 dX13_init_532 (by decide) ?_
  refine i_iastE (L := [41, 1, 41, 41, 61, 442, 442, 442, 442, 42, 42, 542, 542, 542, 5542, 5542, 5541, 41, 41, 541]) C w (vpi (by decide +kernel)) (by decide +kernel) dX13_init_535 (fun H locs w => ?_)
  refine lv_dup C.1 C.2.1 dX13_init_536 rfl ?_
  refine lv_bipush (v := 21) C.1 C.2.1 dX13_init_537 (by decide) ?_
  refine lv_sipush (v := 4441) C.1 C.2.1 dX13_init_539 (by decide) ?_
  refine i_iastE (L := [41, 1, 41, 41, 61, 442, 442, 442, 442, 42, 42, 542, 542, 542, 5542, 5542, 5541, 41, 41, 541, 5541]) C w (vpi (by decide +kernel)) (by decide +kernel) dX13_init_542 (fun H locs w => ?_)
  refine lv_dup C.1 C.2.1 dX13_init_543 rfl ?_
  refine lv_bipush (v := 22) C.1 C.2.1 dX13_init_544 (by decide) ?_
  refine lv_sipush (v := 5442) C.1 C.2.1 dX13_init_546 (by decide) ?_
  refine i_iastE (L := [41, 1, 41, 41, 61, 442, 442, 442, 442, 42, 42, 542, 542, 542, 5542, 5542, 5541, 41, 41, 541, 5541, 4441]) C w (vpi (by decide +kernel)) (by decide +kernel) dX13_init_549 (fun H locs w => ?_)
  refine lv_dup C.1 C.2.1 dX13_init_550 rfl ?_
  refine lv_bipush (v := 23) C.1 C.2.1 dX13_init_551 (by decide) ?_
  refine lv_sipush (v := 5442) C.1 C.2.1 dX13_init_553 (by decide) ?_
  refine i_iastE (L := [41, 1, 41, 41, 61, 442, 442, 442, 442, 42, 42, 542, 542, 542, 5542, 5542, 5541, 41, 41, 541, 5541, 4441, 5442]) C w (vpi (by decide +kernel)) (by decide +kernel) dX13_init_556 (fun H locs w => ?_)
  refine lv_dup C.1 C.2.1 dX13_init_557 rfl ?_
  refine lv_bipush (v := 24) C.1 C.2.1 dX13_init_558 (by decide) ?_
  refine lv_sipush (v := 5542) C.1 C.2.1 dX13_init_560 (by decide) ?_
  refine i_iastE (L := [41, 1, 41, 41, 61, 442, 442, 442, 442, 42, 42, 542, 542, 542, 5542, 5542, 5541, 41, 41, 541, 5541, 4441, 5442, 5442]) C w (vpi (by decide +kernel)) (by decide +kernel) dX13_init_563 (fun H locs w => ?_)
  refine lv_dup C.1 C.2.1 dX13_init_564 rfl ?_
  refine lv_bipush (v := 25) C.1 C.2.1 dX13_init_565 (by decide) ?_
  refine lv_sipush (v := 5442) C.1 C.2.1 dX13_init_567 (by decide) ?_
  refine i_iastE (L := [41, 1, 41, 41, 61, 442, 442, 442, 442, 42, 42, 542, 542, 542, 5542, 5542, 5541, 41, 41, 541, 5541, 4441, 5442, 5442, 5542]) C w (vpi (by decide +kernel)) (by decide +kernel) dX13_init_570 (fun H locs w => ?_)
  refine lv_dup C.1 C.2.1 dX13_init_571 rfl ?_
  refine lv_bipush (v := 26) C.1 C.2.1 dX13_init_572 (by decide) ?_
  refine lv_sipush (v := 442) C.1 C.2.1 dX13_init_574 (by decide) ?_
  refine i_iastE (L := [41, 1, 41, 41, 61, 442, 442, 442, 442, 42, 42, 542, 542, 542, 5542, 5542, 5541, 41, 41, 541, 5541, 4441, 5442, 5442, 5542, 5442]) C w (vpi (by decide +kernel)) (by decide +kernel) dX13_init_577 (fun H locs w => ?_)
  refine lv_dup C.1 C.2.1 dX13_init_578 rfl ?_
  refine lv_bipush (v := 27) C.1 C.2.1 dX13_init_579 (by decide) ?_
  refine lv_sipush (v := 554) C.1 C.2.1 dX13_init_581 (by decide) ?_
  refine i_iastE (L := [41, 1, 41, 41, 61, 442, 442, 442, 442, 42, 42, 542, 542, 542, 5542, 5542, 5541, 41, 41, 541, 5541, 4441, 5442, 5442, 5542, 5442, 442]) C w (vpi (by decide +kernel)) (by decide +kernel) dX13_init_584 (fun H locs w => ?_)
  exact kk H locs w
set_option maxRecDepth 100000 in
set_option maxHeartbeats 4000000 in
theorem bM_wordsB (C : CallFix p m c cX13_init 1 s args tb RX13) {q h0 : Nat} (w : Wg D T (ws ++ [(q, .inl (T.1, 28, .inl (fun _ => 0)))]) A s H locs) (kk : ∀ (H : Heap) (locs : List Loc), Wg D T (ws ++ [(q, .inl (T.1, 28, .inl (fun j => kwordsB.getD j 0)))]) A s H locs → W p l e R s m args below meth c H locs cells slots Q (F0 m 762 ls [.ref q, .ref h0])) : W p l e R s m args below meth c H locs cells slots Q (F0 m 593 ls [.ref q, .ref h0]) := by
  refine lv_dup C.1 C.2.1 dX13_init_593 rfl ?_
  refine lv_iconst (v := 0) C.1 C.2.1 dX13_init_594 (by decide) ?_
  refine lv_iconst (v := 4) C.1 C.2.1 dX13_init_595 (by decide) ?_
  refine i_iastE (L := []) C w (vpi (by decide +kernel)) (by decide +kernel) dX13_init_596 (fun H locs w => ?_)
  refine lv_dup C.1 C.2.1 dX13_init_597 rfl ?_
  refine lv_iconst (v := 1) C.1 C.2.1 dX13_init_598 (by decide) ?_
  refine lv_bipush (v := 51) C.1 C.2.1 dX13_init_599 (by decide) ?_
  refine i_iastE (L := [4]) C w (vpi (by decide +kernel)) (by decide +kernel) dX13_init_601 (fun H locs w => ?_)
  refine lv_dup C.1 C.2.1 dX13_init_602 rfl ?_
  refine lv_iconst (v := 2) C.1 C.2.1 dX13_init_603 (by decide) ?_
  refine lv_iconst (v := 2) C.1 C.2.1 dX13_init_604 (by decide) ?_
  refine i_iastE (L := [4, 51]) C w (vpi (by decide +kernel)) (by decide +kernel) dX13_init_605 (fun H locs w => ?_)
  refine lv_dup C.1 C.2.1 dX13_init_606 rfl ?_
  refine lv_iconst (v := 3) C.1 C.2.1 dX13_init_607 (by decide) ?_
  refine lv_bipush (v := 41) C.1 C.2.1 dX13_init_608 (by decide) ?_
  refine i_iastE (L := [4, 51, 2]) C w (vpi (by decide +kernel)) (by decide +kernel) dX13_init_610 (fun H locs w => ?_)
  refine lv_dup C.1 C.2.1 dX13_init_611 rfl ?_
  refine lv_iconst (v := 4) C.1 C.2.1 dX13_init_612 (by decide) ?_
  refine lv_bipush (v := 41) C.1 C.2.1 dX13_init_613 (by decide) ?_
  refine i_iastE (L := [4, 51, 2, 41]) C w (vpi (by decide +kernel)) (by decide +kernel) dX13_init_615 (fun H locs w => ?_)
  refine lv_dup C.1 C.2.1 dX13_init_616 rfl ?_
  refine lv_iconst (v := 5) C.1 C.2.1 dX13_init_617 (by decide) ?_
  refine lv_bipush (v := 41) C.1 C.2.1 dX13_init_618 (by decide) ?_
  refine i_iastE (L := [4, 51, 2, 41, 41]) C w (vpi (by decide +kernel)) (by decide +kernel) dX13_init_620 (fun H locs w => ?_)
  refine lv_dup C.1 C.2.1 dX13_init_621 rfl ?_
  refine lv_bipush (v := 6) C.1 C.2.1 dX13_init_622 (by decide) ?_
  refine lv_bipush (v := 53) C.1 C.2.1 dX13_init_624 (by decide) ?_
  refine i_iastE (L := [4, 51, 2, 41, 41, 41]) C w (vpi (by decide +kernel)) (by decide +kernel) dX13_init_626 (fun H locs w => ?_)
  refine lv_dup C.1 C.2.1 dX13_init_627 rfl ?_
  refine lv_bipush (v := 7) C.1 C.2.1 dX13_init_628 (by decide) ?_
  refine lv_bipush (v := 43) C.1 C.2.1 dX13_init_630 (by decide) ?_
  refine i_iastE (L := [4, 51, 2, 41, 41, 41, 53]) C w (vpi (by decide +kernel)) (by decide +kernel) dX13_init_632 (fun H locs w => ?_)
  refine lv_dup C.1 C.2.1 dX13_init_633 rfl ?_
  refine lv_bipush (v := 8) C.1 C.2.1 dX13_init_634 (by decide) ?_
  refine lv_bipush (v := 67) C.1 C.2.1 dX13_init_636 (by decide) ?_
  refine i_iastE (L := [4, 51, 2, 41, 41, 41, 53, 43]) C w (vpi (by decide +kernel)) (by decide +kernel) dX13_init_638 (fun H locs w => ?_)
  refine lv_dup C.1 C.2.1 dX13_init_639 rfl ?_
  refine lv_bipush (v := 9) C.1 C.2.1 dX13_init_640 (by decide) ?_
  refine lv_sipush (v := 657) C.1 C.2.1 dX13_init_642 (by decide) ?_
  refine i_iastE (L := [4, 51, 2, 41, 41, 41, 53, 43, 67]) C w (vpi (by decide +kernel)) (by decide +kernel) dX13_init_645 (fun H locs w => ?_)
  refine lv_dup C.1 C.2.1 dX13_init_646 rfl ?_
  refine lv_bipush (v := 10) C.1 C.2.1 dX13_init_647 (by decide) ?_
  refine lv_sipush (v := 557) C.1 C.2.1 dX13_init_649 (by decide) ?_
  refine i_iastE (L := [4, 51, 2, 41, 41, 41, 53, 43, 67, 657]) C w (vpi (by decide +kernel)) (by decide +kernel) dX13_init_652 (fun H locs w => ?_)
  refine lv_dup C.1 C.2.1 dX13_init_653 rfl ?_
  refine lv_bipush (v := 11) C.1 C.2.1 dX13_init_654 (by decide) ?_
  refine lv_sipush (v := 557) C.1 C.2.1 dX13_init_656 (by decide) ?_
  refine i_iastE (L := [4, 51, 2, 41, 41, 41, 53, 43, 67, 657, 557]) C w (vpi (by decide +kernel)) (by decide +kernel) dX13_init_659 (fun H locs w => ?_)
  refine lv_dup C.1 C.2.1 dX13_init_660 rfl ?_
  refine lv_bipush (v := 12) C.1 C.2.1 dX13_init_661 (by decide) ?_
  refine lv_bipush (v := 7) C.1 C.2.1 dX13_init_663 (by decide) ?_
  refine i_iastE (L := [4, 51, 2, 41, 41, 41, 53, 43, 67, 657, 557, 557]) C w (vpi (by decide +kernel)) (by decide +kernel) dX13_init_665 (fun H locs w => ?_)
  refine lv_dup C.1 C.2.1 dX13_init_666 rfl ?_
  refine lv_bipush (v := 13) C.1 C.2.1 dX13_init_667 (by decide) ?_
  refine lv_bipush (v := 57) C.1 C.2.1 dX13_init_669 (by decide) ?_
  refine i_iastE (L := [4, 51, 2, 41, 41, 41, 53, 43, 67, 657, 557, 557, 7]) C w (vpi (by decide +kernel)) (by decide +kernel) dX13_init_671 (fun H locs w => ?_)
  refine lv_dup C.1 C.2.1 dX13_init_672 rfl ?_
  refine lv_bipush (v := 14) C.1 C.2.1 dX13_init_673 (by decide) ?_
  refine lv_bipush (v := 71) C.1 C.2.1 dX13_init_675 (by decide) ?_
  refine i_iastE (L := [4, 51, 2, 41, 41, 41, 53, 43, 67, 657, 557, 557, 7, 57]) C w (vpi (by decide +kernel)) (by decide +kernel) dX13_init_677 (fun H locs w => ?_)
  refine lv_dup C.1 C.2.1 dX13_init_678 rfl ?_
  refine lv_bipush (v := 15) C.1 C.2.1 dX13_init_679 (by decide) ?_
  refine lv_bipush (v := 72) C.1 C.2.1 dX13_init_681 (by decide) ?_
  refine i_iastE (L := [4, 51, 2, 41, 41, 41, 53, 43, 67, 657, 557, 557, 7, 57, 71]) C w (vpi (by decide +kernel)) (by decide +kernel) dX13_init_683 (fun H locs w => ?_)
  refine lv_dup C.1 C.2.1 dX13_init_684 rfl ?_
  refine lv_bipush (v := 16) C.1 C.2.1 dX13_init_685 (by decide) ?_
  refine lv_sipush (v := 772) C.1 C.2.1 dX13_init_687 (by decide) ?_
  refine i_iastE (L := [4, 51, 2, 41, 41, 41, 53, 43, 67, 657, 557, 557, 7, 57, 71, 72]) C w (vpi (by decide +kernel)) (by decide +kernel) dX13_init_690 (fun H locs w => ?_)
  refine lv_dup C.1 C.2.1 dX13_init_691 rfl ?_
  refine lv_bipush (v := 17) C.1 C.2.1 dX13_init_692 (by decide) ?_
  refine lv_bipush (v := 51) C.1 C.2.1 dX13_init_694 (by decide) ?_
  refine i_iastE (L := [4, 51, 2, 41, 41, 41, 53, 43, 67, 657, 557, 557, 7, 57, 71, 72, 772]) C w (vpi (by decide +kernel)) (by decide +kernel) dX13_init_696 (fun H locs w => ?_)
  refine lv_dup C.1 C.2.1 dX13_init_697 rfl ?_
  refine lv_bipush (v := 18) C.1 C.2.1 dX13_init_698 (by decide) ?_
  refine lv_sipush (v := 551) C.1 C.2.1 dX13_init_700 (by decide) ?_
  refine i_iastE (L := [4, 51, 2, 41, 41, 41, 53, 43, 67, 657, 557, 557, 7, 57, 71, 72, 772, 51]) C w (vpi (by decide +kernel)) (by decide +kernel) dX13_init_703 (fun H locs w => ?_)
  refine lv_dup C.1 C.2.1 dX13_init_704 rfl ?_
  refine lv_bipush (v := 19) C.1 C.2.1 dX13_init_705 (by decide) ?_
  refine lv_sipush (v := 542) C.1 C.2.1 dX13_init_707 (by decide) ?_
  refine i_iastE (L := [4, 51, 2, 41, 41, 41, 53, 43, 67, 657, 557, 557, 7, 57, 71, 72, 772, 51, 551]) C w (vpi (by decide +kernel)) (by decide +kernel) dX13_init_710 (fun H locs w => ?_)
  refine lv_dup C.1 C.2.1 dX13_init_711 rfl ?_
  refine lv_bipush (v := 20) C.1 C.2.1 dX13_init_712 (by decide) ?_
  refine lv_sipush (v := 542) C.1 C.2.1 dX13_init_714 (by decide) ?_
  refine i_iastE (L := [4, 51, 2, 41, 41, 41, 53, 43, 67, 657, 557, 557, 7, 57, 71, 72, 772, 51, 551, 542]) C w (vpi (by decide +kernel)) (by decide +kernel) dX13_init_717 (fun H locs w => ?_)
  refine lv_dup C.1 C.2.1 dX13_init_718 rfl ?_
  refine lv_bipush (v := 21) C.1 C.2.1 dX13_init_719 (by decide) ?_
  refine lv_bipush (v := 42) C.1 C.2.1 dX13_init_721 (by decide) ?_
  refine i_iastE (L := [4, 51, 2, 41, 41, 41, 53, 43, 67, 657, 557, 557, 7, 57, 71, 72, 772, 51, 551, 542, 542]) C w (vpi (by decide +kernel)) (by decide +kernel) dX13_init_723 (fun H locs w => ?_)
  refine lv_dup C.1 C.2.1 dX13_init_724 rfl ?_
  refine lv_bipush (v := 22) C.1 C.2.1 dX13_init_725 (by decide) ?_
  refine lv_sipush (v := 552) C.1 C.2.1 dX13_init_727 (by decide) ?_
  refine i_iastE (L := [4, 51, 2, 41, 41, 41, 53, 43, 67, 657, 557, 557, 7, 57, 71, 72, 772, 51, 551, 542, 542, 42]) C w (vpi (by decide +kernel)) (by decide +kernel) dX13_init_730 (fun H locs w => ?_)
  refine lv_dup C.1 C.2.1 dX13_init_731 rfl ?_
  refine lv_bipush (v := 23) C.1 C.2.1 dX13_init_732 (by decide) ?_
  refine lv_sipush (v := 552) C.1 C.2.1 dX13_init_734 (by decide) ?_
  refine i_iastE (L := [4, 51, 2, 41, 41, 41, 53, 43, 67, 657, 557, 557, 7, 57, 71, 72, 772, 51, 551, 542, 542, 42, 552]) C w (vpi (by decide +kernel)) (by decide +kernel) dX13_init_737 (fun H locs w => ?_)
  refine lv_dup C.1 C.2.1 dX13_init_738 rfl ?_
  refine lv_bipush (v := 24) C.1 C.2.1 dX13_init_739 (by decide) ?_
  refine lv_sipush (v := 552) C.1 C.2.1 dX13_init_741 (by decide) ?_
  refine i_iastE (L := [4, 51, 2, 41, 41, 41, 53, 43, 67, 657, 557, 557, 7, 57, 71, 72, 772, 51, 551, 542, 542, 42, 552, 552]) C w (vpi (by decide +kernel)) (by decide +kernel) dX13_init_744 (fun H locs w => ?_)
  refine lv_dup C.1 C.2.1 dX13_init_745 rfl ?_
  refine lv_bipush (v := 25) C.1 C.2.1 dX13_init_746 (by decide) ?_
  refine lv_bipush (v := 85) C.1 C.2.1 dX13_init_748 (by decide) ?_
  refine i_iastE (L := [4, 51, 2, 41, 41, 41, 53, 43, 67, 657, 557, 557, 7, 57, 71, 72, 772, 51, 551, 542, 542, 42, 552, 552, 552]) C w (vpi (by decide +kernel)) (by decide +kernel) dX13_init_750 (fun H locs w => ?_)
  refine lv_dup C.1 C.2.1 dX13_init_751 rfl ?_
  refine lv_bipush (v := 26) C.1 C.2.1 dX13_init_752 (by decide) ?_
  refine lv_bipush (v := 82) C.1 C.2.1 dX13_init_754 (by decide) ?_
  refine i_iastE (L := [4, 51, 2, 41, 41, 41, 53, 43, 67, 657, 557, 557, 7, 57, 71, 72, 772, 51, 551, 542, 542, 42, 552, 552, 552, 85]) C w (vpi (by decide +kernel)) (by decide +kernel) dX13_init_756 (fun H locs w => ?_)
  refine lv_dup C.1 C.2.1 dX13_init_757 rfl ?_
  refine lv_bipush (v := 27) C.1 C.2.1 dX13_init_758 (by decide) ?_
  refine lv_iconst (v := 5) C.1 C.2.1 dX13_init_760 (by decide) ?_
  refine i_iastE (L := [4, 51, 2, 41, 41, 41, 53, 43, 67, 657, 557, 557, 7, 57, 71, 72, 772, 51, 551, 542, 542, 42, 552, 552, 552, 85, 82]) C w (vpi (by decide +kernel)) (by decide +kernel) dX13_init_761 (fun H locs w => ?_)
  exact kk H locs w
end INM
