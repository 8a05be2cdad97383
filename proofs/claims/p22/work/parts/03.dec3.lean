theorem dX12_kind_103 : decode cX12_kind 103 = .ok (.getfield 23, 3) := by decide +kernel
theorem dX12_kind_106 : decode cX12_kind 106 = .ok (.invokevirtual 308, 3) := by decide +kernel
theorem dX12_kind_109 : decode cX12_kind 109 = .ok (.aload_n 0, 1) := by decide +kernel
theorem dX12_kind_110 : decode cX12_kind 110 = .ok (.getfield 32, 3) := by decide +kernel
theorem dX12_kind_113 : decode cX12_kind 113 = .ok (.lstore_n 2, 1) := by decide +kernel
theorem dX12_kind_114 : decode cX12_kind 114 = .ok (.aload_n 0, 1) := by decide +kernel
theorem dX12_kind_115 : decode cX12_kind 115 = .ok (.getfield 36, 3) := by decide +kernel
theorem dX12_kind_118 : decode cX12_kind 118 = .ok (.ifCond .ne 7, 3) := by decide +kernel
theorem dX12_kind_121 : decode cX12_kind 121 = .ok (.aload_n 0, 1) := by decide +kernel
theorem dX12_kind_122 : decode cX12_kind 122 = .ok (.invokevirtual 312, 3) := by decide +kernel
theorem dX12_kind_125 : decode cX12_kind 125 = .ok (.aload_n 0, 1) := by decide +kernel
theorem dX12_kind_126 : decode cX12_kind 126 = .ok (.getfield 36, 3) := by decide +kernel
theorem dX12_kind_129 : decode cX12_kind 129 = .ok (.ifCond .ne 10, 3) := by decide +kernel
theorem dX12_kind_132 : decode cX12_kind 132 = .ok (.aload_n 0, 1) := by decide +kernel
theorem dX12_kind_133 : decode cX12_kind 133 = .ok (.ldc2_w 328, 3) := by decide +kernel
theorem dX12_kind_136 : decode cX12_kind 136 = .ok (.invokevirtual 415, 3) := by decide +kernel
theorem dX12_kind_139 : decode cX12_kind 139 = .ok (.aload_n 0, 1) := by decide +kernel
theorem dX12_kind_140 : decode cX12_kind 140 = .ok (.getfield 36, 3) := by decide +kernel
theorem dX12_kind_143 : decode cX12_kind 143 = .ok (.ifCond .ne 14, 3) := by decide +kernel
theorem dX12_kind_146 : decode cX12_kind 146 = .ok (.aload_n 0, 1) := by decide +kernel
theorem dX12_kind_147 : decode cX12_kind 147 = .ok (.iconst 1, 1) := by decide +kernel
theorem dX12_kind_148 : decode cX12_kind 148 = .ok (.sipush 500, 3) := by decide +kernel
theorem dX12_kind_151 : decode cX12_kind 151 = .ok (.invokevirtual 419, 3) := by decide +kernel
theorem dX12_kind_154 : decode cX12_kind 154 = .ok (.goto 4, 3) := by decide +kernel
theorem dX12_kind_157 : decode cX12_kind 157 = .ok (.iconst 0, 1) := by decide +kernel
theorem dX12_kind_158 : decode cX12_kind 158 = .ok (.istore 4, 2) := by decide +kernel
theorem dX12_kind_160 : decode cX12_kind 160 = .ok (.aload_n 0, 1) := by decide +kernel
theorem dX12_kind_161 : decode cX12_kind 161 = .ok (.getfield 36, 3) := by decide +kernel
theorem dX12_kind_164 : decode cX12_kind 164 = .ok (.ifCond .ne 10, 3) := by decide +kernel
theorem dX12_kind_167 : decode cX12_kind 167 = .ok (.aload_n 0, 1) := by decide +kernel
theorem dX12_kind_168 : decode cX12_kind 168 = .ok (.ldc2_w 330, 3) := by decide +kernel
theorem dX12_kind_171 : decode cX12_kind 171 = .ok (.invokevirtual 415, 3) := by decide +kernel
theorem dX12_kind_174 : decode cX12_kind 174 = .ok (.aload_n 0, 1) := by decide +kernel
theorem dX12_kind_175 : decode cX12_kind 175 = .ok (.getfield 36, 3) := by decide +kernel
theorem dX12_kind_178 : decode cX12_kind 178 = .ok (.ifCond .ne 14, 3) := by decide +kernel
theorem dX12_kind_181 : decode cX12_kind 181 = .ok (.aload_n 0, 1) := by decide +kernel
theorem dX12_kind_182 : decode cX12_kind 182 = .ok (.iconst 0, 1) := by decide +kernel
theorem dX12_kind_183 : decode cX12_kind 183 = .ok (.sipush 1000, 3) := by decide +kernel
theorem dX12_kind_186 : decode cX12_kind 186 = .ok (.invokevirtual 419, 3) := by decide +kernel
theorem dX12_kind_189 : decode cX12_kind 189 = .ok (.goto 4, 3) := by decide +kernel
theorem dX12_kind_192 : decode cX12_kind 192 = .ok (.iconst 0, 1) := by decide +kernel
theorem dX12_kind_193 : decode cX12_kind 193 = .ok (.istore 5, 2) := by decide +kernel
theorem dX12_kind_195 : decode cX12_kind 195 = .ok (.aload_n 0, 1) := by decide +kernel
theorem dX12_kind_196 : decode cX12_kind 196 = .ok (.getfield 36, 3) := by decide +kernel
theorem dX12_kind_199 : decode cX12_kind 199 = .ok (.ifCond .ne 10, 3) := by decide +kernel
theorem dX12_kind_202 : decode cX12_kind 202 = .ok (.aload_n 0, 1) := by decide +kernel
theorem dX12_kind_203 : decode cX12_kind 203 = .ok (.ldc2_w 332, 3) := by decide +kernel
theorem dX12_kind_206 : decode cX12_kind 206 = .ok (.invokevirtual 415, 3) := by decide +kernel
theorem dX12_kind_209 : decode cX12_kind 209 = .ok (.aload_n 0, 1) := by decide +kernel
theorem dX12_kind_210 : decode cX12_kind 210 = .ok (.getfield 36, 3) := by decide +kernel
theorem dX12_kind_213 : decode cX12_kind 213 = .ok (.ifCond .ne 14, 3) := by decide +kernel
theorem dX12_kind_216 : decode cX12_kind 216 = .ok (.aload_n 0, 1) := by decide +kernel
theorem dX12_kind_217 : decode cX12_kind 217 = .ok (.iconst 0, 1) := by decide +kernel
theorem dX12_kind_218 : decode cX12_kind 218 = .ok (.sipush 200, 3) := by decide +kernel
theorem dX12_kind_221 : decode cX12_kind 221 = .ok (.invokevirtual 419, 3) := by decide +kernel
theorem dX12_kind_224 : decode cX12_kind 224 = .ok (.goto 4, 3) := by decide +kernel
theorem dX12_kind_227 : decode cX12_kind 227 = .ok (.iconst 0, 1) := by decide +kernel
theorem dX12_kind_228 : decode cX12_kind 228 = .ok (.istore 6, 2) := by decide +kernel
theorem dX12_kind_230 : decode cX12_kind 230 = .ok (.iconst 0, 1) := by decide +kernel
theorem dX12_kind_231 : decode cX12_kind 231 = .ok (.istore 7, 2) := by decide +kernel
theorem dX12_kind_233 : decode cX12_kind 233 = .ok (.aload_n 0, 1) := by decide +kernel
theorem dX12_kind_234 : decode cX12_kind 234 = .ok (.getfield 36, 3) := by decide +kernel
theorem dX12_kind_237 : decode cX12_kind 237 = .ok (.ifCond .ne 17, 3) := by decide +kernel
theorem dX12_kind_240 : decode cX12_kind 240 = .ok (.aload_n 0, 1) := by decide +kernel
theorem dX12_kind_241 : decode cX12_kind 241 = .ok (.ldc2_w 334, 3) := by decide +kernel
theorem dX12_kind_244 : decode cX12_kind 244 = .ok (.invokevirtual 318, 3) := by decide +kernel
theorem dX12_kind_247 : decode cX12_kind 247 = .ok (.ifCond .eq 7, 3) := by decide +kernel
theorem dX12_kind_250 : decode cX12_kind 250 = .ok (.iconst 1, 1) := by decide +kernel
theorem dX12_kind_251 : decode cX12_kind 251 = .ok (.goto 4, 3) := by decide +kernel
theorem dX12_kind_254 : decode cX12_kind 254 = .ok (.iconst 0, 1) := by decide +kernel
theorem dX12_kind_255 : decode cX12_kind 255 = .ok (.istore 8, 2) := by decide +kernel
theorem dX12_kind_257 : decode cX12_kind 257 = .ok (.iload 8, 2) := by decide +kernel
theorem dX12_kind_259 : decode cX12_kind 259 = .ok (.ifCond .eq 42, 3) := by decide +kernel
theorem dX12_kind_262 : decode cX12_kind 262 = .ok (.aload_n 0, 1) := by decide +kernel
theorem dX12_kind_263 : decode cX12_kind 263 = .ok (.invokevirtual 312, 3) := by decide +kernel
theorem dX12_kind_266 : decode cX12_kind 266 = .ok (.aload_n 0, 1) := by decide +kernel
theorem dX12_kind_267 : decode cX12_kind 267 = .ok (.lload_n 2, 1) := by decide +kernel
theorem dX12_kind_268 : decode cX12_kind 268 = .ok (.iload 7, 2) := by decide +kernel
theorem dX12_kind_270 : decode cX12_kind 270 = .ok (.invokevirtual 423, 3) := by decide +kernel
theorem dX12_kind_273 : decode cX12_kind 273 = .ok (.istore 7, 2) := by decide +kernel
theorem dX12_kind_275 : decode cX12_kind 275 = .ok (.aload_n 0, 1) := by decide +kernel
theorem dX12_kind_276 : decode cX12_kind 276 = .ok (.getfield 36, 3) := by decide +kernel
theorem dX12_kind_279 : decode cX12_kind 279 = .ok (.ifCond .ne 16, 3) := by decide +kernel
theorem dX12_kind_282 : decode cX12_kind 282 = .ok (.aload_n 0, 1) := by decide +kernel
theorem dX12_kind_283 : decode cX12_kind 283 = .ok (.bipush 44, 2) := by decide +kernel
theorem dX12_kind_285 : decode cX12_kind 285 = .ok (.invokevirtual 315, 3) := by decide +kernel
theorem dX12_kind_288 : decode cX12_kind 288 = .ok (.ifCond .eq 7, 3) := by decide +kernel
theorem dX12_kind_291 : decode cX12_kind 291 = .ok (.iconst 1, 1) := by decide +kernel
theorem dX12_kind_292 : decode cX12_kind 292 = .ok (.goto 4, 3) := by decide +kernel
theorem dX12_kind_295 : decode cX12_kind 295 = .ok (.iconst 0, 1) := by decide +kernel
theorem dX12_kind_296 : decode cX12_kind 296 = .ok (.istore 8, 2) := by decide +kernel
theorem dX12_kind_298 : decode cX12_kind 298 = .ok (.goto (-41), 3) := by decide +kernel
theorem dX12_kind_301 : decode cX12_kind 301 = .ok (.aload_n 0, 1) := by decide +kernel
theorem dX12_kind_302 : decode cX12_kind 302 = .ok (.getfield 36, 3) := by decide +kernel
theorem dX12_kind_305 : decode cX12_kind 305 = .ok (.ifCond .le 4, 3) := by decide +kernel
theorem dX12_kind_308 : decode cX12_kind 308 = .ok (.return_, 1) := by decide +kernel
theorem dX12_kind_309 : decode cX12_kind 309 = .ok (.aload_n 0, 1) := by decide +kernel
theorem dX12_kind_310 : decode cX12_kind 310 = .ok (.getfield 66, 3) := by decide +kernel
theorem dX12_kind_313 : decode cX12_kind 313 = .ok (.bipush 10, 2) := by decide +kernel
theorem dX12_kind_315 : decode cX12_kind 315 = .ok (.aload_n 0, 1) := by decide +kernel
theorem dX12_kind_316 : decode cX12_kind 316 = .ok (.getfield 51, 3) := by decide +kernel
theorem dX12_kind_319 : decode cX12_kind 319 = .ok (.imul, 1) := by decide +kernel
theorem dX12_kind_320 : decode cX12_kind 320 = .ok (.iload_n 1, 1) := by decide +kernel
theorem dX12_kind_321 : decode cX12_kind 321 = .ok (.iadd, 1) := by decide +kernel
theorem dX12_kind_322 : decode cX12_kind 322 = .ok (.lload_n 2, 1) := by decide +kernel
theorem dX12_kind_323 : decode cX12_kind 323 = .ok (.lastore, 1) := by decide +kernel
theorem dX12_kind_324 : decode cX12_kind 324 = .ok (.aload_n 0, 1) := by decide +kernel
theorem dX12_kind_325 : decode cX12_kind 325 = .ok (.getfield 73, 3) := by decide +kernel
theorem dX12_kind_328 : decode cX12_kind 328 = .ok (.bipush 10, 2) := by decide +kernel
theorem dX12_kind_330 : decode cX12_kind 330 = .ok (.aload_n 0, 1) := by decide +kernel
theorem dX12_kind_331 : decode cX12_kind 331 = .ok (.getfield 51, 3) := by decide +kernel
theorem dX12_kind_334 : decode cX12_kind 334 = .ok (.imul, 1) := by decide +kernel
theorem dX12_kind_335 : decode cX12_kind 335 = .ok (.iload_n 1, 1) := by decide +kernel
theorem dX12_kind_336 : decode cX12_kind 336 = .ok (.iadd, 1) := by decide +kernel
theorem dX12_kind_337 : decode cX12_kind 337 = .ok (.iload 4, 2) := by decide +kernel
theorem dX12_kind_339 : decode cX12_kind 339 = .ok (.iastore, 1) := by decide +kernel
theorem dX12_kind_340 : decode cX12_kind 340 = .ok (.aload_n 0, 1) := by decide +kernel
theorem dX12_kind_341 : decode cX12_kind 341 = .ok (.getfield 76, 3) := by decide +kernel
theorem dX12_kind_344 : decode cX12_kind 344 = .ok (.bipush 10, 2) := by decide +kernel
theorem dX12_kind_346 : decode cX12_kind 346 = .ok (.aload_n 0, 1) := by decide +kernel
theorem dX12_kind_347 : decode cX12_kind 347 = .ok (.getfield 51, 3) := by decide +kernel
theorem dX12_kind_350 : decode cX12_kind 350 = .ok (.imul, 1) := by decide +kernel
theorem dX12_kind_351 : decode cX12_kind 351 = .ok (.iload_n 1, 1) := by decide +kernel
theorem dX12_kind_352 : decode cX12_kind 352 = .ok (.iadd, 1) := by decide +kernel
theorem dX12_kind_353 : decode cX12_kind 353 = .ok (.iload 5, 2) := by decide +kernel
theorem dX12_kind_355 : decode cX12_kind 355 = .ok (.iastore, 1) := by decide +kernel
theorem dX12_kind_356 : decode cX12_kind 356 = .ok (.aload_n 0, 1) := by decide +kernel
theorem dX12_kind_357 : decode cX12_kind 357 = .ok (.getfield 79, 3) := by decide +kernel
theorem dX12_kind_360 : decode cX12_kind 360 = .ok (.bipush 10, 2) := by decide +kernel
theorem dX12_kind_362 : decode cX12_kind 362 = .ok (.aload_n 0, 1) := by decide +kernel
theorem dX12_kind_363 : decode cX12_kind 363 = .ok (.getfield 51, 3) := by decide +kernel
theorem dX12_kind_366 : decode cX12_kind 366 = .ok (.imul, 1) := by decide +kernel
theorem dX12_kind_367 : decode cX12_kind 367 = .ok (.iload_n 1, 1) := by decide +kernel
theorem dX12_kind_368 : decode cX12_kind 368 = .ok (.iadd, 1) := by decide +kernel
theorem dX12_kind_369 : decode cX12_kind 369 = .ok (.iload 6, 2) := by decide +kernel
theorem dX12_kind_371 : decode cX12_kind 371 = .ok (.iastore, 1) := by decide +kernel
theorem dX12_kind_372 : decode cX12_kind 372 = .ok (.aload_n 0, 1) := by decide +kernel
theorem dX12_kind_373 : decode cX12_kind 373 = .ok (.getfield 82, 3) := by decide +kernel
theorem dX12_kind_376 : decode cX12_kind 376 = .ok (.bipush 10, 2) := by decide +kernel
theorem dX12_kind_378 : decode cX12_kind 378 = .ok (.aload_n 0, 1) := by decide +kernel
theorem dX12_kind_379 : decode cX12_kind 379 = .ok (.getfield 51, 3) := by decide +kernel
theorem dX12_kind_382 : decode cX12_kind 382 = .ok (.imul, 1) := by decide +kernel
theorem dX12_kind_383 : decode cX12_kind 383 = .ok (.iload_n 1, 1) := by decide +kernel
theorem dX12_kind_384 : decode cX12_kind 384 = .ok (.iadd, 1) := by decide +kernel
theorem dX12_kind_385 : decode cX12_kind 385 = .ok (.iload 7, 2) := by decide +kernel
theorem dX12_kind_387 : decode cX12_kind 387 = .ok (.iastore, 1) := by decide +kernel
theorem dX12_kind_388 : decode cX12_kind 388 = .ok (.aload_n 0, 1) := by decide +kernel
theorem dX12_kind_389 : decode cX12_kind 389 = .ok (.getfield 54, 3) := by decide +kernel
theorem dX12_kind_392 : decode cX12_kind 392 = .ok (.aload_n 0, 1) := by decide +kernel
theorem dX12_kind_393 : decode cX12_kind 393 = .ok (.getfield 51, 3) := by decide +kernel
theorem dX12_kind_396 : decode cX12_kind 396 = .ok (.dup2, 1) := by decide +kernel
theorem dX12_kind_397 : decode cX12_kind 397 = .ok (.iaload, 1) := by decide +kernel
theorem dX12_kind_398 : decode cX12_kind 398 = .ok (.iconst 1, 1) := by decide +kernel
theorem dX12_kind_399 : decode cX12_kind 399 = .ok (.iadd, 1) := by decide +kernel
theorem dX12_kind_400 : decode cX12_kind 400 = .ok (.iastore, 1) := by decide +kernel
theorem dX12_kind_401 : decode cX12_kind 401 = .ok (.return_, 1) := by decide +kernel
theorem dX12_knows_0 : decode cX12_knows 0 = .ok (.aload_n 0, 1) := by decide +kernel
theorem dX12_knows_1 : decode cX12_knows 1 = .ok (.iconst 0, 1) := by decide +kernel
theorem dX12_knows_2 : decode cX12_knows 2 = .ok (.putfield 150, 3) := by decide +kernel
theorem dX12_knows_5 : decode cX12_knows 5 = .ok (.iconst 1, 1) := by decide +kernel
theorem dX12_knows_6 : decode cX12_knows 6 = .ok (.istore_n 1, 1) := by decide +kernel
theorem dX12_knows_7 : decode cX12_knows 7 = .ok (.iload_n 1, 1) := by decide +kernel
theorem dX12_knows_8 : decode cX12_knows 8 = .ok (.aload_n 0, 1) := by decide +kernel
theorem dX12_knows_9 : decode cX12_knows 9 = .ok (.getfield 126, 3) := by decide +kernel
theorem dX12_knows_12 : decode cX12_knows 12 = .ok (.if_icmp .gt 191, 3) := by decide +kernel
theorem dX12_knows_15 : decode cX12_knows 15 = .ok (.aload_n 0, 1) := by decide +kernel
theorem dX12_knows_16 : decode cX12_knows 16 = .ok (.getfield 183, 3) := by decide +kernel
theorem dX12_knows_19 : decode cX12_knows 19 = .ok (.iload_n 1, 1) := by decide +kernel
theorem dX12_knows_20 : decode cX12_knows 20 = .ok (.iconst (-1), 1) := by decide +kernel
theorem dX12_knows_21 : decode cX12_knows 21 = .ok (.iastore, 1) := by decide +kernel
theorem dX12_knows_22 : decode cX12_knows 22 = .ok (.aload_n 0, 1) := by decide +kernel
theorem dX12_knows_23 : decode cX12_knows 23 = .ok (.getfield 135, 3) := by decide +kernel
theorem dX12_knows_26 : decode cX12_knows 26 = .ok (.iload_n 1, 1) := by decide +kernel
theorem dX12_knows_27 : decode cX12_knows 27 = .ok (.iaload, 1) := by decide +kernel
theorem dX12_knows_28 : decode cX12_knows 28 = .ok (.ifCond .ne 169, 3) := by decide +kernel
theorem dX12_knows_31 : decode cX12_knows 31 = .ok (.aload_n 0, 1) := by decide +kernel
theorem dX12_knows_32 : decode cX12_knows 32 = .ok (.iload_n 1, 1) := by decide +kernel
theorem dX12_knows_33 : decode cX12_knows 33 = .ok (.invokevirtual 461, 3) := by decide +kernel
theorem dX12_knows_36 : decode cX12_knows 36 = .ok (.ifCond .ne 6, 3) := by decide +kernel
theorem dX12_knows_39 : decode cX12_knows 39 = .ok (.goto 158, 3) := by decide +kernel
theorem dX12_knows_42 : decode cX12_knows 42 = .ok (.iconst (-1), 1) := by decide +kernel
theorem dX12_knows_43 : decode cX12_knows 43 = .ok (.istore_n 2, 1) := by decide +kernel
theorem dX12_knows_44 : decode cX12_knows 44 = .ok (.iconst 0, 1) := by decide +kernel
theorem dX12_knows_45 : decode cX12_knows 45 = .ok (.istore_n 3, 1) := by decide +kernel
theorem dX12_knows_46 : decode cX12_knows 46 = .ok (.iload_n 3, 1) := by decide +kernel
theorem dX12_knows_47 : decode cX12_knows 47 = .ok (.aload_n 0, 1) := by decide +kernel
theorem dX12_knows_48 : decode cX12_knows 48 = .ok (.getfield 150, 3) := by decide +kernel
theorem dX12_knows_51 : decode cX12_knows 51 = .ok (.if_icmp .ge 43, 3) := by decide +kernel
theorem dX12_knows_54 : decode cX12_knows 54 = .ok (.aload_n 0, 1) := by decide +kernel
theorem dX12_knows_55 : decode cX12_knows 55 = .ok (.getfield 138, 3) := by decide +kernel
theorem dX12_knows_58 : decode cX12_knows 58 = .ok (.iconst 5, 1) := by decide +kernel
theorem dX12_knows_59 : decode cX12_knows 59 = .ok (.iload_n 1, 1) := by decide +kernel
theorem dX12_knows_60 : decode cX12_knows 60 = .ok (.imul, 1) := by decide +kernel
theorem dX12_knows_61 : decode cX12_knows 61 = .ok (.iaload, 1) := by decide +kernel
theorem dX12_knows_62 : decode cX12_knows 62 = .ok (.ifCond .eq 24, 3) := by decide +kernel
theorem dX12_knows_65 : decode cX12_knows 65 = .ok (.aload_n 0, 1) := by decide +kernel
theorem dX12_knows_66 : decode cX12_knows 66 = .ok (.getfield 153, 3) := by decide +kernel
theorem dX12_knows_69 : decode cX12_knows 69 = .ok (.iload_n 3, 1) := by decide +kernel
theorem dX12_knows_70 : decode cX12_knows 70 = .ok (.iaload, 1) := by decide +kernel
theorem dX12_knows_71 : decode cX12_knows 71 = .ok (.aload_n 0, 1) := by decide +kernel
theorem dX12_knows_72 : decode cX12_knows 72 = .ok (.getfield 138, 3) := by decide +kernel
theorem dX12_knows_75 : decode cX12_knows 75 = .ok (.iconst 5, 1) := by decide +kernel
theorem dX12_knows_76 : decode cX12_knows 76 = .ok (.iload_n 1, 1) := by decide +kernel
theorem dX12_knows_77 : decode cX12_knows 77 = .ok (.imul, 1) := by decide +kernel
theorem dX12_knows_78 : decode cX12_knows 78 = .ok (.iaload, 1) := by decide +kernel
theorem dX12_knows_79 : decode cX12_knows 79 = .ok (.if_icmp .ne 7, 3) := by decide +kernel
theorem dX12_knows_82 : decode cX12_knows 82 = .ok (.iload_n 3, 1) := by decide +kernel
theorem dX12_knows_83 : decode cX12_knows 83 = .ok (.goto 4, 3) := by decide +kernel
theorem dX12_knows_86 : decode cX12_knows 86 = .ok (.iload_n 2, 1) := by decide +kernel
theorem dX12_knows_87 : decode cX12_knows 87 = .ok (.istore_n 2, 1) := by decide +kernel
theorem dX12_knows_88 : decode cX12_knows 88 = .ok (.iinc 3 1, 3) := by decide +kernel
theorem dX12_knows_91 : decode cX12_knows 91 = .ok (.goto (-45), 3) := by decide +kernel
theorem dX12_knows_94 : decode cX12_knows 94 = .ok (.iload_n 2, 1) := by decide +kernel
theorem dX12_knows_95 : decode cX12_knows 95 = .ok (.iconst (-1), 1) := by decide +kernel
theorem dX12_knows_96 : decode cX12_knows 96 = .ok (.if_icmp .ne 15, 3) := by decide +kernel
theorem dX12_knows_99 : decode cX12_knows 99 = .ok (.aload_n 0, 1) := by decide +kernel
theorem dX12_knows_100 : decode cX12_knows 100 = .ok (.getfield 150, 3) := by decide +kernel
theorem dX12_knows_103 : decode cX12_knows 103 = .ok (.bipush 40, 2) := by decide +kernel
theorem dX12_knows_105 : decode cX12_knows 105 = .ok (.if_icmp .ne 6, 3) := by decide +kernel
theorem dX12_knows_108 : decode cX12_knows 108 = .ok (.goto 89, 3) := by decide +kernel
theorem dX12_knows_111 : decode cX12_knows 111 = .ok (.iload_n 2, 1) := by decide +kernel
theorem dX12_knows_112 : decode cX12_knows 112 = .ok (.iconst (-1), 1) := by decide +kernel
theorem dX12_knows_113 : decode cX12_knows 113 = .ok (.if_icmp .ne 78, 3) := by decide +kernel
theorem dX12_knows_116 : decode cX12_knows 116 = .ok (.aload_n 0, 1) := by decide +kernel
theorem dX12_knows_117 : decode cX12_knows 117 = .ok (.getfield 150, 3) := by decide +kernel
theorem dX12_knows_120 : decode cX12_knows 120 = .ok (.istore_n 2, 1) := by decide +kernel
theorem dX12_knows_121 : decode cX12_knows 121 = .ok (.aload_n 0, 1) := by decide +kernel
theorem dX12_knows_122 : decode cX12_knows 122 = .ok (.dup, 1) := by decide +kernel
theorem dX12_knows_123 : decode cX12_knows 123 = .ok (.getfield 150, 3) := by decide +kernel
theorem dX12_knows_126 : decode cX12_knows 126 = .ok (.iconst 1, 1) := by decide +kernel
theorem dX12_knows_127 : decode cX12_knows 127 = .ok (.iadd, 1) := by decide +kernel
theorem dX12_knows_128 : decode cX12_knows 128 = .ok (.putfield 150, 3) := by decide +kernel
theorem dX12_knows_131 : decode cX12_knows 131 = .ok (.aload_n 0, 1) := by decide +kernel
theorem dX12_knows_132 : decode cX12_knows 132 = .ok (.getfield 153, 3) := by decide +kernel
theorem dX12_knows_135 : decode cX12_knows 135 = .ok (.iload_n 2, 1) := by decide +kernel
theorem dX12_knows_136 : decode cX12_knows 136 = .ok (.aload_n 0, 1) := by decide +kernel
theorem dX12_knows_137 : decode cX12_knows 137 = .ok (.getfield 138, 3) := by decide +kernel
theorem dX12_knows_140 : decode cX12_knows 140 = .ok (.iconst 5, 1) := by decide +kernel
theorem dX12_knows_141 : decode cX12_knows 141 = .ok (.iload_n 1, 1) := by decide +kernel
theorem dX12_knows_142 : decode cX12_knows 142 = .ok (.imul, 1) := by decide +kernel
theorem dX12_knows_143 : decode cX12_knows 143 = .ok (.iaload, 1) := by decide +kernel
theorem dX12_knows_144 : decode cX12_knows 144 = .ok (.iastore, 1) := by decide +kernel
theorem dX12_knows_145 : decode cX12_knows 145 = .ok (.aload_n 0, 1) := by decide +kernel
theorem dX12_knows_146 : decode cX12_knows 146 = .ok (.getfield 159, 3) := by decide +kernel
theorem dX12_knows_149 : decode cX12_knows 149 = .ok (.iload_n 2, 1) := by decide +kernel
theorem dX12_knows_150 : decode cX12_knows 150 = .ok (.aload_n 0, 1) := by decide +kernel
theorem dX12_knows_151 : decode cX12_knows 151 = .ok (.getfield 138, 3) := by decide +kernel
theorem dX12_knows_154 : decode cX12_knows 154 = .ok (.iconst 5, 1) := by decide +kernel
theorem dX12_knows_155 : decode cX12_knows 155 = .ok (.iload_n 1, 1) := by decide +kernel
theorem dX12_knows_156 : decode cX12_knows 156 = .ok (.imul, 1) := by decide +kernel
theorem dX12_knows_157 : decode cX12_knows 157 = .ok (.iconst 1, 1) := by decide +kernel
theorem dX12_knows_158 : decode cX12_knows 158 = .ok (.iadd, 1) := by decide +kernel
theorem dX12_knows_159 : decode cX12_knows 159 = .ok (.iaload, 1) := by decide +kernel
theorem dX12_knows_160 : decode cX12_knows 160 = .ok (.iastore, 1) := by decide +kernel
theorem dX12_knows_161 : decode cX12_knows 161 = .ok (.aload_n 0, 1) := by decide +kernel
theorem dX12_knows_162 : decode cX12_knows 162 = .ok (.getfield 162, 3) := by decide +kernel
theorem dX12_knows_165 : decode cX12_knows 165 = .ok (.iload_n 2, 1) := by decide +kernel
theorem dX12_knows_166 : decode cX12_knows 166 = .ok (.aload_n 0, 1) := by decide +kernel
theorem dX12_knows_167 : decode cX12_knows 167 = .ok (.getfield 138, 3) := by decide +kernel
theorem dX12_knows_170 : decode cX12_knows 170 = .ok (.iconst 5, 1) := by decide +kernel
theorem dX12_knows_171 : decode cX12_knows 171 = .ok (.iload_n 1, 1) := by decide +kernel
theorem dX12_knows_172 : decode cX12_knows 172 = .ok (.imul, 1) := by decide +kernel
theorem dX12_knows_173 : decode cX12_knows 173 = .ok (.iconst 1, 1) := by decide +kernel
theorem dX12_knows_174 : decode cX12_knows 174 = .ok (.iadd, 1) := by decide +kernel
theorem dX12_knows_175 : decode cX12_knows 175 = .ok (.iaload, 1) := by decide +kernel
theorem dX12_knows_176 : decode cX12_knows 176 = .ok (.iastore, 1) := by decide +kernel
theorem dX12_knows_177 : decode cX12_knows 177 = .ok (.aload_n 0, 1) := by decide +kernel
theorem dX12_knows_178 : decode cX12_knows 178 = .ok (.getfield 174, 3) := by decide +kernel
theorem dX12_knows_181 : decode cX12_knows 181 = .ok (.iload_n 2, 1) := by decide +kernel
theorem dX12_knows_182 : decode cX12_knows 182 = .ok (.iconst 0, 1) := by decide +kernel
theorem dX12_knows_183 : decode cX12_knows 183 = .ok (.iastore, 1) := by decide +kernel
theorem dX12_knows_184 : decode cX12_knows 184 = .ok (.aload_n 0, 1) := by decide +kernel
theorem dX12_knows_185 : decode cX12_knows 185 = .ok (.getfield 180, 3) := by decide +kernel
theorem dX12_knows_188 : decode cX12_knows 188 = .ok (.iload_n 2, 1) := by decide +kernel
theorem dX12_knows_189 : decode cX12_knows 189 = .ok (.iconst 0, 1) := by decide +kernel
theorem dX12_knows_190 : decode cX12_knows 190 = .ok (.iastore, 1) := by decide +kernel
theorem dX12_knows_191 : decode cX12_knows 191 = .ok (.aload_n 0, 1) := by decide +kernel
theorem dX12_knows_192 : decode cX12_knows 192 = .ok (.iload_n 2, 1) := by decide +kernel
theorem dX12_knows_193 : decode cX12_knows 193 = .ok (.iload_n 1, 1) := by decide +kernel
theorem dX12_knows_194 : decode cX12_knows 194 = .ok (.invokevirtual 464, 3) := by decide +kernel
theorem dX12_knows_197 : decode cX12_knows 197 = .ok (.iinc 1 1, 3) := by decide +kernel
theorem dX12_knows_200 : decode cX12_knows 200 = .ok (.goto (-193), 3) := by decide +kernel
theorem dX12_knows_203 : decode cX12_knows 203 = .ok (.return_, 1) := by decide +kernel
theorem dX12_label_0 : decode cX12_label 0 = .ok (.aload_n 0, 1) := by decide +kernel
theorem dX12_label_1 : decode cX12_label 1 = .ok (.iload_n 1, 1) := by decide +kernel
theorem dX12_label_2 : decode cX12_label 2 = .ok (.invokevirtual 547, 3) := by decide +kernel
theorem dX12_label_5 : decode cX12_label 5 = .ok (.ifCond .eq 12, 3) := by decide +kernel
theorem dX12_label_8 : decode cX12_label 8 = .ok (.aload_n 0, 1) := by decide +kernel
theorem dX12_label_9 : decode cX12_label 9 = .ok (.getfield 243, 3) := by decide +kernel
theorem dX12_label_12 : decode cX12_label 12 = .ok (.iload_n 1, 1) := by decide +kernel
theorem dX12_label_13 : decode cX12_label 13 = .ok (.iaload, 1) := by decide +kernel
theorem dX12_label_14 : decode cX12_label 14 = .ok (.ifCond .ne 5, 3) := by decide +kernel
theorem dX12_label_17 : decode cX12_label 17 = .ok (.iconst (-1), 1) := by decide +kernel
theorem dX12_label_18 : decode cX12_label 18 = .ok (.ireturn, 1) := by decide +kernel
theorem dX12_label_19 : decode cX12_label 19 = .ok (.aload_n 0, 1) := by decide +kernel
theorem dX12_label_20 : decode cX12_label 20 = .ok (.iconst 0, 1) := by decide +kernel
theorem dX12_label_21 : decode cX12_label 21 = .ok (.putfield 294, 3) := by decide +kernel
theorem dX12_label_24 : decode cX12_label 24 = .ok (.iconst 0, 1) := by decide +kernel
theorem dX12_label_25 : decode cX12_label 25 = .ok (.istore_n 2, 1) := by decide +kernel
theorem dX12_label_26 : decode cX12_label 26 = .ok (.iload_n 2, 1) := by decide +kernel
theorem dX12_label_27 : decode cX12_label 27 = .ok (.aload_n 0, 1) := by decide +kernel
theorem dX12_label_28 : decode cX12_label 28 = .ok (.getfield 54, 3) := by decide +kernel
theorem dX12_label_31 : decode cX12_label 31 = .ok (.aload_n 0, 1) := by decide +kernel
theorem dX12_label_32 : decode cX12_label 32 = .ok (.getfield 48, 3) := by decide +kernel
theorem dX12_label_35 : decode cX12_label 35 = .ok (.iaload, 1) := by decide +kernel
theorem dX12_label_36 : decode cX12_label 36 = .ok (.if_icmp .ge 88, 3) := by decide +kernel
theorem dX12_label_39 : decode cX12_label 39 = .ok (.aload_n 0, 1) := by decide +kernel
theorem dX12_label_40 : decode cX12_label 40 = .ok (.getfield 243, 3) := by decide +kernel
theorem dX12_label_43 : decode cX12_label 43 = .ok (.iload_n 1, 1) := by decide +kernel
theorem dX12_label_44 : decode cX12_label 44 = .ok (.iaload, 1) := by decide +kernel
theorem dX12_label_45 : decode cX12_label 45 = .ok (.iload_n 2, 1) := by decide +kernel
theorem dX12_label_46 : decode cX12_label 46 = .ok (.ishr, 1) := by decide +kernel
theorem dX12_label_47 : decode cX12_label 47 = .ok (.iconst 1, 1) := by decide +kernel
theorem dX12_label_48 : decode cX12_label 48 = .ok (.iand, 1) := by decide +kernel
theorem dX12_label_49 : decode cX12_label 49 = .ok (.ifCond .ne 6, 3) := by decide +kernel
theorem dX12_label_52 : decode cX12_label 52 = .ok (.goto 66, 3) := by decide +kernel
theorem dX12_label_55 : decode cX12_label 55 = .ok (.aload_n 0, 1) := by decide +kernel
theorem dX12_label_56 : decode cX12_label 56 = .ok (.getfield 294, 3) := by decide +kernel
theorem dX12_label_59 : decode cX12_label 59 = .ok (.ifCond .le 15, 3) := by decide +kernel
theorem dX12_label_62 : decode cX12_label 62 = .ok (.aload_n 0, 1) := by decide +kernel
theorem dX12_label_63 : decode cX12_label 63 = .ok (.bipush 44, 2) := by decide +kernel
theorem dX12_label_65 : decode cX12_label 65 = .ok (.invokevirtual 578, 3) := by decide +kernel
theorem dX12_label_68 : decode cX12_label 68 = .ok (.aload_n 0, 1) := by decide +kernel
theorem dX12_label_69 : decode cX12_label 69 = .ok (.bipush 32, 2) := by decide +kernel
theorem dX12_label_71 : decode cX12_label 71 = .ok (.invokevirtual 578, 3) := by decide +kernel
theorem dX12_label_74 : decode cX12_label 74 = .ok (.aload_n 0, 1) := by decide +kernel
theorem dX12_label_75 : decode cX12_label 75 = .ok (.getfield 66, 3) := by decide +kernel
theorem dX12_label_78 : decode cX12_label 78 = .ok (.bipush 10, 2) := by decide +kernel
theorem dX12_label_80 : decode cX12_label 80 = .ok (.aload_n 0, 1) := by decide +kernel
theorem dX12_label_81 : decode cX12_label 81 = .ok (.getfield 48, 3) := by decide +kernel
theorem dX12_label_84 : decode cX12_label 84 = .ok (.imul, 1) := by decide +kernel
theorem dX12_label_85 : decode cX12_label 85 = .ok (.iload_n 2, 1) := by decide +kernel
theorem dX12_label_86 : decode cX12_label 86 = .ok (.iadd, 1) := by decide +kernel
theorem dX12_label_87 : decode cX12_label 87 = .ok (.laload, 1) := by decide +kernel
theorem dX12_label_88 : decode cX12_label 88 = .ok (.lstore_n 3, 1) := by decide +kernel
theorem dX12_label_89 : decode cX12_label 89 = .ok (.iconst 0, 1) := by decide +kernel
theorem dX12_label_90 : decode cX12_label 90 = .ok (.istore 5, 2) := by decide +kernel
theorem dX12_label_92 : decode cX12_label 92 = .ok (.lload_n 3, 1) := by decide +kernel
theorem dX12_label_93 : decode cX12_label 93 = .ok (.iload 5, 2) := by decide +kernel
theorem dX12_label_95 : decode cX12_label 95 = .ok (.invokestatic 447, 3) := by decide +kernel
theorem dX12_label_98 : decode cX12_label 98 = .ok (.iconst (-1), 1) := by decide +kernel
theorem dX12_label_99 : decode cX12_label 99 = .ok (.if_icmp .eq 19, 3) := by decide +kernel
theorem dX12_label_102 : decode cX12_label 102 = .ok (.aload_n 0, 1) := by decide +kernel
theorem dX12_label_103 : decode cX12_label 103 = .ok (.lload_n 3, 1) := by decide +kernel
theorem dX12_label_104 : decode cX12_label 104 = .ok (.iload 5, 2) := by decide +kernel
theorem dX12_label_106 : decode cX12_label 106 = .ok (.invokestatic 447, 3) := by decide +kernel
theorem dX12_label_109 : decode cX12_label 109 = .ok (.invokevirtual 578, 3) := by decide +kernel
theorem dX12_label_112 : decode cX12_label 112 = .ok (.iinc 5 1, 3) := by decide +kernel
theorem dX12_label_115 : decode cX12_label 115 = .ok (.goto (-23), 3) := by decide +kernel
theorem dX12_label_118 : decode cX12_label 118 = .ok (.iinc 2 1, 3) := by decide +kernel
theorem dX12_label_121 : decode cX12_label 121 = .ok (.goto (-95), 3) := by decide +kernel
theorem dX12_label_124 : decode cX12_label 124 = .ok (.aload_n 0, 1) := by decide +kernel
theorem dX12_label_125 : decode cX12_label 125 = .ok (.bipush 46, 2) := by decide +kernel
theorem dX12_label_127 : decode cX12_label 127 = .ok (.invokevirtual 578, 3) := by decide +kernel
theorem dX12_label_130 : decode cX12_label 130 = .ok (.aload_n 0, 1) := by decide +kernel
theorem dX12_label_131 : decode cX12_label 131 = .ok (.getfield 294, 3) := by decide +kernel
theorem dX12_label_134 : decode cX12_label 134 = .ok (.ireturn, 1) := by decide +kernel
theorem dX12_lacks_0 : decode cX12_lacks 0 = .ok (.aload_n 0, 1) := by decide +kernel
theorem dX12_lacks_1 : decode cX12_lacks 1 = .ok (.getfield 219, 3) := by decide +kernel
theorem dX12_lacks_4 : decode cX12_lacks 4 = .ok (.ifCond .ne 5, 3) := by decide +kernel
theorem dX12_lacks_7 : decode cX12_lacks 7 = .ok (.iconst (-1), 1) := by decide +kernel
theorem dX12_lacks_8 : decode cX12_lacks 8 = .ok (.ireturn, 1) := by decide +kernel
theorem dX12_lacks_9 : decode cX12_lacks 9 = .ok (.iconst 0, 1) := by decide +kernel
theorem dX12_lacks_10 : decode cX12_lacks 10 = .ok (.istore_n 3, 1) := by decide +kernel
theorem dX12_lacks_11 : decode cX12_lacks 11 = .ok (.iconst 0, 1) := by decide +kernel
theorem dX12_lacks_12 : decode cX12_lacks 12 = .ok (.istore 4, 2) := by decide +kernel
theorem dX12_lacks_14 : decode cX12_lacks 14 = .ok (.iload 4, 2) := by decide +kernel
theorem dX12_lacks_16 : decode cX12_lacks 16 = .ok (.aload_n 0, 1) := by decide +kernel
theorem dX12_lacks_17 : decode cX12_lacks 17 = .ok (.getfield 222, 3) := by decide +kernel
theorem dX12_lacks_20 : decode cX12_lacks 20 = .ok (.if_icmp .ge 49, 3) := by decide +kernel
theorem dX12_lacks_23 : decode cX12_lacks 23 = .ok (.iload_n 3, 1) := by decide +kernel
theorem dX12_lacks_24 : decode cX12_lacks 24 = .ok (.aload_n 0, 1) := by decide +kernel
theorem dX12_lacks_25 : decode cX12_lacks 25 = .ok (.getfield 234, 3) := by decide +kernel
theorem dX12_lacks_28 : decode cX12_lacks 28 = .ok (.iload 4, 2) := by decide +kernel
theorem dX12_lacks_30 : decode cX12_lacks 30 = .ok (.iaload, 1) := by decide +kernel
theorem dX12_lacks_31 : decode cX12_lacks 31 = .ok (.iload_n 1, 1) := by decide +kernel
theorem dX12_lacks_32 : decode cX12_lacks 32 = .ok (.iload_n 2, 1) := by decide +kernel
theorem dX12_lacks_33 : decode cX12_lacks 33 = .ok (.invokestatic 322, 3) := by decide +kernel
theorem dX12_lacks_36 : decode cX12_lacks 36 = .ok (.ifCond .eq 24, 3) := by decide +kernel
theorem dX12_lacks_39 : decode cX12_lacks 39 = .ok (.aload_n 0, 1) := by decide +kernel
theorem dX12_lacks_40 : decode cX12_lacks 40 = .ok (.getfield 225, 3) := by decide +kernel
theorem dX12_lacks_43 : decode cX12_lacks 43 = .ok (.iload 4, 2) := by decide +kernel
theorem dX12_lacks_45 : decode cX12_lacks 45 = .ok (.iaload, 1) := by decide +kernel
theorem dX12_lacks_46 : decode cX12_lacks 46 = .ok (.aload_n 0, 1) := by decide +kernel
theorem dX12_lacks_47 : decode cX12_lacks 47 = .ok (.getfield 240, 3) := by decide +kernel
theorem dX12_lacks_50 : decode cX12_lacks 50 = .ok (.iload 4, 2) := by decide +kernel
theorem dX12_lacks_52 : decode cX12_lacks 52 = .ok (.iaload, 1) := by decide +kernel
theorem dX12_lacks_53 : decode cX12_lacks 53 = .ok (.invokestatic 544, 3) := by decide +kernel
theorem dX12_lacks_56 : decode cX12_lacks 56 = .ok (.isub, 1) := by decide +kernel
theorem dX12_lacks_57 : decode cX12_lacks 57 = .ok (.goto 4, 3) := by decide +kernel
theorem dX12_lacks_60 : decode cX12_lacks 60 = .ok (.iconst 0, 1) := by decide +kernel
theorem dX12_lacks_61 : decode cX12_lacks 61 = .ok (.iadd, 1) := by decide +kernel
theorem dX12_lacks_62 : decode cX12_lacks 62 = .ok (.istore_n 3, 1) := by decide +kernel
theorem dX12_lacks_63 : decode cX12_lacks 63 = .ok (.iinc 4 1, 3) := by decide +kernel
theorem dX12_lacks_66 : decode cX12_lacks 66 = .ok (.goto (-52), 3) := by decide +kernel
theorem dX12_lacks_69 : decode cX12_lacks 69 = .ok (.iload_n 3, 1) := by decide +kernel
theorem dX12_lacks_70 : decode cX12_lacks 70 = .ok (.ireturn, 1) := by decide +kernel
theorem dX12_lane_0 : decode cX12_lane 0 = .ok (.aload_n 0, 1) := by decide +kernel
theorem dX12_lane_1 : decode cX12_lane 1 = .ok (.getfield 189, 3) := by decide +kernel
theorem dX12_lane_4 : decode cX12_lane 4 = .ok (.aload_n 0, 1) := by decide +kernel
theorem dX12_lane_5 : decode cX12_lane 5 = .ok (.getfield 201, 3) := by decide +kernel
theorem dX12_lane_8 : decode cX12_lane 8 = .ok (.iload_n 1, 1) := by decide +kernel
theorem dX12_lane_9 : decode cX12_lane 9 = .ok (.iastore, 1) := by decide +kernel
theorem dX12_lane_10 : decode cX12_lane 10 = .ok (.aload_n 0, 1) := by decide +kernel
theorem dX12_lane_11 : decode cX12_lane 11 = .ok (.getfield 192, 3) := by decide +kernel
theorem dX12_lane_14 : decode cX12_lane 14 = .ok (.aload_n 0, 1) := by decide +kernel
theorem dX12_lane_15 : decode cX12_lane 15 = .ok (.getfield 201, 3) := by decide +kernel
theorem dX12_lane_18 : decode cX12_lane 18 = .ok (.iload_n 2, 1) := by decide +kernel
theorem dX12_lane_19 : decode cX12_lane 19 = .ok (.iastore, 1) := by decide +kernel
theorem dX12_lane_20 : decode cX12_lane 20 = .ok (.aload_n 0, 1) := by decide +kernel
theorem dX12_lane_21 : decode cX12_lane 21 = .ok (.getfield 195, 3) := by decide +kernel
theorem dX12_lane_24 : decode cX12_lane 24 = .ok (.aload_n 0, 1) := by decide +kernel
theorem dX12_lane_25 : decode cX12_lane 25 = .ok (.getfield 201, 3) := by decide +kernel
theorem dX12_lane_28 : decode cX12_lane 28 = .ok (.iload_n 3, 1) := by decide +kernel
theorem dX12_lane_29 : decode cX12_lane 29 = .ok (.iastore, 1) := by decide +kernel
theorem dX12_lane_30 : decode cX12_lane 30 = .ok (.aload_n 0, 1) := by decide +kernel
theorem dX12_lane_31 : decode cX12_lane 31 = .ok (.getfield 198, 3) := by decide +kernel
theorem dX12_lane_34 : decode cX12_lane 34 = .ok (.aload_n 0, 1) := by decide +kernel
theorem dX12_lane_35 : decode cX12_lane 35 = .ok (.getfield 201, 3) := by decide +kernel
theorem dX12_lane_38 : decode cX12_lane 38 = .ok (.lload 4, 2) := by decide +kernel
theorem dX12_lane_40 : decode cX12_lane 40 = .ok (.lastore, 1) := by decide +kernel
theorem dX12_lane_41 : decode cX12_lane 41 = .ok (.aload_n 0, 1) := by decide +kernel
theorem dX12_lane_42 : decode cX12_lane 42 = .ok (.getfield 189, 3) := by decide +kernel
theorem dX12_lane_45 : decode cX12_lane 45 = .ok (.aload_n 0, 1) := by decide +kernel
theorem dX12_lane_46 : decode cX12_lane 46 = .ok (.getfield 201, 3) := by decide +kernel
theorem dX12_lane_49 : decode cX12_lane 49 = .ok (.iconst 1, 1) := by decide +kernel
theorem dX12_lane_50 : decode cX12_lane 50 = .ok (.iadd, 1) := by decide +kernel
theorem dX12_lane_51 : decode cX12_lane 51 = .ok (.iload_n 2, 1) := by decide +kernel
theorem dX12_lane_52 : decode cX12_lane 52 = .ok (.iastore, 1) := by decide +kernel
theorem dX12_lane_53 : decode cX12_lane 53 = .ok (.aload_n 0, 1) := by decide +kernel
theorem dX12_lane_54 : decode cX12_lane 54 = .ok (.getfield 192, 3) := by decide +kernel
theorem dX12_lane_57 : decode cX12_lane 57 = .ok (.aload_n 0, 1) := by decide +kernel
theorem dX12_lane_58 : decode cX12_lane 58 = .ok (.getfield 201, 3) := by decide +kernel
theorem dX12_lane_61 : decode cX12_lane 61 = .ok (.iconst 1, 1) := by decide +kernel
theorem dX12_lane_62 : decode cX12_lane 62 = .ok (.iadd, 1) := by decide +kernel
theorem dX12_lane_63 : decode cX12_lane 63 = .ok (.iload_n 1, 1) := by decide +kernel
theorem dX12_lane_64 : decode cX12_lane 64 = .ok (.iastore, 1) := by decide +kernel
theorem dX12_lane_65 : decode cX12_lane 65 = .ok (.aload_n 0, 1) := by decide +kernel
theorem dX12_lane_66 : decode cX12_lane 66 = .ok (.getfield 195, 3) := by decide +kernel
theorem dX12_lane_69 : decode cX12_lane 69 = .ok (.aload_n 0, 1) := by decide +kernel
theorem dX12_lane_70 : decode cX12_lane 70 = .ok (.getfield 201, 3) := by decide +kernel
theorem dX12_lane_73 : decode cX12_lane 73 = .ok (.iconst 1, 1) := by decide +kernel
theorem dX12_lane_74 : decode cX12_lane 74 = .ok (.iadd, 1) := by decide +kernel
theorem dX12_lane_75 : decode cX12_lane 75 = .ok (.iconst 0, 1) := by decide +kernel
theorem dX12_lane_76 : decode cX12_lane 76 = .ok (.iastore, 1) := by decide +kernel
theorem dX12_lane_77 : decode cX12_lane 77 = .ok (.aload_n 0, 1) := by decide +kernel
theorem dX12_lane_78 : decode cX12_lane 78 = .ok (.getfield 198, 3) := by decide +kernel
theorem dX12_lane_81 : decode cX12_lane 81 = .ok (.aload_n 0, 1) := by decide +kernel
theorem dX12_lane_82 : decode cX12_lane 82 = .ok (.getfield 201, 3) := by decide +kernel
theorem dX12_lane_85 : decode cX12_lane 85 = .ok (.iconst 1, 1) := by decide +kernel
theorem dX12_lane_86 : decode cX12_lane 86 = .ok (.iadd, 1) := by decide +kernel
theorem dX12_lane_87 : decode cX12_lane 87 = .ok (.lload 4, 2) := by decide +kernel
theorem dX12_lane_89 : decode cX12_lane 89 = .ok (.lneg, 1) := by decide +kernel
theorem dX12_lane_90 : decode cX12_lane 90 = .ok (.lastore, 1) := by decide +kernel
theorem dX12_lane_91 : decode cX12_lane 91 = .ok (.aload_n 0, 1) := by decide +kernel
theorem dX12_lane_92 : decode cX12_lane 92 = .ok (.dup, 1) := by decide +kernel
theorem dX12_lane_93 : decode cX12_lane 93 = .ok (.getfield 201, 3) := by decide +kernel
theorem dX12_lane_96 : decode cX12_lane 96 = .ok (.iconst 2, 1) := by decide +kernel
theorem dX12_lane_97 : decode cX12_lane 97 = .ok (.iadd, 1) := by decide +kernel
theorem dX12_lane_98 : decode cX12_lane 98 = .ok (.putfield 201, 3) := by decide +kernel
theorem dX12_lane_101 : decode cX12_lane 101 = .ok (.aload_n 0, 1) := by decide +kernel
theorem dX12_lane_102 : decode cX12_lane 102 = .ok (.getfield 201, 3) := by decide +kernel
theorem dX12_lane_105 : decode cX12_lane 105 = .ok (.iconst 2, 1) := by decide +kernel
theorem dX12_lane_106 : decode cX12_lane 106 = .ok (.isub, 1) := by decide +kernel
theorem dX12_lane_107 : decode cX12_lane 107 = .ok (.ireturn, 1) := by decide +kernel
theorem dX12_leaf_0 : decode cX12_leaf 0 = .ok (.iload_n 1, 1) := by decide +kernel
theorem dX12_leaf_1 : decode cX12_leaf 1 = .ok (.tableswitch 150 0 8 #[51, 54, 63, 80, 89, 97, 106, 108, 138], 51) := by decide +kernel
theorem dX12_leaf_52 : decode cX12_leaf 52 = .ok (.iload_n 3, 1) := by decide +kernel
theorem dX12_leaf_53 : decode cX12_leaf 53 = .ok (.i2l, 1) := by decide +kernel
theorem dX12_leaf_54 : decode cX12_leaf 54 = .ok (.lreturn, 1) := by decide +kernel
theorem dX12_leaf_55 : decode cX12_leaf 55 = .ok (.aload_n 0, 1) := by decide +kernel
theorem dX12_leaf_56 : decode cX12_leaf 56 = .ok (.getfield 156, 3) := by decide +kernel
theorem dX12_leaf_59 : decode cX12_leaf 59 = .ok (.iload 4, 2) := by decide +kernel
theorem dX12_leaf_61 : decode cX12_leaf 61 = .ok (.iaload, 1) := by decide +kernel
theorem dX12_leaf_62 : decode cX12_leaf 62 = .ok (.i2l, 1) := by decide +kernel
theorem dX12_leaf_63 : decode cX12_leaf 63 = .ok (.lreturn, 1) := by decide +kernel
theorem dX12_leaf_64 : decode cX12_leaf 64 = .ok (.aload_n 0, 1) := by decide +kernel
theorem dX12_leaf_65 : decode cX12_leaf 65 = .ok (.getfield 162, 3) := by decide +kernel
theorem dX12_leaf_68 : decode cX12_leaf 68 = .ok (.iload 4, 2) := by decide +kernel
theorem dX12_leaf_70 : decode cX12_leaf 70 = .ok (.iaload, 1) := by decide +kernel
theorem dX12_leaf_71 : decode cX12_leaf 71 = .ok (.aload_n 0, 1) := by decide +kernel
theorem dX12_leaf_72 : decode cX12_leaf 72 = .ok (.getfield 159, 3) := by decide +kernel
theorem dX12_leaf_75 : decode cX12_leaf 75 = .ok (.iload 4, 2) := by decide +kernel
theorem dX12_leaf_77 : decode cX12_leaf 77 = .ok (.iaload, 1) := by decide +kernel
theorem dX12_leaf_78 : decode cX12_leaf 78 = .ok (.isub, 1) := by decide +kernel
theorem dX12_leaf_79 : decode cX12_leaf 79 = .ok (.i2l, 1) := by decide +kernel
theorem dX12_leaf_80 : decode cX12_leaf 80 = .ok (.lreturn, 1) := by decide +kernel
theorem dX12_leaf_81 : decode cX12_leaf 81 = .ok (.aload_n 0, 1) := by decide +kernel
theorem dX12_leaf_82 : decode cX12_leaf 82 = .ok (.getfield 165, 3) := by decide +kernel
theorem dX12_leaf_85 : decode cX12_leaf 85 = .ok (.iload 4, 2) := by decide +kernel
theorem dX12_leaf_87 : decode cX12_leaf 87 = .ok (.iaload, 1) := by decide +kernel
theorem dX12_leaf_88 : decode cX12_leaf 88 = .ok (.i2l, 1) := by decide +kernel
theorem dX12_leaf_89 : decode cX12_leaf 89 = .ok (.lreturn, 1) := by decide +kernel
theorem dX12_leaf_90 : decode cX12_leaf 90 = .ok (.aload_n 0, 1) := by decide +kernel
theorem dX12_leaf_91 : decode cX12_leaf 91 = .ok (.iload 4, 2) := by decide +kernel
theorem dX12_leaf_93 : decode cX12_leaf 93 = .ok (.invokevirtual 478, 3) := by decide +kernel
theorem dX12_leaf_96 : decode cX12_leaf 96 = .ok (.i2l, 1) := by decide +kernel
theorem dX12_leaf_97 : decode cX12_leaf 97 = .ok (.lreturn, 1) := by decide +kernel
theorem dX12_leaf_98 : decode cX12_leaf 98 = .ok (.aload_n 0, 1) := by decide +kernel
theorem dX12_leaf_99 : decode cX12_leaf 99 = .ok (.getfield 174, 3) := by decide +kernel
theorem dX12_leaf_102 : decode cX12_leaf 102 = .ok (.iload 4, 2) := by decide +kernel
theorem dX12_leaf_104 : decode cX12_leaf 104 = .ok (.iaload, 1) := by decide +kernel
theorem dX12_leaf_105 : decode cX12_leaf 105 = .ok (.i2l, 1) := by decide +kernel
theorem dX12_leaf_106 : decode cX12_leaf 106 = .ok (.lreturn, 1) := by decide +kernel
theorem dX12_leaf_107 : decode cX12_leaf 107 = .ok (.lconst 1, 1) := by decide +kernel
theorem dX12_leaf_108 : decode cX12_leaf 108 = .ok (.lreturn, 1) := by decide +kernel
theorem dX12_leaf_109 : decode cX12_leaf 109 = .ok (.aload_n 0, 1) := by decide +kernel
theorem dX12_leaf_110 : decode cX12_leaf 110 = .ok (.iload 4, 2) := by decide +kernel
theorem dX12_leaf_112 : decode cX12_leaf 112 = .ok (.aload_n 0, 1) := by decide +kernel
theorem dX12_leaf_113 : decode cX12_leaf 113 = .ok (.getfield 94, 3) := by decide +kernel
theorem dX12_leaf_116 : decode cX12_leaf 116 = .ok (.sipush 1100, 3) := by decide +kernel
theorem dX12_leaf_119 : decode cX12_leaf 119 = .ok (.aload_n 0, 1) := by decide +kernel
theorem dX12_leaf_120 : decode cX12_leaf 120 = .ok (.getfield 48, 3) := by decide +kernel
theorem dX12_leaf_123 : decode cX12_leaf 123 = .ok (.imul, 1) := by decide +kernel
theorem dX12_leaf_124 : decode cX12_leaf 124 = .ok (.iload_n 2, 1) := by decide +kernel
theorem dX12_leaf_125 : decode cX12_leaf 125 = .ok (.iadd, 1) := by decide +kernel
theorem dX12_leaf_126 : decode cX12_leaf 126 = .ok (.laload, 1) := by decide +kernel
theorem dX12_leaf_127 : decode cX12_leaf 127 = .ok (.invokevirtual 467, 3) := by decide +kernel
theorem dX12_leaf_130 : decode cX12_leaf 130 = .ok (.ifCond .eq 7, 3) := by decide +kernel
theorem dX12_leaf_133 : decode cX12_leaf 133 = .ok (.lconst 1, 1) := by decide +kernel
theorem dX12_leaf_134 : decode cX12_leaf 134 = .ok (.goto 4, 3) := by decide +kernel
theorem dX12_leaf_137 : decode cX12_leaf 137 = .ok (.lconst 0, 1) := by decide +kernel
theorem dX12_leaf_138 : decode cX12_leaf 138 = .ok (.lreturn, 1) := by decide +kernel
theorem dX12_leaf_139 : decode cX12_leaf 139 = .ok (.iload 5, 2) := by decide +kernel
theorem dX12_leaf_141 : decode cX12_leaf 141 = .ok (.iload_n 3, 1) := by decide +kernel
theorem dX12_leaf_142 : decode cX12_leaf 142 = .ok (.if_icmp .ne 7, 3) := by decide +kernel
theorem dX12_leaf_145 : decode cX12_leaf 145 = .ok (.lconst 1, 1) := by decide +kernel
theorem dX12_leaf_146 : decode cX12_leaf 146 = .ok (.goto 4, 3) := by decide +kernel
theorem dX12_leaf_149 : decode cX12_leaf 149 = .ok (.lconst 0, 1) := by decide +kernel
theorem dX12_leaf_150 : decode cX12_leaf 150 = .ok (.lreturn, 1) := by decide +kernel
theorem dX12_leaf_151 : decode cX12_leaf 151 = .ok (.aload_n 0, 1) := by decide +kernel
theorem dX12_leaf_152 : decode cX12_leaf 152 = .ok (.getfield 82, 3) := by decide +kernel
theorem dX12_leaf_155 : decode cX12_leaf 155 = .ok (.bipush 10, 2) := by decide +kernel
theorem dX12_leaf_157 : decode cX12_leaf 157 = .ok (.aload_n 0, 1) := by decide +kernel
theorem dX12_leaf_158 : decode cX12_leaf 158 = .ok (.getfield 48, 3) := by decide +kernel
theorem dX12_leaf_161 : decode cX12_leaf 161 = .ok (.imul, 1) := by decide +kernel
theorem dX12_leaf_162 : decode cX12_leaf 162 = .ok (.iload 5, 2) := by decide +kernel
theorem dX12_leaf_164 : decode cX12_leaf 164 = .ok (.iadd, 1) := by decide +kernel
theorem dX12_leaf_165 : decode cX12_leaf 165 = .ok (.iaload, 1) := by decide +kernel
theorem dX12_leaf_166 : decode cX12_leaf 166 = .ok (.iload_n 3, 1) := by decide +kernel
theorem dX12_leaf_167 : decode cX12_leaf 167 = .ok (.ishr, 1) := by decide +kernel
theorem dX12_leaf_168 : decode cX12_leaf 168 = .ok (.iconst 1, 1) := by decide +kernel
theorem dX12_leaf_169 : decode cX12_leaf 169 = .ok (.iand, 1) := by decide +kernel
theorem dX12_leaf_170 : decode cX12_leaf 170 = .ok (.i2l, 1) := by decide +kernel
theorem dX12_leaf_171 : decode cX12_leaf 171 = .ok (.lreturn, 1) := by decide +kernel
theorem dX12_left_0 : decode cX12_left 0 = .ok (.aload_n 0, 1) := by decide +kernel
theorem dX12_left_1 : decode cX12_left 1 = .ok (.getfield 219, 3) := by decide +kernel
theorem dX12_left_4 : decode cX12_left 4 = .ok (.ifCond .eq 11, 3) := by decide +kernel
theorem dX12_left_7 : decode cX12_left 7 = .ok (.aload_n 0, 1) := by decide +kernel
theorem dX12_left_8 : decode cX12_left 8 = .ok (.iload_n 1, 1) := by decide +kernel
theorem dX12_left_9 : decode cX12_left 9 = .ok (.invokevirtual 450, 3) := by decide +kernel
theorem dX12_left_12 : decode cX12_left 12 = .ok (.ifCond .ne 7, 3) := by decide +kernel
theorem dX12_left_15 : decode cX12_left 15 = .ok (.iconst (-1), 1) := by decide +kernel
theorem dX12_left_16 : decode cX12_left 16 = .ok (.goto 9, 3) := by decide +kernel
theorem dX12_left_19 : decode cX12_left 19 = .ok (.aload_n 0, 1) := by decide +kernel
theorem dX12_left_20 : decode cX12_left 20 = .ok (.getfield 246, 3) := by decide +kernel
theorem dX12_left_23 : decode cX12_left 23 = .ok (.iload_n 1, 1) := by decide +kernel
theorem dX12_left_24 : decode cX12_left 24 = .ok (.iaload, 1) := by decide +kernel
theorem dX12_left_25 : decode cX12_left 25 = .ok (.ireturn, 1) := by decide +kernel
theorem dX12_letter_0 : decode cX12_letter 0 = .ok (.iconst 0, 1) := by decide +kernel
theorem dX12_letter_1 : decode cX12_letter 1 = .ok (.istore_n 3, 1) := by decide +kernel
theorem dX12_letter_2 : decode cX12_letter 2 = .ok (.lload_n 0, 1) := by decide +kernel
theorem dX12_letter_3 : decode cX12_letter 3 = .ok (.lstore 4, 2) := by decide +kernel
theorem dX12_letter_5 : decode cX12_letter 5 = .ok (.lload 4, 2) := by decide +kernel
theorem dX12_letter_7 : decode cX12_letter 7 = .ok (.lconst 0, 1) := by decide +kernel
theorem dX12_letter_8 : decode cX12_letter 8 = .ok (.lcmp, 1) := by decide +kernel
theorem dX12_letter_9 : decode cX12_letter 9 = .ok (.ifCond .eq 16, 3) := by decide +kernel
theorem dX12_letter_12 : decode cX12_letter 12 = .ok (.iinc 3 1, 3) := by decide +kernel
theorem dX12_letter_15 : decode cX12_letter 15 = .ok (.lload 4, 2) := by decide +kernel
theorem dX12_letter_17 : decode cX12_letter 17 = .ok (.bipush 8, 2) := by decide +kernel
theorem dX12_letter_19 : decode cX12_letter 19 = .ok (.lushr, 1) := by decide +kernel
theorem dX12_letter_20 : decode cX12_letter 20 = .ok (.lstore 4, 2) := by decide +kernel
theorem dX12_letter_22 : decode cX12_letter 22 = .ok (.goto (-17), 3) := by decide +kernel
theorem dX12_letter_25 : decode cX12_letter 25 = .ok (.iload_n 2, 1) := by decide +kernel
theorem dX12_letter_26 : decode cX12_letter 26 = .ok (.ifCond .lt 8, 3) := by decide +kernel
theorem dX12_letter_29 : decode cX12_letter 29 = .ok (.iload_n 2, 1) := by decide +kernel
theorem dX12_letter_30 : decode cX12_letter 30 = .ok (.iload_n 3, 1) := by decide +kernel
theorem dX12_letter_31 : decode cX12_letter 31 = .ok (.if_icmp .lt 7, 3) := by decide +kernel
theorem dX12_letter_34 : decode cX12_letter 34 = .ok (.iconst (-1), 1) := by decide +kernel
theorem dX12_letter_35 : decode cX12_letter 35 = .ok (.goto 18, 3) := by decide +kernel
theorem dX12_letter_38 : decode cX12_letter 38 = .ok (.lload_n 0, 1) := by decide +kernel
theorem dX12_letter_39 : decode cX12_letter 39 = .ok (.bipush 8, 2) := by decide +kernel
theorem dX12_letter_41 : decode cX12_letter 41 = .ok (.iload_n 3, 1) := by decide +kernel
theorem dX12_letter_42 : decode cX12_letter 42 = .ok (.iconst 1, 1) := by decide +kernel
theorem dX12_letter_43 : decode cX12_letter 43 = .ok (.isub, 1) := by decide +kernel
theorem dX12_letter_44 : decode cX12_letter 44 = .ok (.iload_n 2, 1) := by decide +kernel
theorem dX12_letter_45 : decode cX12_letter 45 = .ok (.isub, 1) := by decide +kernel
theorem dX12_letter_46 : decode cX12_letter 46 = .ok (.imul, 1) := by decide +kernel
theorem dX12_letter_47 : decode cX12_letter 47 = .ok (.lushr, 1) := by decide +kernel
theorem dX12_letter_48 : decode cX12_letter 48 = .ok (.ldc2_w 445, 3) := by decide +kernel
theorem dX12_letter_51 : decode cX12_letter 51 = .ok (.land, 1) := by decide +kernel
theorem dX12_letter_52 : decode cX12_letter 52 = .ok (.l2i, 1) := by decide +kernel
theorem dX12_letter_53 : decode cX12_letter 53 = .ok (.ireturn, 1) := by decide +kernel
theorem dX12_looks_0 : decode cX12_looks 0 = .ok (.aload_n 0, 1) := by decide +kernel
theorem dX12_looks_1 : decode cX12_looks 1 = .ok (.getfield 26, 3) := by decide +kernel
theorem dX12_looks_4 : decode cX12_looks 4 = .ok (.istore_n 1, 1) := by decide +kernel
theorem dX12_looks_5 : decode cX12_looks 5 = .ok (.iload_n 1, 1) := by decide +kernel
theorem dX12_looks_6 : decode cX12_looks 6 = .ok (.aload_n 0, 1) := by decide +kernel
theorem dX12_looks_7 : decode cX12_looks 7 = .ok (.getfield 17, 3) := by decide +kernel
theorem dX12_looks_10 : decode cX12_looks 10 = .ok (.if_icmp .ge 31, 3) := by decide +kernel
theorem dX12_looks_13 : decode cX12_looks 13 = .ok (.aload_n 0, 1) := by decide +kernel
theorem dX12_looks_14 : decode cX12_looks 14 = .ok (.getfield 7, 3) := by decide +kernel
theorem dX12_looks_17 : decode cX12_looks 17 = .ok (.iload_n 1, 1) := by decide +kernel
theorem dX12_looks_18 : decode cX12_looks 18 = .ok (.iaload, 1) := by decide +kernel
theorem dX12_looks_19 : decode cX12_looks 19 = .ok (.bipush 32, 2) := by decide +kernel
theorem dX12_looks_21 : decode cX12_looks 21 = .ok (.if_icmp .eq 14, 3) := by decide +kernel
theorem dX12_looks_24 : decode cX12_looks 24 = .ok (.aload_n 0, 1) := by decide +kernel
theorem dX12_looks_25 : decode cX12_looks 25 = .ok (.getfield 7, 3) := by decide +kernel
theorem dX12_looks_28 : decode cX12_looks 28 = .ok (.iload_n 1, 1) := by decide +kernel
theorem dX12_looks_29 : decode cX12_looks 29 = .ok (.iaload, 1) := by decide +kernel
theorem dX12_looks_30 : decode cX12_looks 30 = .ok (.bipush 10, 2) := by decide +kernel
theorem dX12_looks_32 : decode cX12_looks 32 = .ok (.if_icmp .ne 9, 3) := by decide +kernel
theorem dX12_looks_35 : decode cX12_looks 35 = .ok (.iinc 1 1, 3) := by decide +kernel
theorem dX12_looks_38 : decode cX12_looks 38 = .ok (.goto (-33), 3) := by decide +kernel
theorem dX12_looks_41 : decode cX12_looks 41 = .ok (.aload_n 0, 1) := by decide +kernel
theorem dX12_looks_42 : decode cX12_looks 42 = .ok (.iload_n 1, 1) := by decide +kernel
theorem dX12_looks_43 : decode cX12_looks 43 = .ok (.putfield 23, 3) := by decide +kernel
theorem dX12_looks_46 : decode cX12_looks 46 = .ok (.aload_n 0, 1) := by decide +kernel
theorem dX12_looks_47 : decode cX12_looks 47 = .ok (.iload_n 1, 1) := by decide +kernel
theorem dX12_looks_48 : decode cX12_looks 48 = .ok (.putfield 26, 3) := by decide +kernel
theorem dX12_looks_51 : decode cX12_looks 51 = .ok (.aload_n 0, 1) := by decide +kernel
theorem dX12_looks_52 : decode cX12_looks 52 = .ok (.iconst 0, 1) := by decide +kernel
theorem dX12_looks_53 : decode cX12_looks 53 = .ok (.putfield 20, 3) := by decide +kernel
theorem dX12_looks_56 : decode cX12_looks 56 = .ok (.iload_n 1, 1) := by decide +kernel
theorem dX12_looks_57 : decode cX12_looks 57 = .ok (.aload_n 0, 1) := by decide +kernel
theorem dX12_looks_58 : decode cX12_looks 58 = .ok (.getfield 17, 3) := by decide +kernel
theorem dX12_looks_61 : decode cX12_looks 61 = .ok (.if_icmp .lt 4, 3) := by decide +kernel
theorem dX12_looks_64 : decode cX12_looks 64 = .ok (.return_, 1) := by decide +kernel
theorem dX12_looks_65 : decode cX12_looks 65 = .ok (.aload_n 0, 1) := by decide +kernel
theorem dX12_looks_66 : decode cX12_looks 66 = .ok (.getfield 7, 3) := by decide +kernel
theorem dX12_looks_69 : decode cX12_looks 69 = .ok (.iload_n 1, 1) := by decide +kernel
theorem dX12_looks_70 : decode cX12_looks 70 = .ok (.iaload, 1) := by decide +kernel
theorem dX12_looks_71 : decode cX12_looks 71 = .ok (.invokestatic 301, 3) := by decide +kernel
theorem dX12_looks_74 : decode cX12_looks 74 = .ok (.istore_n 2, 1) := by decide +kernel
theorem dX12_looks_75 : decode cX12_looks 75 = .ok (.aload_n 0, 1) := by decide +kernel
theorem dX12_looks_76 : decode cX12_looks 76 = .ok (.getfield 7, 3) := by decide +kernel
theorem dX12_looks_79 : decode cX12_looks 79 = .ok (.iload_n 1, 1) := by decide +kernel
theorem dX12_looks_80 : decode cX12_looks 80 = .ok (.iaload, 1) := by decide +kernel
theorem dX12_looks_81 : decode cX12_looks 81 = .ok (.invokestatic 305, 3) := by decide +kernel
theorem dX12_looks_84 : decode cX12_looks 84 = .ok (.istore_n 3, 1) := by decide +kernel
theorem dX12_looks_85 : decode cX12_looks 85 = .ok (.iload_n 2, 1) := by decide +kernel
theorem dX12_looks_86 : decode cX12_looks 86 = .ok (.ifCond .ne 7, 3) := by decide +kernel
theorem dX12_looks_89 : decode cX12_looks 89 = .ok (.iload_n 3, 1) := by decide +kernel
theorem dX12_looks_90 : decode cX12_looks 90 = .ok (.ifCond .eq 41, 3) := by decide +kernel
theorem dX12_looks_93 : decode cX12_looks 93 = .ok (.iload_n 1, 1) := by decide +kernel
theorem dX12_looks_94 : decode cX12_looks 94 = .ok (.ifCond .le 37, 3) := by decide +kernel
theorem dX12_looks_97 : decode cX12_looks 97 = .ok (.aload_n 0, 1) := by decide +kernel
theorem dX12_looks_98 : decode cX12_looks 98 = .ok (.getfield 7, 3) := by decide +kernel
theorem dX12_looks_101 : decode cX12_looks 101 = .ok (.iload_n 1, 1) := by decide +kernel
theorem dX12_looks_102 : decode cX12_looks 102 = .ok (.iconst 1, 1) := by decide +kernel
theorem dX12_looks_103 : decode cX12_looks 103 = .ok (.isub, 1) := by decide +kernel
theorem dX12_looks_104 : decode cX12_looks 104 = .ok (.iaload, 1) := by decide +kernel
theorem dX12_looks_105 : decode cX12_looks 105 = .ok (.invokestatic 301, 3) := by decide +kernel
theorem dX12_looks_108 : decode cX12_looks 108 = .ok (.ifCond .ne 17, 3) := by decide +kernel
theorem dX12_looks_111 : decode cX12_looks 111 = .ok (.aload_n 0, 1) := by decide +kernel
theorem dX12_looks_112 : decode cX12_looks 112 = .ok (.getfield 7, 3) := by decide +kernel
theorem dX12_looks_115 : decode cX12_looks 115 = .ok (.iload_n 1, 1) := by decide +kernel
theorem dX12_looks_116 : decode cX12_looks 116 = .ok (.iconst 1, 1) := by decide +kernel
theorem dX12_looks_117 : decode cX12_looks 117 = .ok (.isub, 1) := by decide +kernel
theorem dX12_looks_118 : decode cX12_looks 118 = .ok (.iaload, 1) := by decide +kernel
theorem dX12_looks_119 : decode cX12_looks 119 = .ok (.invokestatic 305, 3) := by decide +kernel
theorem dX12_looks_122 : decode cX12_looks 122 = .ok (.ifCond .eq 9, 3) := by decide +kernel
theorem dX12_looks_125 : decode cX12_looks 125 = .ok (.aload_n 0, 1) := by decide +kernel
theorem dX12_looks_126 : decode cX12_looks 126 = .ok (.iconst 1, 1) := by decide +kernel
theorem dX12_looks_127 : decode cX12_looks 127 = .ok (.iload_n 1, 1) := by decide +kernel
theorem dX12_looks_128 : decode cX12_looks 128 = .ok (.invokevirtual 308, 3) := by decide +kernel
theorem dX12_looks_131 : decode cX12_looks 131 = .ok (.aload_n 0, 1) := by decide +kernel
theorem dX12_looks_132 : decode cX12_looks 132 = .ok (.iconst 0, 1) := by decide +kernel
theorem dX12_looks_133 : decode cX12_looks 133 = .ok (.putfield 29, 3) := by decide +kernel
theorem dX12_looks_136 : decode cX12_looks 136 = .ok (.aload_n 0, 1) := by decide +kernel
theorem dX12_looks_137 : decode cX12_looks 137 = .ok (.lconst 0, 1) := by decide +kernel
theorem dX12_looks_138 : decode cX12_looks 138 = .ok (.putfield 32, 3) := by decide +kernel
theorem dX12_looks_141 : decode cX12_looks 141 = .ok (.aload_n 0, 1) := by decide +kernel
theorem dX12_looks_142 : decode cX12_looks 142 = .ok (.iconst 3, 1) := by decide +kernel
theorem dX12_looks_143 : decode cX12_looks 143 = .ok (.putfield 20, 3) := by decide +kernel
theorem dX12_looks_146 : decode cX12_looks 146 = .ok (.aload_n 0, 1) := by decide +kernel
theorem dX12_looks_147 : decode cX12_looks 147 = .ok (.iload_n 1, 1) := by decide +kernel
theorem dX12_looks_148 : decode cX12_looks 148 = .ok (.iconst 1, 1) := by decide +kernel
theorem dX12_looks_149 : decode cX12_looks 149 = .ok (.iadd, 1) := by decide +kernel
theorem dX12_looks_150 : decode cX12_looks 150 = .ok (.putfield 26, 3) := by decide +kernel
theorem dX12_looks_153 : decode cX12_looks 153 = .ok (.iload_n 2, 1) := by decide +kernel
theorem dX12_looks_154 : decode cX12_looks 154 = .ok (.ifCond .ne 18, 3) := by decide +kernel
theorem dX12_looks_157 : decode cX12_looks 157 = .ok (.iload_n 3, 1) := by decide +kernel
theorem dX12_looks_158 : decode cX12_looks 158 = .ok (.ifCond .ne 14, 3) := by decide +kernel
theorem dX12_looks_161 : decode cX12_looks 161 = .ok (.aload_n 0, 1) := by decide +kernel
theorem dX12_looks_162 : decode cX12_looks 162 = .ok (.aload_n 0, 1) := by decide +kernel
theorem dX12_looks_163 : decode cX12_looks 163 = .ok (.getfield 7, 3) := by decide +kernel
theorem dX12_looks_166 : decode cX12_looks 166 = .ok (.iload_n 1, 1) := by decide +kernel
theorem dX12_looks_167 : decode cX12_looks 167 = .ok (.iaload, 1) := by decide +kernel
theorem dX12_looks_168 : decode cX12_looks 168 = .ok (.putfield 29, 3) := by decide +kernel
theorem dX12_looks_171 : decode cX12_looks 171 = .ok (.return_, 1) := by decide +kernel
theorem dX12_looks_172 : decode cX12_looks 172 = .ok (.aload_n 0, 1) := by decide +kernel
theorem dX12_looks_173 : decode cX12_looks 173 = .ok (.iload_n 2, 1) := by decide +kernel
theorem dX12_looks_174 : decode cX12_looks 174 = .ok (.ifCond .eq 7, 3) := by decide +kernel
theorem dX12_looks_177 : decode cX12_looks 177 = .ok (.iconst 1, 1) := by decide +kernel
theorem dX12_looks_178 : decode cX12_looks 178 = .ok (.goto 4, 3) := by decide +kernel
theorem dX12_looks_181 : decode cX12_looks 181 = .ok (.iconst 2, 1) := by decide +kernel
theorem dX12_looks_182 : decode cX12_looks 182 = .ok (.putfield 20, 3) := by decide +kernel
theorem dX12_looks_185 : decode cX12_looks 185 = .ok (.iload_n 2, 1) := by decide +kernel
theorem dX12_looks_186 : decode cX12_looks 186 = .ok (.ifCond .eq 8, 3) := by decide +kernel
theorem dX12_looks_189 : decode cX12_looks 189 = .ok (.bipush 8, 2) := by decide +kernel
theorem dX12_looks_191 : decode cX12_looks 191 = .ok (.goto 4, 3) := by decide +kernel
theorem dX12_looks_194 : decode cX12_looks 194 = .ok (.iconst 5, 1) := by decide +kernel
theorem dX12_looks_195 : decode cX12_looks 195 = .ok (.istore 4, 2) := by decide +kernel
theorem dX12_looks_197 : decode cX12_looks 197 = .ok (.iconst 0, 1) := by decide +kernel
theorem dX12_looks_198 : decode cX12_looks 198 = .ok (.istore 5, 2) := by decide +kernel
theorem dX12_looks_200 : decode cX12_looks 200 = .ok (.iload_n 1, 1) := by decide +kernel
theorem dX12_looks_201 : decode cX12_looks 201 = .ok (.aload_n 0, 1) := by decide +kernel
theorem dX12_looks_202 : decode cX12_looks 202 = .ok (.getfield 17, 3) := by decide +kernel
theorem dX12_looks_205 : decode cX12_looks 205 = .ok (.if_icmp .ge 118, 3) := by decide +kernel
theorem dX12_looks_208 : decode cX12_looks 208 = .ok (.iload_n 2, 1) := by decide +kernel
theorem dX12_looks_209 : decode cX12_looks 209 = .ok (.ifCond .eq 18, 3) := by decide +kernel
theorem dX12_looks_212 : decode cX12_looks 212 = .ok (.aload_n 0, 1) := by decide +kernel
theorem dX12_looks_213 : decode cX12_looks 213 = .ok (.getfield 7, 3) := by decide +kernel
theorem dX12_looks_216 : decode cX12_looks 216 = .ok (.iload_n 1, 1) := by decide +kernel
theorem dX12_looks_217 : decode cX12_looks 217 = .ok (.iaload, 1) := by decide +kernel
theorem dX12_looks_218 : decode cX12_looks 218 = .ok (.invokestatic 301, 3) := by decide +kernel
theorem dX12_looks_221 : decode cX12_looks 221 = .ok (.ifCond .eq 102, 3) := by decide +kernel
theorem dX12_looks_224 : decode cX12_looks 224 = .ok (.goto 15, 3) := by decide +kernel
theorem dX12_looks_227 : decode cX12_looks 227 = .ok (.aload_n 0, 1) := by decide +kernel
theorem dX12_looks_228 : decode cX12_looks 228 = .ok (.getfield 7, 3) := by decide +kernel
theorem dX12_looks_231 : decode cX12_looks 231 = .ok (.iload_n 1, 1) := by decide +kernel
theorem dX12_looks_232 : decode cX12_looks 232 = .ok (.iaload, 1) := by decide +kernel
theorem dX12_looks_233 : decode cX12_looks 233 = .ok (.invokestatic 305, 3) := by decide +kernel
theorem dX12_looks_236 : decode cX12_looks 236 = .ok (.ifCond .eq 87, 3) := by decide +kernel
theorem dX12_looks_239 : decode cX12_looks 239 = .ok (.iload 5, 2) := by decide +kernel
theorem dX12_looks_241 : decode cX12_looks 241 = .ok (.iload 4, 2) := by decide +kernel
theorem dX12_looks_243 : decode cX12_looks 243 = .ok (.if_icmp .ne 9, 3) := by decide +kernel
theorem dX12_looks_246 : decode cX12_looks 246 = .ok (.aload_n 0, 1) := by decide +kernel
theorem dX12_looks_247 : decode cX12_looks 247 = .ok (.iconst 1, 1) := by decide +kernel
theorem dX12_looks_248 : decode cX12_looks 248 = .ok (.iload_n 1, 1) := by decide +kernel
theorem dX12_looks_249 : decode cX12_looks 249 = .ok (.invokevirtual 308, 3) := by decide +kernel
theorem dX12_looks_252 : decode cX12_looks 252 = .ok (.iload 5, 2) := by decide +kernel
theorem dX12_looks_254 : decode cX12_looks 254 = .ok (.iload 4, 2) := by decide +kernel
theorem dX12_looks_256 : decode cX12_looks 256 = .ok (.if_icmp .ge 26, 3) := by decide +kernel
theorem dX12_looks_259 : decode cX12_looks 259 = .ok (.iload_n 2, 1) := by decide +kernel
theorem dX12_looks_260 : decode cX12_looks 260 = .ok (.ifCond .eq 22, 3) := by decide +kernel
theorem dX12_looks_263 : decode cX12_looks 263 = .ok (.aload_n 0, 1) := by decide +kernel
theorem dX12_looks_264 : decode cX12_looks 264 = .ok (.aload_n 0, 1) := by decide +kernel
theorem dX12_looks_265 : decode cX12_looks 265 = .ok (.getfield 32, 3) := by decide +kernel
theorem dX12_looks_268 : decode cX12_looks 268 = .ok (.bipush 8, 2) := by decide +kernel
theorem dX12_looks_270 : decode cX12_looks 270 = .ok (.lshl, 1) := by decide +kernel
theorem dX12_looks_271 : decode cX12_looks 271 = .ok (.aload_n 0, 1) := by decide +kernel
theorem dX12_looks_272 : decode cX12_looks 272 = .ok (.getfield 7, 3) := by decide +kernel
theorem dX12_looks_275 : decode cX12_looks 275 = .ok (.iload_n 1, 1) := by decide +kernel
theorem dX12_looks_276 : decode cX12_looks 276 = .ok (.iaload, 1) := by decide +kernel
theorem dX12_looks_277 : decode cX12_looks 277 = .ok (.i2l, 1) := by decide +kernel
theorem dX12_looks_278 : decode cX12_looks 278 = .ok (.lor, 1) := by decide +kernel
theorem dX12_looks_279 : decode cX12_looks 279 = .ok (.putfield 32, 3) := by decide +kernel
theorem dX12_looks_282 : decode cX12_looks 282 = .ok (.iload 5, 2) := by decide +kernel
theorem dX12_looks_284 : decode cX12_looks 284 = .ok (.iload 4, 2) := by decide +kernel
theorem dX12_looks_286 : decode cX12_looks 286 = .ok (.if_icmp .ge 28, 3) := by decide +kernel
theorem dX12_looks_289 : decode cX12_looks 289 = .ok (.iload_n 3, 1) := by decide +kernel
theorem dX12_looks_290 : decode cX12_looks 290 = .ok (.ifCond .eq 24, 3) := by decide +kernel
theorem dX12_looks_293 : decode cX12_looks 293 = .ok (.aload_n 0, 1) := by decide +kernel
theorem dX12_looks_294 : decode cX12_looks 294 = .ok (.bipush 10, 2) := by decide +kernel
theorem dX12_looks_296 : decode cX12_looks 296 = .ok (.aload_n 0, 1) := by decide +kernel
theorem dX12_looks_297 : decode cX12_looks 297 = .ok (.getfield 29, 3) := by decide +kernel
theorem dX12_looks_300 : decode cX12_looks 300 = .ok (.imul, 1) := by decide +kernel
theorem dX12_looks_301 : decode cX12_looks 301 = .ok (.aload_n 0, 1) := by decide +kernel
theorem dX12_looks_302 : decode cX12_looks 302 = .ok (.getfield 7, 3) := by decide +kernel
theorem dX12_looks_305 : decode cX12_looks 305 = .ok (.iload_n 1, 1) := by decide +kernel
theorem dX12_looks_306 : decode cX12_looks 306 = .ok (.iaload, 1) := by decide +kernel
theorem dX12_looks_307 : decode cX12_looks 307 = .ok (.iadd, 1) := by decide +kernel
theorem dX12_looks_308 : decode cX12_looks 308 = .ok (.bipush 48, 2) := by decide +kernel
theorem dX12_looks_310 : decode cX12_looks 310 = .ok (.isub, 1) := by decide +kernel
theorem dX12_looks_311 : decode cX12_looks 311 = .ok (.putfield 29, 3) := by decide +kernel
theorem dX12_looks_314 : decode cX12_looks 314 = .ok (.iinc 5 1, 3) := by decide +kernel
theorem dX12_looks_317 : decode cX12_looks 317 = .ok (.iinc 1 1, 3) := by decide +kernel
theorem dX12_looks_320 : decode cX12_looks 320 = .ok (.goto (-120), 3) := by decide +kernel
theorem dX12_looks_323 : decode cX12_looks 323 = .ok (.aload_n 0, 1) := by decide +kernel
theorem dX12_looks_324 : decode cX12_looks 324 = .ok (.iload_n 1, 1) := by decide +kernel
theorem dX12_looks_325 : decode cX12_looks 325 = .ok (.putfield 26, 3) := by decide +kernel
theorem dX12_looks_328 : decode cX12_looks 328 = .ok (.return_, 1) := by decide +kernel
theorem dX12_mark_0 : decode cX12_mark 0 = .ok (.aload_n 0, 1) := by decide +kernel
theorem dX12_mark_1 : decode cX12_mark 1 = .ok (.getfield 36, 3) := by decide +kernel
theorem dX12_mark_4 : decode cX12_mark 4 = .ok (.ifCond .ne 31, 3) := by decide +kernel
theorem dX12_mark_7 : decode cX12_mark 7 = .ok (.aload_n 0, 1) := by decide +kernel
theorem dX12_mark_8 : decode cX12_mark 8 = .ok (.getfield 20, 3) := by decide +kernel
theorem dX12_mark_11 : decode cX12_mark 11 = .ok (.iconst 1, 1) := by decide +kernel
theorem dX12_mark_12 : decode cX12_mark 12 = .ok (.if_icmp .ne 14, 3) := by decide +kernel
theorem dX12_mark_15 : decode cX12_mark 15 = .ok (.aload_n 0, 1) := by decide +kernel
theorem dX12_mark_16 : decode cX12_mark 16 = .ok (.aload_n 0, 1) := by decide +kernel
theorem dX12_mark_17 : decode cX12_mark 17 = .ok (.getfield 32, 3) := by decide +kernel
theorem dX12_mark_20 : decode cX12_mark 20 = .ok (.invokevirtual 395, 3) := by decide +kernel
theorem dX12_mark_23 : decode cX12_mark 23 = .ok (.ifCond .eq 12, 3) := by decide +kernel
theorem dX12_mark_26 : decode cX12_mark 26 = .ok (.aload_n 0, 1) := by decide +kernel
theorem dX12_mark_27 : decode cX12_mark 27 = .ok (.iconst 1, 1) := by decide +kernel
theorem dX12_mark_28 : decode cX12_mark 28 = .ok (.aload_n 0, 1) := by decide +kernel
theorem dX12_mark_29 : decode cX12_mark 29 = .ok (.getfield 23, 3) := by decide +kernel
theorem dX12_mark_32 : decode cX12_mark 32 = .ok (.invokevirtual 308, 3) := by decide +kernel
theorem dX12_mark_35 : decode cX12_mark 35 = .ok (.aload_n 0, 1) := by decide +kernel
theorem dX12_mark_36 : decode cX12_mark 36 = .ok (.getfield 36, 3) := by decide +kernel
theorem dX12_mark_39 : decode cX12_mark 39 = .ok (.ifCond .le 5, 3) := by decide +kernel
theorem dX12_mark_42 : decode cX12_mark 42 = .ok (.iload_n 3, 1) := by decide +kernel
theorem dX12_mark_43 : decode cX12_mark 43 = .ok (.ireturn, 1) := by decide +kernel
theorem dX12_mark_44 : decode cX12_mark 44 = .ok (.aload_n 0, 1) := by decide +kernel
theorem dX12_mark_45 : decode cX12_mark 45 = .ok (.aload_n 0, 1) := by decide +kernel
theorem dX12_mark_46 : decode cX12_mark 46 = .ok (.getfield 32, 3) := by decide +kernel
theorem dX12_mark_49 : decode cX12_mark 49 = .ok (.invokevirtual 402, 3) := by decide +kernel
theorem dX12_mark_52 : decode cX12_mark 52 = .ok (.istore 4, 2) := by decide +kernel
theorem dX12_mark_54 : decode cX12_mark 54 = .ok (.aload_n 0, 1) := by decide +kernel
theorem dX12_mark_55 : decode cX12_mark 55 = .ok (.getfield 32, 3) := by decide +kernel
theorem dX12_mark_58 : decode cX12_mark 58 = .ok (.lload_n 1, 1) := by decide +kernel
theorem dX12_mark_59 : decode cX12_mark 59 = .ok (.lcmp, 1) := by decide +kernel
theorem dX12_mark_60 : decode cX12_mark 60 = .ok (.ifCond .eq 29, 3) := by decide +kernel
theorem dX12_mark_63 : decode cX12_mark 63 = .ok (.aload_n 0, 1) := by decide +kernel
theorem dX12_mark_64 : decode cX12_mark 64 = .ok (.aload_n 0, 1) := by decide +kernel
theorem dX12_mark_65 : decode cX12_mark 65 = .ok (.getfield 32, 3) := by decide +kernel
theorem dX12_mark_68 : decode cX12_mark 68 = .ok (.invokevirtual 398, 3) := by decide +kernel
theorem dX12_mark_71 : decode cX12_mark 71 = .ok (.ifCond .ge 18, 3) := by decide +kernel
theorem dX12_mark_74 : decode cX12_mark 74 = .ok (.iload 4, 2) := by decide +kernel
theorem dX12_mark_76 : decode cX12_mark 76 = .ok (.ifCond .lt 22, 3) := by decide +kernel
theorem dX12_mark_79 : decode cX12_mark 79 = .ok (.iload_n 3, 1) := by decide +kernel
theorem dX12_mark_80 : decode cX12_mark 80 = .ok (.iload 4, 2) := by decide +kernel
theorem dX12_mark_82 : decode cX12_mark 82 = .ok (.ishr, 1) := by decide +kernel
theorem dX12_mark_83 : decode cX12_mark 83 = .ok (.iconst 1, 1) := by decide +kernel
theorem dX12_mark_84 : decode cX12_mark 84 = .ok (.iand, 1) := by decide +kernel
theorem dX12_mark_85 : decode cX12_mark 85 = .ok (.iconst 1, 1) := by decide +kernel
theorem dX12_mark_86 : decode cX12_mark 86 = .ok (.if_icmp .ne 12, 3) := by decide +kernel
theorem dX12_mark_89 : decode cX12_mark 89 = .ok (.aload_n 0, 1) := by decide +kernel
theorem dX12_mark_90 : decode cX12_mark 90 = .ok (.iconst 2, 1) := by decide +kernel
theorem dX12_mark_91 : decode cX12_mark 91 = .ok (.aload_n 0, 1) := by decide +kernel
theorem dX12_mark_92 : decode cX12_mark 92 = .ok (.getfield 23, 3) := by decide +kernel
theorem dX12_mark_95 : decode cX12_mark 95 = .ok (.invokevirtual 308, 3) := by decide +kernel
theorem dX12_mark_98 : decode cX12_mark 98 = .ok (.iload 4, 2) := by decide +kernel
theorem dX12_mark_100 : decode cX12_mark 100 = .ok (.ifCond .ge 26, 3) := by decide +kernel
theorem dX12_mark_103 : decode cX12_mark 103 = .ok (.aload_n 0, 1) := by decide +kernel
theorem dX12_mark_104 : decode cX12_mark 104 = .ok (.getfield 57, 3) := by decide +kernel
theorem dX12_mark_107 : decode cX12_mark 107 = .ok (.aload_n 0, 1) := by decide +kernel
theorem dX12_mark_108 : decode cX12_mark 108 = .ok (.getfield 51, 3) := by decide +kernel
theorem dX12_mark_111 : decode cX12_mark 111 = .ok (.iaload, 1) := by decide +kernel
theorem dX12_mark_112 : decode cX12_mark 112 = .ok (.bipush 8, 2) := by decide +kernel
theorem dX12_mark_114 : decode cX12_mark 114 = .ok (.if_icmp .ne 12, 3) := by decide +kernel
theorem dX12_mark_117 : decode cX12_mark 117 = .ok (.aload_n 0, 1) := by decide +kernel
theorem dX12_mark_118 : decode cX12_mark 118 = .ok (.iconst 5, 1) := by decide +kernel
theorem dX12_mark_119 : decode cX12_mark 119 = .ok (.aload_n 0, 1) := by decide +kernel
theorem dX12_mark_120 : decode cX12_mark 120 = .ok (.getfield 23, 3) := by decide +kernel
theorem dX12_mark_123 : decode cX12_mark 123 = .ok (.invokevirtual 308, 3) := by decide +kernel
theorem dX12_mark_126 : decode cX12_mark 126 = .ok (.aload_n 0, 1) := by decide +kernel
theorem dX12_mark_127 : decode cX12_mark 127 = .ok (.getfield 36, 3) := by decide +kernel
theorem dX12_mark_130 : decode cX12_mark 130 = .ok (.ifCond .le 5, 3) := by decide +kernel
theorem dX12_mark_133 : decode cX12_mark 133 = .ok (.iload_n 3, 1) := by decide +kernel
theorem dX12_mark_134 : decode cX12_mark 134 = .ok (.ireturn, 1) := by decide +kernel
theorem dX12_mark_135 : decode cX12_mark 135 = .ok (.iload 4, 2) := by decide +kernel
theorem dX12_mark_137 : decode cX12_mark 137 = .ok (.ifCond .ge 46, 3) := by decide +kernel
theorem dX12_mark_140 : decode cX12_mark 140 = .ok (.aload_n 0, 1) := by decide +kernel
theorem dX12_mark_141 : decode cX12_mark 141 = .ok (.getfield 57, 3) := by decide +kernel
theorem dX12_mark_144 : decode cX12_mark 144 = .ok (.aload_n 0, 1) := by decide +kernel
theorem dX12_mark_145 : decode cX12_mark 145 = .ok (.getfield 51, 3) := by decide +kernel
theorem dX12_mark_148 : decode cX12_mark 148 = .ok (.iaload, 1) := by decide +kernel
theorem dX12_mark_149 : decode cX12_mark 149 = .ok (.istore 4, 2) := by decide +kernel
theorem dX12_mark_151 : decode cX12_mark 151 = .ok (.aload_n 0, 1) := by decide +kernel
theorem dX12_mark_152 : decode cX12_mark 152 = .ok (.getfield 70, 3) := by decide +kernel
theorem dX12_mark_155 : decode cX12_mark 155 = .ok (.bipush 8, 2) := by decide +kernel
theorem dX12_mark_157 : decode cX12_mark 157 = .ok (.aload_n 0, 1) := by decide +kernel
theorem dX12_mark_158 : decode cX12_mark 158 = .ok (.getfield 51, 3) := by decide +kernel
theorem dX12_mark_161 : decode cX12_mark 161 = .ok (.imul, 1) := by decide +kernel
theorem dX12_mark_162 : decode cX12_mark 162 = .ok (.iload 4, 2) := by decide +kernel
theorem dX12_mark_164 : decode cX12_mark 164 = .ok (.iadd, 1) := by decide +kernel
theorem dX12_mark_165 : decode cX12_mark 165 = .ok (.aload_n 0, 1) := by decide +kernel
theorem dX12_mark_166 : decode cX12_mark 166 = .ok (.getfield 32, 3) := by decide +kernel
theorem dX12_mark_169 : decode cX12_mark 169 = .ok (.lastore, 1) := by decide +kernel
theorem dX12_mark_170 : decode cX12_mark 170 = .ok (.aload_n 0, 1) := by decide +kernel
theorem dX12_mark_171 : decode cX12_mark 171 = .ok (.getfield 57, 3) := by decide +kernel
theorem dX12_mark_174 : decode cX12_mark 174 = .ok (.aload_n 0, 1) := by decide +kernel
theorem dX12_mark_175 : decode cX12_mark 175 = .ok (.getfield 51, 3) := by decide +kernel
theorem dX12_mark_178 : decode cX12_mark 178 = .ok (.dup2, 1) := by decide +kernel
theorem dX12_mark_179 : decode cX12_mark 179 = .ok (.iaload, 1) := by decide +kernel
theorem dX12_mark_180 : decode cX12_mark 180 = .ok (.iconst 1, 1) := by decide +kernel
theorem dX12_mark_181 : decode cX12_mark 181 = .ok (.iadd, 1) := by decide +kernel
theorem dX12_mark_182 : decode cX12_mark 182 = .ok (.iastore, 1) := by decide +kernel
theorem dX12_mark_183 : decode cX12_mark 183 = .ok (.aload_n 0, 1) := by decide +kernel
theorem dX12_mark_184 : decode cX12_mark 184 = .ok (.invokevirtual 312, 3) := by decide +kernel
theorem dX12_mark_187 : decode cX12_mark 187 = .ok (.iload_n 3, 1) := by decide +kernel
theorem dX12_mark_188 : decode cX12_mark 188 = .ok (.iconst 1, 1) := by decide +kernel
theorem dX12_mark_189 : decode cX12_mark 189 = .ok (.iload 4, 2) := by decide +kernel
theorem dX12_mark_191 : decode cX12_mark 191 = .ok (.ishl, 1) := by decide +kernel
theorem dX12_mark_192 : decode cX12_mark 192 = .ok (.ior, 1) := by decide +kernel
theorem dX12_mark_193 : decode cX12_mark 193 = .ok (.ireturn, 1) := by decide +kernel
theorem dX12_marked_0 : decode cX12_marked 0 = .ok (.aload_n 0, 1) := by decide +kernel
theorem dX12_marked_1 : decode cX12_marked 1 = .ok (.iload_n 1, 1) := by decide +kernel
theorem dX12_marked_2 : decode cX12_marked 2 = .ok (.invokevirtual 450, 3) := by decide +kernel
theorem dX12_marked_5 : decode cX12_marked 5 = .ok (.ifCond .eq 20, 3) := by decide +kernel
theorem dX12_marked_8 : decode cX12_marked 8 = .ok (.iload_n 2, 1) := by decide +kernel
theorem dX12_marked_9 : decode cX12_marked 9 = .ok (.ifCond .lt 16, 3) := by decide +kernel
theorem dX12_marked_12 : decode cX12_marked 12 = .ok (.iload_n 2, 1) := by decide +kernel
theorem dX12_marked_13 : decode cX12_marked 13 = .ok (.aload_n 0, 1) := by decide +kernel
theorem dX12_marked_14 : decode cX12_marked 14 = .ok (.getfield 57, 3) := by decide +kernel
theorem dX12_marked_17 : decode cX12_marked 17 = .ok (.aload_n 0, 1) := by decide +kernel
theorem dX12_marked_18 : decode cX12_marked 18 = .ok (.getfield 48, 3) := by decide +kernel
theorem dX12_marked_21 : decode cX12_marked 21 = .ok (.iaload, 1) := by decide +kernel
theorem dX12_marked_22 : decode cX12_marked 22 = .ok (.if_icmp .lt 7, 3) := by decide +kernel
theorem dX12_marked_25 : decode cX12_marked 25 = .ok (.iconst (-1), 1) := by decide +kernel
theorem dX12_marked_26 : decode cX12_marked 26 = .ok (.goto 21, 3) := by decide +kernel
theorem dX12_marked_29 : decode cX12_marked 29 = .ok (.aload_n 0, 1) := by decide +kernel
theorem dX12_marked_30 : decode cX12_marked 30 = .ok (.getfield 82, 3) := by decide +kernel
theorem dX12_marked_33 : decode cX12_marked 33 = .ok (.bipush 10, 2) := by decide +kernel
theorem dX12_marked_35 : decode cX12_marked 35 = .ok (.aload_n 0, 1) := by decide +kernel
theorem dX12_marked_36 : decode cX12_marked 36 = .ok (.getfield 48, 3) := by decide +kernel
theorem dX12_marked_39 : decode cX12_marked 39 = .ok (.imul, 1) := by decide +kernel
theorem dX12_marked_40 : decode cX12_marked 40 = .ok (.iload_n 1, 1) := by decide +kernel
theorem dX12_marked_41 : decode cX12_marked 41 = .ok (.iadd, 1) := by decide +kernel
theorem dX12_marked_42 : decode cX12_marked 42 = .ok (.iaload, 1) := by decide +kernel
theorem dX12_marked_43 : decode cX12_marked 43 = .ok (.iload_n 2, 1) := by decide +kernel
theorem dX12_marked_44 : decode cX12_marked 44 = .ok (.ishr, 1) := by decide +kernel
theorem dX12_marked_45 : decode cX12_marked 45 = .ok (.iconst 1, 1) := by decide +kernel
theorem dX12_marked_46 : decode cX12_marked 46 = .ok (.iand, 1) := by decide +kernel
theorem dX12_marked_47 : decode cX12_marked 47 = .ok (.ireturn, 1) := by decide +kernel
theorem dX12_may_0 : decode cX12_may 0 = .ok (.aload_n 0, 1) := by decide +kernel
theorem dX12_may_1 : decode cX12_may 1 = .ok (.invokevirtual 471, 3) := by decide +kernel
theorem dX12_may_4 : decode cX12_may 4 = .ok (.aload_n 0, 1) := by decide +kernel
theorem dX12_may_5 : decode cX12_may 5 = .ok (.iload_n 1, 1) := by decide +kernel
theorem dX12_may_6 : decode cX12_may 6 = .ok (.invokevirtual 512, 3) := by decide +kernel
theorem dX12_may_9 : decode cX12_may 9 = .ok (.ifCond .eq 11, 3) := by decide +kernel
theorem dX12_may_12 : decode cX12_may 12 = .ok (.aload_n 0, 1) := by decide +kernel
theorem dX12_may_13 : decode cX12_may 13 = .ok (.iload_n 2, 1) := by decide +kernel
theorem dX12_may_14 : decode cX12_may 14 = .ok (.invokevirtual 450, 3) := by decide +kernel
theorem dX12_may_17 : decode cX12_may 17 = .ok (.ifCond .ne 7, 3) := by decide +kernel
theorem dX12_may_20 : decode cX12_may 20 = .ok (.iconst (-1), 1) := by decide +kernel
theorem dX12_may_21 : decode cX12_may 21 = .ok (.goto 17, 3) := by decide +kernel
theorem dX12_may_24 : decode cX12_may 24 = .ok (.aload_n 0, 1) := by decide +kernel
theorem dX12_may_25 : decode cX12_may 25 = .ok (.iload_n 1, 1) := by decide +kernel
theorem dX12_may_26 : decode cX12_may 26 = .ok (.iload_n 2, 1) := by decide +kernel
theorem dX12_may_27 : decode cX12_may 27 = .ok (.invokevirtual 518, 3) := by decide +kernel
theorem dX12_may_30 : decode cX12_may 30 = .ok (.ifCond .eq 7, 3) := by decide +kernel
theorem dX12_may_33 : decode cX12_may 33 = .ok (.iconst 1, 1) := by decide +kernel
theorem dX12_may_34 : decode cX12_may 34 = .ok (.goto 4, 3) := by decide +kernel
theorem dX12_may_37 : decode cX12_may 37 = .ok (.iconst 0, 1) := by decide +kernel
theorem dX12_may_38 : decode cX12_may 38 = .ok (.ireturn, 1) := by decide +kernel
theorem dX12_mayGet_0 : decode cX12_mayGet 0 = .ok (.iconst 1, 1) := by decide +kernel
theorem dX12_mayGet_1 : decode cX12_mayGet 1 = .ok (.istore_n 3, 1) := by decide +kernel
theorem dX12_mayGet_2 : decode cX12_mayGet 2 = .ok (.iload_n 3, 1) := by decide +kernel
theorem dX12_mayGet_3 : decode cX12_mayGet 3 = .ok (.aload_n 0, 1) := by decide +kernel
theorem dX12_mayGet_4 : decode cX12_mayGet 4 = .ok (.invokevirtual 457, 3) := by decide +kernel
theorem dX12_mayGet_7 : decode cX12_mayGet 7 = .ok (.if_icmp .gt 60, 3) := by decide +kernel
theorem dX12_mayGet_10 : decode cX12_mayGet 10 = .ok (.aload_n 0, 1) := by decide +kernel
theorem dX12_mayGet_11 : decode cX12_mayGet 11 = .ok (.getfield 135, 3) := by decide +kernel
theorem dX12_mayGet_14 : decode cX12_mayGet 14 = .ok (.iload_n 3, 1) := by decide +kernel
theorem dX12_mayGet_15 : decode cX12_mayGet 15 = .ok (.iaload, 1) := by decide +kernel
theorem dX12_mayGet_16 : decode cX12_mayGet 16 = .ok (.iconst 2, 1) := by decide +kernel
theorem dX12_mayGet_17 : decode cX12_mayGet 17 = .ok (.if_icmp .ne 44, 3) := by decide +kernel
theorem dX12_mayGet_20 : decode cX12_mayGet 20 = .ok (.aload_n 0, 1) := by decide +kernel
theorem dX12_mayGet_21 : decode cX12_mayGet 21 = .ok (.iload_n 3, 1) := by decide +kernel
theorem dX12_mayGet_22 : decode cX12_mayGet 22 = .ok (.invokevirtual 461, 3) := by decide +kernel
theorem dX12_mayGet_25 : decode cX12_mayGet 25 = .ok (.ifCond .eq 36, 3) := by decide +kernel
theorem dX12_mayGet_28 : decode cX12_mayGet 28 = .ok (.aload_n 0, 1) := by decide +kernel
theorem dX12_mayGet_29 : decode cX12_mayGet 29 = .ok (.getfield 138, 3) := by decide +kernel
theorem dX12_mayGet_32 : decode cX12_mayGet 32 = .ok (.iconst 5, 1) := by decide +kernel
theorem dX12_mayGet_33 : decode cX12_mayGet 33 = .ok (.iload_n 3, 1) := by decide +kernel
theorem dX12_mayGet_34 : decode cX12_mayGet 34 = .ok (.imul, 1) := by decide +kernel
theorem dX12_mayGet_35 : decode cX12_mayGet 35 = .ok (.iaload, 1) := by decide +kernel
theorem dX12_mayGet_36 : decode cX12_mayGet 36 = .ok (.iload_n 2, 1) := by decide +kernel
theorem dX12_mayGet_37 : decode cX12_mayGet 37 = .ok (.if_icmp .ne 24, 3) := by decide +kernel
theorem dX12_mayGet_40 : decode cX12_mayGet 40 = .ok (.aload_n 0, 1) := by decide +kernel
theorem dX12_mayGet_41 : decode cX12_mayGet 41 = .ok (.getfield 138, 3) := by decide +kernel
theorem dX12_mayGet_44 : decode cX12_mayGet 44 = .ok (.iconst 5, 1) := by decide +kernel
theorem dX12_mayGet_45 : decode cX12_mayGet 45 = .ok (.iload_n 3, 1) := by decide +kernel
theorem dX12_mayGet_46 : decode cX12_mayGet 46 = .ok (.imul, 1) := by decide +kernel
theorem dX12_mayGet_47 : decode cX12_mayGet 47 = .ok (.iconst 1, 1) := by decide +kernel
theorem dX12_mayGet_48 : decode cX12_mayGet 48 = .ok (.iadd, 1) := by decide +kernel
theorem dX12_mayGet_49 : decode cX12_mayGet 49 = .ok (.iaload, 1) := by decide +kernel
theorem dX12_mayGet_50 : decode cX12_mayGet 50 = .ok (.aload_n 0, 1) := by decide +kernel
theorem dX12_mayGet_51 : decode cX12_mayGet 51 = .ok (.getfield 171, 3) := by decide +kernel
theorem dX12_mayGet_54 : decode cX12_mayGet 54 = .ok (.iload_n 1, 1) := by decide +kernel
theorem dX12_mayGet_55 : decode cX12_mayGet 55 = .ok (.iaload, 1) := by decide +kernel
theorem dX12_mayGet_56 : decode cX12_mayGet 56 = .ok (.if_icmp .gt 5, 3) := by decide +kernel
theorem dX12_mayGet_59 : decode cX12_mayGet 59 = .ok (.iconst 0, 1) := by decide +kernel
theorem dX12_mayGet_60 : decode cX12_mayGet 60 = .ok (.ireturn, 1) := by decide +kernel
theorem dX12_mayGet_61 : decode cX12_mayGet 61 = .ok (.iinc 3 1, 3) := by decide +kernel
theorem dX12_mayGet_64 : decode cX12_mayGet 64 = .ok (.goto (-62), 3) := by decide +kernel
theorem dX12_mayGet_67 : decode cX12_mayGet 67 = .ok (.iconst 0, 1) := by decide +kernel
theorem dX12_mayGet_68 : decode cX12_mayGet 68 = .ok (.istore_n 3, 1) := by decide +kernel
theorem dX12_mayGet_69 : decode cX12_mayGet 69 = .ok (.iload_n 3, 1) := by decide +kernel
theorem dX12_mayGet_70 : decode cX12_mayGet 70 = .ok (.aload_n 0, 1) := by decide +kernel
theorem dX12_mayGet_71 : decode cX12_mayGet 71 = .ok (.getfield 60, 3) := by decide +kernel
theorem dX12_mayGet_74 : decode cX12_mayGet 74 = .ok (.aload_n 0, 1) := by decide +kernel
theorem dX12_mayGet_75 : decode cX12_mayGet 75 = .ok (.getfield 48, 3) := by decide +kernel
theorem dX12_mayGet_78 : decode cX12_mayGet 78 = .ok (.iaload, 1) := by decide +kernel
theorem dX12_mayGet_79 : decode cX12_mayGet 79 = .ok (.if_icmp .ge 43, 3) := by decide +kernel
theorem dX12_mayGet_82 : decode cX12_mayGet 82 = .ok (.aload_n 0, 1) := by decide +kernel
theorem dX12_mayGet_83 : decode cX12_mayGet 83 = .ok (.getfield 85, 3) := by decide +kernel
theorem dX12_mayGet_86 : decode cX12_mayGet 86 = .ok (.aload_n 0, 1) := by decide +kernel
theorem dX12_mayGet_87 : decode cX12_mayGet 87 = .ok (.iload_n 3, 1) := by decide +kernel
theorem dX12_mayGet_88 : decode cX12_mayGet 88 = .ok (.invokevirtual 493, 3) := by decide +kernel
theorem dX12_mayGet_91 : decode cX12_mayGet 91 = .ok (.iaload, 1) := by decide +kernel
theorem dX12_mayGet_92 : decode cX12_mayGet 92 = .ok (.ifCond .ne 24, 3) := by decide +kernel
theorem dX12_mayGet_95 : decode cX12_mayGet 95 = .ok (.aload_n 0, 1) := by decide +kernel
theorem dX12_mayGet_96 : decode cX12_mayGet 96 = .ok (.iload_n 3, 1) := by decide +kernel
theorem dX12_mayGet_97 : decode cX12_mayGet 97 = .ok (.iload_n 1, 1) := by decide +kernel
theorem dX12_mayGet_98 : decode cX12_mayGet 98 = .ok (.invokevirtual 500, 3) := by decide +kernel
theorem dX12_mayGet_101 : decode cX12_mayGet 101 = .ok (.ifCond .eq 15, 3) := by decide +kernel
theorem dX12_mayGet_104 : decode cX12_mayGet 104 = .ok (.aload_n 0, 1) := by decide +kernel
theorem dX12_mayGet_105 : decode cX12_mayGet 105 = .ok (.iload_n 3, 1) := by decide +kernel
theorem dX12_mayGet_106 : decode cX12_mayGet 106 = .ok (.iload_n 1, 1) := by decide +kernel
theorem dX12_mayGet_107 : decode cX12_mayGet 107 = .ok (.iload_n 2, 1) := by decide +kernel
theorem dX12_mayGet_108 : decode cX12_mayGet 108 = .ok (.invokevirtual 506, 3) := by decide +kernel
theorem dX12_mayGet_111 : decode cX12_mayGet 111 = .ok (.ifCond .eq 5, 3) := by decide +kernel
theorem dX12_mayGet_114 : decode cX12_mayGet 114 = .ok (.iconst 0, 1) := by decide +kernel
theorem dX12_mayGet_115 : decode cX12_mayGet 115 = .ok (.ireturn, 1) := by decide +kernel
theorem dX12_mayGet_116 : decode cX12_mayGet 116 = .ok (.iinc 3 1, 3) := by decide +kernel
theorem dX12_mayGet_119 : decode cX12_mayGet 119 = .ok (.goto (-50), 3) := by decide +kernel
theorem dX12_mayGet_122 : decode cX12_mayGet 122 = .ok (.iconst 1, 1) := by decide +kernel
theorem dX12_mayGet_123 : decode cX12_mayGet 123 = .ok (.ireturn, 1) := by decide +kernel
theorem dX12_must_0 : decode cX12_must 0 = .ok (.aload_n 0, 1) := by decide +kernel
theorem dX12_must_1 : decode cX12_must 1 = .ok (.iload_n 1, 1) := by decide +kernel
theorem dX12_must_2 : decode cX12_must 2 = .ok (.invokevirtual 315, 3) := by decide +kernel
theorem dX12_must_5 : decode cX12_must 5 = .ok (.ifCond .ne 12, 3) := by decide +kernel
theorem dX12_must_8 : decode cX12_must 8 = .ok (.aload_n 0, 1) := by decide +kernel
theorem dX12_must_9 : decode cX12_must 9 = .ok (.iconst 1, 1) := by decide +kernel
theorem dX12_must_10 : decode cX12_must 10 = .ok (.aload_n 0, 1) := by decide +kernel
theorem dX12_must_11 : decode cX12_must 11 = .ok (.getfield 23, 3) := by decide +kernel
theorem dX12_must_14 : decode cX12_must 14 = .ok (.invokevirtual 308, 3) := by decide +kernel
theorem dX12_must_17 : decode cX12_must 17 = .ok (.aload_n 0, 1) := by decide +kernel
theorem dX12_must_18 : decode cX12_must 18 = .ok (.getfield 36, 3) := by decide +kernel
theorem dX12_must_21 : decode cX12_must 21 = .ok (.ifCond .ne 7, 3) := by decide +kernel
theorem dX12_must_24 : decode cX12_must 24 = .ok (.aload_n 0, 1) := by decide +kernel
theorem dX12_must_25 : decode cX12_must 25 = .ok (.invokevirtual 312, 3) := by decide +kernel
theorem dX12_must_28 : decode cX12_must 28 = .ok (.return_, 1) := by decide +kernel
theorem dX12_mustWord_0 : decode cX12_mustWord 0 = .ok (.aload_n 0, 1) := by decide +kernel
theorem dX12_mustWord_1 : decode cX12_mustWord 1 = .ok (.lload_n 1, 1) := by decide +kernel
theorem dX12_mustWord_2 : decode cX12_mustWord 2 = .ok (.invokevirtual 318, 3) := by decide +kernel
theorem dX12_mustWord_5 : decode cX12_mustWord 5 = .ok (.ifCond .ne 12, 3) := by decide +kernel
theorem dX12_mustWord_8 : decode cX12_mustWord 8 = .ok (.aload_n 0, 1) := by decide +kernel
theorem dX12_mustWord_9 : decode cX12_mustWord 9 = .ok (.iconst 1, 1) := by decide +kernel
theorem dX12_mustWord_10 : decode cX12_mustWord 10 = .ok (.aload_n 0, 1) := by decide +kernel
theorem dX12_mustWord_11 : decode cX12_mustWord 11 = .ok (.getfield 23, 3) := by decide +kernel
theorem dX12_mustWord_14 : decode cX12_mustWord 14 = .ok (.invokevirtual 308, 3) := by decide +kernel
theorem dX12_mustWord_17 : decode cX12_mustWord 17 = .ok (.aload_n 0, 1) := by decide +kernel
theorem dX12_mustWord_18 : decode cX12_mustWord 18 = .ok (.getfield 36, 3) := by decide +kernel
theorem dX12_mustWord_21 : decode cX12_mustWord 21 = .ok (.ifCond .ne 7, 3) := by decide +kernel
theorem dX12_mustWord_24 : decode cX12_mustWord 24 = .ok (.aload_n 0, 1) := by decide +kernel
theorem dX12_mustWord_25 : decode cX12_mustWord 25 = .ok (.invokevirtual 312, 3) := by decide +kernel
theorem dX12_mustWord_28 : decode cX12_mustWord 28 = .ok (.return_, 1) := by decide +kernel
theorem dX12_name_0 : decode cX12_name 0 = .ok (.iload_n 2, 1) := by decide +kernel
theorem dX12_name_1 : decode cX12_name 1 = .ok (.ifCond .lt 32, 3) := by decide +kernel
theorem dX12_name_4 : decode cX12_name 4 = .ok (.iload_n 2, 1) := by decide +kernel
theorem dX12_name_5 : decode cX12_name 5 = .ok (.iload_n 1, 1) := by decide +kernel
theorem dX12_name_6 : decode cX12_name 6 = .ok (.ifCond .eq 15, 3) := by decide +kernel
theorem dX12_name_9 : decode cX12_name 9 = .ok (.aload_n 0, 1) := by decide +kernel
theorem dX12_name_10 : decode cX12_name 10 = .ok (.getfield 57, 3) := by decide +kernel
theorem dX12_name_13 : decode cX12_name 13 = .ok (.aload_n 0, 1) := by decide +kernel
theorem dX12_name_14 : decode cX12_name 14 = .ok (.getfield 48, 3) := by decide +kernel
theorem dX12_name_17 : decode cX12_name 17 = .ok (.iaload, 1) := by decide +kernel
theorem dX12_name_18 : decode cX12_name 18 = .ok (.goto 12, 3) := by decide +kernel
theorem dX12_name_21 : decode cX12_name 21 = .ok (.aload_n 0, 1) := by decide +kernel
theorem dX12_name_22 : decode cX12_name 22 = .ok (.getfield 54, 3) := by decide +kernel
theorem dX12_name_25 : decode cX12_name 25 = .ok (.aload_n 0, 1) := by decide +kernel
theorem dX12_name_26 : decode cX12_name 26 = .ok (.getfield 48, 3) := by decide +kernel
theorem dX12_name_29 : decode cX12_name 29 = .ok (.iaload, 1) := by decide +kernel
theorem dX12_name_30 : decode cX12_name 30 = .ok (.if_icmp .lt 5, 3) := by decide +kernel
theorem dX12_name_33 : decode cX12_name 33 = .ok (.iconst (-1), 1) := by decide +kernel
theorem dX12_name_34 : decode cX12_name 34 = .ok (.ireturn, 1) := by decide +kernel
theorem dX12_name_35 : decode cX12_name 35 = .ok (.iload_n 1, 1) := by decide +kernel
theorem dX12_name_36 : decode cX12_name 36 = .ok (.ifCond .eq 20, 3) := by decide +kernel
theorem dX12_name_39 : decode cX12_name 39 = .ok (.aload_n 0, 1) := by decide +kernel
theorem dX12_name_40 : decode cX12_name 40 = .ok (.getfield 70, 3) := by decide +kernel
theorem dX12_name_43 : decode cX12_name 43 = .ok (.bipush 8, 2) := by decide +kernel
theorem dX12_name_45 : decode cX12_name 45 = .ok (.aload_n 0, 1) := by decide +kernel
theorem dX12_name_46 : decode cX12_name 46 = .ok (.getfield 48, 3) := by decide +kernel
theorem dX12_name_49 : decode cX12_name 49 = .ok (.imul, 1) := by decide +kernel
theorem dX12_name_50 : decode cX12_name 50 = .ok (.iload_n 2, 1) := by decide +kernel
theorem dX12_name_51 : decode cX12_name 51 = .ok (.iadd, 1) := by decide +kernel
theorem dX12_name_52 : decode cX12_name 52 = .ok (.laload, 1) := by decide +kernel
theorem dX12_name_53 : decode cX12_name 53 = .ok (.goto 17, 3) := by decide +kernel
theorem dX12_name_56 : decode cX12_name 56 = .ok (.aload_n 0, 1) := by decide +kernel
theorem dX12_name_57 : decode cX12_name 57 = .ok (.getfield 66, 3) := by decide +kernel
theorem dX12_name_60 : decode cX12_name 60 = .ok (.bipush 10, 2) := by decide +kernel
theorem dX12_name_62 : decode cX12_name 62 = .ok (.aload_n 0, 1) := by decide +kernel
theorem dX12_name_63 : decode cX12_name 63 = .ok (.getfield 48, 3) := by decide +kernel
theorem dX12_name_66 : decode cX12_name 66 = .ok (.imul, 1) := by decide +kernel
theorem dX12_name_67 : decode cX12_name 67 = .ok (.iload_n 2, 1) := by decide +kernel
theorem dX12_name_68 : decode cX12_name 68 = .ok (.iadd, 1) := by decide +kernel
theorem dX12_name_69 : decode cX12_name 69 = .ok (.laload, 1) := by decide +kernel
theorem dX12_name_70 : decode cX12_name 70 = .ok (.iload_n 3, 1) := by decide +kernel
theorem dX12_name_71 : decode cX12_name 71 = .ok (.invokestatic 447, 3) := by decide +kernel
theorem dX12_name_74 : decode cX12_name 74 = .ok (.ireturn, 1) := by decide +kernel
theorem dX12_now_0 : decode cX12_now 0 = .ok (.aload_n 0, 1) := by decide +kernel
theorem dX12_now_1 : decode cX12_now 1 = .ok (.getfield 132, 3) := by decide +kernel
theorem dX12_now_4 : decode cX12_now 4 = .ok (.iconst (-1), 1) := by decide +kernel
theorem dX12_now_5 : decode cX12_now 5 = .ok (.if_icmp .ne 10, 3) := by decide +kernel
theorem dX12_now_8 : decode cX12_now 8 = .ok (.aload_n 0, 1) := by decide +kernel
theorem dX12_now_9 : decode cX12_now 9 = .ok (.getfield 126, 3) := by decide +kernel
theorem dX12_now_12 : decode cX12_now 12 = .ok (.goto 7, 3) := by decide +kernel
theorem dX12_now_15 : decode cX12_now 15 = .ok (.aload_n 0, 1) := by decide +kernel
theorem dX12_now_16 : decode cX12_now 16 = .ok (.getfield 132, 3) := by decide +kernel
theorem dX12_now_19 : decode cX12_now 19 = .ok (.ireturn, 1) := by decide +kernel
theorem dX12_number_0 : decode cX12_number 0 = .ok (.aload_n 0, 1) := by decide +kernel
theorem dX12_number_1 : decode cX12_number 1 = .ok (.getfield 20, 3) := by decide +kernel
theorem dX12_number_4 : decode cX12_number 4 = .ok (.iconst 2, 1) := by decide +kernel
theorem dX12_number_5 : decode cX12_number 5 = .ok (.if_icmp .eq 12, 3) := by decide +kernel
theorem dX12_number_8 : decode cX12_number 8 = .ok (.aload_n 0, 1) := by decide +kernel
theorem dX12_number_9 : decode cX12_number 9 = .ok (.iconst 1, 1) := by decide +kernel
theorem dX12_number_10 : decode cX12_number 10 = .ok (.aload_n 0, 1) := by decide +kernel
theorem dX12_number_11 : decode cX12_number 11 = .ok (.getfield 23, 3) := by decide +kernel
theorem dX12_number_14 : decode cX12_number 14 = .ok (.invokevirtual 308, 3) := by decide +kernel
theorem dX12_number_17 : decode cX12_number 17 = .ok (.aload_n 0, 1) := by decide +kernel
theorem dX12_number_18 : decode cX12_number 18 = .ok (.getfield 36, 3) := by decide +kernel
theorem dX12_number_21 : decode cX12_number 21 = .ok (.ifCond .ne 24, 3) := by decide +kernel
theorem dX12_number_24 : decode cX12_number 24 = .ok (.aload_n 0, 1) := by decide +kernel
theorem dX12_number_25 : decode cX12_number 25 = .ok (.getfield 29, 3) := by decide +kernel
theorem dX12_number_28 : decode cX12_number 28 = .ok (.iload_n 1, 1) := by decide +kernel
theorem dX12_number_29 : decode cX12_number 29 = .ok (.iload_n 2, 1) := by decide +kernel
theorem dX12_number_30 : decode cX12_number 30 = .ok (.invokestatic 322, 3) := by decide +kernel
theorem dX12_number_33 : decode cX12_number 33 = .ok (.ifCond .ne 12, 3) := by decide +kernel
theorem dX12_number_36 : decode cX12_number 36 = .ok (.aload_n 0, 1) := by decide +kernel
theorem dX12_number_37 : decode cX12_number 37 = .ok (.iconst 4, 1) := by decide +kernel
theorem dX12_number_38 : decode cX12_number 38 = .ok (.aload_n 0, 1) := by decide +kernel
theorem dX12_number_39 : decode cX12_number 39 = .ok (.getfield 23, 3) := by decide +kernel
theorem dX12_number_42 : decode cX12_number 42 = .ok (.invokevirtual 308, 3) := by decide +kernel
theorem dX12_number_45 : decode cX12_number 45 = .ok (.aload_n 0, 1) := by decide +kernel
theorem dX12_number_46 : decode cX12_number 46 = .ok (.getfield 29, 3) := by decide +kernel
theorem dX12_number_49 : decode cX12_number 49 = .ok (.istore_n 3, 1) := by decide +kernel
theorem dX12_number_50 : decode cX12_number 50 = .ok (.aload_n 0, 1) := by decide +kernel
theorem dX12_number_51 : decode cX12_number 51 = .ok (.getfield 36, 3) := by decide +kernel
theorem dX12_number_54 : decode cX12_number 54 = .ok (.ifCond .ne 7, 3) := by decide +kernel
theorem dX12_number_57 : decode cX12_number 57 = .ok (.aload_n 0, 1) := by decide +kernel
theorem dX12_number_58 : decode cX12_number 58 = .ok (.invokevirtual 312, 3) := by decide +kernel
theorem dX12_number_61 : decode cX12_number 61 = .ok (.iload_n 3, 1) := by decide +kernel
theorem dX12_number_62 : decode cX12_number 62 = .ok (.ireturn, 1) := by decide +kernel
theorem dX12_of_0 : decode cX12_of 0 = .ok (.aload_n 0, 1) := by decide +kernel
theorem dX12_of_1 : decode cX12_of 1 = .ok (.invokevirtual 471, 3) := by decide +kernel
theorem dX12_of_4 : decode cX12_of 4 = .ok (.aload_n 0, 1) := by decide +kernel
theorem dX12_of_5 : decode cX12_of 5 = .ok (.iload_n 1, 1) := by decide +kernel
theorem dX12_of_6 : decode cX12_of 6 = .ok (.invokevirtual 512, 3) := by decide +kernel
theorem dX12_of_9 : decode cX12_of 9 = .ok (.ifCond .ne 5, 3) := by decide +kernel
theorem dX12_of_12 : decode cX12_of 12 = .ok (.iconst (-1), 1) := by decide +kernel
theorem dX12_of_13 : decode cX12_of 13 = .ok (.ireturn, 1) := by decide +kernel
theorem dX12_of_14 : decode cX12_of 14 = .ok (.iload_n 2, 1) := by decide +kernel
theorem dX12_of_15 : decode cX12_of 15 = .ok (.tableswitch 128 0 9 #[53, 60, 67, 81, 88, 95, 102, 109, 115, 122], 53) := by decide +kernel
theorem dX12_of_68 : decode cX12_of 68 = .ok (.aload_n 0, 1) := by decide +kernel
theorem dX12_of_69 : decode cX12_of 69 = .ok (.getfield 153, 3) := by decide +kernel
theorem dX12_of_72 : decode cX12_of 72 = .ok (.iload_n 1, 1) := by decide +kernel
theorem dX12_of_73 : decode cX12_of 73 = .ok (.iaload, 1) := by decide +kernel
theorem dX12_of_74 : decode cX12_of 74 = .ok (.ireturn, 1) := by decide +kernel
theorem dX12_of_75 : decode cX12_of 75 = .ok (.aload_n 0, 1) := by decide +kernel
theorem dX12_of_76 : decode cX12_of 76 = .ok (.getfield 156, 3) := by decide +kernel
theorem dX12_of_79 : decode cX12_of 79 = .ok (.iload_n 1, 1) := by decide +kernel
theorem dX12_of_80 : decode cX12_of 80 = .ok (.iaload, 1) := by decide +kernel
theorem dX12_of_81 : decode cX12_of 81 = .ok (.ireturn, 1) := by decide +kernel
theorem dX12_of_82 : decode cX12_of 82 = .ok (.aload_n 0, 1) := by decide +kernel
theorem dX12_of_83 : decode cX12_of 83 = .ok (.getfield 162, 3) := by decide +kernel
theorem dX12_of_86 : decode cX12_of 86 = .ok (.iload_n 1, 1) := by decide +kernel
theorem dX12_of_87 : decode cX12_of 87 = .ok (.iaload, 1) := by decide +kernel
theorem dX12_of_88 : decode cX12_of 88 = .ok (.aload_n 0, 1) := by decide +kernel
theorem dX12_of_89 : decode cX12_of 89 = .ok (.getfield 159, 3) := by decide +kernel
theorem dX12_of_92 : decode cX12_of 92 = .ok (.iload_n 1, 1) := by decide +kernel
theorem dX12_of_93 : decode cX12_of 93 = .ok (.iaload, 1) := by decide +kernel
theorem dX12_of_94 : decode cX12_of 94 = .ok (.isub, 1) := by decide +kernel
theorem dX12_of_95 : decode cX12_of 95 = .ok (.ireturn, 1) := by decide +kernel
theorem dX12_of_96 : decode cX12_of 96 = .ok (.aload_n 0, 1) := by decide +kernel
theorem dX12_of_97 : decode cX12_of 97 = .ok (.getfield 165, 3) := by decide +kernel
theorem dX12_of_100 : decode cX12_of 100 = .ok (.iload_n 1, 1) := by decide +kernel
theorem dX12_of_101 : decode cX12_of 101 = .ok (.iaload, 1) := by decide +kernel
theorem dX12_of_102 : decode cX12_of 102 = .ok (.ireturn, 1) := by decide +kernel
theorem dX12_of_103 : decode cX12_of 103 = .ok (.aload_n 0, 1) := by decide +kernel
theorem dX12_of_104 : decode cX12_of 104 = .ok (.getfield 168, 3) := by decide +kernel
theorem dX12_of_107 : decode cX12_of 107 = .ok (.iload_n 1, 1) := by decide +kernel
theorem dX12_of_108 : decode cX12_of 108 = .ok (.iaload, 1) := by decide +kernel
theorem dX12_of_109 : decode cX12_of 109 = .ok (.ireturn, 1) := by decide +kernel
theorem dX12_of_110 : decode cX12_of 110 = .ok (.aload_n 0, 1) := by decide +kernel
theorem dX12_of_111 : decode cX12_of 111 = .ok (.getfield 171, 3) := by decide +kernel
theorem dX12_of_114 : decode cX12_of 114 = .ok (.iload_n 1, 1) := by decide +kernel
theorem dX12_of_115 : decode cX12_of 115 = .ok (.iaload, 1) := by decide +kernel
theorem dX12_of_116 : decode cX12_of 116 = .ok (.ireturn, 1) := by decide +kernel
theorem dX12_of_117 : decode cX12_of 117 = .ok (.aload_n 0, 1) := by decide +kernel
theorem dX12_of_118 : decode cX12_of 118 = .ok (.getfield 174, 3) := by decide +kernel
theorem dX12_of_121 : decode cX12_of 121 = .ok (.iload_n 1, 1) := by decide +kernel
theorem dX12_of_122 : decode cX12_of 122 = .ok (.iaload, 1) := by decide +kernel
theorem dX12_of_123 : decode cX12_of 123 = .ok (.ireturn, 1) := by decide +kernel
theorem dX12_of_124 : decode cX12_of 124 = .ok (.aload_n 0, 1) := by decide +kernel
theorem dX12_of_125 : decode cX12_of 125 = .ok (.iload_n 1, 1) := by decide +kernel
theorem dX12_of_126 : decode cX12_of 126 = .ok (.invokevirtual 478, 3) := by decide +kernel
theorem dX12_of_129 : decode cX12_of 129 = .ok (.ireturn, 1) := by decide +kernel
theorem dX12_of_130 : decode cX12_of 130 = .ok (.aload_n 0, 1) := by decide +kernel
theorem dX12_of_131 : decode cX12_of 131 = .ok (.getfield 180, 3) := by decide +kernel
theorem dX12_of_134 : decode cX12_of 134 = .ok (.iload_n 1, 1) := by decide +kernel
theorem dX12_of_135 : decode cX12_of 135 = .ok (.iaload, 1) := by decide +kernel
theorem dX12_of_136 : decode cX12_of 136 = .ok (.ireturn, 1) := by decide +kernel
theorem dX12_of_137 : decode cX12_of 137 = .ok (.aload_n 0, 1) := by decide +kernel
theorem dX12_of_138 : decode cX12_of 138 = .ok (.iload_n 1, 1) := by decide +kernel
theorem dX12_of_139 : decode cX12_of 139 = .ok (.invokevirtual 515, 3) := by decide +kernel
theorem dX12_of_142 : decode cX12_of 142 = .ok (.ireturn, 1) := by decide +kernel
theorem dX12_of_143 : decode cX12_of 143 = .ok (.iconst (-1), 1) := by decide +kernel
theorem dX12_of_144 : decode cX12_of 144 = .ok (.ireturn, 1) := by decide +kernel
theorem dX12_opens_0 : decode cX12_opens 0 = .ok (.aload_n 0, 1) := by decide +kernel
theorem dX12_opens_1 : decode cX12_opens 1 = .ok (.getfield 113, 3) := by decide +kernel
theorem dX12_opens_4 : decode cX12_opens 4 = .ok (.bipush 8, 2) := by decide +kernel
theorem dX12_opens_6 : decode cX12_opens 6 = .ok (.if_icmp .ne 12, 3) := by decide +kernel
theorem dX12_opens_9 : decode cX12_opens 9 = .ok (.aload_n 0, 1) := by decide +kernel
theorem dX12_opens_10 : decode cX12_opens 10 = .ok (.iconst 5, 1) := by decide +kernel
theorem dX12_opens_11 : decode cX12_opens 11 = .ok (.aload_n 0, 1) := by decide +kernel
theorem dX12_opens_12 : decode cX12_opens 12 = .ok (.getfield 23, 3) := by decide +kernel
theorem dX12_opens_15 : decode cX12_opens 15 = .ok (.invokevirtual 308, 3) := by decide +kernel
theorem dX12_opens_18 : decode cX12_opens 18 = .ok (.aload_n 0, 1) := by decide +kernel
theorem dX12_opens_19 : decode cX12_opens 19 = .ok (.getfield 36, 3) := by decide +kernel
theorem dX12_opens_22 : decode cX12_opens 22 = .ok (.ifCond .le 4, 3) := by decide +kernel
theorem dX12_opens_25 : decode cX12_opens 25 = .ok (.return_, 1) := by decide +kernel
theorem dX12_opens_26 : decode cX12_opens 26 = .ok (.aload_n 0, 1) := by decide +kernel
theorem dX12_opens_27 : decode cX12_opens 27 = .ok (.dup, 1) := by decide +kernel
theorem dX12_opens_28 : decode cX12_opens 28 = .ok (.getfield 113, 3) := by decide +kernel
theorem dX12_opens_31 : decode cX12_opens 31 = .ok (.iconst 1, 1) := by decide +kernel
theorem dX12_opens_32 : decode cX12_opens 32 = .ok (.iadd, 1) := by decide +kernel
theorem dX12_opens_33 : decode cX12_opens 33 = .ok (.putfield 113, 3) := by decide +kernel
theorem dX12_opens_36 : decode cX12_opens 36 = .ok (.aload_n 0, 1) := by decide +kernel
theorem dX12_opens_37 : decode cX12_opens 37 = .ok (.invokevirtual 312, 3) := by decide +kernel
theorem dX12_opens_40 : decode cX12_opens 40 = .ok (.aload_n 0, 1) := by decide +kernel
theorem dX12_opens_41 : decode cX12_opens 41 = .ok (.iload_n 1, 1) := by decide +kernel
theorem dX12_opens_42 : decode cX12_opens 42 = .ok (.invokevirtual 377, 3) := by decide +kernel
theorem dX12_opens_45 : decode cX12_opens 45 = .ok (.return_, 1) := by decide +kernel
theorem dX12_packs_0 : decode cX12_packs 0 = .ok (.aload_n 0, 1) := by decide +kernel
theorem dX12_packs_1 : decode cX12_packs 1 = .ok (.iconst 0, 1) := by decide +kernel
theorem dX12_packs_2 : decode cX12_packs 2 = .ok (.putfield 279, 3) := by decide +kernel
theorem dX12_packs_5 : decode cX12_packs 5 = .ok (.iconst 0, 1) := by decide +kernel
theorem dX12_packs_6 : decode cX12_packs 6 = .ok (.istore_n 1, 1) := by decide +kernel
theorem dX12_packs_7 : decode cX12_packs 7 = .ok (.iload_n 1, 1) := by decide +kernel
theorem dX12_packs_8 : decode cX12_packs 8 = .ok (.aload_n 0, 1) := by decide +kernel
theorem dX12_packs_9 : decode cX12_packs 9 = .ok (.getfield 222, 3) := by decide +kernel
theorem dX12_packs_12 : decode cX12_packs 12 = .ok (.if_icmp .ge 87, 3) := by decide +kernel
theorem dX12_packs_15 : decode cX12_packs 15 = .ok (.aload_n 0, 1) := by decide +kernel
theorem dX12_packs_16 : decode cX12_packs 16 = .ok (.getfield 243, 3) := by decide +kernel
theorem dX12_packs_19 : decode cX12_packs 19 = .ok (.iload_n 1, 1) := by decide +kernel
theorem dX12_packs_20 : decode cX12_packs 20 = .ok (.iaload, 1) := by decide +kernel
theorem dX12_packs_21 : decode cX12_packs 21 = .ok (.ifCond .ne 6, 3) := by decide +kernel
theorem dX12_packs_24 : decode cX12_packs 24 = .ok (.goto 69, 3) := by decide +kernel
theorem dX12_packs_27 : decode cX12_packs 27 = .ok (.aload_n 0, 1) := by decide +kernel
theorem dX12_packs_28 : decode cX12_packs 28 = .ok (.getfield 279, 3) := by decide +kernel
theorem dX12_packs_31 : decode cX12_packs 31 = .ok (.istore_n 2, 1) := by decide +kernel
theorem dX12_packs_32 : decode cX12_packs 32 = .ok (.iload_n 2, 1) := by decide +kernel
theorem dX12_packs_33 : decode cX12_packs 33 = .ok (.ifCond .le 43, 3) := by decide +kernel
theorem dX12_packs_36 : decode cX12_packs 36 = .ok (.aload_n 0, 1) := by decide +kernel
theorem dX12_packs_37 : decode cX12_packs 37 = .ok (.aload_n 0, 1) := by decide +kernel
theorem dX12_packs_38 : decode cX12_packs 38 = .ok (.getfield 276, 3) := by decide +kernel
theorem dX12_packs_41 : decode cX12_packs 41 = .ok (.iload_n 2, 1) := by decide +kernel
theorem dX12_packs_42 : decode cX12_packs 42 = .ok (.iconst 1, 1) := by decide +kernel
theorem dX12_packs_43 : decode cX12_packs 43 = .ok (.isub, 1) := by decide +kernel
theorem dX12_packs_44 : decode cX12_packs 44 = .ok (.iaload, 1) := by decide +kernel
theorem dX12_packs_45 : decode cX12_packs 45 = .ok (.invokevirtual 569, 3) := by decide +kernel
theorem dX12_packs_48 : decode cX12_packs 48 = .ok (.aload_n 0, 1) := by decide +kernel
theorem dX12_packs_49 : decode cX12_packs 49 = .ok (.iload_n 1, 1) := by decide +kernel
theorem dX12_packs_50 : decode cX12_packs 50 = .ok (.invokevirtual 569, 3) := by decide +kernel
theorem dX12_packs_53 : decode cX12_packs 53 = .ok (.if_icmp .ge 23, 3) := by decide +kernel
theorem dX12_packs_56 : decode cX12_packs 56 = .ok (.aload_n 0, 1) := by decide +kernel
theorem dX12_packs_57 : decode cX12_packs 57 = .ok (.getfield 276, 3) := by decide +kernel
theorem dX12_packs_60 : decode cX12_packs 60 = .ok (.iload_n 2, 1) := by decide +kernel
theorem dX12_packs_61 : decode cX12_packs 61 = .ok (.aload_n 0, 1) := by decide +kernel
theorem dX12_packs_62 : decode cX12_packs 62 = .ok (.getfield 276, 3) := by decide +kernel
theorem dX12_packs_65 : decode cX12_packs 65 = .ok (.iload_n 2, 1) := by decide +kernel
theorem dX12_packs_66 : decode cX12_packs 66 = .ok (.iconst 1, 1) := by decide +kernel
theorem dX12_packs_67 : decode cX12_packs 67 = .ok (.isub, 1) := by decide +kernel
theorem dX12_packs_68 : decode cX12_packs 68 = .ok (.iaload, 1) := by decide +kernel
theorem dX12_packs_69 : decode cX12_packs 69 = .ok (.iastore, 1) := by decide +kernel
theorem dX12_packs_70 : decode cX12_packs 70 = .ok (.iinc 2 (-1), 3) := by decide +kernel
theorem dX12_packs_73 : decode cX12_packs 73 = .ok (.goto (-41), 3) := by decide +kernel
theorem dX12_packs_76 : decode cX12_packs 76 = .ok (.aload_n 0, 1) := by decide +kernel
theorem dX12_packs_77 : decode cX12_packs 77 = .ok (.getfield 276, 3) := by decide +kernel
theorem dX12_packs_80 : decode cX12_packs 80 = .ok (.iload_n 2, 1) := by decide +kernel
theorem dX12_packs_81 : decode cX12_packs 81 = .ok (.iload_n 1, 1) := by decide +kernel
theorem dX12_packs_82 : decode cX12_packs 82 = .ok (.iastore, 1) := by decide +kernel
theorem dX12_packs_83 : decode cX12_packs 83 = .ok (.aload_n 0, 1) := by decide +kernel
theorem dX12_packs_84 : decode cX12_packs 84 = .ok (.dup, 1) := by decide +kernel
theorem dX12_packs_85 : decode cX12_packs 85 = .ok (.getfield 279, 3) := by decide +kernel
theorem dX12_packs_88 : decode cX12_packs 88 = .ok (.iconst 1, 1) := by decide +kernel
theorem dX12_packs_89 : decode cX12_packs 89 = .ok (.iadd, 1) := by decide +kernel
theorem dX12_packs_90 : decode cX12_packs 90 = .ok (.putfield 279, 3) := by decide +kernel
theorem dX12_packs_93 : decode cX12_packs 93 = .ok (.iinc 1 1, 3) := by decide +kernel
theorem dX12_packs_96 : decode cX12_packs 96 = .ok (.goto (-89), 3) := by decide +kernel
theorem dX12_packs_99 : decode cX12_packs 99 = .ok (.return_, 1) := by decide +kernel
theorem dX12_part_0 : decode cX12_part 0 = .ok (.aload_n 0, 1) := by decide +kernel
theorem dX12_part_1 : decode cX12_part 1 = .ok (.getfield 110, 3) := by decide +kernel
theorem dX12_part_4 : decode cX12_part 4 = .ok (.iconst 1, 1) := by decide +kernel
theorem dX12_part_5 : decode cX12_part 5 = .ok (.isub, 1) := by decide +kernel
theorem dX12_part_6 : decode cX12_part 6 = .ok (.istore_n 1, 1) := by decide +kernel
theorem dX12_part_7 : decode cX12_part 7 = .ok (.aload_n 0, 1) := by decide +kernel
theorem dX12_part_8 : decode cX12_part 8 = .ok (.getfield 97, 3) := by decide +kernel
theorem dX12_part_11 : decode cX12_part 11 = .ok (.iload_n 1, 1) := by decide +kernel
theorem dX12_part_12 : decode cX12_part 12 = .ok (.iaload, 1) := by decide +kernel
theorem dX12_part_13 : decode cX12_part 13 = .ok (.istore_n 2, 1) := by decide +kernel
theorem dX12_part_14 : decode cX12_part 14 = .ok (.aload_n 0, 1) := by decide +kernel
theorem dX12_part_15 : decode cX12_part 15 = .ok (.getfield 103, 3) := by decide +kernel
theorem dX12_part_18 : decode cX12_part 18 = .ok (.iload_n 1, 1) := by decide +kernel
theorem dX12_part_19 : decode cX12_part 19 = .ok (.baload, 1) := by decide +kernel
theorem dX12_part_20 : decode cX12_part 20 = .ok (.ifCond .eq 16, 3) := by decide +kernel
theorem dX12_part_23 : decode cX12_part 23 = .ok (.iload_n 2, 1) := by decide +kernel
theorem dX12_part_24 : decode cX12_part 24 = .ok (.ifCond .eq 12, 3) := by decide +kernel
theorem dX12_part_27 : decode cX12_part 27 = .ok (.iload_n 2, 1) := by decide +kernel
theorem dX12_part_28 : decode cX12_part 28 = .ok (.iconst 3, 1) := by decide +kernel
theorem dX12_part_29 : decode cX12_part 29 = .ok (.if_icmp .eq 7, 3) := by decide +kernel
theorem dX12_part_32 : decode cX12_part 32 = .ok (.iconst 1, 1) := by decide +kernel
theorem dX12_part_33 : decode cX12_part 33 = .ok (.goto 4, 3) := by decide +kernel
theorem dX12_part_36 : decode cX12_part 36 = .ok (.iconst 0, 1) := by decide +kernel
theorem dX12_part_37 : decode cX12_part 37 = .ok (.istore_n 3, 1) := by decide +kernel
theorem dX12_part_38 : decode cX12_part 38 = .ok (.aload_n 0, 1) := by decide +kernel
theorem dX12_part_39 : decode cX12_part 39 = .ok (.ldc2_w 352, 3) := by decide +kernel
theorem dX12_part_42 : decode cX12_part 42 = .ok (.invokevirtual 318, 3) := by decide +kernel
theorem dX12_part_45 : decode cX12_part 45 = .ok (.ifCond .eq 19, 3) := by decide +kernel
theorem dX12_part_48 : decode cX12_part 48 = .ok (.iload_n 3, 1) := by decide +kernel
theorem dX12_part_49 : decode cX12_part 49 = .ok (.ifCond .eq 15, 3) := by decide +kernel
theorem dX12_part_52 : decode cX12_part 52 = .ok (.aload_n 0, 1) := by decide +kernel
theorem dX12_part_53 : decode cX12_part 53 = .ok (.bipush 18, 2) := by decide +kernel
theorem dX12_part_55 : decode cX12_part 55 = .ok (.invokevirtual 380, 3) := by decide +kernel
theorem dX12_part_58 : decode cX12_part 58 = .ok (.aload_n 0, 1) := by decide +kernel
theorem dX12_part_59 : decode cX12_part 59 = .ok (.invokevirtual 312, 3) := by decide +kernel
theorem dX12_part_62 : decode cX12_part 62 = .ok (.iconst 0, 1) := by decide +kernel
theorem dX12_part_63 : decode cX12_part 63 = .ok (.ireturn, 1) := by decide +kernel
theorem dX12_part_64 : decode cX12_part 64 = .ok (.aload_n 0, 1) := by decide +kernel
theorem dX12_part_65 : decode cX12_part 65 = .ok (.bipush 91, 2) := by decide +kernel
theorem dX12_part_67 : decode cX12_part 67 = .ok (.invokevirtual 315, 3) := by decide +kernel
theorem dX12_part_70 : decode cX12_part 70 = .ok (.ifCond .eq 32, 3) := by decide +kernel
theorem dX12_part_73 : decode cX12_part 73 = .ok (.iload_n 3, 1) := by decide +kernel
theorem dX12_part_74 : decode cX12_part 74 = .ok (.ifCond .eq 28, 3) := by decide +kernel
theorem dX12_part_77 : decode cX12_part 77 = .ok (.aload_n 0, 1) := by decide +kernel
theorem dX12_part_78 : decode cX12_part 78 = .ok (.getfield 103, 3) := by decide +kernel
theorem dX12_part_81 : decode cX12_part 81 = .ok (.iload_n 1, 1) := by decide +kernel
theorem dX12_part_82 : decode cX12_part 82 = .ok (.iconst 0, 1) := by decide +kernel
theorem dX12_part_83 : decode cX12_part 83 = .ok (.bastore, 1) := by decide +kernel
theorem dX12_part_84 : decode cX12_part 84 = .ok (.aload_n 0, 1) := by decide +kernel
theorem dX12_part_85 : decode cX12_part 85 = .ok (.iload_n 2, 1) := by decide +kernel
theorem dX12_part_86 : decode cX12_part 86 = .ok (.invokestatic 383, 3) := by decide +kernel
theorem dX12_part_89 : decode cX12_part 89 = .ok (.ifCond .eq 7, 3) := by decide +kernel
theorem dX12_part_92 : decode cX12_part 92 = .ok (.iconst 4, 1) := by decide +kernel
theorem dX12_part_93 : decode cX12_part 93 = .ok (.goto 4, 3) := by decide +kernel
theorem dX12_part_96 : decode cX12_part 96 = .ok (.iconst 5, 1) := by decide +kernel
theorem dX12_part_97 : decode cX12_part 97 = .ok (.invokevirtual 386, 3) := by decide +kernel
theorem dX12_part_100 : decode cX12_part 100 = .ok (.iconst 0, 1) := by decide +kernel
theorem dX12_part_101 : decode cX12_part 101 = .ok (.ireturn, 1) := by decide +kernel
theorem dX12_part_102 : decode cX12_part 102 = .ok (.aload_n 0, 1) := by decide +kernel
theorem dX12_part_103 : decode cX12_part 103 = .ok (.getfield 103, 3) := by decide +kernel
theorem dX12_part_106 : decode cX12_part 106 = .ok (.iload_n 1, 1) := by decide +kernel
theorem dX12_part_107 : decode cX12_part 107 = .ok (.iconst 0, 1) := by decide +kernel
theorem dX12_part_108 : decode cX12_part 108 = .ok (.bastore, 1) := by decide +kernel
theorem dX12_part_109 : decode cX12_part 109 = .ok (.iload_n 2, 1) := by decide +kernel
theorem dX12_part_110 : decode cX12_part 110 = .ok (.invokestatic 389, 3) := by decide +kernel
theorem dX12_part_113 : decode cX12_part 113 = .ok (.ifCond .eq 9, 3) := by decide +kernel
theorem dX12_part_116 : decode cX12_part 116 = .ok (.aload_n 0, 1) := by decide +kernel
theorem dX12_part_117 : decode cX12_part 117 = .ok (.iload_n 1, 1) := by decide +kernel
theorem dX12_part_118 : decode cX12_part 118 = .ok (.invokevirtual 392, 3) := by decide +kernel
theorem dX12_part_121 : decode cX12_part 121 = .ok (.ireturn, 1) := by decide +kernel
theorem dX12_part_122 : decode cX12_part 122 = .ok (.iload_n 3, 1) := by decide +kernel
theorem dX12_part_123 : decode cX12_part 123 = .ok (.ifCond .eq 33, 3) := by decide +kernel
theorem dX12_part_126 : decode cX12_part 126 = .ok (.aload_n 0, 1) := by decide +kernel
theorem dX12_part_127 : decode cX12_part 127 = .ok (.ldc2_w 356, 3) := by decide +kernel
theorem dX12_part_130 : decode cX12_part 130 = .ok (.invokevirtual 318, 3) := by decide +kernel
theorem dX12_part_133 : decode cX12_part 133 = .ok (.ifCond .eq 23, 3) := by decide +kernel
theorem dX12_part_136 : decode cX12_part 136 = .ok (.aload_n 0, 1) := by decide +kernel
theorem dX12_part_137 : decode cX12_part 137 = .ok (.bipush 6, 2) := by decide +kernel
theorem dX12_part_139 : decode cX12_part 139 = .ok (.iconst 0, 1) := by decide +kernel
theorem dX12_part_140 : decode cX12_part 140 = .ok (.invokevirtual 374, 3) := by decide +kernel
theorem dX12_part_143 : decode cX12_part 143 = .ok (.aload_n 0, 1) := by decide +kernel
theorem dX12_part_144 : decode cX12_part 144 = .ok (.getfield 100, 3) := by decide +kernel
theorem dX12_part_147 : decode cX12_part 147 = .ok (.iload_n 1, 1) := by decide +kernel
theorem dX12_part_148 : decode cX12_part 148 = .ok (.iconst 2, 1) := by decide +kernel
theorem dX12_part_149 : decode cX12_part 149 = .ok (.iastore, 1) := by decide +kernel
theorem dX12_part_150 : decode cX12_part 150 = .ok (.aload_n 0, 1) := by decide +kernel
theorem dX12_part_151 : decode cX12_part 151 = .ok (.invokevirtual 312, 3) := by decide +kernel
theorem dX12_part_154 : decode cX12_part 154 = .ok (.iconst 1, 1) := by decide +kernel
theorem dX12_part_155 : decode cX12_part 155 = .ok (.ireturn, 1) := by decide +kernel
theorem dX12_part_156 : decode cX12_part 156 = .ok (.iload_n 3, 1) := by decide +kernel
theorem dX12_part_157 : decode cX12_part 157 = .ok (.ifCond .eq 101, 3) := by decide +kernel
theorem dX12_part_160 : decode cX12_part 160 = .ok (.aload_n 0, 1) := by decide +kernel
theorem dX12_part_161 : decode cX12_part 161 = .ok (.ldc2_w 358, 3) := by decide +kernel
theorem dX12_part_164 : decode cX12_part 164 = .ok (.invokevirtual 318, 3) := by decide +kernel
theorem dX12_part_167 : decode cX12_part 167 = .ok (.ifCond .eq 91, 3) := by decide +kernel
theorem dX12_part_170 : decode cX12_part 170 = .ok (.aload_n 0, 1) := by decide +kernel
theorem dX12_part_171 : decode cX12_part 171 = .ok (.invokevirtual 312, 3) := by decide +kernel
theorem dX12_part_174 : decode cX12_part 174 = .ok (.aload_n 0, 1) := by decide +kernel
theorem dX12_part_175 : decode cX12_part 175 = .ok (.getfield 20, 3) := by decide +kernel
theorem dX12_part_178 : decode cX12_part 178 = .ok (.iconst 1, 1) := by decide +kernel
theorem dX12_part_179 : decode cX12_part 179 = .ok (.if_icmp .ne 14, 3) := by decide +kernel
theorem dX12_part_182 : decode cX12_part 182 = .ok (.aload_n 0, 1) := by decide +kernel
theorem dX12_part_183 : decode cX12_part 183 = .ok (.aload_n 0, 1) := by decide +kernel
theorem dX12_part_184 : decode cX12_part 184 = .ok (.getfield 32, 3) := by decide +kernel
theorem dX12_part_187 : decode cX12_part 187 = .ok (.invokevirtual 395, 3) := by decide +kernel
theorem dX12_part_190 : decode cX12_part 190 = .ok (.ifCond .eq 12, 3) := by decide +kernel
theorem dX12_part_193 : decode cX12_part 193 = .ok (.aload_n 0, 1) := by decide +kernel
theorem dX12_part_194 : decode cX12_part 194 = .ok (.iconst 1, 1) := by decide +kernel
theorem dX12_part_195 : decode cX12_part 195 = .ok (.aload_n 0, 1) := by decide +kernel
theorem dX12_part_196 : decode cX12_part 196 = .ok (.getfield 23, 3) := by decide +kernel
theorem dX12_part_199 : decode cX12_part 199 = .ok (.invokevirtual 308, 3) := by decide +kernel
theorem dX12_part_202 : decode cX12_part 202 = .ok (.aload_n 0, 1) := by decide +kernel
theorem dX12_part_203 : decode cX12_part 203 = .ok (.getfield 36, 3) := by decide +kernel
theorem dX12_part_206 : decode cX12_part 206 = .ok (.ifCond .le 5, 3) := by decide +kernel
theorem dX12_part_209 : decode cX12_part 209 = .ok (.iconst 1, 1) := by decide +kernel
theorem dX12_part_210 : decode cX12_part 210 = .ok (.ireturn, 1) := by decide +kernel
theorem dX12_part_211 : decode cX12_part 211 = .ok (.aload_n 0, 1) := by decide +kernel
theorem dX12_part_212 : decode cX12_part 212 = .ok (.getfield 94, 3) := by decide +kernel
theorem dX12_part_215 : decode cX12_part 215 = .ok (.sipush 1100, 3) := by decide +kernel
theorem dX12_part_218 : decode cX12_part 218 = .ok (.aload_n 0, 1) := by decide +kernel
theorem dX12_part_219 : decode cX12_part 219 = .ok (.getfield 51, 3) := by decide +kernel
theorem dX12_part_222 : decode cX12_part 222 = .ok (.imul, 1) := by decide +kernel
theorem dX12_part_223 : decode cX12_part 223 = .ok (.aload_n 0, 1) := by decide +kernel
theorem dX12_part_224 : decode cX12_part 224 = .ok (.getfield 91, 3) := by decide +kernel
theorem dX12_part_227 : decode cX12_part 227 = .ok (.aload_n 0, 1) := by decide +kernel
theorem dX12_part_228 : decode cX12_part 228 = .ok (.getfield 51, 3) := by decide +kernel
theorem dX12_part_231 : decode cX12_part 231 = .ok (.iaload, 1) := by decide +kernel
theorem dX12_part_232 : decode cX12_part 232 = .ok (.iadd, 1) := by decide +kernel
theorem dX12_part_233 : decode cX12_part 233 = .ok (.aload_n 0, 1) := by decide +kernel
theorem dX12_part_234 : decode cX12_part 234 = .ok (.getfield 32, 3) := by decide +kernel
theorem dX12_part_237 : decode cX12_part 237 = .ok (.lastore, 1) := by decide +kernel
theorem dX12_part_238 : decode cX12_part 238 = .ok (.aload_n 0, 1) := by decide +kernel
theorem dX12_part_239 : decode cX12_part 239 = .ok (.bipush 7, 2) := by decide +kernel
theorem dX12_part_241 : decode cX12_part 241 = .ok (.iconst 0, 1) := by decide +kernel
theorem dX12_part_242 : decode cX12_part 242 = .ok (.invokevirtual 374, 3) := by decide +kernel
theorem dX12_part_245 : decode cX12_part 245 = .ok (.aload_n 0, 1) := by decide +kernel
theorem dX12_part_246 : decode cX12_part 246 = .ok (.getfield 100, 3) := by decide +kernel
theorem dX12_part_249 : decode cX12_part 249 = .ok (.iload_n 1, 1) := by decide +kernel
theorem dX12_part_250 : decode cX12_part 250 = .ok (.iconst 2, 1) := by decide +kernel
theorem dX12_part_251 : decode cX12_part 251 = .ok (.iastore, 1) := by decide +kernel
theorem dX12_part_252 : decode cX12_part 252 = .ok (.aload_n 0, 1) := by decide +kernel
theorem dX12_part_253 : decode cX12_part 253 = .ok (.invokevirtual 312, 3) := by decide +kernel
theorem dX12_part_256 : decode cX12_part 256 = .ok (.iconst 1, 1) := by decide +kernel
theorem dX12_part_257 : decode cX12_part 257 = .ok (.ireturn, 1) := by decide +kernel
theorem dX12_part_258 : decode cX12_part 258 = .ok (.aload_n 0, 1) := by decide +kernel
theorem dX12_part_259 : decode cX12_part 259 = .ok (.bipush 40, 2) := by decide +kernel
theorem dX12_part_261 : decode cX12_part 261 = .ok (.invokevirtual 315, 3) := by decide +kernel
theorem dX12_part_264 : decode cX12_part 264 = .ok (.ifCond .eq 10, 3) := by decide +kernel
theorem dX12_part_267 : decode cX12_part 267 = .ok (.aload_n 0, 1) := by decide +kernel
theorem dX12_part_268 : decode cX12_part 268 = .ok (.iconst 3, 1) := by decide +kernel
theorem dX12_part_269 : decode cX12_part 269 = .ok (.invokevirtual 386, 3) := by decide +kernel
theorem dX12_part_272 : decode cX12_part 272 = .ok (.iconst 0, 1) := by decide +kernel
theorem dX12_part_273 : decode cX12_part 273 = .ok (.ireturn, 1) := by decide +kernel
theorem dX12_part_274 : decode cX12_part 274 = .ok (.aload_n 0, 1) := by decide +kernel
theorem dX12_part_275 : decode cX12_part 275 = .ok (.getfield 20, 3) := by decide +kernel
theorem dX12_part_278 : decode cX12_part 278 = .ok (.iconst 2, 1) := by decide +kernel
theorem dX12_part_279 : decode cX12_part 279 = .ok (.if_icmp .ne 15, 3) := by decide +kernel
theorem dX12_part_282 : decode cX12_part 282 = .ok (.aload_n 0, 1) := by decide +kernel
theorem dX12_part_283 : decode cX12_part 283 = .ok (.iconst 0, 1) := by decide +kernel
theorem dX12_part_284 : decode cX12_part 284 = .ok (.aload_n 0, 1) := by decide +kernel
theorem dX12_part_285 : decode cX12_part 285 = .ok (.getfield 29, 3) := by decide +kernel
theorem dX12_part_288 : decode cX12_part 288 = .ok (.invokevirtual 374, 3) := by decide +kernel
theorem dX12_part_291 : decode cX12_part 291 = .ok (.goto 107, 3) := by decide +kernel
theorem dX12_part_294 : decode cX12_part 294 = .ok (.aload_n 0, 1) := by decide +kernel
theorem dX12_part_295 : decode cX12_part 295 = .ok (.ldc2_w 360, 3) := by decide +kernel
theorem dX12_part_298 : decode cX12_part 298 = .ok (.invokevirtual 318, 3) := by decide +kernel
theorem dX12_part_301 : decode cX12_part 301 = .ok (.ifCond .eq 12, 3) := by decide +kernel
theorem dX12_part_304 : decode cX12_part 304 = .ok (.aload_n 0, 1) := by decide +kernel
theorem dX12_part_305 : decode cX12_part 305 = .ok (.iconst 1, 1) := by decide +kernel
theorem dX12_part_306 : decode cX12_part 306 = .ok (.iconst 0, 1) := by decide +kernel
theorem dX12_part_307 : decode cX12_part 307 = .ok (.invokevirtual 374, 3) := by decide +kernel
theorem dX12_part_310 : decode cX12_part 310 = .ok (.goto 88, 3) := by decide +kernel
theorem dX12_part_313 : decode cX12_part 313 = .ok (.aload_n 0, 1) := by decide +kernel
theorem dX12_part_314 : decode cX12_part 314 = .ok (.ldc2_w 362, 3) := by decide +kernel
theorem dX12_part_317 : decode cX12_part 317 = .ok (.invokevirtual 318, 3) := by decide +kernel
theorem dX12_part_320 : decode cX12_part 320 = .ok (.ifCond .eq 12, 3) := by decide +kernel
theorem dX12_part_323 : decode cX12_part 323 = .ok (.aload_n 0, 1) := by decide +kernel
theorem dX12_part_324 : decode cX12_part 324 = .ok (.iconst 2, 1) := by decide +kernel
theorem dX12_part_325 : decode cX12_part 325 = .ok (.iconst 0, 1) := by decide +kernel
theorem dX12_part_326 : decode cX12_part 326 = .ok (.invokevirtual 374, 3) := by decide +kernel
theorem dX12_part_329 : decode cX12_part 329 = .ok (.goto 69, 3) := by decide +kernel
theorem dX12_part_332 : decode cX12_part 332 = .ok (.aload_n 0, 1) := by decide +kernel
theorem dX12_part_333 : decode cX12_part 333 = .ok (.ldc2_w 364, 3) := by decide +kernel
theorem dX12_part_336 : decode cX12_part 336 = .ok (.invokevirtual 318, 3) := by decide +kernel
theorem dX12_part_339 : decode cX12_part 339 = .ok (.ifCond .eq 12, 3) := by decide +kernel
theorem dX12_part_342 : decode cX12_part 342 = .ok (.aload_n 0, 1) := by decide +kernel
theorem dX12_part_343 : decode cX12_part 343 = .ok (.iconst 3, 1) := by decide +kernel
theorem dX12_part_344 : decode cX12_part 344 = .ok (.iconst 0, 1) := by decide +kernel
theorem dX12_part_345 : decode cX12_part 345 = .ok (.invokevirtual 374, 3) := by decide +kernel
theorem dX12_part_348 : decode cX12_part 348 = .ok (.goto 50, 3) := by decide +kernel
theorem dX12_part_351 : decode cX12_part 351 = .ok (.aload_n 0, 1) := by decide +kernel
theorem dX12_part_352 : decode cX12_part 352 = .ok (.ldc2_w 366, 3) := by decide +kernel
theorem dX12_part_355 : decode cX12_part 355 = .ok (.invokevirtual 318, 3) := by decide +kernel
theorem dX12_part_358 : decode cX12_part 358 = .ok (.ifCond .eq 12, 3) := by decide +kernel
theorem dX12_part_361 : decode cX12_part 361 = .ok (.aload_n 0, 1) := by decide +kernel
theorem dX12_part_362 : decode cX12_part 362 = .ok (.iconst 4, 1) := by decide +kernel
theorem dX12_part_363 : decode cX12_part 363 = .ok (.iconst 0, 1) := by decide +kernel
theorem dX12_part_364 : decode cX12_part 364 = .ok (.invokevirtual 374, 3) := by decide +kernel
theorem dX12_part_367 : decode cX12_part 367 = .ok (.goto 31, 3) := by decide +kernel
theorem dX12_part_370 : decode cX12_part 370 = .ok (.aload_n 0, 1) := by decide +kernel
theorem dX12_part_371 : decode cX12_part 371 = .ok (.ldc2_w 368, 3) := by decide +kernel
theorem dX12_part_374 : decode cX12_part 374 = .ok (.invokevirtual 318, 3) := by decide +kernel
theorem dX12_part_377 : decode cX12_part 377 = .ok (.ifCond .eq 12, 3) := by decide +kernel
theorem dX12_part_380 : decode cX12_part 380 = .ok (.aload_n 0, 1) := by decide +kernel
theorem dX12_part_381 : decode cX12_part 381 = .ok (.iconst 5, 1) := by decide +kernel
theorem dX12_part_382 : decode cX12_part 382 = .ok (.iconst 0, 1) := by decide +kernel
theorem dX12_part_383 : decode cX12_part 383 = .ok (.invokevirtual 374, 3) := by decide +kernel
theorem dX12_part_386 : decode cX12_part 386 = .ok (.goto 12, 3) := by decide +kernel
theorem dX12_part_389 : decode cX12_part 389 = .ok (.aload_n 0, 1) := by decide +kernel
theorem dX12_part_390 : decode cX12_part 390 = .ok (.iconst 1, 1) := by decide +kernel
theorem dX12_part_391 : decode cX12_part 391 = .ok (.aload_n 0, 1) := by decide +kernel
theorem dX12_part_392 : decode cX12_part 392 = .ok (.getfield 23, 3) := by decide +kernel
theorem dX12_part_395 : decode cX12_part 395 = .ok (.invokevirtual 308, 3) := by decide +kernel
theorem dX12_part_398 : decode cX12_part 398 = .ok (.aload_n 0, 1) := by decide +kernel
theorem dX12_part_399 : decode cX12_part 399 = .ok (.getfield 36, 3) := by decide +kernel
theorem dX12_part_402 : decode cX12_part 402 = .ok (.ifCond .ne 7, 3) := by decide +kernel
theorem dX12_part_405 : decode cX12_part 405 = .ok (.aload_n 0, 1) := by decide +kernel
theorem dX12_part_406 : decode cX12_part 406 = .ok (.invokevirtual 312, 3) := by decide +kernel
theorem dX12_part_409 : decode cX12_part 409 = .ok (.iconst 1, 1) := by decide +kernel
theorem dX12_part_410 : decode cX12_part 410 = .ok (.ireturn, 1) := by decide +kernel
theorem dX12_points_0 : decode cX12_points 0 = .ok (.aload_n 0, 1) := by decide +kernel
theorem dX12_points_1 : decode cX12_points 1 = .ok (.invokevirtual 471, 3) := by decide +kernel
theorem dX12_points_4 : decode cX12_points 4 = .ok (.aload_n 0, 1) := by decide +kernel
theorem dX12_points_5 : decode cX12_points 5 = .ok (.iload_n 1, 1) := by decide +kernel
theorem dX12_points_6 : decode cX12_points 6 = .ok (.invokevirtual 512, 3) := by decide +kernel
theorem dX12_points_9 : decode cX12_points 9 = .ok (.ifCond .eq 11, 3) := by decide +kernel
theorem dX12_points_12 : decode cX12_points 12 = .ok (.aload_n 0, 1) := by decide +kernel
theorem dX12_points_13 : decode cX12_points 13 = .ok (.iload_n 2, 1) := by decide +kernel
theorem dX12_points_14 : decode cX12_points 14 = .ok (.invokevirtual 450, 3) := by decide +kernel
theorem dX12_points_17 : decode cX12_points 17 = .ok (.ifCond .ne 9, 3) := by decide +kernel
theorem dX12_points_20 : decode cX12_points 20 = .ok (.ldc_w 521, 3) := by decide +kernel
theorem dX12_points_23 : decode cX12_points 23 = .ok (.goto 9, 3) := by decide +kernel
theorem dX12_points_26 : decode cX12_points 26 = .ok (.aload_n 0, 1) := by decide +kernel
theorem dX12_points_27 : decode cX12_points 27 = .ok (.iload_n 1, 1) := by decide +kernel
theorem dX12_points_28 : decode cX12_points 28 = .ok (.iload_n 2, 1) := by decide +kernel
theorem dX12_points_29 : decode cX12_points 29 = .ok (.invokevirtual 522, 3) := by decide +kernel
theorem dX12_points_32 : decode cX12_points 32 = .ok (.ireturn, 1) := by decide +kernel
theorem dX12_pointsOf_0 : decode cX12_pointsOf 0 = .ok (.lconst 0, 1) := by decide +kernel
theorem dX12_pointsOf_1 : decode cX12_pointsOf 1 = .ok (.lstore_n 3, 1) := by decide +kernel
theorem dX12_pointsOf_2 : decode cX12_pointsOf 2 = .ok (.iconst 0, 1) := by decide +kernel
theorem dX12_pointsOf_3 : decode cX12_pointsOf 3 = .ok (.istore 5, 2) := by decide +kernel
theorem dX12_pointsOf_5 : decode cX12_pointsOf 5 = .ok (.iload 5, 2) := by decide +kernel
theorem dX12_pointsOf_7 : decode cX12_pointsOf 7 = .ok (.aload_n 0, 1) := by decide +kernel
theorem dX12_pointsOf_8 : decode cX12_pointsOf 8 = .ok (.getfield 60, 3) := by decide +kernel
theorem dX12_pointsOf_11 : decode cX12_pointsOf 11 = .ok (.aload_n 0, 1) := by decide +kernel
theorem dX12_pointsOf_12 : decode cX12_pointsOf 12 = .ok (.getfield 48, 3) := by decide +kernel
theorem dX12_pointsOf_15 : decode cX12_pointsOf 15 = .ok (.iaload, 1) := by decide +kernel
theorem dX12_pointsOf_16 : decode cX12_pointsOf 16 = .ok (.if_icmp .ge 84, 3) := by decide +kernel
theorem dX12_pointsOf_19 : decode cX12_pointsOf 19 = .ok (.lload_n 3, 1) := by decide +kernel
theorem dX12_pointsOf_20 : decode cX12_pointsOf 20 = .ok (.aload_n 0, 1) := by decide +kernel
theorem dX12_pointsOf_21 : decode cX12_pointsOf 21 = .ok (.getfield 85, 3) := by decide +kernel
theorem dX12_pointsOf_24 : decode cX12_pointsOf 24 = .ok (.aload_n 0, 1) := by decide +kernel
theorem dX12_pointsOf_25 : decode cX12_pointsOf 25 = .ok (.iload 5, 2) := by decide +kernel
theorem dX12_pointsOf_27 : decode cX12_pointsOf 27 = .ok (.invokevirtual 493, 3) := by decide +kernel
theorem dX12_pointsOf_30 : decode cX12_pointsOf 30 = .ok (.iaload, 1) := by decide +kernel
theorem dX12_pointsOf_31 : decode cX12_pointsOf 31 = .ok (.iconst 1, 1) := by decide +kernel
theorem dX12_pointsOf_32 : decode cX12_pointsOf 32 = .ok (.if_icmp .ne 59, 3) := by decide +kernel
theorem dX12_pointsOf_35 : decode cX12_pointsOf 35 = .ok (.aload_n 0, 1) := by decide +kernel
theorem dX12_pointsOf_36 : decode cX12_pointsOf 36 = .ok (.iload 5, 2) := by decide +kernel
theorem dX12_pointsOf_38 : decode cX12_pointsOf 38 = .ok (.iload_n 1, 1) := by decide +kernel
theorem dX12_pointsOf_39 : decode cX12_pointsOf 39 = .ok (.invokevirtual 500, 3) := by decide +kernel
theorem dX12_pointsOf_42 : decode cX12_pointsOf 42 = .ok (.ifCond .eq 49, 3) := by decide +kernel
theorem dX12_pointsOf_45 : decode cX12_pointsOf 45 = .ok (.aload_n 0, 1) := by decide +kernel
theorem dX12_pointsOf_46 : decode cX12_pointsOf 46 = .ok (.iload 5, 2) := by decide +kernel
theorem dX12_pointsOf_48 : decode cX12_pointsOf 48 = .ok (.iload_n 1, 1) := by decide +kernel
theorem dX12_pointsOf_49 : decode cX12_pointsOf 49 = .ok (.iload_n 2, 1) := by decide +kernel
theorem dX12_pointsOf_50 : decode cX12_pointsOf 50 = .ok (.invokevirtual 506, 3) := by decide +kernel
theorem dX12_pointsOf_53 : decode cX12_pointsOf 53 = .ok (.ifCond .eq 38, 3) := by decide +kernel
theorem dX12_pointsOf_56 : decode cX12_pointsOf 56 = .ok (.aload_n 0, 1) := by decide +kernel
theorem dX12_pointsOf_57 : decode cX12_pointsOf 57 = .ok (.aload_n 0, 1) := by decide +kernel
theorem dX12_pointsOf_58 : decode cX12_pointsOf 58 = .ok (.getfield 85, 3) := by decide +kernel
theorem dX12_pointsOf_61 : decode cX12_pointsOf 61 = .ok (.aload_n 0, 1) := by decide +kernel
theorem dX12_pointsOf_62 : decode cX12_pointsOf 62 = .ok (.iload 5, 2) := by decide +kernel
theorem dX12_pointsOf_64 : decode cX12_pointsOf 64 = .ok (.invokevirtual 493, 3) := by decide +kernel
theorem dX12_pointsOf_67 : decode cX12_pointsOf 67 = .ok (.iconst 1, 1) := by decide +kernel
theorem dX12_pointsOf_68 : decode cX12_pointsOf 68 = .ok (.iadd, 1) := by decide +kernel
theorem dX12_pointsOf_69 : decode cX12_pointsOf 69 = .ok (.iaload, 1) := by decide +kernel
theorem dX12_pointsOf_70 : decode cX12_pointsOf 70 = .ok (.aload_n 0, 1) := by decide +kernel
theorem dX12_pointsOf_71 : decode cX12_pointsOf 71 = .ok (.getfield 85, 3) := by decide +kernel
theorem dX12_pointsOf_74 : decode cX12_pointsOf 74 = .ok (.aload_n 0, 1) := by decide +kernel
theorem dX12_pointsOf_75 : decode cX12_pointsOf 75 = .ok (.iload 5, 2) := by decide +kernel
theorem dX12_pointsOf_77 : decode cX12_pointsOf 77 = .ok (.invokevirtual 493, 3) := by decide +kernel
theorem dX12_pointsOf_80 : decode cX12_pointsOf 80 = .ok (.iconst 2, 1) := by decide +kernel
theorem dX12_pointsOf_81 : decode cX12_pointsOf 81 = .ok (.iadd, 1) := by decide +kernel
theorem dX12_pointsOf_82 : decode cX12_pointsOf 82 = .ok (.iaload, 1) := by decide +kernel
theorem dX12_pointsOf_83 : decode cX12_pointsOf 83 = .ok (.iload_n 1, 1) := by decide +kernel
theorem dX12_pointsOf_84 : decode cX12_pointsOf 84 = .ok (.iload_n 2, 1) := by decide +kernel
theorem dX12_pointsOf_85 : decode cX12_pointsOf 85 = .ok (.invokevirtual 496, 3) := by decide +kernel
theorem dX12_pointsOf_88 : decode cX12_pointsOf 88 = .ok (.goto 4, 3) := by decide +kernel
theorem dX12_pointsOf_91 : decode cX12_pointsOf 91 = .ok (.lconst 0, 1) := by decide +kernel
theorem dX12_pointsOf_92 : decode cX12_pointsOf 92 = .ok (.ladd, 1) := by decide +kernel
theorem dX12_pointsOf_93 : decode cX12_pointsOf 93 = .ok (.lstore_n 3, 1) := by decide +kernel
theorem dX12_pointsOf_94 : decode cX12_pointsOf 94 = .ok (.iinc 5 1, 3) := by decide +kernel
theorem dX12_pointsOf_97 : decode cX12_pointsOf 97 = .ok (.goto (-92), 3) := by decide +kernel
theorem dX12_pointsOf_100 : decode cX12_pointsOf 100 = .ok (.lload_n 3, 1) := by decide +kernel
theorem dX12_pointsOf_101 : decode cX12_pointsOf 101 = .ok (.l2i, 1) := by decide +kernel
theorem dX12_pointsOf_102 : decode cX12_pointsOf 102 = .ok (.ireturn, 1) := by decide +kernel
theorem dX12_price_0 : decode cX12_price 0 = .ok (.aload_n 0, 1) := by decide +kernel
theorem dX12_price_1 : decode cX12_price 1 = .ok (.iload_n 1, 1) := by decide +kernel
theorem dX12_price_2 : decode cX12_price 2 = .ok (.invokevirtual 547, 3) := by decide +kernel
theorem dX12_price_5 : decode cX12_price 5 = .ok (.ifCond .eq 11, 3) := by decide +kernel
theorem dX12_price_8 : decode cX12_price 8 = .ok (.aload_n 0, 1) := by decide +kernel
theorem dX12_price_9 : decode cX12_price 9 = .ok (.iload_n 1, 1) := by decide +kernel
theorem dX12_price_10 : decode cX12_price 10 = .ok (.invokevirtual 565, 3) := by decide +kernel
theorem dX12_price_13 : decode cX12_price 13 = .ok (.goto 4, 3) := by decide +kernel
theorem dX12_price_16 : decode cX12_price 16 = .ok (.iconst (-1), 1) := by decide +kernel
theorem dX12_price_17 : decode cX12_price 17 = .ok (.ireturn, 1) := by decide +kernel
theorem dX12_pushes_0 : decode cX12_pushes 0 = .ok (.aload_n 0, 1) := by decide +kernel
theorem dX12_pushes_1 : decode cX12_pushes 1 = .ok (.getfield 97, 3) := by decide +kernel
theorem dX12_pushes_4 : decode cX12_pushes 4 = .ok (.aload_n 0, 1) := by decide +kernel
theorem dX12_pushes_5 : decode cX12_pushes 5 = .ok (.getfield 110, 3) := by decide +kernel
theorem dX12_pushes_8 : decode cX12_pushes 8 = .ok (.iload_n 1, 1) := by decide +kernel
theorem dX12_pushes_9 : decode cX12_pushes 9 = .ok (.iastore, 1) := by decide +kernel
theorem dX12_pushes_10 : decode cX12_pushes 10 = .ok (.aload_n 0, 1) := by decide +kernel
theorem dX12_pushes_11 : decode cX12_pushes 11 = .ok (.getfield 100, 3) := by decide +kernel
theorem dX12_pushes_14 : decode cX12_pushes 14 = .ok (.aload_n 0, 1) := by decide +kernel
theorem dX12_pushes_15 : decode cX12_pushes 15 = .ok (.getfield 110, 3) := by decide +kernel
theorem dX12_pushes_18 : decode cX12_pushes 18 = .ok (.iconst 0, 1) := by decide +kernel
theorem dX12_pushes_19 : decode cX12_pushes 19 = .ok (.iastore, 1) := by decide +kernel
theorem dX12_pushes_20 : decode cX12_pushes 20 = .ok (.aload_n 0, 1) := by decide +kernel
theorem dX12_pushes_21 : decode cX12_pushes 21 = .ok (.getfield 103, 3) := by decide +kernel
theorem dX12_pushes_24 : decode cX12_pushes 24 = .ok (.aload_n 0, 1) := by decide +kernel
theorem dX12_pushes_25 : decode cX12_pushes 25 = .ok (.getfield 110, 3) := by decide +kernel
theorem dX12_pushes_28 : decode cX12_pushes 28 = .ok (.iconst 1, 1) := by decide +kernel
theorem dX12_pushes_29 : decode cX12_pushes 29 = .ok (.bastore, 1) := by decide +kernel
theorem dX12_pushes_30 : decode cX12_pushes 30 = .ok (.aload_n 0, 1) := by decide +kernel
theorem dX12_pushes_31 : decode cX12_pushes 31 = .ok (.getfield 107, 3) := by decide +kernel
theorem dX12_pushes_34 : decode cX12_pushes 34 = .ok (.aload_n 0, 1) := by decide +kernel
theorem dX12_pushes_35 : decode cX12_pushes 35 = .ok (.getfield 110, 3) := by decide +kernel
theorem dX12_pushes_38 : decode cX12_pushes 38 = .ok (.aload_n 0, 1) := by decide +kernel
theorem dX12_pushes_39 : decode cX12_pushes 39 = .ok (.getfield 119, 3) := by decide +kernel
theorem dX12_pushes_42 : decode cX12_pushes 42 = .ok (.iastore, 1) := by decide +kernel
theorem dX12_pushes_43 : decode cX12_pushes 43 = .ok (.aload_n 0, 1) := by decide +kernel
theorem dX12_pushes_44 : decode cX12_pushes 44 = .ok (.dup, 1) := by decide +kernel
theorem dX12_pushes_45 : decode cX12_pushes 45 = .ok (.getfield 110, 3) := by decide +kernel
theorem dX12_pushes_48 : decode cX12_pushes 48 = .ok (.iconst 1, 1) := by decide +kernel
theorem dX12_pushes_49 : decode cX12_pushes 49 = .ok (.iadd, 1) := by decide +kernel
theorem dX12_pushes_50 : decode cX12_pushes 50 = .ok (.putfield 110, 3) := by decide +kernel
theorem dX12_pushes_53 : decode cX12_pushes 53 = .ok (.return_, 1) := by decide +kernel
theorem dX12_put_0 : decode cX12_put 0 = .ok (.bipush 24, 2) := by decide +kernel
theorem dX12_put_2 : decode cX12_put 2 = .ok (.istore_n 2, 1) := by decide +kernel
theorem dX12_put_3 : decode cX12_put 3 = .ok (.iload_n 2, 1) := by decide +kernel
theorem dX12_put_4 : decode cX12_put 4 = .ok (.ifCond .lt 35, 3) := by decide +kernel
theorem dX12_put_7 : decode cX12_put 7 = .ok (.aload_n 0, 1) := by decide +kernel
theorem dX12_put_8 : decode cX12_put 8 = .ok (.getfield 7, 3) := by decide +kernel
theorem dX12_put_11 : decode cX12_put 11 = .ok (.aload_n 0, 1) := by decide +kernel
theorem dX12_put_12 : decode cX12_put 12 = .ok (.getfield 13, 3) := by decide +kernel
theorem dX12_put_15 : decode cX12_put 15 = .ok (.iload_n 1, 1) := by decide +kernel
theorem dX12_put_16 : decode cX12_put 16 = .ok (.iload_n 2, 1) := by decide +kernel
theorem dX12_put_17 : decode cX12_put 17 = .ok (.ishr, 1) := by decide +kernel
theorem dX12_put_18 : decode cX12_put 18 = .ok (.sipush 255, 3) := by decide +kernel
theorem dX12_put_21 : decode cX12_put 21 = .ok (.iand, 1) := by decide +kernel
theorem dX12_put_22 : decode cX12_put 22 = .ok (.iastore, 1) := by decide +kernel
theorem dX12_put_23 : decode cX12_put 23 = .ok (.aload_n 0, 1) := by decide +kernel
theorem dX12_put_24 : decode cX12_put 24 = .ok (.dup, 1) := by decide +kernel
theorem dX12_put_25 : decode cX12_put 25 = .ok (.getfield 13, 3) := by decide +kernel
theorem dX12_put_28 : decode cX12_put 28 = .ok (.iconst 1, 1) := by decide +kernel
theorem dX12_put_29 : decode cX12_put 29 = .ok (.iadd, 1) := by decide +kernel
theorem dX12_put_30 : decode cX12_put 30 = .ok (.putfield 13, 3) := by decide +kernel
theorem dX12_put_33 : decode cX12_put 33 = .ok (.iinc 2 (-8), 3) := by decide +kernel
theorem dX12_put_36 : decode cX12_put 36 = .ok (.goto (-33), 3) := by decide +kernel
theorem dX12_put_39 : decode cX12_put 39 = .ok (.return_, 1) := by decide +kernel
theorem dX12_queue_0 : decode cX12_queue 0 = .ok (.aload_n 0, 1) := by decide +kernel
theorem dX12_queue_1 : decode cX12_queue 1 = .ok (.getfield 219, 3) := by decide +kernel
theorem dX12_queue_4 : decode cX12_queue 4 = .ok (.ifCond .eq 32, 3) := by decide +kernel
theorem dX12_queue_7 : decode cX12_queue 7 = .ok (.iload_n 1, 1) := by decide +kernel
theorem dX12_queue_8 : decode cX12_queue 8 = .ok (.iconst 1, 1) := by decide +kernel
theorem dX12_queue_9 : decode cX12_queue 9 = .ok (.bipush 24, 2) := by decide +kernel
theorem dX12_queue_11 : decode cX12_queue 11 = .ok (.invokestatic 322, 3) := by decide +kernel
theorem dX12_queue_14 : decode cX12_queue 14 = .ok (.ifCond .eq 22, 3) := by decide +kernel
theorem dX12_queue_17 : decode cX12_queue 17 = .ok (.iload_n 2, 1) := by decide +kernel
theorem dX12_queue_18 : decode cX12_queue 18 = .ok (.iconst 1, 1) := by decide +kernel
theorem dX12_queue_19 : decode cX12_queue 19 = .ok (.bipush 9, 2) := by decide +kernel
theorem dX12_queue_21 : decode cX12_queue 21 = .ok (.invokestatic 322, 3) := by decide +kernel
theorem dX12_queue_24 : decode cX12_queue 24 = .ok (.ifCond .eq 12, 3) := by decide +kernel
theorem dX12_queue_27 : decode cX12_queue 27 = .ok (.iload_n 3, 1) := by decide +kernel
theorem dX12_queue_28 : decode cX12_queue 28 = .ok (.iconst 0, 1) := by decide +kernel
theorem dX12_queue_29 : decode cX12_queue 29 = .ok (.iconst 2, 1) := by decide +kernel
theorem dX12_queue_30 : decode cX12_queue 30 = .ok (.invokestatic 322, 3) := by decide +kernel
theorem dX12_queue_33 : decode cX12_queue 33 = .ok (.ifCond .ne 5, 3) := by decide +kernel
theorem dX12_queue_36 : decode cX12_queue 36 = .ok (.iconst (-1), 1) := by decide +kernel
theorem dX12_queue_37 : decode cX12_queue 37 = .ok (.ireturn, 1) := by decide +kernel
theorem dX12_queue_38 : decode cX12_queue 38 = .ok (.iconst 0, 1) := by decide +kernel
theorem dX12_queue_39 : decode cX12_queue 39 = .ok (.istore 4, 2) := by decide +kernel
theorem dX12_queue_41 : decode cX12_queue 41 = .ok (.iconst 0, 1) := by decide +kernel
theorem dX12_queue_42 : decode cX12_queue 42 = .ok (.istore 5, 2) := by decide +kernel
theorem dX12_queue_44 : decode cX12_queue 44 = .ok (.iload 5, 2) := by decide +kernel
theorem dX12_queue_46 : decode cX12_queue 46 = .ok (.aload_n 0, 1) := by decide +kernel
theorem dX12_queue_47 : decode cX12_queue 47 = .ok (.getfield 222, 3) := by decide +kernel
theorem dX12_queue_50 : decode cX12_queue 50 = .ok (.if_icmp .ge 112, 3) := by decide +kernel
theorem dX12_queue_53 : decode cX12_queue 53 = .ok (.aload_n 0, 1) := by decide +kernel
theorem dX12_queue_54 : decode cX12_queue 54 = .ok (.iload 5, 2) := by decide +kernel
theorem dX12_queue_56 : decode cX12_queue 56 = .ok (.iload_n 1, 1) := by decide +kernel
theorem dX12_queue_57 : decode cX12_queue 57 = .ok (.invokevirtual 575, 3) := by decide +kernel
theorem dX12_queue_60 : decode cX12_queue 60 = .ok (.istore 6, 2) := by decide +kernel
theorem dX12_queue_62 : decode cX12_queue 62 = .ok (.iload 6, 2) := by decide +kernel
theorem dX12_queue_64 : decode cX12_queue 64 = .ok (.ifCond .ne 6, 3) := by decide +kernel
theorem dX12_queue_67 : decode cX12_queue 67 = .ok (.goto 89, 3) := by decide +kernel
theorem dX12_queue_70 : decode cX12_queue 70 = .ok (.iload 4, 2) := by decide +kernel
theorem dX12_queue_72 : decode cX12_queue 72 = .ok (.istore 7, 2) := by decide +kernel
theorem dX12_queue_74 : decode cX12_queue 74 = .ok (.iload 7, 2) := by decide +kernel
theorem dX12_queue_76 : decode cX12_queue 76 = .ok (.ifCond .le 57, 3) := by decide +kernel
theorem dX12_queue_79 : decode cX12_queue 79 = .ok (.aload_n 0, 1) := by decide +kernel
theorem dX12_queue_80 : decode cX12_queue 80 = .ok (.getfield 285, 3) := by decide +kernel
theorem dX12_queue_83 : decode cX12_queue 83 = .ok (.iload 7, 2) := by decide +kernel
theorem dX12_queue_85 : decode cX12_queue 85 = .ok (.iconst 1, 1) := by decide +kernel
theorem dX12_queue_86 : decode cX12_queue 86 = .ok (.isub, 1) := by decide +kernel
theorem dX12_queue_87 : decode cX12_queue 87 = .ok (.iaload, 1) := by decide +kernel
theorem dX12_queue_88 : decode cX12_queue 88 = .ok (.iload 6, 2) := by decide +kernel
theorem dX12_queue_90 : decode cX12_queue 90 = .ok (.iconst 2, 1) := by decide +kernel
theorem dX12_queue_91 : decode cX12_queue 91 = .ok (.iadd, 1) := by decide +kernel
theorem dX12_queue_92 : decode cX12_queue 92 = .ok (.if_icmp .le 41, 3) := by decide +kernel
theorem dX12_queue_95 : decode cX12_queue 95 = .ok (.aload_n 0, 1) := by decide +kernel
theorem dX12_queue_96 : decode cX12_queue 96 = .ok (.getfield 285, 3) := by decide +kernel
theorem dX12_queue_99 : decode cX12_queue 99 = .ok (.iload 7, 2) := by decide +kernel
theorem dX12_queue_101 : decode cX12_queue 101 = .ok (.aload_n 0, 1) := by decide +kernel
theorem dX12_queue_102 : decode cX12_queue 102 = .ok (.getfield 285, 3) := by decide +kernel
theorem dX12_queue_105 : decode cX12_queue 105 = .ok (.iload 7, 2) := by decide +kernel
theorem dX12_queue_107 : decode cX12_queue 107 = .ok (.iconst 1, 1) := by decide +kernel
theorem dX12_queue_108 : decode cX12_queue 108 = .ok (.isub, 1) := by decide +kernel
theorem dX12_queue_109 : decode cX12_queue 109 = .ok (.iaload, 1) := by decide +kernel
theorem dX12_queue_110 : decode cX12_queue 110 = .ok (.iastore, 1) := by decide +kernel
theorem dX12_queue_111 : decode cX12_queue 111 = .ok (.aload_n 0, 1) := by decide +kernel
theorem dX12_queue_112 : decode cX12_queue 112 = .ok (.getfield 282, 3) := by decide +kernel
theorem dX12_queue_115 : decode cX12_queue 115 = .ok (.iload 7, 2) := by decide +kernel
theorem dX12_queue_117 : decode cX12_queue 117 = .ok (.aload_n 0, 1) := by decide +kernel
theorem dX12_queue_118 : decode cX12_queue 118 = .ok (.getfield 282, 3) := by decide +kernel
theorem dX12_queue_121 : decode cX12_queue 121 = .ok (.iload 7, 2) := by decide +kernel
theorem dX12_queue_123 : decode cX12_queue 123 = .ok (.iconst 1, 1) := by decide +kernel
theorem dX12_queue_124 : decode cX12_queue 124 = .ok (.isub, 1) := by decide +kernel
theorem dX12_queue_125 : decode cX12_queue 125 = .ok (.iaload, 1) := by decide +kernel
theorem dX12_queue_126 : decode cX12_queue 126 = .ok (.iastore, 1) := by decide +kernel
theorem dX12_queue_127 : decode cX12_queue 127 = .ok (.iinc 7 (-1), 3) := by decide +kernel
theorem dX12_queue_130 : decode cX12_queue 130 = .ok (.goto (-56), 3) := by decide +kernel
theorem dX12_queue_133 : decode cX12_queue 133 = .ok (.aload_n 0, 1) := by decide +kernel
theorem dX12_queue_134 : decode cX12_queue 134 = .ok (.getfield 285, 3) := by decide +kernel
theorem dX12_queue_137 : decode cX12_queue 137 = .ok (.iload 7, 2) := by decide +kernel
theorem dX12_queue_139 : decode cX12_queue 139 = .ok (.iload 6, 2) := by decide +kernel
theorem dX12_queue_141 : decode cX12_queue 141 = .ok (.iconst 2, 1) := by decide +kernel
theorem dX12_queue_142 : decode cX12_queue 142 = .ok (.iadd, 1) := by decide +kernel
theorem dX12_queue_143 : decode cX12_queue 143 = .ok (.iastore, 1) := by decide +kernel
theorem dX12_queue_144 : decode cX12_queue 144 = .ok (.aload_n 0, 1) := by decide +kernel
theorem dX12_queue_145 : decode cX12_queue 145 = .ok (.getfield 282, 3) := by decide +kernel
theorem dX12_queue_148 : decode cX12_queue 148 = .ok (.iload 7, 2) := by decide +kernel
theorem dX12_queue_150 : decode cX12_queue 150 = .ok (.iload 5, 2) := by decide +kernel
theorem dX12_queue_152 : decode cX12_queue 152 = .ok (.iastore, 1) := by decide +kernel
theorem dX12_queue_153 : decode cX12_queue 153 = .ok (.iinc 4 1, 3) := by decide +kernel
theorem dX12_queue_156 : decode cX12_queue 156 = .ok (.iinc 5 1, 3) := by decide +kernel
theorem dX12_queue_159 : decode cX12_queue 159 = .ok (.goto (-115), 3) := by decide +kernel
theorem dX12_queue_162 : decode cX12_queue 162 = .ok (.iconst 0, 1) := by decide +kernel
theorem dX12_queue_163 : decode cX12_queue 163 = .ok (.istore 5, 2) := by decide +kernel
theorem dX12_queue_165 : decode cX12_queue 165 = .ok (.iload 5, 2) := by decide +kernel
theorem dX12_queue_167 : decode cX12_queue 167 = .ok (.bipush 9, 2) := by decide +kernel
theorem dX12_queue_169 : decode cX12_queue 169 = .ok (.if_icmp .ge 17, 3) := by decide +kernel
theorem dX12_queue_172 : decode cX12_queue 172 = .ok (.aload_n 0, 1) := by decide +kernel
theorem dX12_queue_173 : decode cX12_queue 173 = .ok (.getfield 288, 3) := by decide +kernel
theorem dX12_queue_176 : decode cX12_queue 176 = .ok (.iload 5, 2) := by decide +kernel
theorem dX12_queue_178 : decode cX12_queue 178 = .ok (.iconst 0, 1) := by decide +kernel
theorem dX12_queue_179 : decode cX12_queue 179 = .ok (.iastore, 1) := by decide +kernel
theorem dX12_queue_180 : decode cX12_queue 180 = .ok (.iinc 5 1, 3) := by decide +kernel
theorem dX12_queue_183 : decode cX12_queue 183 = .ok (.goto (-18), 3) := by decide +kernel
theorem dX12_queue_186 : decode cX12_queue 186 = .ok (.iconst 0, 1) := by decide +kernel
theorem dX12_queue_187 : decode cX12_queue 187 = .ok (.istore 5, 2) := by decide +kernel
theorem dX12_queue_189 : decode cX12_queue 189 = .ok (.iconst 0, 1) := by decide +kernel
theorem dX12_queue_190 : decode cX12_queue 190 = .ok (.istore 6, 2) := by decide +kernel
theorem dX12_queue_192 : decode cX12_queue 192 = .ok (.iconst 0, 1) := by decide +kernel
theorem dX12_queue_193 : decode cX12_queue 193 = .ok (.istore 7, 2) := by decide +kernel
theorem dX12_queue_195 : decode cX12_queue 195 = .ok (.iload 7, 2) := by decide +kernel
theorem dX12_queue_197 : decode cX12_queue 197 = .ok (.iload 4, 2) := by decide +kernel
theorem dX12_queue_199 : decode cX12_queue 199 = .ok (.if_icmp .ge 108, 3) := by decide +kernel
theorem dX12_queue_202 : decode cX12_queue 202 = .ok (.iconst 0, 1) := by decide +kernel
theorem dX12_queue_203 : decode cX12_queue 203 = .ok (.istore 8, 2) := by decide +kernel
theorem dX12_queue_205 : decode cX12_queue 205 = .ok (.iconst 1, 1) := by decide +kernel
theorem dX12_queue_206 : decode cX12_queue 206 = .ok (.istore 9, 2) := by decide +kernel
theorem dX12_queue_208 : decode cX12_queue 208 = .ok (.iload 9, 2) := by decide +kernel
theorem dX12_queue_210 : decode cX12_queue 210 = .ok (.iload_n 2, 1) := by decide +kernel
theorem dX12_queue_211 : decode cX12_queue 211 = .ok (.if_icmp .ge 35, 3) := by decide +kernel
theorem dX12_queue_214 : decode cX12_queue 214 = .ok (.aload_n 0, 1) := by decide +kernel
theorem dX12_queue_215 : decode cX12_queue 215 = .ok (.getfield 288, 3) := by decide +kernel
theorem dX12_queue_218 : decode cX12_queue 218 = .ok (.iload 9, 2) := by decide +kernel
theorem dX12_queue_220 : decode cX12_queue 220 = .ok (.iaload, 1) := by decide +kernel
theorem dX12_queue_221 : decode cX12_queue 221 = .ok (.aload_n 0, 1) := by decide +kernel
theorem dX12_queue_222 : decode cX12_queue 222 = .ok (.getfield 288, 3) := by decide +kernel
theorem dX12_queue_225 : decode cX12_queue 225 = .ok (.iload 8, 2) := by decide +kernel
theorem dX12_queue_227 : decode cX12_queue 227 = .ok (.iaload, 1) := by decide +kernel
theorem dX12_queue_228 : decode cX12_queue 228 = .ok (.if_icmp .ge 8, 3) := by decide +kernel
theorem dX12_queue_231 : decode cX12_queue 231 = .ok (.iload 9, 2) := by decide +kernel
theorem dX12_queue_233 : decode cX12_queue 233 = .ok (.goto 5, 3) := by decide +kernel
theorem dX12_queue_236 : decode cX12_queue 236 = .ok (.iload 8, 2) := by decide +kernel
theorem dX12_queue_238 : decode cX12_queue 238 = .ok (.istore 8, 2) := by decide +kernel
theorem dX12_queue_240 : decode cX12_queue 240 = .ok (.iinc 9 1, 3) := by decide +kernel
theorem dX12_queue_243 : decode cX12_queue 243 = .ok (.goto (-35), 3) := by decide +kernel
theorem dX12_queue_246 : decode cX12_queue 246 = .ok (.iload 5, 2) := by decide +kernel
theorem dX12_queue_248 : decode cX12_queue 248 = .ok (.aload_n 0, 1) := by decide +kernel
theorem dX12_queue_249 : decode cX12_queue 249 = .ok (.getfield 288, 3) := by decide +kernel
theorem dX12_queue_252 : decode cX12_queue 252 = .ok (.iload 8, 2) := by decide +kernel
theorem dX12_queue_254 : decode cX12_queue 254 = .ok (.iaload, 1) := by decide +kernel
theorem dX12_queue_255 : decode cX12_queue 255 = .ok (.iadd, 1) := by decide +kernel
theorem dX12_queue_256 : decode cX12_queue 256 = .ok (.istore 5, 2) := by decide +kernel
theorem dX12_queue_258 : decode cX12_queue 258 = .ok (.aload_n 0, 1) := by decide +kernel
theorem dX12_queue_259 : decode cX12_queue 259 = .ok (.getfield 288, 3) := by decide +kernel
theorem dX12_queue_262 : decode cX12_queue 262 = .ok (.iload 8, 2) := by decide +kernel
theorem dX12_queue_264 : decode cX12_queue 264 = .ok (.dup2, 1) := by decide +kernel
theorem dX12_queue_265 : decode cX12_queue 265 = .ok (.iaload, 1) := by decide +kernel
theorem dX12_queue_266 : decode cX12_queue 266 = .ok (.aload_n 0, 1) := by decide +kernel
theorem dX12_queue_267 : decode cX12_queue 267 = .ok (.getfield 285, 3) := by decide +kernel
theorem dX12_queue_270 : decode cX12_queue 270 = .ok (.iload 7, 2) := by decide +kernel
theorem dX12_queue_272 : decode cX12_queue 272 = .ok (.iaload, 1) := by decide +kernel
theorem dX12_queue_273 : decode cX12_queue 273 = .ok (.iadd, 1) := by decide +kernel
theorem dX12_queue_274 : decode cX12_queue 274 = .ok (.iastore, 1) := by decide +kernel
theorem dX12_queue_275 : decode cX12_queue 275 = .ok (.aload_n 0, 1) := by decide +kernel
theorem dX12_queue_276 : decode cX12_queue 276 = .ok (.getfield 288, 3) := by decide +kernel
theorem dX12_queue_279 : decode cX12_queue 279 = .ok (.iload 8, 2) := by decide +kernel
theorem dX12_queue_281 : decode cX12_queue 281 = .ok (.iaload, 1) := by decide +kernel
theorem dX12_queue_282 : decode cX12_queue 282 = .ok (.iload 6, 2) := by decide +kernel
theorem dX12_queue_284 : decode cX12_queue 284 = .ok (.if_icmp .le 13, 3) := by decide +kernel
theorem dX12_queue_287 : decode cX12_queue 287 = .ok (.aload_n 0, 1) := by decide +kernel
theorem dX12_queue_288 : decode cX12_queue 288 = .ok (.getfield 288, 3) := by decide +kernel
theorem dX12_queue_291 : decode cX12_queue 291 = .ok (.iload 8, 2) := by decide +kernel
theorem dX12_queue_293 : decode cX12_queue 293 = .ok (.iaload, 1) := by decide +kernel
theorem dX12_queue_294 : decode cX12_queue 294 = .ok (.goto 5, 3) := by decide +kernel
theorem dX12_queue_297 : decode cX12_queue 297 = .ok (.iload 6, 2) := by decide +kernel
theorem dX12_queue_299 : decode cX12_queue 299 = .ok (.istore 6, 2) := by decide +kernel
theorem dX12_queue_301 : decode cX12_queue 301 = .ok (.iinc 7 1, 3) := by decide +kernel
theorem dX12_queue_304 : decode cX12_queue 304 = .ok (.goto (-109), 3) := by decide +kernel
theorem dX12_queue_307 : decode cX12_queue 307 = .ok (.iload_n 3, 1) := by decide +kernel
theorem dX12_queue_308 : decode cX12_queue 308 = .ok (.ifCond .ne 8, 3) := by decide +kernel
theorem dX12_queue_311 : decode cX12_queue 311 = .ok (.iload 4, 2) := by decide +kernel
theorem dX12_queue_313 : decode cX12_queue 313 = .ok (.goto 15, 3) := by decide +kernel
theorem dX12_queue_316 : decode cX12_queue 316 = .ok (.iload_n 3, 1) := by decide +kernel
theorem dX12_queue_317 : decode cX12_queue 317 = .ok (.iconst 1, 1) := by decide +kernel
theorem dX12_queue_318 : decode cX12_queue 318 = .ok (.if_icmp .ne 8, 3) := by decide +kernel
theorem dX12_queue_321 : decode cX12_queue 321 = .ok (.iload 5, 2) := by decide +kernel
theorem dX12_queue_323 : decode cX12_queue 323 = .ok (.goto 5, 3) := by decide +kernel
theorem dX12_queue_326 : decode cX12_queue 326 = .ok (.iload 6, 2) := by decide +kernel
theorem dX12_queue_328 : decode cX12_queue 328 = .ok (.ireturn, 1) := by decide +kernel
theorem dX12_rank_0 : decode cX12_rank 0 = .ok (.iload_n 0, 1) := by decide +kernel
theorem dX12_rank_1 : decode cX12_rank 1 = .ok (.bipush 17, 2) := by decide +kernel
theorem dX12_rank_3 : decode cX12_rank 3 = .ok (.if_icmp .ne 7, 3) := by decide +kernel
theorem dX12_rank_6 : decode cX12_rank 6 = .ok (.iconst 1, 1) := by decide +kernel
theorem dX12_rank_7 : decode cX12_rank 7 = .ok (.goto 46, 3) := by decide +kernel
theorem dX12_rank_10 : decode cX12_rank 10 = .ok (.iload_n 0, 1) := by decide +kernel
theorem dX12_rank_11 : decode cX12_rank 11 = .ok (.bipush 16, 2) := by decide +kernel
theorem dX12_rank_13 : decode cX12_rank 13 = .ok (.if_icmp .ne 7, 3) := by decide +kernel
theorem dX12_rank_16 : decode cX12_rank 16 = .ok (.iconst 2, 1) := by decide +kernel
theorem dX12_rank_17 : decode cX12_rank 17 = .ok (.goto 36, 3) := by decide +kernel
theorem dX12_rank_20 : decode cX12_rank 20 = .ok (.iload_n 0, 1) := by decide +kernel
theorem dX12_rank_21 : decode cX12_rank 21 = .ok (.bipush 18, 2) := by decide +kernel
theorem dX12_rank_23 : decode cX12_rank 23 = .ok (.if_icmp .ne 7, 3) := by decide +kernel
theorem dX12_rank_26 : decode cX12_rank 26 = .ok (.iconst 3, 1) := by decide +kernel
theorem dX12_rank_27 : decode cX12_rank 27 = .ok (.goto 26, 3) := by decide +kernel
theorem dX12_rank_30 : decode cX12_rank 30 = .ok (.iload_n 0, 1) := by decide +kernel
theorem dX12_rank_31 : decode cX12_rank 31 = .ok (.bipush 13, 2) := by decide +kernel
theorem dX12_rank_33 : decode cX12_rank 33 = .ok (.if_icmp .eq 15, 3) := by decide +kernel
theorem dX12_rank_36 : decode cX12_rank 36 = .ok (.iload_n 0, 1) := by decide +kernel
theorem dX12_rank_37 : decode cX12_rank 37 = .ok (.bipush 14, 2) := by decide +kernel
theorem dX12_rank_39 : decode cX12_rank 39 = .ok (.if_icmp .eq 9, 3) := by decide +kernel
theorem dX12_rank_42 : decode cX12_rank 42 = .ok (.iload_n 0, 1) := by decide +kernel
theorem dX12_rank_43 : decode cX12_rank 43 = .ok (.bipush 15, 2) := by decide +kernel
theorem dX12_rank_45 : decode cX12_rank 45 = .ok (.if_icmp .ne 7, 3) := by decide +kernel
theorem dX12_rank_48 : decode cX12_rank 48 = .ok (.iconst 4, 1) := by decide +kernel
theorem dX12_rank_49 : decode cX12_rank 49 = .ok (.goto 4, 3) := by decide +kernel
theorem dX12_rank_52 : decode cX12_rank 52 = .ok (.iconst 5, 1) := by decide +kernel
theorem dX12_rank_53 : decode cX12_rank 53 = .ok (.ireturn, 1) := by decide +kernel
theorem dX12_reads_0 : decode cX12_reads 0 = .ok (.aload_n 0, 1) := by decide +kernel
theorem dX12_reads_1 : decode cX12_reads 1 = .ok (.iconst 0, 1) := by decide +kernel
theorem dX12_reads_2 : decode cX12_reads 2 = .ok (.putfield 110, 3) := by decide +kernel
theorem dX12_reads_5 : decode cX12_reads 5 = .ok (.aload_n 0, 1) := by decide +kernel
theorem dX12_reads_6 : decode cX12_reads 6 = .ok (.iconst 0, 1) := by decide +kernel
theorem dX12_reads_7 : decode cX12_reads 7 = .ok (.putfield 113, 3) := by decide +kernel
theorem dX12_reads_10 : decode cX12_reads 10 = .ok (.aload_n 0, 1) := by decide +kernel
theorem dX12_reads_11 : decode cX12_reads 11 = .ok (.iconst 0, 1) := by decide +kernel
theorem dX12_reads_12 : decode cX12_reads 12 = .ok (.putfield 119, 3) := by decide +kernel
theorem dX12_reads_15 : decode cX12_reads 15 = .ok (.aload_n 0, 1) := by decide +kernel
theorem dX12_reads_16 : decode cX12_reads 16 = .ok (.iconst 0, 1) := by decide +kernel
theorem dX12_reads_17 : decode cX12_reads 17 = .ok (.putfield 122, 3) := by decide +kernel
theorem dX12_reads_20 : decode cX12_reads 20 = .ok (.aload_n 0, 1) := by decide +kernel
theorem dX12_reads_21 : decode cX12_reads 21 = .ok (.iload_n 1, 1) := by decide +kernel
theorem dX12_reads_22 : decode cX12_reads 22 = .ok (.invokevirtual 377, 3) := by decide +kernel
theorem dX12_reads_25 : decode cX12_reads 25 = .ok (.aload_n 0, 1) := by decide +kernel
theorem dX12_reads_26 : decode cX12_reads 26 = .ok (.getfield 36, 3) := by decide +kernel
theorem dX12_reads_29 : decode cX12_reads 29 = .ok (.ifCond .ne 7, 3) := by decide +kernel
theorem dX12_reads_32 : decode cX12_reads 32 = .ok (.iconst 1, 1) := by decide +kernel
theorem dX12_reads_33 : decode cX12_reads 33 = .ok (.goto 4, 3) := by decide +kernel
theorem dX12_reads_36 : decode cX12_reads 36 = .ok (.iconst 0, 1) := by decide +kernel
theorem dX12_reads_37 : decode cX12_reads 37 = .ok (.istore_n 2, 1) := by decide +kernel
theorem dX12_reads_38 : decode cX12_reads 38 = .ok (.iload_n 2, 1) := by decide +kernel
theorem dX12_reads_39 : decode cX12_reads 39 = .ok (.ifCond .eq 46, 3) := by decide +kernel
theorem dX12_reads_42 : decode cX12_reads 42 = .ok (.aload_n 0, 1) := by decide +kernel
theorem dX12_reads_43 : decode cX12_reads 43 = .ok (.getfield 122, 3) := by decide +kernel
theorem dX12_reads_46 : decode cX12_reads 46 = .ok (.ifCond .ne 14, 3) := by decide +kernel
theorem dX12_reads_49 : decode cX12_reads 49 = .ok (.aload_n 0, 1) := by decide +kernel
theorem dX12_reads_50 : decode cX12_reads 50 = .ok (.aload_n 0, 1) := by decide +kernel
theorem dX12_reads_51 : decode cX12_reads 51 = .ok (.invokevirtual 408, 3) := by decide +kernel
theorem dX12_reads_54 : decode cX12_reads 54 = .ok (.putfield 122, 3) := by decide +kernel
theorem dX12_reads_57 : decode cX12_reads 57 = .ok (.goto 8, 3) := by decide +kernel
theorem dX12_reads_60 : decode cX12_reads 60 = .ok (.aload_n 0, 1) := by decide +kernel
theorem dX12_reads_61 : decode cX12_reads 61 = .ok (.invokevirtual 412, 3) := by decide +kernel
theorem dX12_reads_64 : decode cX12_reads 64 = .ok (.istore_n 2, 1) := by decide +kernel
theorem dX12_reads_65 : decode cX12_reads 65 = .ok (.iload_n 2, 1) := by decide +kernel
theorem dX12_reads_66 : decode cX12_reads 66 = .ok (.ifCond .eq 14, 3) := by decide +kernel
theorem dX12_reads_69 : decode cX12_reads 69 = .ok (.aload_n 0, 1) := by decide +kernel
theorem dX12_reads_70 : decode cX12_reads 70 = .ok (.getfield 36, 3) := by decide +kernel
theorem dX12_reads_73 : decode cX12_reads 73 = .ok (.ifCond .ne 7, 3) := by decide +kernel
theorem dX12_reads_76 : decode cX12_reads 76 = .ok (.iconst 1, 1) := by decide +kernel
theorem dX12_reads_77 : decode cX12_reads 77 = .ok (.goto 4, 3) := by decide +kernel
theorem dX12_reads_80 : decode cX12_reads 80 = .ok (.iconst 0, 1) := by decide +kernel
theorem dX12_reads_81 : decode cX12_reads 81 = .ok (.istore_n 2, 1) := by decide +kernel
theorem dX12_reads_82 : decode cX12_reads 82 = .ok (.goto (-44), 3) := by decide +kernel
theorem dX12_reads_85 : decode cX12_reads 85 = .ok (.return_, 1) := by decide +kernel
theorem dX12_report_0 : decode cX12_report 0 = .ok (.aload_n 0, 1) := by decide +kernel
theorem dX12_report_1 : decode cX12_report 1 = .ok (.invokevirtual 439, 3) := by decide +kernel
theorem dX12_report_4 : decode cX12_report 4 = .ok (.iconst 0, 1) := by decide +kernel
theorem dX12_report_5 : decode cX12_report 5 = .ok (.istore 6, 2) := by decide +kernel
theorem dX12_report_7 : decode cX12_report 7 = .ok (.aload_n 0, 1) := by decide +kernel
theorem dX12_report_8 : decode cX12_report 8 = .ok (.getfield 36, 3) := by decide +kernel
theorem dX12_report_11 : decode cX12_report 11 = .ok (.ifCond .ne 75, 3) := by decide +kernel
theorem dX12_report_14 : decode cX12_report 14 = .ok (.aload_n 0, 1) := by decide +kernel
theorem dX12_report_15 : decode cX12_report 15 = .ok (.getfield 20, 3) := by decide +kernel
theorem dX12_report_18 : decode cX12_report 18 = .ok (.ifCond .eq 68, 3) := by decide +kernel
theorem dX12_report_21 : decode cX12_report 21 = .ok (.aload_n 0, 1) := by decide +kernel
theorem dX12_report_22 : decode cX12_report 22 = .ok (.getfield 20, 3) := by decide +kernel
theorem dX12_report_25 : decode cX12_report 25 = .ok (.iconst 1, 1) := by decide +kernel
theorem dX12_report_26 : decode cX12_report 26 = .ok (.if_icmp .ne 20, 3) := by decide +kernel
theorem dX12_report_29 : decode cX12_report 29 = .ok (.aload_n 0, 1) := by decide +kernel
theorem dX12_report_30 : decode cX12_report 30 = .ok (.aload_n 0, 1) := by decide +kernel
theorem dX12_report_31 : decode cX12_report 31 = .ok (.getfield 32, 3) := by decide +kernel
theorem dX12_report_34 : decode cX12_report 34 = .ok (.invokevirtual 395, 3) := by decide +kernel
theorem dX12_report_37 : decode cX12_report 37 = .ok (.ifCond .ne 9, 3) := by decide +kernel
theorem dX12_report_40 : decode cX12_report 40 = .ok (.iload 6, 2) := by decide +kernel
theorem dX12_report_42 : decode cX12_report 42 = .ok (.iconst 3, 1) := by decide +kernel
theorem dX12_report_43 : decode cX12_report 43 = .ok (.if_icmp .ne 12, 3) := by decide +kernel
theorem dX12_report_46 : decode cX12_report 46 = .ok (.aload_n 0, 1) := by decide +kernel
theorem dX12_report_47 : decode cX12_report 47 = .ok (.iconst 1, 1) := by decide +kernel
theorem dX12_report_48 : decode cX12_report 48 = .ok (.aload_n 0, 1) := by decide +kernel
theorem dX12_report_49 : decode cX12_report 49 = .ok (.getfield 23, 3) := by decide +kernel
theorem dX12_report_52 : decode cX12_report 52 = .ok (.invokevirtual 308, 3) := by decide +kernel
theorem dX12_report_55 : decode cX12_report 55 = .ok (.aload_n 0, 1) := by decide +kernel
theorem dX12_report_56 : decode cX12_report 56 = .ok (.getfield 36, 3) := by decide +kernel
theorem dX12_report_59 : decode cX12_report 59 = .ok (.ifCond .le 6, 3) := by decide +kernel
theorem dX12_report_62 : decode cX12_report 62 = .ok (.goto (-55), 3) := by decide +kernel
theorem dX12_report_65 : decode cX12_report 65 = .ok (.aload_n 0, 1) := by decide +kernel
theorem dX12_report_66 : decode cX12_report 66 = .ok (.getfield 147, 3) := by decide +kernel
theorem dX12_report_69 : decode cX12_report 69 = .ok (.iload 6, 2) := by decide +kernel
theorem dX12_report_71 : decode cX12_report 71 = .ok (.aload_n 0, 1) := by decide +kernel
theorem dX12_report_72 : decode cX12_report 72 = .ok (.getfield 32, 3) := by decide +kernel
theorem dX12_report_75 : decode cX12_report 75 = .ok (.lastore, 1) := by decide +kernel
theorem dX12_report_76 : decode cX12_report 76 = .ok (.iinc 6 1, 3) := by decide +kernel
theorem dX12_report_79 : decode cX12_report 79 = .ok (.aload_n 0, 1) := by decide +kernel
theorem dX12_report_80 : decode cX12_report 80 = .ok (.invokevirtual 312, 3) := by decide +kernel
theorem dX12_report_83 : decode cX12_report 83 = .ok (.goto (-76), 3) := by decide +kernel
theorem dX12_report_86 : decode cX12_report 86 = .ok (.aload_n 0, 1) := by decide +kernel
theorem dX12_report_87 : decode cX12_report 87 = .ok (.getfield 36, 3) := by decide +kernel
theorem dX12_report_90 : decode cX12_report 90 = .ok (.ifCond .ne 61, 3) := by decide +kernel
theorem dX12_report_93 : decode cX12_report 93 = .ok (.iload_n 1, 1) := by decide +kernel
theorem dX12_report_94 : decode cX12_report 94 = .ok (.iconst 0, 1) := by decide +kernel
theorem dX12_report_95 : decode cX12_report 95 = .ok (.sipush 9999, 3) := by decide +kernel
theorem dX12_report_98 : decode cX12_report 98 = .ok (.invokestatic 322, 3) := by decide +kernel
theorem dX12_report_101 : decode cX12_report 101 = .ok (.ifCond .eq 50, 3) := by decide +kernel
theorem dX12_report_104 : decode cX12_report 104 = .ok (.iload_n 2, 1) := by decide +kernel
theorem dX12_report_105 : decode cX12_report 105 = .ok (.iconst 0, 1) := by decide +kernel
theorem dX12_report_106 : decode cX12_report 106 = .ok (.bipush 17, 2) := by decide +kernel
theorem dX12_report_108 : decode cX12_report 108 = .ok (.invokestatic 322, 3) := by decide +kernel
theorem dX12_report_111 : decode cX12_report 111 = .ok (.ifCond .eq 40, 3) := by decide +kernel
theorem dX12_report_114 : decode cX12_report 114 = .ok (.iload_n 3, 1) := by decide +kernel
theorem dX12_report_115 : decode cX12_report 115 = .ok (.iconst 0, 1) := by decide +kernel
theorem dX12_report_116 : decode cX12_report 116 = .ok (.bipush 99, 2) := by decide +kernel
theorem dX12_report_118 : decode cX12_report 118 = .ok (.invokestatic 322, 3) := by decide +kernel
theorem dX12_report_121 : decode cX12_report 121 = .ok (.ifCond .eq 30, 3) := by decide +kernel
theorem dX12_report_124 : decode cX12_report 124 = .ok (.iload 4, 2) := by decide +kernel
theorem dX12_report_126 : decode cX12_report 126 = .ok (.iconst 0, 1) := by decide +kernel
theorem dX12_report_127 : decode cX12_report 127 = .ok (.sipush 999, 3) := by decide +kernel
theorem dX12_report_130 : decode cX12_report 130 = .ok (.invokestatic 322, 3) := by decide +kernel
theorem dX12_report_133 : decode cX12_report 133 = .ok (.ifCond .eq 18, 3) := by decide +kernel
theorem dX12_report_136 : decode cX12_report 136 = .ok (.iload 5, 2) := by decide +kernel
theorem dX12_report_138 : decode cX12_report 138 = .ok (.iconst 1, 1) := by decide +kernel
theorem dX12_report_139 : decode cX12_report 139 = .ok (.bipush 24, 2) := by decide +kernel
theorem dX12_report_141 : decode cX12_report 141 = .ok (.invokestatic 322, 3) := by decide +kernel
theorem dX12_report_144 : decode cX12_report 144 = .ok (.ifCond .eq 7, 3) := by decide +kernel
theorem dX12_report_147 : decode cX12_report 147 = .ok (.iconst 1, 1) := by decide +kernel
theorem dX12_report_148 : decode cX12_report 148 = .ok (.goto 4, 3) := by decide +kernel
theorem dX12_report_151 : decode cX12_report 151 = .ok (.iconst 0, 1) := by decide +kernel
theorem dX12_report_152 : decode cX12_report 152 = .ok (.istore 7, 2) := by decide +kernel
theorem dX12_report_154 : decode cX12_report 154 = .ok (.iload 7, 2) := by decide +kernel
theorem dX12_report_156 : decode cX12_report 156 = .ok (.ifCond .eq 22, 3) := by decide +kernel
theorem dX12_report_159 : decode cX12_report 159 = .ok (.aload_n 0, 1) := by decide +kernel
theorem dX12_report_160 : decode cX12_report 160 = .ok (.getfield 126, 3) := by decide +kernel
theorem dX12_report_163 : decode cX12_report 163 = .ok (.sipush 200, 3) := by decide +kernel
theorem dX12_report_166 : decode cX12_report 166 = .ok (.if_icmp .eq 12, 3) := by decide +kernel
theorem dX12_report_169 : decode cX12_report 169 = .ok (.aload_n 0, 1) := by decide +kernel
theorem dX12_report_170 : decode cX12_report 170 = .ok (.getfield 129, 3) := by decide +kernel
theorem dX12_report_173 : decode cX12_report 173 = .ok (.bipush 80, 2) := by decide +kernel
theorem dX12_report_175 : decode cX12_report 175 = .ok (.if_icmp .ne 5, 3) := by decide +kernel
theorem dX12_report_178 : decode cX12_report 178 = .ok (.iconst (-1), 1) := by decide +kernel
theorem dX12_report_179 : decode cX12_report 179 = .ok (.ireturn, 1) := by decide +kernel
theorem dX12_report_180 : decode cX12_report 180 = .ok (.aload_n 0, 1) := by decide +kernel
theorem dX12_report_181 : decode cX12_report 181 = .ok (.dup, 1) := by decide +kernel
theorem dX12_report_182 : decode cX12_report 182 = .ok (.getfield 129, 3) := by decide +kernel
theorem dX12_report_185 : decode cX12_report 185 = .ok (.iconst 1, 1) := by decide +kernel
theorem dX12_report_186 : decode cX12_report 186 = .ok (.iadd, 1) := by decide +kernel
theorem dX12_report_187 : decode cX12_report 187 = .ok (.putfield 129, 3) := by decide +kernel
theorem dX12_report_190 : decode cX12_report 190 = .ok (.aload_n 0, 1) := by decide +kernel
theorem dX12_report_191 : decode cX12_report 191 = .ok (.iconst 0, 1) := by decide +kernel
theorem dX12_report_192 : decode cX12_report 192 = .ok (.iload_n 1, 1) := by decide +kernel
theorem dX12_report_193 : decode cX12_report 193 = .ok (.iload_n 2, 1) := by decide +kernel
theorem dX12_report_194 : decode cX12_report 194 = .ok (.iload_n 3, 1) := by decide +kernel
theorem dX12_report_195 : decode cX12_report 195 = .ok (.iload 4, 2) := by decide +kernel
theorem dX12_report_197 : decode cX12_report 197 = .ok (.iload 5, 2) := by decide +kernel
theorem dX12_report_199 : decode cX12_report 199 = .ok (.invokevirtual 453, 3) := by decide +kernel
theorem dX12_report_202 : decode cX12_report 202 = .ok (.istore 8, 2) := by decide +kernel
theorem dX12_report_204 : decode cX12_report 204 = .ok (.iconst 0, 1) := by decide +kernel
theorem dX12_report_205 : decode cX12_report 205 = .ok (.istore 9, 2) := by decide +kernel
theorem dX12_report_207 : decode cX12_report 207 = .ok (.iload 9, 2) := by decide +kernel
theorem dX12_report_209 : decode cX12_report 209 = .ok (.iconst 3, 1) := by decide +kernel
theorem dX12_report_210 : decode cX12_report 210 = .ok (.if_icmp .ge 39, 3) := by decide +kernel
theorem dX12_report_213 : decode cX12_report 213 = .ok (.aload_n 0, 1) := by decide +kernel
theorem dX12_report_214 : decode cX12_report 214 = .ok (.getfield 144, 3) := by decide +kernel
theorem dX12_report_217 : decode cX12_report 217 = .ok (.iconst 3, 1) := by decide +kernel
theorem dX12_report_218 : decode cX12_report 218 = .ok (.iload 8, 2) := by decide +kernel
theorem dX12_report_220 : decode cX12_report 220 = .ok (.imul, 1) := by decide +kernel
theorem dX12_report_221 : decode cX12_report 221 = .ok (.iload 9, 2) := by decide +kernel
theorem dX12_report_223 : decode cX12_report 223 = .ok (.iadd, 1) := by decide +kernel
theorem dX12_report_224 : decode cX12_report 224 = .ok (.iload 9, 2) := by decide +kernel
theorem dX12_report_226 : decode cX12_report 226 = .ok (.iload 6, 2) := by decide +kernel
theorem dX12_report_228 : decode cX12_report 228 = .ok (.if_icmp .ge 13, 3) := by decide +kernel
theorem dX12_report_231 : decode cX12_report 231 = .ok (.aload_n 0, 1) := by decide +kernel
theorem dX12_report_232 : decode cX12_report 232 = .ok (.getfield 147, 3) := by decide +kernel
theorem dX12_report_235 : decode cX12_report 235 = .ok (.iload 9, 2) := by decide +kernel
theorem dX12_report_237 : decode cX12_report 237 = .ok (.laload, 1) := by decide +kernel
theorem dX12_report_238 : decode cX12_report 238 = .ok (.goto 4, 3) := by decide +kernel
theorem dX12_report_241 : decode cX12_report 241 = .ok (.lconst 0, 1) := by decide +kernel
theorem dX12_report_242 : decode cX12_report 242 = .ok (.lastore, 1) := by decide +kernel
theorem dX12_report_243 : decode cX12_report 243 = .ok (.iinc 9 1, 3) := by decide +kernel
theorem dX12_report_246 : decode cX12_report 246 = .ok (.goto (-39), 3) := by decide +kernel
theorem dX12_report_249 : decode cX12_report 249 = .ok (.iload 8, 2) := by decide +kernel
theorem dX12_report_251 : decode cX12_report 251 = .ok (.ireturn, 1) := by decide +kernel
theorem dX12_right_0 : decode cX12_right 0 = .ok (.aload_n 0, 1) := by decide +kernel
theorem dX12_right_1 : decode cX12_right 1 = .ok (.getfield 219, 3) := by decide +kernel
theorem dX12_right_4 : decode cX12_right 4 = .ok (.ifCond .ne 5, 3) := by decide +kernel
theorem dX12_right_7 : decode cX12_right 7 = .ok (.iconst (-1), 1) := by decide +kernel
theorem dX12_right_8 : decode cX12_right 8 = .ok (.ireturn, 1) := by decide +kernel
theorem dX12_right_9 : decode cX12_right 9 = .ok (.iconst 0, 1) := by decide +kernel
theorem dX12_right_10 : decode cX12_right 10 = .ok (.istore_n 1, 1) := by decide +kernel
theorem dX12_right_11 : decode cX12_right 11 = .ok (.iconst 0, 1) := by decide +kernel
theorem dX12_right_12 : decode cX12_right 12 = .ok (.istore_n 2, 1) := by decide +kernel
theorem dX12_right_13 : decode cX12_right 13 = .ok (.iload_n 2, 1) := by decide +kernel
theorem dX12_right_14 : decode cX12_right 14 = .ok (.aload_n 0, 1) := by decide +kernel
theorem dX12_right_15 : decode cX12_right 15 = .ok (.getfield 222, 3) := by decide +kernel
theorem dX12_right_18 : decode cX12_right 18 = .ok (.if_icmp .ge 25, 3) := by decide +kernel
theorem dX12_right_21 : decode cX12_right 21 = .ok (.iload_n 1, 1) := by decide +kernel
theorem dX12_right_22 : decode cX12_right 22 = .ok (.aload_n 0, 1) := by decide +kernel
theorem dX12_right_23 : decode cX12_right 23 = .ok (.iload_n 2, 1) := by decide +kernel
theorem dX12_right_24 : decode cX12_right 24 = .ok (.invokevirtual 559, 3) := by decide +kernel
theorem dX12_right_27 : decode cX12_right 27 = .ok (.ifCond .eq 7, 3) := by decide +kernel
theorem dX12_right_30 : decode cX12_right 30 = .ok (.iconst 1, 1) := by decide +kernel
theorem dX12_right_31 : decode cX12_right 31 = .ok (.goto 4, 3) := by decide +kernel
theorem dX12_right_34 : decode cX12_right 34 = .ok (.iconst 0, 1) := by decide +kernel
theorem dX12_right_35 : decode cX12_right 35 = .ok (.iadd, 1) := by decide +kernel
theorem dX12_right_36 : decode cX12_right 36 = .ok (.istore_n 1, 1) := by decide +kernel
theorem dX12_right_37 : decode cX12_right 37 = .ok (.iinc 2 1, 3) := by decide +kernel
theorem dX12_right_40 : decode cX12_right 40 = .ok (.goto (-27), 3) := by decide +kernel
theorem dX12_right_43 : decode cX12_right 43 = .ok (.iload_n 1, 1) := by decide +kernel
theorem dX12_right_44 : decode cX12_right 44 = .ok (.ireturn, 1) := by decide +kernel
theorem dX12_row_0 : decode cX12_row 0 = .ok (.sipush 168, 3) := by decide +kernel
theorem dX12_row_3 : decode cX12_row 3 = .ok (.aload_n 0, 1) := by decide +kernel
theorem dX12_row_4 : decode cX12_row 4 = .ok (.getfield 48, 3) := by decide +kernel
theorem dX12_row_7 : decode cX12_row 7 = .ok (.imul, 1) := by decide +kernel
theorem dX12_row_8 : decode cX12_row 8 = .ok (.bipush 7, 2) := by decide +kernel
theorem dX12_row_10 : decode cX12_row 10 = .ok (.iload_n 1, 1) := by decide +kernel
theorem dX12_row_11 : decode cX12_row 11 = .ok (.imul, 1) := by decide +kernel
theorem dX12_row_12 : decode cX12_row 12 = .ok (.iadd, 1) := by decide +kernel
theorem dX12_row_13 : decode cX12_row 13 = .ok (.ireturn, 1) := by decide +kernel
theorem dX12_rule_0 : decode cX12_rule 0 = .ok (.aload_n 0, 1) := by decide +kernel
theorem dX12_rule_1 : decode cX12_rule 1 = .ok (.getfield 60, 3) := by decide +kernel
theorem dX12_rule_4 : decode cX12_rule 4 = .ok (.aload_n 0, 1) := by decide +kernel
theorem dX12_rule_5 : decode cX12_rule 5 = .ok (.getfield 51, 3) := by decide +kernel
theorem dX12_rule_8 : decode cX12_rule 8 = .ok (.iaload, 1) := by decide +kernel
theorem dX12_rule_9 : decode cX12_rule 9 = .ok (.istore_n 2, 1) := by decide +kernel
theorem dX12_rule_10 : decode cX12_rule 10 = .ok (.iload_n 2, 1) := by decide +kernel
theorem dX12_rule_11 : decode cX12_rule 11 = .ok (.bipush 24, 2) := by decide +kernel
theorem dX12_rule_13 : decode cX12_rule 13 = .ok (.if_icmp .ne 13, 3) := by decide +kernel
theorem dX12_rule_16 : decode cX12_rule 16 = .ok (.aload_n 0, 1) := by decide +kernel
theorem dX12_rule_17 : decode cX12_rule 17 = .ok (.iconst 5, 1) := by decide +kernel
theorem dX12_rule_18 : decode cX12_rule 18 = .ok (.aload_n 0, 1) := by decide +kernel
theorem dX12_rule_19 : decode cX12_rule 19 = .ok (.getfield 23, 3) := by decide +kernel
theorem dX12_rule_22 : decode cX12_rule 22 = .ok (.invokevirtual 308, 3) := by decide +kernel
theorem dX12_rule_25 : decode cX12_rule 25 = .ok (.return_, 1) := by decide +kernel
theorem dX12_rule_26 : decode cX12_rule 26 = .ok (.aload_n 0, 1) := by decide +kernel
theorem dX12_rule_27 : decode cX12_rule 27 = .ok (.invokevirtual 312, 3) := by decide +kernel
theorem dX12_rule_30 : decode cX12_rule 30 = .ok (.sipush 168, 3) := by decide +kernel
theorem dX12_rule_33 : decode cX12_rule 33 = .ok (.aload_n 0, 1) := by decide +kernel
theorem dX12_rule_34 : decode cX12_rule 34 = .ok (.getfield 51, 3) := by decide +kernel
theorem dX12_rule_37 : decode cX12_rule 37 = .ok (.imul, 1) := by decide +kernel
theorem dX12_rule_38 : decode cX12_rule 38 = .ok (.bipush 7, 2) := by decide +kernel
theorem dX12_rule_40 : decode cX12_rule 40 = .ok (.iload_n 2, 1) := by decide +kernel
theorem dX12_rule_41 : decode cX12_rule 41 = .ok (.imul, 1) := by decide +kernel
theorem dX12_rule_42 : decode cX12_rule 42 = .ok (.iadd, 1) := by decide +kernel
theorem dX12_rule_43 : decode cX12_rule 43 = .ok (.istore_n 3, 1) := by decide +kernel
theorem dX12_rule_44 : decode cX12_rule 44 = .ok (.iload_n 1, 1) := by decide +kernel
theorem dX12_rule_45 : decode cX12_rule 45 = .ok (.iconst 3, 1) := by decide +kernel
theorem dX12_rule_46 : decode cX12_rule 46 = .ok (.if_icmp .ne 42, 3) := by decide +kernel
theorem dX12_rule_49 : decode cX12_rule 49 = .ok (.aload_n 0, 1) := by decide +kernel
theorem dX12_rule_50 : decode cX12_rule 50 = .ok (.getfield 36, 3) := by decide +kernel
theorem dX12_rule_53 : decode cX12_rule 53 = .ok (.ifCond .ne 14, 3) := by decide +kernel
theorem dX12_rule_56 : decode cX12_rule 56 = .ok (.aload_n 0, 1) := by decide +kernel
theorem dX12_rule_57 : decode cX12_rule 57 = .ok (.iconst 0, 1) := by decide +kernel
theorem dX12_rule_58 : decode cX12_rule 58 = .ok (.sipush 1000, 3) := by decide +kernel
theorem dX12_rule_61 : decode cX12_rule 61 = .ok (.invokevirtual 419, 3) := by decide +kernel
theorem dX12_rule_64 : decode cX12_rule 64 = .ok (.goto 4, 3) := by decide +kernel
theorem dX12_rule_67 : decode cX12_rule 67 = .ok (.iconst 0, 1) := by decide +kernel
theorem dX12_rule_68 : decode cX12_rule 68 = .ok (.istore 4, 2) := by decide +kernel
theorem dX12_rule_70 : decode cX12_rule 70 = .ok (.aload_n 0, 1) := by decide +kernel
theorem dX12_rule_71 : decode cX12_rule 71 = .ok (.getfield 36, 3) := by decide +kernel
theorem dX12_rule_74 : decode cX12_rule 74 = .ok (.ifCond .ne 14, 3) := by decide +kernel
theorem dX12_rule_77 : decode cX12_rule 77 = .ok (.aload_n 0, 1) := by decide +kernel
theorem dX12_rule_78 : decode cX12_rule 78 = .ok (.getfield 63, 3) := by decide +kernel
theorem dX12_rule_81 : decode cX12_rule 81 = .ok (.aload_n 0, 1) := by decide +kernel
theorem dX12_rule_82 : decode cX12_rule 82 = .ok (.getfield 51, 3) := by decide +kernel
theorem dX12_rule_85 : decode cX12_rule 85 = .ok (.iload 4, 2) := by decide +kernel
theorem dX12_rule_87 : decode cX12_rule 87 = .ok (.iastore, 1) := by decide +kernel
theorem dX12_rule_88 : decode cX12_rule 88 = .ok (.aload_n 0, 1) := by decide +kernel
theorem dX12_rule_89 : decode cX12_rule 89 = .ok (.getfield 85, 3) := by decide +kernel
theorem dX12_rule_92 : decode cX12_rule 92 = .ok (.iload_n 3, 1) := by decide +kernel
theorem dX12_rule_93 : decode cX12_rule 93 = .ok (.iload_n 1, 1) := by decide +kernel
theorem dX12_rule_94 : decode cX12_rule 94 = .ok (.iastore, 1) := by decide +kernel
theorem dX12_rule_95 : decode cX12_rule 95 = .ok (.aload_n 0, 1) := by decide +kernel
theorem dX12_rule_96 : decode cX12_rule 96 = .ok (.getfield 85, 3) := by decide +kernel
theorem dX12_rule_99 : decode cX12_rule 99 = .ok (.iload_n 3, 1) := by decide +kernel
theorem dX12_rule_100 : decode cX12_rule 100 = .ok (.iconst 1, 1) := by decide +kernel
theorem dX12_rule_101 : decode cX12_rule 101 = .ok (.iadd, 1) := by decide +kernel
theorem dX12_rule_102 : decode cX12_rule 102 = .ok (.aload_n 0, 1) := by decide +kernel
theorem dX12_rule_103 : decode cX12_rule 103 = .ok (.getfield 91, 3) := by decide +kernel
theorem dX12_rule_106 : decode cX12_rule 106 = .ok (.aload_n 0, 1) := by decide +kernel
theorem dX12_rule_107 : decode cX12_rule 107 = .ok (.getfield 51, 3) := by decide +kernel
theorem dX12_rule_110 : decode cX12_rule 110 = .ok (.iaload, 1) := by decide +kernel
theorem dX12_rule_111 : decode cX12_rule 111 = .ok (.iastore, 1) := by decide +kernel
theorem dX12_rule_112 : decode cX12_rule 112 = .ok (.iload_n 1, 1) := by decide +kernel
theorem dX12_rule_113 : decode cX12_rule 113 = .ok (.iconst 1, 1) := by decide +kernel
theorem dX12_rule_114 : decode cX12_rule 114 = .ok (.if_icmp .eq 8, 3) := by decide +kernel
theorem dX12_rule_117 : decode cX12_rule 117 = .ok (.iload_n 1, 1) := by decide +kernel
theorem dX12_rule_118 : decode cX12_rule 118 = .ok (.iconst 2, 1) := by decide +kernel
theorem dX12_rule_119 : decode cX12_rule 119 = .ok (.if_icmp .ne 15, 3) := by decide +kernel
theorem dX12_rule_122 : decode cX12_rule 122 = .ok (.aload_n 0, 1) := by decide +kernel
theorem dX12_rule_123 : decode cX12_rule 123 = .ok (.getfield 36, 3) := by decide +kernel
theorem dX12_rule_126 : decode cX12_rule 126 = .ok (.ifCond .ne 8, 3) := by decide +kernel
theorem dX12_rule_129 : decode cX12_rule 129 = .ok (.aload_n 0, 1) := by decide +kernel
theorem dX12_rule_130 : decode cX12_rule 130 = .ok (.iconst 0, 1) := by decide +kernel
theorem dX12_rule_131 : decode cX12_rule 131 = .ok (.invokevirtual 427, 3) := by decide +kernel
theorem dX12_rule_134 : decode cX12_rule 134 = .ok (.aload_n 0, 1) := by decide +kernel
theorem dX12_rule_135 : decode cX12_rule 135 = .ok (.getfield 85, 3) := by decide +kernel
theorem dX12_rule_138 : decode cX12_rule 138 = .ok (.iload_n 3, 1) := by decide +kernel
theorem dX12_rule_139 : decode cX12_rule 139 = .ok (.iconst 2, 1) := by decide +kernel
theorem dX12_rule_140 : decode cX12_rule 140 = .ok (.iadd, 1) := by decide +kernel
theorem dX12_rule_141 : decode cX12_rule 141 = .ok (.aload_n 0, 1) := by decide +kernel
theorem dX12_rule_142 : decode cX12_rule 142 = .ok (.getfield 91, 3) := by decide +kernel
theorem dX12_rule_145 : decode cX12_rule 145 = .ok (.aload_n 0, 1) := by decide +kernel
theorem dX12_rule_146 : decode cX12_rule 146 = .ok (.getfield 51, 3) := by decide +kernel
theorem dX12_rule_149 : decode cX12_rule 149 = .ok (.iaload, 1) := by decide +kernel
theorem dX12_rule_150 : decode cX12_rule 150 = .ok (.iastore, 1) := by decide +kernel
theorem dX12_rule_151 : decode cX12_rule 151 = .ok (.iload_n 1, 1) := by decide +kernel
theorem dX12_rule_152 : decode cX12_rule 152 = .ok (.iconst 1, 1) := by decide +kernel
theorem dX12_rule_153 : decode cX12_rule 153 = .ok (.if_icmp .ne 17, 3) := by decide +kernel
theorem dX12_rule_156 : decode cX12_rule 156 = .ok (.aload_n 0, 1) := by decide +kernel
theorem dX12_rule_157 : decode cX12_rule 157 = .ok (.getfield 36, 3) := by decide +kernel
theorem dX12_rule_160 : decode cX12_rule 160 = .ok (.ifCond .ne 10, 3) := by decide +kernel
theorem dX12_rule_163 : decode cX12_rule 163 = .ok (.aload_n 0, 1) := by decide +kernel
theorem dX12_rule_164 : decode cX12_rule 164 = .ok (.ldc2_w 342, 3) := by decide +kernel
theorem dX12_rule_167 : decode cX12_rule 167 = .ok (.invokevirtual 415, 3) := by decide +kernel
theorem dX12_rule_170 : decode cX12_rule 170 = .ok (.aload_n 0, 1) := by decide +kernel
theorem dX12_rule_171 : decode cX12_rule 171 = .ok (.getfield 85, 3) := by decide +kernel
theorem dX12_rule_174 : decode cX12_rule 174 = .ok (.iload_n 3, 1) := by decide +kernel
theorem dX12_rule_175 : decode cX12_rule 175 = .ok (.iconst 3, 1) := by decide +kernel
theorem dX12_rule_176 : decode cX12_rule 176 = .ok (.iadd, 1) := by decide +kernel
theorem dX12_rule_177 : decode cX12_rule 177 = .ok (.aload_n 0, 1) := by decide +kernel
theorem dX12_rule_178 : decode cX12_rule 178 = .ok (.getfield 91, 3) := by decide +kernel
theorem dX12_rule_181 : decode cX12_rule 181 = .ok (.aload_n 0, 1) := by decide +kernel
theorem dX12_rule_182 : decode cX12_rule 182 = .ok (.getfield 51, 3) := by decide +kernel
theorem dX12_rule_185 : decode cX12_rule 185 = .ok (.iaload, 1) := by decide +kernel
theorem dX12_rule_186 : decode cX12_rule 186 = .ok (.iastore, 1) := by decide +kernel
theorem dX12_rule_187 : decode cX12_rule 187 = .ok (.iload_n 1, 1) := by decide +kernel
theorem dX12_rule_188 : decode cX12_rule 188 = .ok (.iconst 2, 1) := by decide +kernel
theorem dX12_rule_189 : decode cX12_rule 189 = .ok (.if_icmp .ge 15, 3) := by decide +kernel
theorem dX12_rule_192 : decode cX12_rule 192 = .ok (.aload_n 0, 1) := by decide +kernel
theorem dX12_rule_193 : decode cX12_rule 193 = .ok (.getfield 36, 3) := by decide +kernel
theorem dX12_rule_196 : decode cX12_rule 196 = .ok (.ifCond .ne 8, 3) := by decide +kernel
theorem dX12_rule_199 : decode cX12_rule 199 = .ok (.aload_n 0, 1) := by decide +kernel
theorem dX12_rule_200 : decode cX12_rule 200 = .ok (.iconst 2, 1) := by decide +kernel
theorem dX12_rule_201 : decode cX12_rule 201 = .ok (.invokevirtual 427, 3) := by decide +kernel
theorem dX12_rule_204 : decode cX12_rule 204 = .ok (.aload_n 0, 1) := by decide +kernel
theorem dX12_rule_205 : decode cX12_rule 205 = .ok (.getfield 85, 3) := by decide +kernel
theorem dX12_rule_208 : decode cX12_rule 208 = .ok (.iload_n 3, 1) := by decide +kernel
theorem dX12_rule_209 : decode cX12_rule 209 = .ok (.iconst 4, 1) := by decide +kernel
theorem dX12_rule_210 : decode cX12_rule 210 = .ok (.iadd, 1) := by decide +kernel
theorem dX12_rule_211 : decode cX12_rule 211 = .ok (.aload_n 0, 1) := by decide +kernel
theorem dX12_rule_212 : decode cX12_rule 212 = .ok (.getfield 91, 3) := by decide +kernel
theorem dX12_rule_215 : decode cX12_rule 215 = .ok (.aload_n 0, 1) := by decide +kernel
theorem dX12_rule_216 : decode cX12_rule 216 = .ok (.getfield 51, 3) := by decide +kernel
theorem dX12_rule_219 : decode cX12_rule 219 = .ok (.iaload, 1) := by decide +kernel
theorem dX12_rule_220 : decode cX12_rule 220 = .ok (.iastore, 1) := by decide +kernel
theorem dX12_rule_221 : decode cX12_rule 221 = .ok (.iload_n 1, 1) := by decide +kernel
theorem dX12_rule_222 : decode cX12_rule 222 = .ok (.iconst 3, 1) := by decide +kernel
theorem dX12_rule_223 : decode cX12_rule 223 = .ok (.if_icmp .ge 17, 3) := by decide +kernel
theorem dX12_rule_226 : decode cX12_rule 226 = .ok (.aload_n 0, 1) := by decide +kernel
theorem dX12_rule_227 : decode cX12_rule 227 = .ok (.getfield 36, 3) := by decide +kernel
theorem dX12_rule_230 : decode cX12_rule 230 = .ok (.ifCond .ne 10, 3) := by decide +kernel
theorem dX12_rule_233 : decode cX12_rule 233 = .ok (.aload_n 0, 1) := by decide +kernel
theorem dX12_rule_234 : decode cX12_rule 234 = .ok (.ldc2_w 338, 3) := by decide +kernel
theorem dX12_rule_237 : decode cX12_rule 237 = .ok (.invokevirtual 415, 3) := by decide +kernel
theorem dX12_rule_240 : decode cX12_rule 240 = .ok (.aload_n 0, 1) := by decide +kernel
theorem dX12_rule_241 : decode cX12_rule 241 = .ok (.getfield 85, 3) := by decide +kernel
theorem dX12_rule_244 : decode cX12_rule 244 = .ok (.iload_n 3, 1) := by decide +kernel
theorem dX12_rule_245 : decode cX12_rule 245 = .ok (.iconst 5, 1) := by decide +kernel
theorem dX12_rule_246 : decode cX12_rule 246 = .ok (.iadd, 1) := by decide +kernel
theorem dX12_rule_247 : decode cX12_rule 247 = .ok (.aload_n 0, 1) := by decide +kernel
theorem dX12_rule_248 : decode cX12_rule 248 = .ok (.getfield 91, 3) := by decide +kernel
theorem dX12_rule_251 : decode cX12_rule 251 = .ok (.aload_n 0, 1) := by decide +kernel
theorem dX12_rule_252 : decode cX12_rule 252 = .ok (.getfield 51, 3) := by decide +kernel
theorem dX12_rule_255 : decode cX12_rule 255 = .ok (.iaload, 1) := by decide +kernel
theorem dX12_rule_256 : decode cX12_rule 256 = .ok (.iastore, 1) := by decide +kernel
theorem dX12_rule_257 : decode cX12_rule 257 = .ok (.iload_n 1, 1) := by decide +kernel
theorem dX12_rule_258 : decode cX12_rule 258 = .ok (.iconst 3, 1) := by decide +kernel
theorem dX12_rule_259 : decode cX12_rule 259 = .ok (.if_icmp .ge 15, 3) := by decide +kernel
theorem dX12_rule_262 : decode cX12_rule 262 = .ok (.aload_n 0, 1) := by decide +kernel
theorem dX12_rule_263 : decode cX12_rule 263 = .ok (.getfield 36, 3) := by decide +kernel
theorem dX12_rule_266 : decode cX12_rule 266 = .ok (.ifCond .ne 8, 3) := by decide +kernel
theorem dX12_rule_269 : decode cX12_rule 269 = .ok (.aload_n 0, 1) := by decide +kernel
theorem dX12_rule_270 : decode cX12_rule 270 = .ok (.iconst 1, 1) := by decide +kernel
theorem dX12_rule_271 : decode cX12_rule 271 = .ok (.invokevirtual 427, 3) := by decide +kernel
theorem dX12_rule_274 : decode cX12_rule 274 = .ok (.aload_n 0, 1) := by decide +kernel
theorem dX12_rule_275 : decode cX12_rule 275 = .ok (.getfield 85, 3) := by decide +kernel
theorem dX12_rule_278 : decode cX12_rule 278 = .ok (.iload_n 3, 1) := by decide +kernel
theorem dX12_rule_279 : decode cX12_rule 279 = .ok (.bipush 6, 2) := by decide +kernel
theorem dX12_rule_281 : decode cX12_rule 281 = .ok (.iadd, 1) := by decide +kernel
theorem dX12_rule_282 : decode cX12_rule 282 = .ok (.aload_n 0, 1) := by decide +kernel
theorem dX12_rule_283 : decode cX12_rule 283 = .ok (.getfield 91, 3) := by decide +kernel
theorem dX12_rule_286 : decode cX12_rule 286 = .ok (.aload_n 0, 1) := by decide +kernel
theorem dX12_rule_287 : decode cX12_rule 287 = .ok (.getfield 51, 3) := by decide +kernel
theorem dX12_rule_290 : decode cX12_rule 290 = .ok (.iaload, 1) := by decide +kernel
theorem dX12_rule_291 : decode cX12_rule 291 = .ok (.iastore, 1) := by decide +kernel
theorem dX12_rule_292 : decode cX12_rule 292 = .ok (.aload_n 0, 1) := by decide +kernel
theorem dX12_rule_293 : decode cX12_rule 293 = .ok (.getfield 60, 3) := by decide +kernel
theorem dX12_rule_296 : decode cX12_rule 296 = .ok (.aload_n 0, 1) := by decide +kernel
theorem dX12_rule_297 : decode cX12_rule 297 = .ok (.getfield 51, 3) := by decide +kernel
theorem dX12_rule_300 : decode cX12_rule 300 = .ok (.dup2, 1) := by decide +kernel
theorem dX12_rule_301 : decode cX12_rule 301 = .ok (.iaload, 1) := by decide +kernel
theorem dX12_rule_302 : decode cX12_rule 302 = .ok (.iconst 1, 1) := by decide +kernel
theorem dX12_rule_303 : decode cX12_rule 303 = .ok (.iadd, 1) := by decide +kernel
theorem dX12_rule_304 : decode cX12_rule 304 = .ok (.iastore, 1) := by decide +kernel
theorem dX12_rule_305 : decode cX12_rule 305 = .ok (.return_, 1) := by decide +kernel
theorem dX12_rules_0 : decode cX12_rules 0 = .ok (.aload_n 0, 1) := by decide +kernel
theorem dX12_rules_1 : decode cX12_rules 1 = .ok (.iconst 1, 1) := by decide +kernel
theorem dX12_rules_2 : decode cX12_rules 2 = .ok (.aload_n 0, 1) := by decide +kernel
theorem dX12_rules_3 : decode cX12_rules 3 = .ok (.getfield 48, 3) := by decide +kernel
theorem dX12_rules_6 : decode cX12_rules 6 = .ok (.isub, 1) := by decide +kernel
theorem dX12_rules_7 : decode cX12_rules 7 = .ok (.putfield 51, 3) := by decide +kernel
theorem dX12_rules_10 : decode cX12_rules 10 = .ok (.aload_n 0, 1) := by decide +kernel
theorem dX12_rules_11 : decode cX12_rules 11 = .ok (.getfield 54, 3) := by decide +kernel
theorem dX12_rules_14 : decode cX12_rules 14 = .ok (.aload_n 0, 1) := by decide +kernel
theorem dX12_rules_15 : decode cX12_rules 15 = .ok (.getfield 51, 3) := by decide +kernel
theorem dX12_rules_18 : decode cX12_rules 18 = .ok (.iconst 0, 1) := by decide +kernel
theorem dX12_rules_19 : decode cX12_rules 19 = .ok (.iastore, 1) := by decide +kernel
theorem dX12_rules_20 : decode cX12_rules 20 = .ok (.aload_n 0, 1) := by decide +kernel
theorem dX12_rules_21 : decode cX12_rules 21 = .ok (.getfield 57, 3) := by decide +kernel
theorem dX12_rules_24 : decode cX12_rules 24 = .ok (.aload_n 0, 1) := by decide +kernel
theorem dX12_rules_25 : decode cX12_rules 25 = .ok (.getfield 51, 3) := by decide +kernel
theorem dX12_rules_28 : decode cX12_rules 28 = .ok (.iconst 0, 1) := by decide +kernel
theorem dX12_rules_29 : decode cX12_rules 29 = .ok (.iastore, 1) := by decide +kernel
theorem dX12_rules_30 : decode cX12_rules 30 = .ok (.aload_n 0, 1) := by decide +kernel
theorem dX12_rules_31 : decode cX12_rules 31 = .ok (.getfield 60, 3) := by decide +kernel
theorem dX12_rules_34 : decode cX12_rules 34 = .ok (.aload_n 0, 1) := by decide +kernel
theorem dX12_rules_35 : decode cX12_rules 35 = .ok (.getfield 51, 3) := by decide +kernel
theorem dX12_rules_38 : decode cX12_rules 38 = .ok (.iconst 0, 1) := by decide +kernel
theorem dX12_rules_39 : decode cX12_rules 39 = .ok (.iastore, 1) := by decide +kernel
theorem dX12_rules_40 : decode cX12_rules 40 = .ok (.aload_n 0, 1) := by decide +kernel
theorem dX12_rules_41 : decode cX12_rules 41 = .ok (.getfield 63, 3) := by decide +kernel
theorem dX12_rules_44 : decode cX12_rules 44 = .ok (.aload_n 0, 1) := by decide +kernel
theorem dX12_rules_45 : decode cX12_rules 45 = .ok (.getfield 51, 3) := by decide +kernel
theorem dX12_rules_48 : decode cX12_rules 48 = .ok (.sipush 1000, 3) := by decide +kernel
theorem dX12_rules_51 : decode cX12_rules 51 = .ok (.iastore, 1) := by decide +kernel
theorem dX12_rules_52 : decode cX12_rules 52 = .ok (.aload_n 0, 1) := by decide +kernel
theorem dX12_rules_53 : decode cX12_rules 53 = .ok (.getfield 91, 3) := by decide +kernel
theorem dX12_rules_56 : decode cX12_rules 56 = .ok (.aload_n 0, 1) := by decide +kernel
theorem dX12_rules_57 : decode cX12_rules 57 = .ok (.getfield 51, 3) := by decide +kernel
theorem dX12_rules_60 : decode cX12_rules 60 = .ok (.iconst 0, 1) := by decide +kernel
theorem dX12_rules_61 : decode cX12_rules 61 = .ok (.iastore, 1) := by decide +kernel
theorem dX12_rules_62 : decode cX12_rules 62 = .ok (.aload_n 0, 1) := by decide +kernel
theorem dX12_rules_63 : decode cX12_rules 63 = .ok (.invokevirtual 439, 3) := by decide +kernel
theorem dX12_rules_66 : decode cX12_rules 66 = .ok (.iconst 0, 1) := by decide +kernel
theorem dX12_rules_67 : decode cX12_rules 67 = .ok (.istore_n 1, 1) := by decide +kernel
theorem dX12_rules_68 : decode cX12_rules 68 = .ok (.aload_n 0, 1) := by decide +kernel
theorem dX12_rules_69 : decode cX12_rules 69 = .ok (.getfield 36, 3) := by decide +kernel
theorem dX12_rules_72 : decode cX12_rules 72 = .ok (.ifCond .ne 20, 3) := by decide +kernel
theorem dX12_rules_75 : decode cX12_rules 75 = .ok (.aload_n 0, 1) := by decide +kernel
theorem dX12_rules_76 : decode cX12_rules 76 = .ok (.getfield 20, 3) := by decide +kernel
theorem dX12_rules_79 : decode cX12_rules 79 = .ok (.ifCond .eq 13, 3) := by decide +kernel
theorem dX12_rules_82 : decode cX12_rules 82 = .ok (.aload_n 0, 1) := by decide +kernel
theorem dX12_rules_83 : decode cX12_rules 83 = .ok (.invokevirtual 442, 3) := by decide +kernel
theorem dX12_rules_86 : decode cX12_rules 86 = .ok (.iinc 1 1, 3) := by decide +kernel
theorem dX12_rules_89 : decode cX12_rules 89 = .ok (.goto (-21), 3) := by decide +kernel
theorem dX12_rules_92 : decode cX12_rules 92 = .ok (.aload_n 0, 1) := by decide +kernel
theorem dX12_rules_93 : decode cX12_rules 93 = .ok (.aload_n 0, 1) := by decide +kernel
theorem dX12_rules_94 : decode cX12_rules 94 = .ok (.getfield 36, 3) := by decide +kernel
theorem dX12_rules_97 : decode cX12_rules 97 = .ok (.putfield 42, 3) := by decide +kernel
theorem dX12_rules_100 : decode cX12_rules 100 = .ok (.aload_n 0, 1) := by decide +kernel
theorem dX12_rules_101 : decode cX12_rules 101 = .ok (.aload_n 0, 1) := by decide +kernel
theorem dX12_rules_102 : decode cX12_rules 102 = .ok (.getfield 39, 3) := by decide +kernel
theorem dX12_rules_105 : decode cX12_rules 105 = .ok (.putfield 45, 3) := by decide +kernel
theorem dX12_rules_108 : decode cX12_rules 108 = .ok (.aload_n 0, 1) := by decide +kernel
theorem dX12_rules_109 : decode cX12_rules 109 = .ok (.getfield 36, 3) := by decide +kernel
theorem dX12_rules_112 : decode cX12_rules 112 = .ok (.ifCond .le 5, 3) := by decide +kernel
theorem dX12_rules_115 : decode cX12_rules 115 = .ok (.iconst (-1), 1) := by decide +kernel
theorem dX12_rules_116 : decode cX12_rules 116 = .ok (.ireturn, 1) := by decide +kernel
theorem dX12_rules_117 : decode cX12_rules 117 = .ok (.aload_n 0, 1) := by decide +kernel
theorem dX12_rules_118 : decode cX12_rules 118 = .ok (.aload_n 0, 1) := by decide +kernel
theorem dX12_rules_119 : decode cX12_rules 119 = .ok (.getfield 51, 3) := by decide +kernel
theorem dX12_rules_122 : decode cX12_rules 122 = .ok (.putfield 48, 3) := by decide +kernel
theorem dX12_rules_125 : decode cX12_rules 125 = .ok (.aload_n 0, 1) := by decide +kernel
theorem dX12_rules_126 : decode cX12_rules 126 = .ok (.iconst 0, 1) := by decide +kernel
theorem dX12_rules_127 : decode cX12_rules 127 = .ok (.putfield 126, 3) := by decide +kernel
theorem dX12_rules_130 : decode cX12_rules 130 = .ok (.aload_n 0, 1) := by decide +kernel
theorem dX12_rules_131 : decode cX12_rules 131 = .ok (.iconst 0, 1) := by decide +kernel
theorem dX12_rules_132 : decode cX12_rules 132 = .ok (.putfield 129, 3) := by decide +kernel
theorem dX12_rules_135 : decode cX12_rules 135 = .ok (.aload_n 0, 1) := by decide +kernel
theorem dX12_rules_136 : decode cX12_rules 136 = .ok (.iconst (-1), 1) := by decide +kernel
theorem dX12_rules_137 : decode cX12_rules 137 = .ok (.putfield 132, 3) := by decide +kernel
theorem dX12_rules_140 : decode cX12_rules 140 = .ok (.aload_n 0, 1) := by decide +kernel
theorem dX12_rules_141 : decode cX12_rules 141 = .ok (.iconst 0, 1) := by decide +kernel
theorem dX12_rules_142 : decode cX12_rules 142 = .ok (.putfield 219, 3) := by decide +kernel
theorem dX12_rules_145 : decode cX12_rules 145 = .ok (.iload_n 1, 1) := by decide +kernel
theorem dX12_rules_146 : decode cX12_rules 146 = .ok (.ireturn, 1) := by decide +kernel
theorem dX12_settles_0 : decode cX12_settles 0 = .ok (.aload_n 0, 1) := by decide +kernel
theorem dX12_settles_1 : decode cX12_settles 1 = .ok (.iconst 0, 1) := by decide +kernel
theorem dX12_settles_2 : decode cX12_settles 2 = .ok (.iconst 1, 1) := by decide +kernel
theorem dX12_settles_3 : decode cX12_settles 3 = .ok (.invokevirtual 527, 3) := by decide +kernel
theorem dX12_settles_6 : decode cX12_settles 6 = .ok (.ifCond .eq 12, 3) := by decide +kernel
theorem dX12_settles_9 : decode cX12_settles 9 = .ok (.aload_n 0, 1) := by decide +kernel
theorem dX12_settles_10 : decode cX12_settles 10 = .ok (.iconst 0, 1) := by decide +kernel
theorem dX12_settles_11 : decode cX12_settles 11 = .ok (.iconst 1, 1) := by decide +kernel
theorem dX12_settles_12 : decode cX12_settles 12 = .ok (.invokevirtual 530, 3) := by decide +kernel
theorem dX12_settles_15 : decode cX12_settles 15 = .ok (.goto (-15), 3) := by decide +kernel
theorem dX12_settles_18 : decode cX12_settles 18 = .ok (.iconst 0, 1) := by decide +kernel
theorem dX12_settles_19 : decode cX12_settles 19 = .ok (.istore_n 1, 1) := by decide +kernel
theorem dX12_settles_20 : decode cX12_settles 20 = .ok (.iload_n 1, 1) := by decide +kernel
theorem dX12_settles_21 : decode cX12_settles 21 = .ok (.sipush 400, 3) := by decide +kernel
theorem dX12_settles_24 : decode cX12_settles 24 = .ok (.if_icmp .ge 155, 3) := by decide +kernel
theorem dX12_settles_27 : decode cX12_settles 27 = .ok (.aload_n 0, 1) := by decide +kernel
theorem dX12_settles_28 : decode cX12_settles 28 = .ok (.getfield 213, 3) := by decide +kernel
theorem dX12_settles_31 : decode cX12_settles 31 = .ok (.iload_n 1, 1) := by decide +kernel
theorem dX12_settles_32 : decode cX12_settles 32 = .ok (.iconst 0, 1) := by decide +kernel
theorem dX12_settles_33 : decode cX12_settles 33 = .ok (.bastore, 1) := by decide +kernel
theorem dX12_settles_34 : decode cX12_settles 34 = .ok (.aload_n 0, 1) := by decide +kernel
theorem dX12_settles_35 : decode cX12_settles 35 = .ok (.getfield 210, 3) := by decide +kernel
theorem dX12_settles_38 : decode cX12_settles 38 = .ok (.iload_n 1, 1) := by decide +kernel
theorem dX12_settles_39 : decode cX12_settles 39 = .ok (.iaload, 1) := by decide +kernel
theorem dX12_settles_40 : decode cX12_settles 40 = .ok (.istore_n 2, 1) := by decide +kernel
theorem dX12_settles_41 : decode cX12_settles 41 = .ok (.iload_n 2, 1) := by decide +kernel
theorem dX12_settles_42 : decode cX12_settles 42 = .ok (.ifCond .ge 6, 3) := by decide +kernel
theorem dX12_settles_45 : decode cX12_settles 45 = .ok (.goto 128, 3) := by decide +kernel
theorem dX12_settles_48 : decode cX12_settles 48 = .ok (.aload_n 0, 1) := by decide +kernel
theorem dX12_settles_49 : decode cX12_settles 49 = .ok (.getfield 195, 3) := by decide +kernel
theorem dX12_settles_52 : decode cX12_settles 52 = .ok (.iload_n 2, 1) := by decide +kernel
theorem dX12_settles_53 : decode cX12_settles 53 = .ok (.iaload, 1) := by decide +kernel
theorem dX12_settles_54 : decode cX12_settles 54 = .ok (.ifCond .le 83, 3) := by decide +kernel
theorem dX12_settles_57 : decode cX12_settles 57 = .ok (.aload_n 0, 1) := by decide +kernel
theorem dX12_settles_58 : decode cX12_settles 58 = .ok (.aload_n 0, 1) := by decide +kernel
theorem dX12_settles_59 : decode cX12_settles 59 = .ok (.getfield 192, 3) := by decide +kernel
theorem dX12_settles_62 : decode cX12_settles 62 = .ok (.iload_n 2, 1) := by decide +kernel
theorem dX12_settles_63 : decode cX12_settles 63 = .ok (.iaload, 1) := by decide +kernel
theorem dX12_settles_64 : decode cX12_settles 64 = .ok (.aload_n 0, 1) := by decide +kernel
theorem dX12_settles_65 : decode cX12_settles 65 = .ok (.getfield 189, 3) := by decide +kernel
theorem dX12_settles_68 : decode cX12_settles 68 = .ok (.iload_n 2, 1) := by decide +kernel
theorem dX12_settles_69 : decode cX12_settles 69 = .ok (.iaload, 1) := by decide +kernel
theorem dX12_settles_70 : decode cX12_settles 70 = .ok (.invokevirtual 527, 3) := by decide +kernel
theorem dX12_settles_73 : decode cX12_settles 73 = .ok (.ifCond .eq 64, 3) := by decide +kernel
theorem dX12_settles_76 : decode cX12_settles 76 = .ok (.aload_n 0, 1) := by decide +kernel
theorem dX12_settles_77 : decode cX12_settles 77 = .ok (.getfield 204, 3) := by decide +kernel
theorem dX12_settles_80 : decode cX12_settles 80 = .ok (.aload_n 0, 1) := by decide +kernel
theorem dX12_settles_81 : decode cX12_settles 81 = .ok (.getfield 189, 3) := by decide +kernel
theorem dX12_settles_84 : decode cX12_settles 84 = .ok (.iload_n 2, 1) := by decide +kernel
theorem dX12_settles_85 : decode cX12_settles 85 = .ok (.iaload, 1) := by decide +kernel
theorem dX12_settles_86 : decode cX12_settles 86 = .ok (.laload, 1) := by decide +kernel
theorem dX12_settles_87 : decode cX12_settles 87 = .ok (.aload_n 0, 1) := by decide +kernel
theorem dX12_settles_88 : decode cX12_settles 88 = .ok (.getfield 198, 3) := by decide +kernel
theorem dX12_settles_91 : decode cX12_settles 91 = .ok (.iload_n 2, 1) := by decide +kernel
theorem dX12_settles_92 : decode cX12_settles 92 = .ok (.laload, 1) := by decide +kernel
theorem dX12_settles_93 : decode cX12_settles 93 = .ok (.ladd, 1) := by decide +kernel
theorem dX12_settles_94 : decode cX12_settles 94 = .ok (.lconst 0, 1) := by decide +kernel
theorem dX12_settles_95 : decode cX12_settles 95 = .ok (.lcmp, 1) := by decide +kernel
theorem dX12_settles_96 : decode cX12_settles 96 = .ok (.ifCond .ne 41, 3) := by decide +kernel
theorem dX12_settles_99 : decode cX12_settles 99 = .ok (.aload_n 0, 1) := by decide +kernel
theorem dX12_settles_100 : decode cX12_settles 100 = .ok (.aload_n 0, 1) := by decide +kernel
theorem dX12_settles_101 : decode cX12_settles 101 = .ok (.getfield 192, 3) := by decide +kernel
theorem dX12_settles_104 : decode cX12_settles 104 = .ok (.iload_n 2, 1) := by decide +kernel
theorem dX12_settles_105 : decode cX12_settles 105 = .ok (.iaload, 1) := by decide +kernel
theorem dX12_settles_106 : decode cX12_settles 106 = .ok (.aload_n 0, 1) := by decide +kernel
theorem dX12_settles_107 : decode cX12_settles 107 = .ok (.getfield 189, 3) := by decide +kernel
theorem dX12_settles_110 : decode cX12_settles 110 = .ok (.iload_n 2, 1) := by decide +kernel
theorem dX12_settles_111 : decode cX12_settles 111 = .ok (.iaload, 1) := by decide +kernel
theorem dX12_settles_112 : decode cX12_settles 112 = .ok (.invokevirtual 530, 3) := by decide +kernel
theorem dX12_settles_115 : decode cX12_settles 115 = .ok (.aload_n 0, 1) := by decide +kernel
theorem dX12_settles_116 : decode cX12_settles 116 = .ok (.getfield 195, 3) := by decide +kernel
theorem dX12_settles_119 : decode cX12_settles 119 = .ok (.iload_n 2, 1) := by decide +kernel
theorem dX12_settles_120 : decode cX12_settles 120 = .ok (.dup2, 1) := by decide +kernel
theorem dX12_settles_121 : decode cX12_settles 121 = .ok (.iaload, 1) := by decide +kernel
theorem dX12_settles_122 : decode cX12_settles 122 = .ok (.iconst 1, 1) := by decide +kernel
theorem dX12_settles_123 : decode cX12_settles 123 = .ok (.isub, 1) := by decide +kernel
theorem dX12_settles_124 : decode cX12_settles 124 = .ok (.iastore, 1) := by decide +kernel
theorem dX12_settles_125 : decode cX12_settles 125 = .ok (.aload_n 0, 1) := by decide +kernel
theorem dX12_settles_126 : decode cX12_settles 126 = .ok (.getfield 195, 3) := by decide +kernel
theorem dX12_settles_129 : decode cX12_settles 129 = .ok (.iload_n 2, 1) := by decide +kernel
theorem dX12_settles_130 : decode cX12_settles 130 = .ok (.iconst 1, 1) := by decide +kernel
theorem dX12_settles_131 : decode cX12_settles 131 = .ok (.iadd, 1) := by decide +kernel
theorem dX12_settles_132 : decode cX12_settles 132 = .ok (.dup2, 1) := by decide +kernel
theorem dX12_settles_133 : decode cX12_settles 133 = .ok (.iaload, 1) := by decide +kernel
theorem dX12_settles_134 : decode cX12_settles 134 = .ok (.iconst 1, 1) := by decide +kernel
theorem dX12_settles_135 : decode cX12_settles 135 = .ok (.iadd, 1) := by decide +kernel
theorem dX12_settles_136 : decode cX12_settles 136 = .ok (.iastore, 1) := by decide +kernel
theorem dX12_settles_137 : decode cX12_settles 137 = .ok (.aload_n 0, 1) := by decide +kernel
theorem dX12_settles_138 : decode cX12_settles 138 = .ok (.getfield 213, 3) := by decide +kernel
theorem dX12_settles_141 : decode cX12_settles 141 = .ok (.iload_n 1, 1) := by decide +kernel
theorem dX12_settles_142 : decode cX12_settles 142 = .ok (.aload_n 0, 1) := by decide +kernel
theorem dX12_settles_143 : decode cX12_settles 143 = .ok (.getfield 195, 3) := by decide +kernel
theorem dX12_settles_146 : decode cX12_settles 146 = .ok (.iload_n 2, 1) := by decide +kernel
theorem dX12_settles_147 : decode cX12_settles 147 = .ok (.iaload, 1) := by decide +kernel
theorem dX12_settles_148 : decode cX12_settles 148 = .ok (.ifCond .ne 7, 3) := by decide +kernel
theorem dX12_settles_151 : decode cX12_settles 151 = .ok (.iconst 1, 1) := by decide +kernel
theorem dX12_settles_152 : decode cX12_settles 152 = .ok (.goto 4, 3) := by decide +kernel
theorem dX12_settles_155 : decode cX12_settles 155 = .ok (.iconst 0, 1) := by decide +kernel
theorem dX12_settles_156 : decode cX12_settles 156 = .ok (.bastore, 1) := by decide +kernel
theorem dX12_settles_157 : decode cX12_settles 157 = .ok (.aload_n 0, 1) := by decide +kernel
theorem dX12_settles_158 : decode cX12_settles 158 = .ok (.getfield 195, 3) := by decide +kernel
theorem dX12_settles_161 : decode cX12_settles 161 = .ok (.iload_n 2, 1) := by decide +kernel
theorem dX12_settles_162 : decode cX12_settles 162 = .ok (.iconst 0, 1) := by decide +kernel
theorem dX12_settles_163 : decode cX12_settles 163 = .ok (.iastore, 1) := by decide +kernel
theorem dX12_settles_164 : decode cX12_settles 164 = .ok (.aload_n 0, 1) := by decide +kernel
theorem dX12_settles_165 : decode cX12_settles 165 = .ok (.getfield 195, 3) := by decide +kernel
theorem dX12_settles_168 : decode cX12_settles 168 = .ok (.iload_n 2, 1) := by decide +kernel
theorem dX12_settles_169 : decode cX12_settles 169 = .ok (.iconst 1, 1) := by decide +kernel
theorem dX12_settles_170 : decode cX12_settles 170 = .ok (.iadd, 1) := by decide +kernel
theorem dX12_settles_171 : decode cX12_settles 171 = .ok (.iconst 0, 1) := by decide +kernel
theorem dX12_settles_172 : decode cX12_settles 172 = .ok (.iastore, 1) := by decide +kernel
theorem dX12_settles_173 : decode cX12_settles 173 = .ok (.iinc 1 1, 3) := by decide +kernel
theorem dX12_settles_176 : decode cX12_settles 176 = .ok (.goto (-156), 3) := by decide +kernel
theorem dX12_settles_179 : decode cX12_settles 179 = .ok (.return_, 1) := by decide +kernel
theorem dX12_spend_0 : decode cX12_spend 0 = .ok (.aload_n 0, 1) := by decide +kernel
theorem dX12_spend_1 : decode cX12_spend 1 = .ok (.getfield 219, 3) := by decide +kernel
theorem dX12_spend_4 : decode cX12_spend 4 = .ok (.ifCond .eq 21, 3) := by decide +kernel
theorem dX12_spend_7 : decode cX12_spend 7 = .ok (.aload_n 0, 1) := by decide +kernel
theorem dX12_spend_8 : decode cX12_spend 8 = .ok (.getfield 255, 3) := by decide +kernel
theorem dX12_spend_11 : decode cX12_spend 11 = .ok (.ifCond .ne 14, 3) := by decide +kernel
theorem dX12_spend_14 : decode cX12_spend 14 = .ok (.iload_n 1, 1) := by decide +kernel
theorem dX12_spend_15 : decode cX12_spend 15 = .ok (.iconst 0, 1) := by decide +kernel
theorem dX12_spend_16 : decode cX12_spend 16 = .ok (.ldc_w 568, 3) := by decide +kernel
theorem dX12_spend_19 : decode cX12_spend 19 = .ok (.invokestatic 322, 3) := by decide +kernel
theorem dX12_spend_22 : decode cX12_spend 22 = .ok (.ifCond .ne 5, 3) := by decide +kernel
theorem dX12_spend_25 : decode cX12_spend 25 = .ok (.iconst (-1), 1) := by decide +kernel
theorem dX12_spend_26 : decode cX12_spend 26 = .ok (.ireturn, 1) := by decide +kernel
theorem dX12_spend_27 : decode cX12_spend 27 = .ok (.iconst 0, 1) := by decide +kernel
theorem dX12_spend_28 : decode cX12_spend 28 = .ok (.istore_n 2, 1) := by decide +kernel
theorem dX12_spend_29 : decode cX12_spend 29 = .ok (.iload_n 2, 1) := by decide +kernel
theorem dX12_spend_30 : decode cX12_spend 30 = .ok (.aload_n 0, 1) := by decide +kernel
theorem dX12_spend_31 : decode cX12_spend 31 = .ok (.getfield 222, 3) := by decide +kernel
theorem dX12_spend_34 : decode cX12_spend 34 = .ok (.if_icmp .ge 41, 3) := by decide +kernel
theorem dX12_spend_37 : decode cX12_spend 37 = .ok (.aload_n 0, 1) := by decide +kernel
theorem dX12_spend_38 : decode cX12_spend 38 = .ok (.getfield 273, 3) := by decide +kernel
theorem dX12_spend_41 : decode cX12_spend 41 = .ok (.iload_n 2, 1) := by decide +kernel
theorem dX12_spend_42 : decode cX12_spend 42 = .ok (.aload_n 0, 1) := by decide +kernel
theorem dX12_spend_43 : decode cX12_spend 43 = .ok (.iload_n 2, 1) := by decide +kernel
theorem dX12_spend_44 : decode cX12_spend 44 = .ok (.invokevirtual 559, 3) := by decide +kernel
theorem dX12_spend_47 : decode cX12_spend 47 = .ok (.bastore, 1) := by decide +kernel
theorem dX12_spend_48 : decode cX12_spend 48 = .ok (.aload_n 0, 1) := by decide +kernel
theorem dX12_spend_49 : decode cX12_spend 49 = .ok (.getfield 267, 3) := by decide +kernel
theorem dX12_spend_52 : decode cX12_spend 52 = .ok (.iload_n 2, 1) := by decide +kernel
theorem dX12_spend_53 : decode cX12_spend 53 = .ok (.aload_n 0, 1) := by decide +kernel
theorem dX12_spend_54 : decode cX12_spend 54 = .ok (.iload_n 2, 1) := by decide +kernel
theorem dX12_spend_55 : decode cX12_spend 55 = .ok (.invokevirtual 565, 3) := by decide +kernel
theorem dX12_spend_58 : decode cX12_spend 58 = .ok (.iastore, 1) := by decide +kernel
theorem dX12_spend_59 : decode cX12_spend 59 = .ok (.aload_n 0, 1) := by decide +kernel
theorem dX12_spend_60 : decode cX12_spend 60 = .ok (.getfield 270, 3) := by decide +kernel
theorem dX12_spend_63 : decode cX12_spend 63 = .ok (.iload_n 2, 1) := by decide +kernel
theorem dX12_spend_64 : decode cX12_spend 64 = .ok (.aload_n 0, 1) := by decide +kernel
theorem dX12_spend_65 : decode cX12_spend 65 = .ok (.getfield 264, 3) := by decide +kernel
theorem dX12_spend_68 : decode cX12_spend 68 = .ok (.iastore, 1) := by decide +kernel
theorem dX12_spend_69 : decode cX12_spend 69 = .ok (.iinc 2 1, 3) := by decide +kernel
theorem dX12_spend_72 : decode cX12_spend 72 = .ok (.goto (-43), 3) := by decide +kernel
theorem dX12_spend_75 : decode cX12_spend 75 = .ok (.aload_n 0, 1) := by decide +kernel
theorem dX12_spend_76 : decode cX12_spend 76 = .ok (.iconst 1, 1) := by decide +kernel
theorem dX12_spend_77 : decode cX12_spend 77 = .ok (.putfield 255, 3) := by decide +kernel
theorem dX12_spend_80 : decode cX12_spend 80 = .ok (.aload_n 0, 1) := by decide +kernel
theorem dX12_spend_81 : decode cX12_spend 81 = .ok (.iconst 0, 1) := by decide +kernel
theorem dX12_spend_82 : decode cX12_spend 82 = .ok (.putfield 258, 3) := by decide +kernel
theorem dX12_spend_85 : decode cX12_spend 85 = .ok (.iconst 0, 1) := by decide +kernel
theorem dX12_spend_86 : decode cX12_spend 86 = .ok (.istore_n 2, 1) := by decide +kernel
theorem dX12_spend_87 : decode cX12_spend 87 = .ok (.iconst 1, 1) := by decide +kernel
theorem dX12_spend_88 : decode cX12_spend 88 = .ok (.istore_n 3, 1) := by decide +kernel
theorem dX12_spend_89 : decode cX12_spend 89 = .ok (.iload_n 3, 1) := by decide +kernel
theorem dX12_spend_90 : decode cX12_spend 90 = .ok (.ifCond .eq 153, 3) := by decide +kernel
theorem dX12_spend_93 : decode cX12_spend 93 = .ok (.iconst (-1), 1) := by decide +kernel
theorem dX12_spend_94 : decode cX12_spend 94 = .ok (.istore 4, 2) := by decide +kernel
theorem dX12_spend_96 : decode cX12_spend 96 = .ok (.iconst 0, 1) := by decide +kernel
theorem dX12_spend_97 : decode cX12_spend 97 = .ok (.istore 5, 2) := by decide +kernel
theorem dX12_spend_99 : decode cX12_spend 99 = .ok (.iload 5, 2) := by decide +kernel
theorem dX12_spend_101 : decode cX12_spend 101 = .ok (.aload_n 0, 1) := by decide +kernel
theorem dX12_spend_102 : decode cX12_spend 102 = .ok (.getfield 222, 3) := by decide +kernel
theorem dX12_spend_105 : decode cX12_spend 105 = .ok (.if_icmp .ge 56, 3) := by decide +kernel
theorem dX12_spend_108 : decode cX12_spend 108 = .ok (.aload_n 0, 1) := by decide +kernel
theorem dX12_spend_109 : decode cX12_spend 109 = .ok (.getfield 273, 3) := by decide +kernel
theorem dX12_spend_112 : decode cX12_spend 112 = .ok (.iload 5, 2) := by decide +kernel
theorem dX12_spend_114 : decode cX12_spend 114 = .ok (.baload, 1) := by decide +kernel
theorem dX12_spend_115 : decode cX12_spend 115 = .ok (.ifCond .ne 40, 3) := by decide +kernel
theorem dX12_spend_118 : decode cX12_spend 118 = .ok (.aload_n 0, 1) := by decide +kernel
theorem dX12_spend_119 : decode cX12_spend 119 = .ok (.getfield 267, 3) := by decide +kernel
theorem dX12_spend_122 : decode cX12_spend 122 = .ok (.iload 5, 2) := by decide +kernel
theorem dX12_spend_124 : decode cX12_spend 124 = .ok (.iaload, 1) := by decide +kernel
theorem dX12_spend_125 : decode cX12_spend 125 = .ok (.ifCond .lt 30, 3) := by decide +kernel
theorem dX12_spend_128 : decode cX12_spend 128 = .ok (.iload 4, 2) := by decide +kernel
theorem dX12_spend_130 : decode cX12_spend 130 = .ok (.iconst (-1), 1) := by decide +kernel
theorem dX12_spend_131 : decode cX12_spend 131 = .ok (.if_icmp .eq 20, 3) := by decide +kernel
theorem dX12_spend_134 : decode cX12_spend 134 = .ok (.aload_n 0, 1) := by decide +kernel
theorem dX12_spend_135 : decode cX12_spend 135 = .ok (.getfield 267, 3) := by decide +kernel
theorem dX12_spend_138 : decode cX12_spend 138 = .ok (.iload 5, 2) := by decide +kernel
theorem dX12_spend_140 : decode cX12_spend 140 = .ok (.iaload, 1) := by decide +kernel
theorem dX12_spend_141 : decode cX12_spend 141 = .ok (.aload_n 0, 1) := by decide +kernel
theorem dX12_spend_142 : decode cX12_spend 142 = .ok (.getfield 267, 3) := by decide +kernel
theorem dX12_spend_145 : decode cX12_spend 145 = .ok (.iload 4, 2) := by decide +kernel
theorem dX12_spend_147 : decode cX12_spend 147 = .ok (.iaload, 1) := by decide +kernel
theorem dX12_spend_148 : decode cX12_spend 148 = .ok (.if_icmp .ge 7, 3) := by decide +kernel
theorem dX12_spend_151 : decode cX12_spend 151 = .ok (.iload 5, 2) := by decide +kernel
theorem dX12_spend_153 : decode cX12_spend 153 = .ok (.istore 4, 2) := by decide +kernel
theorem dX12_spend_155 : decode cX12_spend 155 = .ok (.iinc 5 1, 3) := by decide +kernel
theorem dX12_spend_158 : decode cX12_spend 158 = .ok (.goto (-59), 3) := by decide +kernel
theorem dX12_spend_161 : decode cX12_spend 161 = .ok (.iload 4, 2) := by decide +kernel
theorem dX12_spend_163 : decode cX12_spend 163 = .ok (.iconst (-1), 1) := by decide +kernel
theorem dX12_spend_164 : decode cX12_spend 164 = .ok (.if_icmp .eq 23, 3) := by decide +kernel
theorem dX12_spend_167 : decode cX12_spend 167 = .ok (.aload_n 0, 1) := by decide +kernel
theorem dX12_spend_168 : decode cX12_spend 168 = .ok (.getfield 258, 3) := by decide +kernel
theorem dX12_spend_171 : decode cX12_spend 171 = .ok (.aload_n 0, 1) := by decide +kernel
theorem dX12_spend_172 : decode cX12_spend 172 = .ok (.getfield 267, 3) := by decide +kernel
theorem dX12_spend_175 : decode cX12_spend 175 = .ok (.iload 4, 2) := by decide +kernel
theorem dX12_spend_177 : decode cX12_spend 177 = .ok (.iaload, 1) := by decide +kernel
theorem dX12_spend_178 : decode cX12_spend 178 = .ok (.iadd, 1) := by decide +kernel
theorem dX12_spend_179 : decode cX12_spend 179 = .ok (.iload_n 1, 1) := by decide +kernel
theorem dX12_spend_180 : decode cX12_spend 180 = .ok (.if_icmp .gt 7, 3) := by decide +kernel
theorem dX12_spend_183 : decode cX12_spend 183 = .ok (.iconst 1, 1) := by decide +kernel
theorem dX12_spend_184 : decode cX12_spend 184 = .ok (.goto 4, 3) := by decide +kernel
theorem dX12_spend_187 : decode cX12_spend 187 = .ok (.iconst 0, 1) := by decide +kernel
theorem dX12_spend_188 : decode cX12_spend 188 = .ok (.istore_n 3, 1) := by decide +kernel
theorem dX12_spend_189 : decode cX12_spend 189 = .ok (.iload_n 3, 1) := by decide +kernel
theorem dX12_spend_190 : decode cX12_spend 190 = .ok (.ifCond .ne 6, 3) := by decide +kernel
theorem dX12_spend_193 : decode cX12_spend 193 = .ok (.goto (-104), 3) := by decide +kernel
theorem dX12_spend_196 : decode cX12_spend 196 = .ok (.aload_n 0, 1) := by decide +kernel
theorem dX12_spend_197 : decode cX12_spend 197 = .ok (.getfield 273, 3) := by decide +kernel
theorem dX12_spend_200 : decode cX12_spend 200 = .ok (.iload 4, 2) := by decide +kernel
theorem dX12_spend_202 : decode cX12_spend 202 = .ok (.iconst 1, 1) := by decide +kernel
theorem dX12_spend_203 : decode cX12_spend 203 = .ok (.bastore, 1) := by decide +kernel
theorem dX12_spend_204 : decode cX12_spend 204 = .ok (.aload_n 0, 1) := by decide +kernel
theorem dX12_spend_205 : decode cX12_spend 205 = .ok (.getfield 243, 3) := by decide +kernel
theorem dX12_spend_208 : decode cX12_spend 208 = .ok (.iload 4, 2) := by decide +kernel
theorem dX12_spend_210 : decode cX12_spend 210 = .ok (.dup2, 1) := by decide +kernel
theorem dX12_spend_211 : decode cX12_spend 211 = .ok (.iaload, 1) := by decide +kernel
theorem dX12_spend_212 : decode cX12_spend 212 = .ok (.aload_n 0, 1) := by decide +kernel
theorem dX12_spend_213 : decode cX12_spend 213 = .ok (.getfield 270, 3) := by decide +kernel
theorem dX12_spend_216 : decode cX12_spend 216 = .ok (.iload 4, 2) := by decide +kernel
theorem dX12_spend_218 : decode cX12_spend 218 = .ok (.iaload, 1) := by decide +kernel
theorem dX12_spend_219 : decode cX12_spend 219 = .ok (.ior, 1) := by decide +kernel
theorem dX12_spend_220 : decode cX12_spend 220 = .ok (.iastore, 1) := by decide +kernel
theorem dX12_spend_221 : decode cX12_spend 221 = .ok (.aload_n 0, 1) := by decide +kernel
theorem dX12_spend_222 : decode cX12_spend 222 = .ok (.dup, 1) := by decide +kernel
theorem dX12_spend_223 : decode cX12_spend 223 = .ok (.getfield 258, 3) := by decide +kernel
theorem dX12_spend_226 : decode cX12_spend 226 = .ok (.aload_n 0, 1) := by decide +kernel
theorem dX12_spend_227 : decode cX12_spend 227 = .ok (.getfield 267, 3) := by decide +kernel
theorem dX12_spend_230 : decode cX12_spend 230 = .ok (.iload 4, 2) := by decide +kernel
theorem dX12_spend_232 : decode cX12_spend 232 = .ok (.iaload, 1) := by decide +kernel
theorem dX12_spend_233 : decode cX12_spend 233 = .ok (.iadd, 1) := by decide +kernel
theorem dX12_spend_234 : decode cX12_spend 234 = .ok (.putfield 258, 3) := by decide +kernel
theorem dX12_spend_237 : decode cX12_spend 237 = .ok (.iinc 2 1, 3) := by decide +kernel
theorem dX12_spend_240 : decode cX12_spend 240 = .ok (.goto (-151), 3) := by decide +kernel
theorem dX12_spend_243 : decode cX12_spend 243 = .ok (.iload_n 2, 1) := by decide +kernel
theorem dX12_spend_244 : decode cX12_spend 244 = .ok (.ireturn, 1) := by decide +kernel
theorem dX12_spent_0 : decode cX12_spent 0 = .ok (.aload_n 0, 1) := by decide +kernel
theorem dX12_spent_1 : decode cX12_spent 1 = .ok (.getfield 219, 3) := by decide +kernel
theorem dX12_spent_4 : decode cX12_spent 4 = .ok (.ifCond .eq 17, 3) := by decide +kernel
theorem dX12_spent_7 : decode cX12_spent 7 = .ok (.aload_n 0, 1) := by decide +kernel
theorem dX12_spent_8 : decode cX12_spent 8 = .ok (.getfield 255, 3) := by decide +kernel
theorem dX12_spent_11 : decode cX12_spent 11 = .ok (.ifCond .eq 10, 3) := by decide +kernel
theorem dX12_spent_14 : decode cX12_spent 14 = .ok (.aload_n 0, 1) := by decide +kernel
theorem dX12_spent_15 : decode cX12_spent 15 = .ok (.getfield 258, 3) := by decide +kernel
theorem dX12_spent_18 : decode cX12_spent 18 = .ok (.goto 4, 3) := by decide +kernel
theorem dX12_spent_21 : decode cX12_spent 21 = .ok (.iconst (-1), 1) := by decide +kernel
theorem dX12_spent_22 : decode cX12_spent 22 = .ok (.ireturn, 1) := by decide +kernel
theorem dX12_starts_0 : decode cX12_starts 0 = .ok (.aload_n 0, 1) := by decide +kernel
theorem dX12_starts_1 : decode cX12_starts 1 = .ok (.aload_n 0, 1) := by decide +kernel
theorem dX12_starts_2 : decode cX12_starts 2 = .ok (.getfield 13, 3) := by decide +kernel
theorem dX12_starts_5 : decode cX12_starts 5 = .ok (.putfield 17, 3) := by decide +kernel
theorem dX12_starts_8 : decode cX12_starts 8 = .ok (.aload_n 0, 1) := by decide +kernel
theorem dX12_starts_9 : decode cX12_starts 9 = .ok (.iconst 0, 1) := by decide +kernel
theorem dX12_starts_10 : decode cX12_starts 10 = .ok (.putfield 13, 3) := by decide +kernel
theorem dX12_starts_13 : decode cX12_starts 13 = .ok (.aload_n 0, 1) := by decide +kernel
theorem dX12_starts_14 : decode cX12_starts 14 = .ok (.iconst 0, 1) := by decide +kernel
theorem dX12_starts_15 : decode cX12_starts 15 = .ok (.putfield 26, 3) := by decide +kernel
theorem dX12_starts_18 : decode cX12_starts 18 = .ok (.aload_n 0, 1) := by decide +kernel
theorem dX12_starts_19 : decode cX12_starts 19 = .ok (.iconst 0, 1) := by decide +kernel
theorem dX12_starts_20 : decode cX12_starts 20 = .ok (.putfield 36, 3) := by decide +kernel
theorem dX12_starts_23 : decode cX12_starts 23 = .ok (.aload_n 0, 1) := by decide +kernel
theorem dX12_starts_24 : decode cX12_starts 24 = .ok (.iconst (-1), 1) := by decide +kernel
theorem dX12_starts_25 : decode cX12_starts 25 = .ok (.putfield 39, 3) := by decide +kernel
theorem dX12_starts_28 : decode cX12_starts 28 = .ok (.aload_n 0, 1) := by decide +kernel
theorem dX12_starts_29 : decode cX12_starts 29 = .ok (.invokevirtual 312, 3) := by decide +kernel
theorem dX12_starts_32 : decode cX12_starts 32 = .ok (.return_, 1) := by decide +kernel
theorem dX12_statement_0 : decode cX12_statement 0 = .ok (.aload_n 0, 1) := by decide +kernel
theorem dX12_statement_1 : decode cX12_statement 1 = .ok (.ldc2_w 326, 3) := by decide +kernel
theorem dX12_statement_4 : decode cX12_statement 4 = .ok (.invokevirtual 318, 3) := by decide +kernel
theorem dX12_statement_7 : decode cX12_statement 7 = .ok (.ifCond .eq 10, 3) := by decide +kernel
theorem dX12_statement_10 : decode cX12_statement 10 = .ok (.aload_n 0, 1) := by decide +kernel
theorem dX12_statement_11 : decode cX12_statement 11 = .ok (.invokevirtual 430, 3) := by decide +kernel
theorem dX12_statement_14 : decode cX12_statement 14 = .ok (.goto 84, 3) := by decide +kernel
theorem dX12_statement_17 : decode cX12_statement 17 = .ok (.aload_n 0, 1) := by decide +kernel
theorem dX12_statement_18 : decode cX12_statement 18 = .ok (.ldc2_w 336, 3) := by decide +kernel
theorem dX12_statement_21 : decode cX12_statement 21 = .ok (.invokevirtual 318, 3) := by decide +kernel
theorem dX12_statement_24 : decode cX12_statement 24 = .ok (.ifCond .eq 11, 3) := by decide +kernel
theorem dX12_statement_27 : decode cX12_statement 27 = .ok (.aload_n 0, 1) := by decide +kernel
theorem dX12_statement_28 : decode cX12_statement 28 = .ok (.iconst 0, 1) := by decide +kernel
theorem dX12_statement_29 : decode cX12_statement 29 = .ok (.invokevirtual 433, 3) := by decide +kernel
theorem dX12_statement_32 : decode cX12_statement 32 = .ok (.goto 66, 3) := by decide +kernel
theorem dX12_statement_35 : decode cX12_statement 35 = .ok (.aload_n 0, 1) := by decide +kernel
theorem dX12_statement_36 : decode cX12_statement 36 = .ok (.ldc2_w 340, 3) := by decide +kernel
theorem dX12_statement_39 : decode cX12_statement 39 = .ok (.invokevirtual 318, 3) := by decide +kernel
theorem dX12_statement_42 : decode cX12_statement 42 = .ok (.ifCond .eq 11, 3) := by decide +kernel
theorem dX12_statement_45 : decode cX12_statement 45 = .ok (.aload_n 0, 1) := by decide +kernel
theorem dX12_statement_46 : decode cX12_statement 46 = .ok (.iconst 1, 1) := by decide +kernel
theorem dX12_statement_47 : decode cX12_statement 47 = .ok (.invokevirtual 433, 3) := by decide +kernel
theorem dX12_statement_50 : decode cX12_statement 50 = .ok (.goto 48, 3) := by decide +kernel
theorem dX12_statement_53 : decode cX12_statement 53 = .ok (.aload_n 0, 1) := by decide +kernel
theorem dX12_statement_54 : decode cX12_statement 54 = .ok (.ldc2_w 344, 3) := by decide +kernel
theorem dX12_statement_57 : decode cX12_statement 57 = .ok (.invokevirtual 318, 3) := by decide +kernel
theorem dX12_statement_60 : decode cX12_statement 60 = .ok (.ifCond .eq 11, 3) := by decide +kernel
theorem dX12_statement_63 : decode cX12_statement 63 = .ok (.aload_n 0, 1) := by decide +kernel
theorem dX12_statement_64 : decode cX12_statement 64 = .ok (.iconst 2, 1) := by decide +kernel
theorem dX12_statement_65 : decode cX12_statement 65 = .ok (.invokevirtual 433, 3) := by decide +kernel
theorem dX12_statement_68 : decode cX12_statement 68 = .ok (.goto 30, 3) := by decide +kernel
theorem dX12_statement_71 : decode cX12_statement 71 = .ok (.aload_n 0, 1) := by decide +kernel
theorem dX12_statement_72 : decode cX12_statement 72 = .ok (.ldc2_w 346, 3) := by decide +kernel
theorem dX12_statement_75 : decode cX12_statement 75 = .ok (.invokevirtual 318, 3) := by decide +kernel
theorem dX12_statement_78 : decode cX12_statement 78 = .ok (.ifCond .eq 11, 3) := by decide +kernel
theorem dX12_statement_81 : decode cX12_statement 81 = .ok (.aload_n 0, 1) := by decide +kernel
theorem dX12_statement_82 : decode cX12_statement 82 = .ok (.iconst 3, 1) := by decide +kernel
theorem dX12_statement_83 : decode cX12_statement 83 = .ok (.invokevirtual 433, 3) := by decide +kernel
theorem dX12_statement_86 : decode cX12_statement 86 = .ok (.goto 12, 3) := by decide +kernel
theorem dX12_statement_89 : decode cX12_statement 89 = .ok (.aload_n 0, 1) := by decide +kernel
theorem dX12_statement_90 : decode cX12_statement 90 = .ok (.iconst 1, 1) := by decide +kernel
theorem dX12_statement_91 : decode cX12_statement 91 = .ok (.aload_n 0, 1) := by decide +kernel
theorem dX12_statement_92 : decode cX12_statement 92 = .ok (.getfield 23, 3) := by decide +kernel
theorem dX12_statement_95 : decode cX12_statement 95 = .ok (.invokevirtual 308, 3) := by decide +kernel
theorem dX12_statement_98 : decode cX12_statement 98 = .ok (.aload_n 0, 1) := by decide +kernel
theorem dX12_statement_99 : decode cX12_statement 99 = .ok (.getfield 36, 3) := by decide +kernel
theorem dX12_statement_102 : decode cX12_statement 102 = .ok (.ifCond .ne 9, 3) := by decide +kernel
theorem dX12_statement_105 : decode cX12_statement 105 = .ok (.aload_n 0, 1) := by decide +kernel
theorem dX12_statement_106 : decode cX12_statement 106 = .ok (.bipush 59, 2) := by decide +kernel
theorem dX12_statement_108 : decode cX12_statement 108 = .ok (.invokevirtual 436, 3) := by decide +kernel
theorem dX12_statement_111 : decode cX12_statement 111 = .ok (.return_, 1) := by decide +kernel
theorem dX12_tells_0 : decode cX12_tells 0 = .ok (.aload_n 0, 1) := by decide +kernel
theorem dX12_tells_1 : decode cX12_tells 1 = .ok (.dup, 1) := by decide +kernel
theorem dX12_tells_2 : decode cX12_tells 2 = .ok (.getfield 126, 3) := by decide +kernel
theorem dX12_tells_5 : decode cX12_tells 5 = .ok (.iconst 1, 1) := by decide +kernel
theorem dX12_tells_6 : decode cX12_tells 6 = .ok (.iadd, 1) := by decide +kernel
theorem dX12_tells_7 : decode cX12_tells 7 = .ok (.putfield 126, 3) := by decide +kernel
theorem dX12_tells_10 : decode cX12_tells 10 = .ok (.aload_n 0, 1) := by decide +kernel
theorem dX12_tells_11 : decode cX12_tells 11 = .ok (.getfield 135, 3) := by decide +kernel
theorem dX12_tells_14 : decode cX12_tells 14 = .ok (.aload_n 0, 1) := by decide +kernel
theorem dX12_tells_15 : decode cX12_tells 15 = .ok (.getfield 126, 3) := by decide +kernel
theorem dX12_tells_18 : decode cX12_tells 18 = .ok (.iload_n 1, 1) := by decide +kernel
theorem dX12_tells_19 : decode cX12_tells 19 = .ok (.iastore, 1) := by decide +kernel
theorem dX12_tells_20 : decode cX12_tells 20 = .ok (.aload_n 0, 1) := by decide +kernel
theorem dX12_tells_21 : decode cX12_tells 21 = .ok (.getfield 141, 3) := by decide +kernel
theorem dX12_tells_24 : decode cX12_tells 24 = .ok (.aload_n 0, 1) := by decide +kernel
theorem dX12_tells_25 : decode cX12_tells 25 = .ok (.getfield 126, 3) := by decide +kernel
theorem dX12_tells_28 : decode cX12_tells 28 = .ok (.iconst 0, 1) := by decide +kernel
theorem dX12_tells_29 : decode cX12_tells 29 = .ok (.iastore, 1) := by decide +kernel
theorem dX12_tells_30 : decode cX12_tells 30 = .ok (.aload_n 0, 1) := by decide +kernel
theorem dX12_tells_31 : decode cX12_tells 31 = .ok (.getfield 138, 3) := by decide +kernel
theorem dX12_tells_34 : decode cX12_tells 34 = .ok (.iconst 5, 1) := by decide +kernel
theorem dX12_tells_35 : decode cX12_tells 35 = .ok (.aload_n 0, 1) := by decide +kernel
theorem dX12_tells_36 : decode cX12_tells 36 = .ok (.getfield 126, 3) := by decide +kernel
theorem dX12_tells_39 : decode cX12_tells 39 = .ok (.imul, 1) := by decide +kernel
theorem dX12_tells_40 : decode cX12_tells 40 = .ok (.iload_n 2, 1) := by decide +kernel
theorem dX12_tells_41 : decode cX12_tells 41 = .ok (.iastore, 1) := by decide +kernel
theorem dX12_tells_42 : decode cX12_tells 42 = .ok (.aload_n 0, 1) := by decide +kernel
theorem dX12_tells_43 : decode cX12_tells 43 = .ok (.getfield 138, 3) := by decide +kernel
theorem dX12_tells_46 : decode cX12_tells 46 = .ok (.iconst 5, 1) := by decide +kernel
theorem dX12_tells_47 : decode cX12_tells 47 = .ok (.aload_n 0, 1) := by decide +kernel
theorem dX12_tells_48 : decode cX12_tells 48 = .ok (.getfield 126, 3) := by decide +kernel
theorem dX12_tells_51 : decode cX12_tells 51 = .ok (.imul, 1) := by decide +kernel
theorem dX12_tells_52 : decode cX12_tells 52 = .ok (.iconst 1, 1) := by decide +kernel
theorem dX12_tells_53 : decode cX12_tells 53 = .ok (.iadd, 1) := by decide +kernel
theorem dX12_tells_54 : decode cX12_tells 54 = .ok (.iload_n 3, 1) := by decide +kernel
theorem dX12_tells_55 : decode cX12_tells 55 = .ok (.iastore, 1) := by decide +kernel
theorem dX12_tells_56 : decode cX12_tells 56 = .ok (.aload_n 0, 1) := by decide +kernel
theorem dX12_tells_57 : decode cX12_tells 57 = .ok (.getfield 138, 3) := by decide +kernel
theorem dX12_tells_60 : decode cX12_tells 60 = .ok (.iconst 5, 1) := by decide +kernel
theorem dX12_tells_61 : decode cX12_tells 61 = .ok (.aload_n 0, 1) := by decide +kernel
theorem dX12_tells_62 : decode cX12_tells 62 = .ok (.getfield 126, 3) := by decide +kernel
theorem dX12_tells_65 : decode cX12_tells 65 = .ok (.imul, 1) := by decide +kernel
theorem dX12_tells_66 : decode cX12_tells 66 = .ok (.iconst 2, 1) := by decide +kernel
theorem dX12_tells_67 : decode cX12_tells 67 = .ok (.iadd, 1) := by decide +kernel
theorem dX12_tells_68 : decode cX12_tells 68 = .ok (.iload 4, 2) := by decide +kernel
theorem dX12_tells_70 : decode cX12_tells 70 = .ok (.iastore, 1) := by decide +kernel
theorem dX12_tells_71 : decode cX12_tells 71 = .ok (.aload_n 0, 1) := by decide +kernel
theorem dX12_tells_72 : decode cX12_tells 72 = .ok (.getfield 138, 3) := by decide +kernel
theorem dX12_tells_75 : decode cX12_tells 75 = .ok (.iconst 5, 1) := by decide +kernel
theorem dX12_tells_76 : decode cX12_tells 76 = .ok (.aload_n 0, 1) := by decide +kernel
theorem dX12_tells_77 : decode cX12_tells 77 = .ok (.getfield 126, 3) := by decide +kernel
theorem dX12_tells_80 : decode cX12_tells 80 = .ok (.imul, 1) := by decide +kernel
theorem dX12_tells_81 : decode cX12_tells 81 = .ok (.iconst 3, 1) := by decide +kernel
theorem dX12_tells_82 : decode cX12_tells 82 = .ok (.iadd, 1) := by decide +kernel
theorem dX12_tells_83 : decode cX12_tells 83 = .ok (.iload 5, 2) := by decide +kernel
theorem dX12_tells_85 : decode cX12_tells 85 = .ok (.iastore, 1) := by decide +kernel
theorem dX12_tells_86 : decode cX12_tells 86 = .ok (.aload_n 0, 1) := by decide +kernel
theorem dX12_tells_87 : decode cX12_tells 87 = .ok (.getfield 138, 3) := by decide +kernel
theorem dX12_tells_90 : decode cX12_tells 90 = .ok (.iconst 5, 1) := by decide +kernel
theorem dX12_tells_91 : decode cX12_tells 91 = .ok (.aload_n 0, 1) := by decide +kernel
theorem dX12_tells_92 : decode cX12_tells 92 = .ok (.getfield 126, 3) := by decide +kernel
theorem dX12_tells_95 : decode cX12_tells 95 = .ok (.imul, 1) := by decide +kernel
theorem dX12_tells_96 : decode cX12_tells 96 = .ok (.iconst 4, 1) := by decide +kernel
theorem dX12_tells_97 : decode cX12_tells 97 = .ok (.iadd, 1) := by decide +kernel
theorem dX12_tells_98 : decode cX12_tells 98 = .ok (.iload 6, 2) := by decide +kernel
theorem dX12_tells_100 : decode cX12_tells 100 = .ok (.iastore, 1) := by decide +kernel
theorem dX12_tells_101 : decode cX12_tells 101 = .ok (.aload_n 0, 1) := by decide +kernel
theorem dX12_tells_102 : decode cX12_tells 102 = .ok (.getfield 126, 3) := by decide +kernel
theorem dX12_tells_105 : decode cX12_tells 105 = .ok (.ireturn, 1) := by decide +kernel
theorem dX12_two_0 : decode cX12_two 0 = .ok (.iload_n 0, 1) := by decide +kernel
theorem dX12_two_1 : decode cX12_two 1 = .ok (.tableswitch 104 10 16 #[43, 50, 57, 64, 76, 88, 100], 43) := by decide +kernel
theorem dX12_two_44 : decode cX12_two 44 = .ok (.lload_n 1, 1) := by decide +kernel
theorem dX12_two_45 : decode cX12_two 45 = .ok (.lload_n 3, 1) := by decide +kernel
theorem dX12_two_46 : decode cX12_two 46 = .ok (.ladd, 1) := by decide +kernel
theorem dX12_two_47 : decode cX12_two 47 = .ok (.invokestatic 481, 3) := by decide +kernel
theorem dX12_two_50 : decode cX12_two 50 = .ok (.lreturn, 1) := by decide +kernel
theorem dX12_two_51 : decode cX12_two 51 = .ok (.lload_n 1, 1) := by decide +kernel
theorem dX12_two_52 : decode cX12_two 52 = .ok (.lload_n 3, 1) := by decide +kernel
theorem dX12_two_53 : decode cX12_two 53 = .ok (.lsub, 1) := by decide +kernel
theorem dX12_two_54 : decode cX12_two 54 = .ok (.invokestatic 481, 3) := by decide +kernel
theorem dX12_two_57 : decode cX12_two 57 = .ok (.lreturn, 1) := by decide +kernel
theorem dX12_two_58 : decode cX12_two 58 = .ok (.lload_n 1, 1) := by decide +kernel
theorem dX12_two_59 : decode cX12_two 59 = .ok (.lload_n 3, 1) := by decide +kernel
theorem dX12_two_60 : decode cX12_two 60 = .ok (.lmul, 1) := by decide +kernel
theorem dX12_two_61 : decode cX12_two 61 = .ok (.invokestatic 481, 3) := by decide +kernel
theorem dX12_two_64 : decode cX12_two 64 = .ok (.lreturn, 1) := by decide +kernel
theorem dX12_two_65 : decode cX12_two 65 = .ok (.lload_n 1, 1) := by decide +kernel
theorem dX12_two_66 : decode cX12_two 66 = .ok (.lload_n 3, 1) := by decide +kernel
theorem dX12_two_67 : decode cX12_two 67 = .ok (.lcmp, 1) := by decide +kernel
theorem dX12_two_68 : decode cX12_two 68 = .ok (.ifCond .ge 7, 3) := by decide +kernel
theorem dX12_two_71 : decode cX12_two 71 = .ok (.lconst 1, 1) := by decide +kernel
theorem dX12_two_72 : decode cX12_two 72 = .ok (.goto 4, 3) := by decide +kernel
theorem dX12_two_75 : decode cX12_two 75 = .ok (.lconst 0, 1) := by decide +kernel
theorem dX12_two_76 : decode cX12_two 76 = .ok (.lreturn, 1) := by decide +kernel
theorem dX12_two_77 : decode cX12_two 77 = .ok (.lload_n 1, 1) := by decide +kernel
theorem dX12_two_78 : decode cX12_two 78 = .ok (.lload_n 3, 1) := by decide +kernel
theorem dX12_two_79 : decode cX12_two 79 = .ok (.lcmp, 1) := by decide +kernel
theorem dX12_two_80 : decode cX12_two 80 = .ok (.ifCond .le 7, 3) := by decide +kernel
theorem dX12_two_83 : decode cX12_two 83 = .ok (.lconst 1, 1) := by decide +kernel
theorem dX12_two_84 : decode cX12_two 84 = .ok (.goto 4, 3) := by decide +kernel
theorem dX12_two_87 : decode cX12_two 87 = .ok (.lconst 0, 1) := by decide +kernel
theorem dX12_two_88 : decode cX12_two 88 = .ok (.lreturn, 1) := by decide +kernel
theorem dX12_two_89 : decode cX12_two 89 = .ok (.lload_n 1, 1) := by decide +kernel
theorem dX12_two_90 : decode cX12_two 90 = .ok (.lload_n 3, 1) := by decide +kernel
theorem dX12_two_91 : decode cX12_two 91 = .ok (.lcmp, 1) := by decide +kernel
theorem dX12_two_92 : decode cX12_two 92 = .ok (.ifCond .ne 7, 3) := by decide +kernel
theorem dX12_two_95 : decode cX12_two 95 = .ok (.lconst 1, 1) := by decide +kernel
theorem dX12_two_96 : decode cX12_two 96 = .ok (.goto 4, 3) := by decide +kernel
theorem dX12_two_99 : decode cX12_two 99 = .ok (.lconst 0, 1) := by decide +kernel
theorem dX12_two_100 : decode cX12_two 100 = .ok (.lreturn, 1) := by decide +kernel
theorem dX12_two_101 : decode cX12_two 101 = .ok (.lload_n 1, 1) := by decide +kernel
theorem dX12_two_102 : decode cX12_two 102 = .ok (.lload_n 3, 1) := by decide +kernel
theorem dX12_two_103 : decode cX12_two 103 = .ok (.lmul, 1) := by decide +kernel
theorem dX12_two_104 : decode cX12_two 104 = .ok (.lreturn, 1) := by decide +kernel
theorem dX12_two_105 : decode cX12_two 105 = .ok (.lload_n 1, 1) := by decide +kernel
theorem dX12_two_106 : decode cX12_two 106 = .ok (.lload_n 3, 1) := by decide +kernel
theorem dX12_two_107 : decode cX12_two 107 = .ok (.ladd, 1) := by decide +kernel
theorem dX12_two_108 : decode cX12_two 108 = .ok (.lconst 0, 1) := by decide +kernel
theorem dX12_two_109 : decode cX12_two 109 = .ok (.lcmp, 1) := by decide +kernel
theorem dX12_two_110 : decode cX12_two 110 = .ok (.ifCond .le 7, 3) := by decide +kernel
theorem dX12_two_113 : decode cX12_two 113 = .ok (.lconst 1, 1) := by decide +kernel
theorem dX12_two_114 : decode cX12_two 114 = .ok (.goto 4, 3) := by decide +kernel
theorem dX12_two_117 : decode cX12_two 117 = .ok (.lconst 0, 1) := by decide +kernel
theorem dX12_two_118 : decode cX12_two 118 = .ok (.lreturn, 1) := by decide +kernel
theorem dX12_waits_0 : decode cX12_waits 0 = .ok (.aload_n 0, 1) := by decide +kernel
theorem dX12_waits_1 : decode cX12_waits 1 = .ok (.getfield 116, 3) := by decide +kernel
theorem dX12_waits_4 : decode cX12_waits 4 = .ok (.aload_n 0, 1) := by decide +kernel
theorem dX12_waits_5 : decode cX12_waits 5 = .ok (.getfield 119, 3) := by decide +kernel
theorem dX12_waits_8 : decode cX12_waits 8 = .ok (.iload_n 1, 1) := by decide +kernel
theorem dX12_waits_9 : decode cX12_waits 9 = .ok (.iastore, 1) := by decide +kernel
theorem dX12_waits_10 : decode cX12_waits 10 = .ok (.aload_n 0, 1) := by decide +kernel
theorem dX12_waits_11 : decode cX12_waits 11 = .ok (.dup, 1) := by decide +kernel
theorem dX12_waits_12 : decode cX12_waits 12 = .ok (.getfield 119, 3) := by decide +kernel
theorem dX12_waits_15 : decode cX12_waits 15 = .ok (.iconst 1, 1) := by decide +kernel
theorem dX12_waits_16 : decode cX12_waits 16 = .ok (.iadd, 1) := by decide +kernel
theorem dX12_waits_17 : decode cX12_waits 17 = .ok (.putfield 119, 3) := by decide +kernel
theorem dX12_waits_20 : decode cX12_waits 20 = .ok (.return_, 1) := by decide +kernel
theorem dX12_walks_0 : decode cX12_walks 0 = .ok (.aload_n 0, 1) := by decide +kernel
theorem dX12_walks_1 : decode cX12_walks 1 = .ok (.getfield 219, 3) := by decide +kernel
theorem dX12_walks_4 : decode cX12_walks 4 = .ok (.ifCond .eq 13, 3) := by decide +kernel
theorem dX12_walks_7 : decode cX12_walks 7 = .ok (.iload_n 1, 1) := by decide +kernel
theorem dX12_walks_8 : decode cX12_walks 8 = .ok (.iconst 1, 1) := by decide +kernel
theorem dX12_walks_9 : decode cX12_walks 9 = .ok (.bipush 40, 2) := by decide +kernel
theorem dX12_walks_11 : decode cX12_walks 11 = .ok (.invokestatic 322, 3) := by decide +kernel
theorem dX12_walks_14 : decode cX12_walks 14 = .ok (.ifCond .ne 5, 3) := by decide +kernel
theorem dX12_walks_17 : decode cX12_walks 17 = .ok (.iconst (-1), 1) := by decide +kernel
theorem dX12_walks_18 : decode cX12_walks 18 = .ok (.ireturn, 1) := by decide +kernel
theorem dX12_walks_19 : decode cX12_walks 19 = .ok (.aload_n 0, 1) := by decide +kernel
theorem dX12_walks_20 : decode cX12_walks 20 = .ok (.invokevirtual 572, 3) := by decide +kernel
theorem dX12_walks_23 : decode cX12_walks 23 = .ok (.iconst 0, 1) := by decide +kernel
theorem dX12_walks_24 : decode cX12_walks 24 = .ok (.istore_n 2, 1) := by decide +kernel
theorem dX12_walks_25 : decode cX12_walks 25 = .ok (.iconst 0, 1) := by decide +kernel
theorem dX12_walks_26 : decode cX12_walks 26 = .ok (.istore_n 3, 1) := by decide +kernel
theorem dX12_walks_27 : decode cX12_walks 27 = .ok (.iload_n 3, 1) := by decide +kernel
theorem dX12_walks_28 : decode cX12_walks 28 = .ok (.aload_n 0, 1) := by decide +kernel
theorem dX12_walks_29 : decode cX12_walks 29 = .ok (.getfield 279, 3) := by decide +kernel
theorem dX12_walks_32 : decode cX12_walks 32 = .ok (.if_icmp .ge 25, 3) := by decide +kernel
theorem dX12_walks_35 : decode cX12_walks 35 = .ok (.iload_n 2, 1) := by decide +kernel
theorem dX12_walks_36 : decode cX12_walks 36 = .ok (.iconst 2, 1) := by decide +kernel
theorem dX12_walks_37 : decode cX12_walks 37 = .ok (.aload_n 0, 1) := by decide +kernel
theorem dX12_walks_38 : decode cX12_walks 38 = .ok (.aload_n 0, 1) := by decide +kernel
theorem dX12_walks_39 : decode cX12_walks 39 = .ok (.getfield 276, 3) := by decide +kernel
theorem dX12_walks_42 : decode cX12_walks 42 = .ok (.iload_n 3, 1) := by decide +kernel
theorem dX12_walks_43 : decode cX12_walks 43 = .ok (.iaload, 1) := by decide +kernel
theorem dX12_walks_44 : decode cX12_walks 44 = .ok (.invokevirtual 569, 3) := by decide +kernel
theorem dX12_walks_47 : decode cX12_walks 47 = .ok (.imul, 1) := by decide +kernel
theorem dX12_walks_48 : decode cX12_walks 48 = .ok (.iadd, 1) := by decide +kernel
theorem dX12_walks_49 : decode cX12_walks 49 = .ok (.istore_n 2, 1) := by decide +kernel
theorem dX12_walks_50 : decode cX12_walks 50 = .ok (.iload_n 3, 1) := by decide +kernel
theorem dX12_walks_51 : decode cX12_walks 51 = .ok (.iload_n 1, 1) := by decide +kernel
theorem dX12_walks_52 : decode cX12_walks 52 = .ok (.iadd, 1) := by decide +kernel
theorem dX12_walks_53 : decode cX12_walks 53 = .ok (.istore_n 3, 1) := by decide +kernel
theorem dX12_walks_54 : decode cX12_walks 54 = .ok (.goto (-27), 3) := by decide +kernel
theorem dX12_walks_57 : decode cX12_walks 57 = .ok (.iload_n 2, 1) := by decide +kernel
theorem dX12_walks_58 : decode cX12_walks 58 = .ok (.ireturn, 1) := by decide +kernel
theorem dX12_was_0 : decode cX12_was 0 = .ok (.aload_n 0, 1) := by decide +kernel
theorem dX12_was_1 : decode cX12_was 1 = .ok (.getfield 219, 3) := by decide +kernel
theorem dX12_was_4 : decode cX12_was 4 = .ok (.ifCond .eq 19, 3) := by decide +kernel
theorem dX12_was_7 : decode cX12_was 7 = .ok (.iload_n 1, 1) := by decide +kernel
theorem dX12_was_8 : decode cX12_was 8 = .ok (.ifCond .lt 15, 3) := by decide +kernel
theorem dX12_was_11 : decode cX12_was 11 = .ok (.iload_n 1, 1) := by decide +kernel
theorem dX12_was_12 : decode cX12_was 12 = .ok (.aload_n 0, 1) := by decide +kernel
theorem dX12_was_13 : decode cX12_was 13 = .ok (.getfield 222, 3) := by decide +kernel
theorem dX12_was_16 : decode cX12_was 16 = .ok (.if_icmp .ge 7, 3) := by decide +kernel
theorem dX12_was_19 : decode cX12_was 19 = .ok (.iconst 1, 1) := by decide +kernel
theorem dX12_was_20 : decode cX12_was 20 = .ok (.goto 4, 3) := by decide +kernel
theorem dX12_was_23 : decode cX12_was 23 = .ok (.iconst 0, 1) := by decide +kernel
theorem dX12_was_24 : decode cX12_was 24 = .ok (.ireturn, 1) := by decide +kernel
theorem dX12_wish_0 : decode cX12_wish 0 = .ok (.aload_n 0, 1) := by decide +kernel
theorem dX12_wish_1 : decode cX12_wish 1 = .ok (.invokevirtual 471, 3) := by decide +kernel
theorem dX12_wish_4 : decode cX12_wish 4 = .ok (.aload_n 0, 1) := by decide +kernel
theorem dX12_wish_5 : decode cX12_wish 5 = .ok (.iload_n 1, 1) := by decide +kernel
theorem dX12_wish_6 : decode cX12_wish 6 = .ok (.invokevirtual 512, 3) := by decide +kernel
theorem dX12_wish_9 : decode cX12_wish 9 = .ok (.ifCond .eq 17, 3) := by decide +kernel
theorem dX12_wish_12 : decode cX12_wish 12 = .ok (.iload_n 2, 1) := by decide +kernel
theorem dX12_wish_13 : decode cX12_wish 13 = .ok (.ifCond .lt 13, 3) := by decide +kernel
theorem dX12_wish_16 : decode cX12_wish 16 = .ok (.iload_n 2, 1) := by decide +kernel
theorem dX12_wish_17 : decode cX12_wish 17 = .ok (.aload_n 0, 1) := by decide +kernel
theorem dX12_wish_18 : decode cX12_wish 18 = .ok (.getfield 174, 3) := by decide +kernel
theorem dX12_wish_21 : decode cX12_wish 21 = .ok (.iload_n 1, 1) := by decide +kernel
theorem dX12_wish_22 : decode cX12_wish 22 = .ok (.iaload, 1) := by decide +kernel
theorem dX12_wish_23 : decode cX12_wish 23 = .ok (.if_icmp .lt 7, 3) := by decide +kernel
theorem dX12_wish_26 : decode cX12_wish 26 = .ok (.iconst (-1), 1) := by decide +kernel
theorem dX12_wish_27 : decode cX12_wish 27 = .ok (.goto 17, 3) := by decide +kernel
theorem dX12_wish_30 : decode cX12_wish 30 = .ok (.aload_n 0, 1) := by decide +kernel
theorem dX12_wish_31 : decode cX12_wish 31 = .ok (.getfield 177, 3) := by decide +kernel
theorem dX12_wish_34 : decode cX12_wish 34 = .ok (.iconst 4, 1) := by decide +kernel
theorem dX12_wish_35 : decode cX12_wish 35 = .ok (.iload_n 1, 1) := by decide +kernel
theorem dX12_wish_36 : decode cX12_wish 36 = .ok (.imul, 1) := by decide +kernel
theorem dX12_wish_37 : decode cX12_wish 37 = .ok (.iload_n 2, 1) := by decide +kernel
theorem dX12_wish_38 : decode cX12_wish 38 = .ok (.iadd, 1) := by decide +kernel
theorem dX12_wish_39 : decode cX12_wish 39 = .ok (.laload, 1) := by decide +kernel
theorem dX12_wish_40 : decode cX12_wish 40 = .ok (.iload_n 3, 1) := by decide +kernel
theorem dX12_wish_41 : decode cX12_wish 41 = .ok (.invokestatic 447, 3) := by decide +kernel
theorem dX12_wish_44 : decode cX12_wish 44 = .ok (.ireturn, 1) := by decide +kernel
theorem dX12_works_0 : decode cX12_works 0 = .ok (.iconst 0, 1) := by decide +kernel
theorem dX12_works_1 : decode cX12_works 1 = .ok (.istore 5, 2) := by decide +kernel
theorem dX12_works_3 : decode cX12_works 3 = .ok (.iload_n 1, 1) := by decide +kernel
theorem dX12_works_4 : decode cX12_works 4 = .ok (.istore 6, 2) := by decide +kernel
theorem dX12_works_6 : decode cX12_works 6 = .ok (.iload 6, 2) := by decide +kernel
theorem dX12_works_8 : decode cX12_works 8 = .ok (.iload_n 2, 1) := by decide +kernel
theorem dX12_works_9 : decode cX12_works 9 = .ok (.if_icmp .ge 143, 3) := by decide +kernel
theorem dX12_works_12 : decode cX12_works 12 = .ok (.aload_n 0, 1) := by decide +kernel
theorem dX12_works_13 : decode cX12_works 13 = .ok (.getfield 88, 3) := by decide +kernel
theorem dX12_works_16 : decode cX12_works 16 = .ok (.sipush 2200, 3) := by decide +kernel
theorem dX12_works_19 : decode cX12_works 19 = .ok (.aload_n 0, 1) := by decide +kernel
theorem dX12_works_20 : decode cX12_works 20 = .ok (.getfield 48, 3) := by decide +kernel
theorem dX12_works_23 : decode cX12_works 23 = .ok (.imul, 1) := by decide +kernel
theorem dX12_works_24 : decode cX12_works 24 = .ok (.iconst 2, 1) := by decide +kernel
theorem dX12_works_25 : decode cX12_works 25 = .ok (.iload 6, 2) := by decide +kernel
theorem dX12_works_27 : decode cX12_works 27 = .ok (.imul, 1) := by decide +kernel
theorem dX12_works_28 : decode cX12_works 28 = .ok (.iadd, 1) := by decide +kernel
theorem dX12_works_29 : decode cX12_works 29 = .ok (.iaload, 1) := by decide +kernel
theorem dX12_works_30 : decode cX12_works 30 = .ok (.istore 7, 2) := by decide +kernel
theorem dX12_works_32 : decode cX12_works 32 = .ok (.iload 7, 2) := by decide +kernel
theorem dX12_works_34 : decode cX12_works 34 = .ok (.bipush 9, 2) := by decide +kernel
theorem dX12_works_36 : decode cX12_works 36 = .ok (.if_icmp .gt 47, 3) := by decide +kernel
theorem dX12_works_39 : decode cX12_works 39 = .ok (.aload_n 0, 1) := by decide +kernel
theorem dX12_works_40 : decode cX12_works 40 = .ok (.getfield 186, 3) := by decide +kernel
theorem dX12_works_43 : decode cX12_works 43 = .ok (.iload 5, 2) := by decide +kernel
theorem dX12_works_45 : decode cX12_works 45 = .ok (.aload_n 0, 1) := by decide +kernel
theorem dX12_works_46 : decode cX12_works 46 = .ok (.iload 7, 2) := by decide +kernel
theorem dX12_works_48 : decode cX12_works 48 = .ok (.iload 6, 2) := by decide +kernel
theorem dX12_works_50 : decode cX12_works 50 = .ok (.aload_n 0, 1) := by decide +kernel
theorem dX12_works_51 : decode cX12_works 51 = .ok (.getfield 88, 3) := by decide +kernel
theorem dX12_works_54 : decode cX12_works 54 = .ok (.sipush 2200, 3) := by decide +kernel
theorem dX12_works_57 : decode cX12_works 57 = .ok (.aload_n 0, 1) := by decide +kernel
theorem dX12_works_58 : decode cX12_works 58 = .ok (.getfield 48, 3) := by decide +kernel
theorem dX12_works_61 : decode cX12_works 61 = .ok (.imul, 1) := by decide +kernel
theorem dX12_works_62 : decode cX12_works 62 = .ok (.iconst 2, 1) := by decide +kernel
theorem dX12_works_63 : decode cX12_works 63 = .ok (.iload 6, 2) := by decide +kernel
theorem dX12_works_65 : decode cX12_works 65 = .ok (.imul, 1) := by decide +kernel
theorem dX12_works_66 : decode cX12_works 66 = .ok (.iadd, 1) := by decide +kernel
theorem dX12_works_67 : decode cX12_works 67 = .ok (.iconst 1, 1) := by decide +kernel
theorem dX12_works_68 : decode cX12_works 68 = .ok (.iadd, 1) := by decide +kernel
theorem dX12_works_69 : decode cX12_works 69 = .ok (.iaload, 1) := by decide +kernel
theorem dX12_works_70 : decode cX12_works 70 = .ok (.iload_n 3, 1) := by decide +kernel
theorem dX12_works_71 : decode cX12_works 71 = .ok (.iload 4, 2) := by decide +kernel
theorem dX12_works_73 : decode cX12_works 73 = .ok (.invokevirtual 485, 3) := by decide +kernel
theorem dX12_works_76 : decode cX12_works 76 = .ok (.lastore, 1) := by decide +kernel
theorem dX12_works_77 : decode cX12_works 77 = .ok (.iinc 5 1, 3) := by decide +kernel
theorem dX12_works_80 : decode cX12_works 80 = .ok (.goto 66, 3) := by decide +kernel
theorem dX12_works_83 : decode cX12_works 83 = .ok (.iload 7, 2) := by decide +kernel
theorem dX12_works_85 : decode cX12_works 85 = .ok (.bipush 18, 2) := by decide +kernel
theorem dX12_works_87 : decode cX12_works 87 = .ok (.if_icmp .ne 26, 3) := by decide +kernel
theorem dX12_works_90 : decode cX12_works 90 = .ok (.aload_n 0, 1) := by decide +kernel
theorem dX12_works_91 : decode cX12_works 91 = .ok (.getfield 186, 3) := by decide +kernel
theorem dX12_works_94 : decode cX12_works 94 = .ok (.iload 5, 2) := by decide +kernel
theorem dX12_works_96 : decode cX12_works 96 = .ok (.iconst 1, 1) := by decide +kernel
theorem dX12_works_97 : decode cX12_works 97 = .ok (.isub, 1) := by decide +kernel
theorem dX12_works_98 : decode cX12_works 98 = .ok (.lconst 1, 1) := by decide +kernel
theorem dX12_works_99 : decode cX12_works 99 = .ok (.aload_n 0, 1) := by decide +kernel
theorem dX12_works_100 : decode cX12_works 100 = .ok (.getfield 186, 3) := by decide +kernel
theorem dX12_works_103 : decode cX12_works 103 = .ok (.iload 5, 2) := by decide +kernel
theorem dX12_works_105 : decode cX12_works 105 = .ok (.iconst 1, 1) := by decide +kernel
theorem dX12_works_106 : decode cX12_works 106 = .ok (.isub, 1) := by decide +kernel
theorem dX12_works_107 : decode cX12_works 107 = .ok (.laload, 1) := by decide +kernel
theorem dX12_works_108 : decode cX12_works 108 = .ok (.lsub, 1) := by decide +kernel
theorem dX12_works_109 : decode cX12_works 109 = .ok (.lastore, 1) := by decide +kernel
theorem dX12_works_110 : decode cX12_works 110 = .ok (.goto 36, 3) := by decide +kernel
theorem dX12_works_113 : decode cX12_works 113 = .ok (.iinc 5 (-1), 3) := by decide +kernel
theorem dX12_works_116 : decode cX12_works 116 = .ok (.aload_n 0, 1) := by decide +kernel
theorem dX12_works_117 : decode cX12_works 117 = .ok (.getfield 186, 3) := by decide +kernel
theorem dX12_works_120 : decode cX12_works 120 = .ok (.iload 5, 2) := by decide +kernel
theorem dX12_works_122 : decode cX12_works 122 = .ok (.iconst 1, 1) := by decide +kernel
theorem dX12_works_123 : decode cX12_works 123 = .ok (.isub, 1) := by decide +kernel
theorem dX12_works_124 : decode cX12_works 124 = .ok (.iload 7, 2) := by decide +kernel
theorem dX12_works_126 : decode cX12_works 126 = .ok (.aload_n 0, 1) := by decide +kernel
theorem dX12_works_127 : decode cX12_works 127 = .ok (.getfield 186, 3) := by decide +kernel
theorem dX12_works_130 : decode cX12_works 130 = .ok (.iload 5, 2) := by decide +kernel
theorem dX12_works_132 : decode cX12_works 132 = .ok (.iconst 1, 1) := by decide +kernel
theorem dX12_works_133 : decode cX12_works 133 = .ok (.isub, 1) := by decide +kernel
theorem dX12_works_134 : decode cX12_works 134 = .ok (.laload, 1) := by decide +kernel
theorem dX12_works_135 : decode cX12_works 135 = .ok (.aload_n 0, 1) := by decide +kernel
theorem dX12_works_136 : decode cX12_works 136 = .ok (.getfield 186, 3) := by decide +kernel
theorem dX12_works_139 : decode cX12_works 139 = .ok (.iload 5, 2) := by decide +kernel
theorem dX12_works_141 : decode cX12_works 141 = .ok (.laload, 1) := by decide +kernel
theorem dX12_works_142 : decode cX12_works 142 = .ok (.invokestatic 489, 3) := by decide +kernel
theorem dX12_works_145 : decode cX12_works 145 = .ok (.lastore, 1) := by decide +kernel
theorem dX12_works_146 : decode cX12_works 146 = .ok (.iinc 6 1, 3) := by decide +kernel
theorem dX12_works_149 : decode cX12_works 149 = .ok (.goto (-143), 3) := by decide +kernel
theorem dX12_works_152 : decode cX12_works 152 = .ok (.aload_n 0, 1) := by decide +kernel
theorem dX12_works_153 : decode cX12_works 153 = .ok (.getfield 186, 3) := by decide +kernel
theorem dX12_works_156 : decode cX12_works 156 = .ok (.iconst 0, 1) := by decide +kernel
theorem dX12_works_157 : decode cX12_works 157 = .ok (.laload, 1) := by decide +kernel
theorem dX12_works_158 : decode cX12_works 158 = .ok (.lreturn, 1) := by decide +kernel
theorem dX12_worth_0 : decode cX12_worth 0 = .ok (.iconst 0, 1) := by decide +kernel
theorem dX12_worth_1 : decode cX12_worth 1 = .ok (.istore_n 2, 1) := by decide +kernel
theorem dX12_worth_2 : decode cX12_worth 2 = .ok (.iconst 0, 1) := by decide +kernel
theorem dX12_worth_3 : decode cX12_worth 3 = .ok (.istore_n 3, 1) := by decide +kernel
theorem dX12_worth_4 : decode cX12_worth 4 = .ok (.iload_n 3, 1) := by decide +kernel
theorem dX12_worth_5 : decode cX12_worth 5 = .ok (.aload_n 0, 1) := by decide +kernel
theorem dX12_worth_6 : decode cX12_worth 6 = .ok (.getfield 54, 3) := by decide +kernel
theorem dX12_worth_9 : decode cX12_worth 9 = .ok (.aload_n 0, 1) := by decide +kernel
theorem dX12_worth_10 : decode cX12_worth 10 = .ok (.getfield 48, 3) := by decide +kernel
theorem dX12_worth_13 : decode cX12_worth 13 = .ok (.iaload, 1) := by decide +kernel
theorem dX12_worth_14 : decode cX12_worth 14 = .ok (.if_icmp .ge 39, 3) := by decide +kernel
theorem dX12_worth_17 : decode cX12_worth 17 = .ok (.iload_n 2, 1) := by decide +kernel
theorem dX12_worth_18 : decode cX12_worth 18 = .ok (.iload_n 1, 1) := by decide +kernel
theorem dX12_worth_19 : decode cX12_worth 19 = .ok (.iload_n 3, 1) := by decide +kernel
theorem dX12_worth_20 : decode cX12_worth 20 = .ok (.ishr, 1) := by decide +kernel
theorem dX12_worth_21 : decode cX12_worth 21 = .ok (.iconst 1, 1) := by decide +kernel
theorem dX12_worth_22 : decode cX12_worth 22 = .ok (.iand, 1) := by decide +kernel
theorem dX12_worth_23 : decode cX12_worth 23 = .ok (.iconst 1, 1) := by decide +kernel
theorem dX12_worth_24 : decode cX12_worth 24 = .ok (.if_icmp .ne 20, 3) := by decide +kernel
theorem dX12_worth_27 : decode cX12_worth 27 = .ok (.aload_n 0, 1) := by decide +kernel
theorem dX12_worth_28 : decode cX12_worth 28 = .ok (.getfield 73, 3) := by decide +kernel
theorem dX12_worth_31 : decode cX12_worth 31 = .ok (.bipush 10, 2) := by decide +kernel
theorem dX12_worth_33 : decode cX12_worth 33 = .ok (.aload_n 0, 1) := by decide +kernel
theorem dX12_worth_34 : decode cX12_worth 34 = .ok (.getfield 48, 3) := by decide +kernel
theorem dX12_worth_37 : decode cX12_worth 37 = .ok (.imul, 1) := by decide +kernel
theorem dX12_worth_38 : decode cX12_worth 38 = .ok (.iload_n 3, 1) := by decide +kernel
theorem dX12_worth_39 : decode cX12_worth 39 = .ok (.iadd, 1) := by decide +kernel
theorem dX12_worth_40 : decode cX12_worth 40 = .ok (.iaload, 1) := by decide +kernel
theorem dX12_worth_41 : decode cX12_worth 41 = .ok (.goto 4, 3) := by decide +kernel
theorem dX12_worth_44 : decode cX12_worth 44 = .ok (.iconst 0, 1) := by decide +kernel
theorem dX12_worth_45 : decode cX12_worth 45 = .ok (.iadd, 1) := by decide +kernel
theorem dX12_worth_46 : decode cX12_worth 46 = .ok (.istore_n 2, 1) := by decide +kernel
theorem dX12_worth_47 : decode cX12_worth 47 = .ok (.iinc 3 1, 3) := by decide +kernel
theorem dX12_worth_50 : decode cX12_worth 50 = .ok (.goto (-46), 3) := by decide +kernel
theorem dX12_worth_53 : decode cX12_worth 53 = .ok (.iload_n 2, 1) := by decide +kernel
theorem dX12_worth_54 : decode cX12_worth 54 = .ok (.ireturn, 1) := by decide +kernel
theorem dX12_writes_0 : decode cX12_writes 0 = .ok (.aload_n 0, 1) := by decide +kernel
theorem dX12_writes_1 : decode cX12_writes 1 = .ok (.getfield 291, 3) := by decide +kernel
theorem dX12_writes_4 : decode cX12_writes 4 = .ok (.aload_n 0, 1) := by decide +kernel
theorem dX12_writes_5 : decode cX12_writes 5 = .ok (.getfield 294, 3) := by decide +kernel
theorem dX12_writes_8 : decode cX12_writes 8 = .ok (.iload_n 1, 1) := by decide +kernel
theorem dX12_writes_9 : decode cX12_writes 9 = .ok (.iastore, 1) := by decide +kernel
theorem dX12_writes_10 : decode cX12_writes 10 = .ok (.aload_n 0, 1) := by decide +kernel
theorem dX12_writes_11 : decode cX12_writes 11 = .ok (.dup, 1) := by decide +kernel
theorem dX12_writes_12 : decode cX12_writes 12 = .ok (.getfield 294, 3) := by decide +kernel
theorem dX12_writes_15 : decode cX12_writes 15 = .ok (.iconst 1, 1) := by decide +kernel
theorem dX12_writes_16 : decode cX12_writes 16 = .ok (.iadd, 1) := by decide +kernel
theorem dX12_writes_17 : decode cX12_writes 17 = .ok (.putfield 294, 3) := by decide +kernel
theorem dX12_writes_20 : decode cX12_writes 20 = .ok (.return_, 1) := by decide +kernel
theorem dX2_change_0 : decode cX2_change 0 = .ok (.iload_n 2, 1) := by decide +kernel
theorem dX2_change_1 : decode cX2_change 1 = .ok (.istore_n 3, 1) := by decide +kernel
theorem dX2_change_2 : decode cX2_change 2 = .ok (.iconst 0, 1) := by decide +kernel
theorem dX2_change_3 : decode cX2_change 3 = .ok (.istore 4, 2) := by decide +kernel
theorem dX2_change_5 : decode cX2_change 5 = .ok (.iload 4, 2) := by decide +kernel
theorem dX2_change_7 : decode cX2_change 7 = .ok (.ldc 89, 2) := by decide +kernel
theorem dX2_change_9 : decode cX2_change 9 = .ok (.if_icmp .ge 68, 3) := by decide +kernel
theorem dX2_change_12 : decode cX2_change 12 = .ok (.iload_n 3, 1) := by decide +kernel
theorem dX2_change_13 : decode cX2_change 13 = .ok (.iload_n 1, 1) := by decide +kernel
theorem dX2_change_14 : decode cX2_change 14 = .ok (.if_icmp .eq 63, 3) := by decide +kernel
theorem dX2_change_17 : decode cX2_change 17 = .ok (.aload_n 0, 1) := by decide +kernel
theorem dX2_change_18 : decode cX2_change 18 = .ok (.getfield 15, 3) := by decide +kernel
theorem dX2_change_21 : decode cX2_change 21 = .ok (.iload_n 3, 1) := by decide +kernel
theorem dX2_change_22 : decode cX2_change 22 = .ok (.iaload, 1) := by decide +kernel
theorem dX2_change_23 : decode cX2_change 23 = .ok (.istore 5, 2) := by decide +kernel
theorem dX2_change_25 : decode cX2_change 25 = .ok (.aload_n 0, 1) := by decide +kernel
theorem dX2_change_26 : decode cX2_change 26 = .ok (.getfield 22, 3) := by decide +kernel
