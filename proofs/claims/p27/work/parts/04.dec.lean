theorem dL_passes_209 : decode cL_passes 209 = .ok (.lload 7, 2) := by decide +kernel
theorem dL_passes_211 : decode cL_passes 211 = .ok (.lcmp, 1) := by decide +kernel
theorem dL_passes_212 : decode cL_passes 212 = .ok (.ifCond .ne 20, 3) := by decide +kernel
theorem dL_passes_215 : decode cL_passes 215 = .ok (.aload_n 0, 1) := by decide +kernel
theorem dL_passes_216 : decode cL_passes 216 = .ok (.iconst 0, 1) := by decide +kernel
theorem dL_passes_217 : decode cL_passes 217 = .ok (.invokevirtual 110, 3) := by decide +kernel
theorem dL_passes_220 : decode cL_passes 220 = .ok (.aload 5, 2) := by decide +kernel
theorem dL_passes_222 : decode cL_passes 222 = .ok (.bipush 10, 2) := by decide +kernel
theorem dL_passes_224 : decode cL_passes 224 = .ok (.iaload, 1) := by decide +kernel
theorem dL_passes_225 : decode cL_passes 225 = .ok (.if_icmp .ne 7, 3) := by decide +kernel
theorem dL_passes_228 : decode cL_passes 228 = .ok (.iconst 1, 1) := by decide +kernel
theorem dL_passes_229 : decode cL_passes 229 = .ok (.goto 4, 3) := by decide +kernel
theorem dL_passes_232 : decode cL_passes 232 = .ok (.iconst 0, 1) := by decide +kernel
theorem dL_passes_233 : decode cL_passes 233 = .ok (.istore 13, 2) := by decide +kernel
theorem dL_passes_235 : decode cL_passes 235 = .ok (.iload 13, 2) := by decide +kernel
theorem dL_passes_237 : decode cL_passes 237 = .ok (.ifCond .eq 91, 3) := by decide +kernel
theorem dL_passes_240 : decode cL_passes 240 = .ok (.aload 5, 2) := by decide +kernel
theorem dL_passes_242 : decode cL_passes 242 = .ok (.bipush 10, 2) := by decide +kernel
theorem dL_passes_244 : decode cL_passes 244 = .ok (.iaload, 1) := by decide +kernel
theorem dL_passes_245 : decode cL_passes 245 = .ok (.ifCond .ne 31, 3) := by decide +kernel
theorem dL_passes_248 : decode cL_passes 248 = .ok (.aload_n 0, 1) := by decide +kernel
theorem dL_passes_249 : decode cL_passes 249 = .ok (.iconst 1, 1) := by decide +kernel
theorem dL_passes_250 : decode cL_passes 250 = .ok (.invokevirtual 110, 3) := by decide +kernel
theorem dL_passes_253 : decode cL_passes 253 = .ok (.ifCond .ne 75, 3) := by decide +kernel
theorem dL_passes_256 : decode cL_passes 256 = .ok (.aload_n 0, 1) := by decide +kernel
theorem dL_passes_257 : decode cL_passes 257 = .ok (.iconst 2, 1) := by decide +kernel
theorem dL_passes_258 : decode cL_passes 258 = .ok (.invokevirtual 110, 3) := by decide +kernel
theorem dL_passes_261 : decode cL_passes 261 = .ok (.ifCond .ne 67, 3) := by decide +kernel
theorem dL_passes_264 : decode cL_passes 264 = .ok (.aload_n 0, 1) := by decide +kernel
theorem dL_passes_265 : decode cL_passes 265 = .ok (.iconst 3, 1) := by decide +kernel
theorem dL_passes_266 : decode cL_passes 266 = .ok (.invokevirtual 110, 3) := by decide +kernel
theorem dL_passes_269 : decode cL_passes 269 = .ok (.iconst (-1), 1) := by decide +kernel
theorem dL_passes_270 : decode cL_passes 270 = .ok (.if_icmp .ne 58, 3) := by decide +kernel
theorem dL_passes_273 : decode cL_passes 273 = .ok (.goto 51, 3) := by decide +kernel
theorem dL_passes_276 : decode cL_passes 276 = .ok (.aload_n 0, 1) := by decide +kernel
theorem dL_passes_277 : decode cL_passes 277 = .ok (.iconst 1, 1) := by decide +kernel
theorem dL_passes_278 : decode cL_passes 278 = .ok (.invokevirtual 110, 3) := by decide +kernel
theorem dL_passes_281 : decode cL_passes 281 = .ok (.aload 5, 2) := by decide +kernel
theorem dL_passes_283 : decode cL_passes 283 = .ok (.bipush 10, 2) := by decide +kernel
theorem dL_passes_285 : decode cL_passes 285 = .ok (.iaload, 1) := by decide +kernel
theorem dL_passes_286 : decode cL_passes 286 = .ok (.if_icmp .lt 42, 3) := by decide +kernel
theorem dL_passes_289 : decode cL_passes 289 = .ok (.aload_n 0, 1) := by decide +kernel
theorem dL_passes_290 : decode cL_passes 290 = .ok (.iconst 1, 1) := by decide +kernel
theorem dL_passes_291 : decode cL_passes 291 = .ok (.invokevirtual 110, 3) := by decide +kernel
theorem dL_passes_294 : decode cL_passes 294 = .ok (.bipush 10, 2) := by decide +kernel
theorem dL_passes_296 : decode cL_passes 296 = .ok (.aload 5, 2) := by decide +kernel
theorem dL_passes_298 : decode cL_passes 298 = .ok (.bipush 10, 2) := by decide +kernel
theorem dL_passes_300 : decode cL_passes 300 = .ok (.iaload, 1) := by decide +kernel
theorem dL_passes_301 : decode cL_passes 301 = .ok (.imul, 1) := by decide +kernel
theorem dL_passes_302 : decode cL_passes 302 = .ok (.if_icmp .gt 26, 3) := by decide +kernel
theorem dL_passes_305 : decode cL_passes 305 = .ok (.aload_n 0, 1) := by decide +kernel
theorem dL_passes_306 : decode cL_passes 306 = .ok (.iconst 3, 1) := by decide +kernel
theorem dL_passes_307 : decode cL_passes 307 = .ok (.invokevirtual 110, 3) := by decide +kernel
theorem dL_passes_310 : decode cL_passes 310 = .ok (.ifCond .lt 18, 3) := by decide +kernel
theorem dL_passes_313 : decode cL_passes 313 = .ok (.aload_n 0, 1) := by decide +kernel
theorem dL_passes_314 : decode cL_passes 314 = .ok (.iconst 3, 1) := by decide +kernel
theorem dL_passes_315 : decode cL_passes 315 = .ok (.invokevirtual 110, 3) := by decide +kernel
theorem dL_passes_318 : decode cL_passes 318 = .ok (.aload_n 2, 1) := by decide +kernel
theorem dL_passes_319 : decode cL_passes 319 = .ok (.iconst 0, 1) := by decide +kernel
theorem dL_passes_320 : decode cL_passes 320 = .ok (.iaload, 1) := by decide +kernel
theorem dL_passes_321 : decode cL_passes 321 = .ok (.if_icmp .ge 7, 3) := by decide +kernel
theorem dL_passes_324 : decode cL_passes 324 = .ok (.iconst 1, 1) := by decide +kernel
theorem dL_passes_325 : decode cL_passes 325 = .ok (.goto 4, 3) := by decide +kernel
theorem dL_passes_328 : decode cL_passes 328 = .ok (.iconst 0, 1) := by decide +kernel
theorem dL_passes_329 : decode cL_passes 329 = .ok (.istore 13, 2) := by decide +kernel
theorem dL_passes_331 : decode cL_passes 331 = .ok (.iconst 0, 1) := by decide +kernel
theorem dL_passes_332 : decode cL_passes 332 = .ok (.istore 14, 2) := by decide +kernel
theorem dL_passes_334 : decode cL_passes 334 = .ok (.iload 14, 2) := by decide +kernel
theorem dL_passes_336 : decode cL_passes 336 = .ok (.bipush 10, 2) := by decide +kernel
theorem dL_passes_338 : decode cL_passes 338 = .ok (.if_icmp .ge 65, 3) := by decide +kernel
theorem dL_passes_341 : decode cL_passes 341 = .ok (.iload 13, 2) := by decide +kernel
theorem dL_passes_343 : decode cL_passes 343 = .ok (.ifCond .eq 60, 3) := by decide +kernel
theorem dL_passes_346 : decode cL_passes 346 = .ok (.aload_n 0, 1) := by decide +kernel
theorem dL_passes_347 : decode cL_passes 347 = .ok (.iload 14, 2) := by decide +kernel
theorem dL_passes_349 : decode cL_passes 349 = .ok (.iconst 0, 1) := by decide +kernel
theorem dL_passes_350 : decode cL_passes 350 = .ok (.invokevirtual 52, 3) := by decide +kernel
theorem dL_passes_353 : decode cL_passes 353 = .ok (.aload 5, 2) := by decide +kernel
theorem dL_passes_355 : decode cL_passes 355 = .ok (.iload 14, 2) := by decide +kernel
theorem dL_passes_357 : decode cL_passes 357 = .ok (.iaload, 1) := by decide +kernel
theorem dL_passes_358 : decode cL_passes 358 = .ok (.if_icmp .ne 36, 3) := by decide +kernel
theorem dL_passes_361 : decode cL_passes 361 = .ok (.aload_n 0, 1) := by decide +kernel
theorem dL_passes_362 : decode cL_passes 362 = .ok (.iload 14, 2) := by decide +kernel
theorem dL_passes_364 : decode cL_passes 364 = .ok (.iconst 5, 1) := by decide +kernel
theorem dL_passes_365 : decode cL_passes 365 = .ok (.invokevirtual 52, 3) := by decide +kernel
theorem dL_passes_368 : decode cL_passes 368 = .ok (.aload 6, 2) := by decide +kernel
theorem dL_passes_370 : decode cL_passes 370 = .ok (.iload 14, 2) := by decide +kernel
theorem dL_passes_372 : decode cL_passes 372 = .ok (.iaload, 1) := by decide +kernel
theorem dL_passes_373 : decode cL_passes 373 = .ok (.ifCond .le 13, 3) := by decide +kernel
theorem dL_passes_376 : decode cL_passes 376 = .ok (.aload 6, 2) := by decide +kernel
theorem dL_passes_378 : decode cL_passes 378 = .ok (.iload 14, 2) := by decide +kernel
theorem dL_passes_380 : decode cL_passes 380 = .ok (.iaload, 1) := by decide +kernel
theorem dL_passes_381 : decode cL_passes 381 = .ok (.iconst 1, 1) := by decide +kernel
theorem dL_passes_382 : decode cL_passes 382 = .ok (.isub, 1) := by decide +kernel
theorem dL_passes_383 : decode cL_passes 383 = .ok (.goto 4, 3) := by decide +kernel
theorem dL_passes_386 : decode cL_passes 386 = .ok (.iconst 0, 1) := by decide +kernel
theorem dL_passes_387 : decode cL_passes 387 = .ok (.if_icmp .ne 7, 3) := by decide +kernel
theorem dL_passes_390 : decode cL_passes 390 = .ok (.iconst 1, 1) := by decide +kernel
theorem dL_passes_391 : decode cL_passes 391 = .ok (.goto 4, 3) := by decide +kernel
theorem dL_passes_394 : decode cL_passes 394 = .ok (.iconst 0, 1) := by decide +kernel
theorem dL_passes_395 : decode cL_passes 395 = .ok (.istore 13, 2) := by decide +kernel
theorem dL_passes_397 : decode cL_passes 397 = .ok (.iinc 14 1, 3) := by decide +kernel
theorem dL_passes_400 : decode cL_passes 400 = .ok (.goto (-66), 3) := by decide +kernel
theorem dL_passes_403 : decode cL_passes 403 = .ok (.iconst 0, 1) := by decide +kernel
theorem dL_passes_404 : decode cL_passes 404 = .ok (.istore 14, 2) := by decide +kernel
theorem dL_passes_406 : decode cL_passes 406 = .ok (.iload 14, 2) := by decide +kernel
theorem dL_passes_408 : decode cL_passes 408 = .ok (.bipush 6, 2) := by decide +kernel
theorem dL_passes_410 : decode cL_passes 410 = .ok (.if_icmp .ge 18, 3) := by decide +kernel
theorem dL_passes_413 : decode cL_passes 413 = .ok (.aload 4, 2) := by decide +kernel
theorem dL_passes_415 : decode cL_passes 415 = .ok (.bipush 12, 2) := by decide +kernel
theorem dL_passes_417 : decode cL_passes 417 = .ok (.iload 14, 2) := by decide +kernel
theorem dL_passes_419 : decode cL_passes 419 = .ok (.iadd, 1) := by decide +kernel
theorem dL_passes_420 : decode cL_passes 420 = .ok (.iconst 0, 1) := by decide +kernel
theorem dL_passes_421 : decode cL_passes 421 = .ok (.iastore, 1) := by decide +kernel
theorem dL_passes_422 : decode cL_passes 422 = .ok (.iinc 14 1, 3) := by decide +kernel
theorem dL_passes_425 : decode cL_passes 425 = .ok (.goto (-19), 3) := by decide +kernel
theorem dL_passes_428 : decode cL_passes 428 = .ok (.iload 13, 2) := by decide +kernel
theorem dL_passes_430 : decode cL_passes 430 = .ok (.ireturn, 1) := by decide +kernel
theorem dL_bottles_0 : decode cL_bottles 0 = .ok (.aload_n 3, 1) := by decide +kernel
theorem dL_bottles_1 : decode cL_bottles 1 = .ok (.iconst 1, 1) := by decide +kernel
theorem dL_bottles_2 : decode cL_bottles 2 = .ok (.iaload, 1) := by decide +kernel
theorem dL_bottles_3 : decode cL_bottles 3 = .ok (.ifCond .ne 21, 3) := by decide +kernel
theorem dL_bottles_6 : decode cL_bottles 6 = .ok (.aload_n 0, 1) := by decide +kernel
theorem dL_bottles_7 : decode cL_bottles 7 = .ok (.iconst 0, 1) := by decide +kernel
theorem dL_bottles_8 : decode cL_bottles 8 = .ok (.iconst 0, 1) := by decide +kernel
theorem dL_bottles_9 : decode cL_bottles 9 = .ok (.iconst 1, 1) := by decide +kernel
theorem dL_bottles_10 : decode cL_bottles 10 = .ok (.invokestatic 90, 3) := by decide +kernel
theorem dL_bottles_13 : decode cL_bottles 13 = .ok (.ldc 41, 2) := by decide +kernel
theorem dL_bottles_15 : decode cL_bottles 15 = .ok (.if_icmp .ne 7, 3) := by decide +kernel
theorem dL_bottles_18 : decode cL_bottles 18 = .ok (.iconst 1, 1) := by decide +kernel
theorem dL_bottles_19 : decode cL_bottles 19 = .ok (.goto 4, 3) := by decide +kernel
theorem dL_bottles_22 : decode cL_bottles 22 = .ok (.iconst 0, 1) := by decide +kernel
theorem dL_bottles_23 : decode cL_bottles 23 = .ok (.ireturn, 1) := by decide +kernel
theorem dL_bottles_24 : decode cL_bottles 24 = .ok (.iload_n 1, 1) := by decide +kernel
theorem dL_bottles_25 : decode cL_bottles 25 = .ok (.aload_n 3, 1) := by decide +kernel
theorem dL_bottles_26 : decode cL_bottles 26 = .ok (.iconst 1, 1) := by decide +kernel
theorem dL_bottles_27 : decode cL_bottles 27 = .ok (.iaload, 1) := by decide +kernel
theorem dL_bottles_28 : decode cL_bottles 28 = .ok (.irem, 1) := by decide +kernel
theorem dL_bottles_29 : decode cL_bottles 29 = .ok (.istore 5, 2) := by decide +kernel
theorem dL_bottles_31 : decode cL_bottles 31 = .ok (.iconst 1, 1) := by decide +kernel
theorem dL_bottles_32 : decode cL_bottles 32 = .ok (.iload_n 2, 1) := by decide +kernel
theorem dL_bottles_33 : decode cL_bottles 33 = .ok (.bipush 40, 2) := by decide +kernel
theorem dL_bottles_35 : decode cL_bottles 35 = .ok (.irem, 1) := by decide +kernel
theorem dL_bottles_36 : decode cL_bottles 36 = .ok (.iadd, 1) := by decide +kernel
theorem dL_bottles_37 : decode cL_bottles 37 = .ok (.istore 6, 2) := by decide +kernel
theorem dL_bottles_39 : decode cL_bottles 39 = .ok (.aload_n 0, 1) := by decide +kernel
theorem dL_bottles_40 : decode cL_bottles 40 = .ok (.aload 4, 2) := by decide +kernel
theorem dL_bottles_42 : decode cL_bottles 42 = .ok (.iload 5, 2) := by decide +kernel
theorem dL_bottles_44 : decode cL_bottles 44 = .ok (.iaload, 1) := by decide +kernel
theorem dL_bottles_45 : decode cL_bottles 45 = .ok (.iconst 0, 1) := by decide +kernel
theorem dL_bottles_46 : decode cL_bottles 46 = .ok (.invokevirtual 52, 3) := by decide +kernel
theorem dL_bottles_49 : decode cL_bottles 49 = .ok (.istore 7, 2) := by decide +kernel
theorem dL_bottles_51 : decode cL_bottles 51 = .ok (.aload_n 0, 1) := by decide +kernel
theorem dL_bottles_52 : decode cL_bottles 52 = .ok (.iconst 5, 1) := by decide +kernel
theorem dL_bottles_53 : decode cL_bottles 53 = .ok (.invokevirtual 86, 3) := by decide +kernel
theorem dL_bottles_56 : decode cL_bottles 56 = .ok (.lstore 8, 2) := by decide +kernel
theorem dL_bottles_58 : decode cL_bottles 58 = .ok (.iload 6, 2) := by decide +kernel
theorem dL_bottles_60 : decode cL_bottles 60 = .ok (.aload_n 0, 1) := by decide +kernel
theorem dL_bottles_61 : decode cL_bottles 61 = .ok (.iload 5, 2) := by decide +kernel
theorem dL_bottles_63 : decode cL_bottles 63 = .ok (.aload_n 3, 1) := by decide +kernel
theorem dL_bottles_64 : decode cL_bottles 64 = .ok (.aload 4, 2) := by decide +kernel
theorem dL_bottles_66 : decode cL_bottles 66 = .ok (.invokestatic 97, 3) := by decide +kernel
theorem dL_bottles_69 : decode cL_bottles 69 = .ok (.if_icmp .gt 22, 3) := by decide +kernel
theorem dL_bottles_72 : decode cL_bottles 72 = .ok (.iload 6, 2) := by decide +kernel
theorem dL_bottles_74 : decode cL_bottles 74 = .ok (.iload 7, 2) := by decide +kernel
theorem dL_bottles_76 : decode cL_bottles 76 = .ok (.if_icmp .gt 15, 3) := by decide +kernel
theorem dL_bottles_79 : decode cL_bottles 79 = .ok (.aload_n 3, 1) := by decide +kernel
theorem dL_bottles_80 : decode cL_bottles 80 = .ok (.iconst 2, 1) := by decide +kernel
theorem dL_bottles_81 : decode cL_bottles 81 = .ok (.iaload, 1) := by decide +kernel
theorem dL_bottles_82 : decode cL_bottles 82 = .ok (.bipush 40, 2) := by decide +kernel
theorem dL_bottles_84 : decode cL_bottles 84 = .ok (.if_icmp .ge 7, 3) := by decide +kernel
theorem dL_bottles_87 : decode cL_bottles 87 = .ok (.iconst 1, 1) := by decide +kernel
theorem dL_bottles_88 : decode cL_bottles 88 = .ok (.goto 4, 3) := by decide +kernel
theorem dL_bottles_91 : decode cL_bottles 91 = .ok (.iconst 0, 1) := by decide +kernel
theorem dL_bottles_92 : decode cL_bottles 92 = .ok (.istore 10, 2) := by decide +kernel
theorem dL_bottles_94 : decode cL_bottles 94 = .ok (.aload_n 0, 1) := by decide +kernel
theorem dL_bottles_95 : decode cL_bottles 95 = .ok (.iconst 0, 1) := by decide +kernel
theorem dL_bottles_96 : decode cL_bottles 96 = .ok (.iload 5, 2) := by decide +kernel
theorem dL_bottles_98 : decode cL_bottles 98 = .ok (.iload 6, 2) := by decide +kernel
theorem dL_bottles_100 : decode cL_bottles 100 = .ok (.invokestatic 90, 3) := by decide +kernel
theorem dL_bottles_103 : decode cL_bottles 103 = .ok (.istore 11, 2) := by decide +kernel
theorem dL_bottles_105 : decode cL_bottles 105 = .ok (.iload 10, 2) := by decide +kernel
theorem dL_bottles_107 : decode cL_bottles 107 = .ok (.ifCond .ne 42, 3) := by decide +kernel
theorem dL_bottles_110 : decode cL_bottles 110 = .ok (.iload 11, 2) := by decide +kernel
theorem dL_bottles_112 : decode cL_bottles 112 = .ok (.ldc 47, 2) := by decide +kernel
theorem dL_bottles_114 : decode cL_bottles 114 = .ok (.if_icmp .ne 33, 3) := by decide +kernel
theorem dL_bottles_117 : decode cL_bottles 117 = .ok (.aload_n 0, 1) := by decide +kernel
theorem dL_bottles_118 : decode cL_bottles 118 = .ok (.aload 4, 2) := by decide +kernel
theorem dL_bottles_120 : decode cL_bottles 120 = .ok (.iload 5, 2) := by decide +kernel
theorem dL_bottles_122 : decode cL_bottles 122 = .ok (.iaload, 1) := by decide +kernel
theorem dL_bottles_123 : decode cL_bottles 123 = .ok (.iconst 0, 1) := by decide +kernel
theorem dL_bottles_124 : decode cL_bottles 124 = .ok (.invokevirtual 52, 3) := by decide +kernel
theorem dL_bottles_127 : decode cL_bottles 127 = .ok (.iload 7, 2) := by decide +kernel
theorem dL_bottles_129 : decode cL_bottles 129 = .ok (.if_icmp .ne 18, 3) := by decide +kernel
theorem dL_bottles_132 : decode cL_bottles 132 = .ok (.aload_n 0, 1) := by decide +kernel
theorem dL_bottles_133 : decode cL_bottles 133 = .ok (.iconst 5, 1) := by decide +kernel
theorem dL_bottles_134 : decode cL_bottles 134 = .ok (.invokevirtual 86, 3) := by decide +kernel
theorem dL_bottles_137 : decode cL_bottles 137 = .ok (.lload 8, 2) := by decide +kernel
theorem dL_bottles_139 : decode cL_bottles 139 = .ok (.lcmp, 1) := by decide +kernel
theorem dL_bottles_140 : decode cL_bottles 140 = .ok (.ifCond .ne 7, 3) := by decide +kernel
theorem dL_bottles_143 : decode cL_bottles 143 = .ok (.iconst 1, 1) := by decide +kernel
theorem dL_bottles_144 : decode cL_bottles 144 = .ok (.goto 4, 3) := by decide +kernel
theorem dL_bottles_147 : decode cL_bottles 147 = .ok (.iconst 0, 1) := by decide +kernel
theorem dL_bottles_148 : decode cL_bottles 148 = .ok (.ireturn, 1) := by decide +kernel
theorem dL_bottles_149 : decode cL_bottles 149 = .ok (.aload 4, 2) := by decide +kernel
theorem dL_bottles_151 : decode cL_bottles 151 = .ok (.bipush 12, 2) := by decide +kernel
theorem dL_bottles_153 : decode cL_bottles 153 = .ok (.iload 5, 2) := by decide +kernel
theorem dL_bottles_155 : decode cL_bottles 155 = .ok (.iadd, 1) := by decide +kernel
theorem dL_bottles_156 : decode cL_bottles 156 = .ok (.dup2, 1) := by decide +kernel
theorem dL_bottles_157 : decode cL_bottles 157 = .ok (.iaload, 1) := by decide +kernel
theorem dL_bottles_158 : decode cL_bottles 158 = .ok (.iload 6, 2) := by decide +kernel
theorem dL_bottles_160 : decode cL_bottles 160 = .ok (.iadd, 1) := by decide +kernel
theorem dL_bottles_161 : decode cL_bottles 161 = .ok (.iastore, 1) := by decide +kernel
theorem dL_bottles_162 : decode cL_bottles 162 = .ok (.aload_n 3, 1) := by decide +kernel
theorem dL_bottles_163 : decode cL_bottles 163 = .ok (.iconst 2, 1) := by decide +kernel
theorem dL_bottles_164 : decode cL_bottles 164 = .ok (.dup2, 1) := by decide +kernel
theorem dL_bottles_165 : decode cL_bottles 165 = .ok (.iaload, 1) := by decide +kernel
theorem dL_bottles_166 : decode cL_bottles 166 = .ok (.iconst 1, 1) := by decide +kernel
theorem dL_bottles_167 : decode cL_bottles 167 = .ok (.iadd, 1) := by decide +kernel
theorem dL_bottles_168 : decode cL_bottles 168 = .ok (.iastore, 1) := by decide +kernel
theorem dL_bottles_169 : decode cL_bottles 169 = .ok (.iload 11, 2) := by decide +kernel
theorem dL_bottles_171 : decode cL_bottles 171 = .ok (.aload_n 3, 1) := by decide +kernel
theorem dL_bottles_172 : decode cL_bottles 172 = .ok (.iconst 2, 1) := by decide +kernel
theorem dL_bottles_173 : decode cL_bottles 173 = .ok (.iaload, 1) := by decide +kernel
theorem dL_bottles_174 : decode cL_bottles 174 = .ok (.iconst 1, 1) := by decide +kernel
theorem dL_bottles_175 : decode cL_bottles 175 = .ok (.isub, 1) := by decide +kernel
theorem dL_bottles_176 : decode cL_bottles 176 = .ok (.if_icmp .ne 93, 3) := by decide +kernel
theorem dL_bottles_179 : decode cL_bottles 179 = .ok (.aload_n 0, 1) := by decide +kernel
theorem dL_bottles_180 : decode cL_bottles 180 = .ok (.aload 4, 2) := by decide +kernel
theorem dL_bottles_182 : decode cL_bottles 182 = .ok (.iload 5, 2) := by decide +kernel
theorem dL_bottles_184 : decode cL_bottles 184 = .ok (.iaload, 1) := by decide +kernel
theorem dL_bottles_185 : decode cL_bottles 185 = .ok (.iconst 0, 1) := by decide +kernel
theorem dL_bottles_186 : decode cL_bottles 186 = .ok (.invokevirtual 52, 3) := by decide +kernel
theorem dL_bottles_189 : decode cL_bottles 189 = .ok (.iload 7, 2) := by decide +kernel
theorem dL_bottles_191 : decode cL_bottles 191 = .ok (.iload 6, 2) := by decide +kernel
theorem dL_bottles_193 : decode cL_bottles 193 = .ok (.isub, 1) := by decide +kernel
theorem dL_bottles_194 : decode cL_bottles 194 = .ok (.if_icmp .ne 75, 3) := by decide +kernel
theorem dL_bottles_197 : decode cL_bottles 197 = .ok (.aload_n 0, 1) := by decide +kernel
theorem dL_bottles_198 : decode cL_bottles 198 = .ok (.iconst 5, 1) := by decide +kernel
theorem dL_bottles_199 : decode cL_bottles 199 = .ok (.invokevirtual 86, 3) := by decide +kernel
theorem dL_bottles_202 : decode cL_bottles 202 = .ok (.lload 8, 2) := by decide +kernel
theorem dL_bottles_204 : decode cL_bottles 204 = .ok (.aload_n 3, 1) := by decide +kernel
theorem dL_bottles_205 : decode cL_bottles 205 = .ok (.iconst 4, 1) := by decide +kernel
theorem dL_bottles_206 : decode cL_bottles 206 = .ok (.iaload, 1) := by decide +kernel
theorem dL_bottles_207 : decode cL_bottles 207 = .ok (.i2l, 1) := by decide +kernel
theorem dL_bottles_208 : decode cL_bottles 208 = .ok (.iload 6, 2) := by decide +kernel
theorem dL_bottles_210 : decode cL_bottles 210 = .ok (.i2l, 1) := by decide +kernel
theorem dL_bottles_211 : decode cL_bottles 211 = .ok (.lmul, 1) := by decide +kernel
theorem dL_bottles_212 : decode cL_bottles 212 = .ok (.ladd, 1) := by decide +kernel
theorem dL_bottles_213 : decode cL_bottles 213 = .ok (.lcmp, 1) := by decide +kernel
theorem dL_bottles_214 : decode cL_bottles 214 = .ok (.ifCond .ne 55, 3) := by decide +kernel
theorem dL_bottles_217 : decode cL_bottles 217 = .ok (.aload_n 0, 1) := by decide +kernel
theorem dL_bottles_218 : decode cL_bottles 218 = .ok (.iload 11, 2) := by decide +kernel
theorem dL_bottles_220 : decode cL_bottles 220 = .ok (.iconst 0, 1) := by decide +kernel
theorem dL_bottles_221 : decode cL_bottles 221 = .ok (.invokevirtual 36, 3) := by decide +kernel
theorem dL_bottles_224 : decode cL_bottles 224 = .ok (.iload 5, 2) := by decide +kernel
theorem dL_bottles_226 : decode cL_bottles 226 = .ok (.if_icmp .ne 43, 3) := by decide +kernel
theorem dL_bottles_229 : decode cL_bottles 229 = .ok (.aload_n 0, 1) := by decide +kernel
theorem dL_bottles_230 : decode cL_bottles 230 = .ok (.iload 11, 2) := by decide +kernel
theorem dL_bottles_232 : decode cL_bottles 232 = .ok (.iconst 1, 1) := by decide +kernel
theorem dL_bottles_233 : decode cL_bottles 233 = .ok (.invokevirtual 36, 3) := by decide +kernel
theorem dL_bottles_236 : decode cL_bottles 236 = .ok (.iload 6, 2) := by decide +kernel
theorem dL_bottles_238 : decode cL_bottles 238 = .ok (.if_icmp .ne 31, 3) := by decide +kernel
theorem dL_bottles_241 : decode cL_bottles 241 = .ok (.aload_n 0, 1) := by decide +kernel
theorem dL_bottles_242 : decode cL_bottles 242 = .ok (.iload 11, 2) := by decide +kernel
theorem dL_bottles_244 : decode cL_bottles 244 = .ok (.iconst 3, 1) := by decide +kernel
theorem dL_bottles_245 : decode cL_bottles 245 = .ok (.invokevirtual 36, 3) := by decide +kernel
theorem dL_bottles_248 : decode cL_bottles 248 = .ok (.aload_n 3, 1) := by decide +kernel
theorem dL_bottles_249 : decode cL_bottles 249 = .ok (.iconst 0, 1) := by decide +kernel
theorem dL_bottles_250 : decode cL_bottles 250 = .ok (.iaload, 1) := by decide +kernel
theorem dL_bottles_251 : decode cL_bottles 251 = .ok (.if_icmp .ne 18, 3) := by decide +kernel
theorem dL_bottles_254 : decode cL_bottles 254 = .ok (.aload_n 0, 1) := by decide +kernel
theorem dL_bottles_255 : decode cL_bottles 255 = .ok (.iload 11, 2) := by decide +kernel
theorem dL_bottles_257 : decode cL_bottles 257 = .ok (.bipush 7, 2) := by decide +kernel
theorem dL_bottles_259 : decode cL_bottles 259 = .ok (.invokevirtual 36, 3) := by decide +kernel
theorem dL_bottles_262 : decode cL_bottles 262 = .ok (.ifCond .ne 7, 3) := by decide +kernel
theorem dL_bottles_265 : decode cL_bottles 265 = .ok (.iconst 1, 1) := by decide +kernel
theorem dL_bottles_266 : decode cL_bottles 266 = .ok (.goto 4, 3) := by decide +kernel
theorem dL_bottles_269 : decode cL_bottles 269 = .ok (.iconst 0, 1) := by decide +kernel
theorem dL_bottles_270 : decode cL_bottles 270 = .ok (.ireturn, 1) := by decide +kernel
theorem dL_ofLots_0 : decode cL_ofLots 0 = .ok (.iload_n 1, 1) := by decide +kernel
theorem dL_ofLots_1 : decode cL_ofLots 1 = .ok (.iconst 5, 1) := by decide +kernel
theorem dL_ofLots_2 : decode cL_ofLots 2 = .ok (.irem, 1) := by decide +kernel
theorem dL_ofLots_3 : decode cL_ofLots 3 = .ok (.istore 5, 2) := by decide +kernel
theorem dL_ofLots_5 : decode cL_ofLots 5 = .ok (.iload 5, 2) := by decide +kernel
theorem dL_ofLots_7 : decode cL_ofLots 7 = .ok (.iconst 4, 1) := by decide +kernel
theorem dL_ofLots_8 : decode cL_ofLots 8 = .ok (.if_icmp .ne 188, 3) := by decide +kernel
theorem dL_ofLots_11 : decode cL_ofLots 11 = .ok (.iload_n 2, 1) := by decide +kernel
theorem dL_ofLots_12 : decode cL_ofLots 12 = .ok (.bipush 6, 2) := by decide +kernel
theorem dL_ofLots_14 : decode cL_ofLots 14 = .ok (.irem, 1) := by decide +kernel
theorem dL_ofLots_15 : decode cL_ofLots 15 = .ok (.istore 6, 2) := by decide +kernel
theorem dL_ofLots_17 : decode cL_ofLots 17 = .ok (.aload_n 3, 1) := by decide +kernel
theorem dL_ofLots_18 : decode cL_ofLots 18 = .ok (.iconst 3, 1) := by decide +kernel
theorem dL_ofLots_19 : decode cL_ofLots 19 = .ok (.iaload, 1) := by decide +kernel
theorem dL_ofLots_20 : decode cL_ofLots 20 = .ok (.iload 6, 2) := by decide +kernel
theorem dL_ofLots_22 : decode cL_ofLots 22 = .ok (.ishr, 1) := by decide +kernel
theorem dL_ofLots_23 : decode cL_ofLots 23 = .ok (.iconst 1, 1) := by decide +kernel
theorem dL_ofLots_24 : decode cL_ofLots 24 = .ok (.iand, 1) := by decide +kernel
theorem dL_ofLots_25 : decode cL_ofLots 25 = .ok (.iconst 1, 1) := by decide +kernel
theorem dL_ofLots_26 : decode cL_ofLots 26 = .ok (.if_icmp .ne 7, 3) := by decide +kernel
theorem dL_ofLots_29 : decode cL_ofLots 29 = .ok (.iconst 1, 1) := by decide +kernel
theorem dL_ofLots_30 : decode cL_ofLots 30 = .ok (.goto 4, 3) := by decide +kernel
theorem dL_ofLots_33 : decode cL_ofLots 33 = .ok (.iconst 0, 1) := by decide +kernel
theorem dL_ofLots_34 : decode cL_ofLots 34 = .ok (.istore 7, 2) := by decide +kernel
theorem dL_ofLots_36 : decode cL_ofLots 36 = .ok (.aload_n 0, 1) := by decide +kernel
theorem dL_ofLots_37 : decode cL_ofLots 37 = .ok (.iconst 3, 1) := by decide +kernel
theorem dL_ofLots_38 : decode cL_ofLots 38 = .ok (.iload 6, 2) := by decide +kernel
theorem dL_ofLots_40 : decode cL_ofLots 40 = .ok (.iconst 0, 1) := by decide +kernel
theorem dL_ofLots_41 : decode cL_ofLots 41 = .ok (.invokestatic 90, 3) := by decide +kernel
theorem dL_ofLots_44 : decode cL_ofLots 44 = .ok (.istore 8, 2) := by decide +kernel
theorem dL_ofLots_46 : decode cL_ofLots 46 = .ok (.iconst 0, 1) := by decide +kernel
theorem dL_ofLots_47 : decode cL_ofLots 47 = .ok (.istore 9, 2) := by decide +kernel
theorem dL_ofLots_49 : decode cL_ofLots 49 = .ok (.aload_n 3, 1) := by decide +kernel
theorem dL_ofLots_50 : decode cL_ofLots 50 = .ok (.iconst 3, 1) := by decide +kernel
theorem dL_ofLots_51 : decode cL_ofLots 51 = .ok (.dup2, 1) := by decide +kernel
theorem dL_ofLots_52 : decode cL_ofLots 52 = .ok (.iaload, 1) := by decide +kernel
theorem dL_ofLots_53 : decode cL_ofLots 53 = .ok (.iconst 1, 1) := by decide +kernel
theorem dL_ofLots_54 : decode cL_ofLots 54 = .ok (.iload 6, 2) := by decide +kernel
theorem dL_ofLots_56 : decode cL_ofLots 56 = .ok (.ishl, 1) := by decide +kernel
theorem dL_ofLots_57 : decode cL_ofLots 57 = .ok (.ior, 1) := by decide +kernel
theorem dL_ofLots_58 : decode cL_ofLots 58 = .ok (.iastore, 1) := by decide +kernel
theorem dL_ofLots_59 : decode cL_ofLots 59 = .ok (.iconst 0, 1) := by decide +kernel
theorem dL_ofLots_60 : decode cL_ofLots 60 = .ok (.istore 10, 2) := by decide +kernel
theorem dL_ofLots_62 : decode cL_ofLots 62 = .ok (.iload 10, 2) := by decide +kernel
theorem dL_ofLots_64 : decode cL_ofLots 64 = .ok (.aload_n 3, 1) := by decide +kernel
theorem dL_ofLots_65 : decode cL_ofLots 65 = .ok (.iconst 2, 1) := by decide +kernel
theorem dL_ofLots_66 : decode cL_ofLots 66 = .ok (.iaload, 1) := by decide +kernel
theorem dL_ofLots_67 : decode cL_ofLots 67 = .ok (.if_icmp .ge 106, 3) := by decide +kernel
theorem dL_ofLots_70 : decode cL_ofLots 70 = .ok (.iload 7, 2) := by decide +kernel
theorem dL_ofLots_72 : decode cL_ofLots 72 = .ok (.ifCond .ne 101, 3) := by decide +kernel
theorem dL_ofLots_75 : decode cL_ofLots 75 = .ok (.aload_n 0, 1) := by decide +kernel
theorem dL_ofLots_76 : decode cL_ofLots 76 = .ok (.iload 10, 2) := by decide +kernel
theorem dL_ofLots_78 : decode cL_ofLots 78 = .ok (.bipush 7, 2) := by decide +kernel
theorem dL_ofLots_80 : decode cL_ofLots 80 = .ok (.invokevirtual 36, 3) := by decide +kernel
theorem dL_ofLots_83 : decode cL_ofLots 83 = .ok (.iload 6, 2) := by decide +kernel
theorem dL_ofLots_85 : decode cL_ofLots 85 = .ok (.ishr, 1) := by decide +kernel
theorem dL_ofLots_86 : decode cL_ofLots 86 = .ok (.iconst 1, 1) := by decide +kernel
theorem dL_ofLots_87 : decode cL_ofLots 87 = .ok (.iand, 1) := by decide +kernel
theorem dL_ofLots_88 : decode cL_ofLots 88 = .ok (.iconst 1, 1) := by decide +kernel
theorem dL_ofLots_89 : decode cL_ofLots 89 = .ok (.if_icmp .ne 41, 3) := by decide +kernel
theorem dL_ofLots_92 : decode cL_ofLots 92 = .ok (.aload 4, 2) := by decide +kernel
theorem dL_ofLots_94 : decode cL_ofLots 94 = .ok (.iload 10, 2) := by decide +kernel
theorem dL_ofLots_96 : decode cL_ofLots 96 = .ok (.iaload, 1) := by decide +kernel
theorem dL_ofLots_97 : decode cL_ofLots 97 = .ok (.bipush 10, 2) := by decide +kernel
theorem dL_ofLots_99 : decode cL_ofLots 99 = .ok (.irem, 1) := by decide +kernel
theorem dL_ofLots_100 : decode cL_ofLots 100 = .ok (.iconst 1, 1) := by decide +kernel
theorem dL_ofLots_101 : decode cL_ofLots 101 = .ok (.if_icmp .eq 15, 3) := by decide +kernel
theorem dL_ofLots_104 : decode cL_ofLots 104 = .ok (.aload 4, 2) := by decide +kernel
theorem dL_ofLots_106 : decode cL_ofLots 106 = .ok (.iload 10, 2) := by decide +kernel
theorem dL_ofLots_108 : decode cL_ofLots 108 = .ok (.iaload, 1) := by decide +kernel
theorem dL_ofLots_109 : decode cL_ofLots 109 = .ok (.bipush 10, 2) := by decide +kernel
theorem dL_ofLots_111 : decode cL_ofLots 111 = .ok (.irem, 1) := by decide +kernel
theorem dL_ofLots_112 : decode cL_ofLots 112 = .ok (.iconst 2, 1) := by decide +kernel
theorem dL_ofLots_113 : decode cL_ofLots 113 = .ok (.if_icmp .ne 17, 3) := by decide +kernel
theorem dL_ofLots_116 : decode cL_ofLots 116 = .ok (.aload 4, 2) := by decide +kernel
theorem dL_ofLots_118 : decode cL_ofLots 118 = .ok (.iload 10, 2) := by decide +kernel
theorem dL_ofLots_120 : decode cL_ofLots 120 = .ok (.iaload, 1) := by decide +kernel
theorem dL_ofLots_121 : decode cL_ofLots 121 = .ok (.bipush 100, 2) := by decide +kernel
theorem dL_ofLots_123 : decode cL_ofLots 123 = .ok (.if_icmp .ge 7, 3) := by decide +kernel
theorem dL_ofLots_126 : decode cL_ofLots 126 = .ok (.iconst 1, 1) := by decide +kernel
theorem dL_ofLots_127 : decode cL_ofLots 127 = .ok (.goto 4, 3) := by decide +kernel
theorem dL_ofLots_130 : decode cL_ofLots 130 = .ok (.iconst 0, 1) := by decide +kernel
theorem dL_ofLots_131 : decode cL_ofLots 131 = .ok (.istore 11, 2) := by decide +kernel
theorem dL_ofLots_133 : decode cL_ofLots 133 = .ok (.iload 9, 2) := by decide +kernel
theorem dL_ofLots_135 : decode cL_ofLots 135 = .ok (.iload 11, 2) := by decide +kernel
theorem dL_ofLots_137 : decode cL_ofLots 137 = .ok (.ifCond .eq 7, 3) := by decide +kernel
theorem dL_ofLots_140 : decode cL_ofLots 140 = .ok (.iconst 1, 1) := by decide +kernel
theorem dL_ofLots_141 : decode cL_ofLots 141 = .ok (.goto 4, 3) := by decide +kernel
theorem dL_ofLots_144 : decode cL_ofLots 144 = .ok (.iconst 0, 1) := by decide +kernel
theorem dL_ofLots_145 : decode cL_ofLots 145 = .ok (.iadd, 1) := by decide +kernel
theorem dL_ofLots_146 : decode cL_ofLots 146 = .ok (.istore 9, 2) := by decide +kernel
theorem dL_ofLots_148 : decode cL_ofLots 148 = .ok (.aload 4, 2) := by decide +kernel
theorem dL_ofLots_150 : decode cL_ofLots 150 = .ok (.iload 10, 2) := by decide +kernel
theorem dL_ofLots_152 : decode cL_ofLots 152 = .ok (.dup2, 1) := by decide +kernel
theorem dL_ofLots_153 : decode cL_ofLots 153 = .ok (.iaload, 1) := by decide +kernel
theorem dL_ofLots_154 : decode cL_ofLots 154 = .ok (.iload 11, 2) := by decide +kernel
theorem dL_ofLots_156 : decode cL_ofLots 156 = .ok (.ifCond .eq 8, 3) := by decide +kernel
theorem dL_ofLots_159 : decode cL_ofLots 159 = .ok (.bipush 100, 2) := by decide +kernel
theorem dL_ofLots_161 : decode cL_ofLots 161 = .ok (.goto 4, 3) := by decide +kernel
theorem dL_ofLots_164 : decode cL_ofLots 164 = .ok (.iconst 0, 1) := by decide +kernel
theorem dL_ofLots_165 : decode cL_ofLots 165 = .ok (.iadd, 1) := by decide +kernel
theorem dL_ofLots_166 : decode cL_ofLots 166 = .ok (.iastore, 1) := by decide +kernel
theorem dL_ofLots_167 : decode cL_ofLots 167 = .ok (.iinc 10 1, 3) := by decide +kernel
theorem dL_ofLots_170 : decode cL_ofLots 170 = .ok (.goto (-108), 3) := by decide +kernel
theorem dL_ofLots_173 : decode cL_ofLots 173 = .ok (.iload 8, 2) := by decide +kernel
theorem dL_ofLots_175 : decode cL_ofLots 175 = .ok (.iload 7, 2) := by decide +kernel
theorem dL_ofLots_177 : decode cL_ofLots 177 = .ok (.ifCond .eq 8, 3) := by decide +kernel
theorem dL_ofLots_180 : decode cL_ofLots 180 = .ok (.ldc 47, 2) := by decide +kernel
theorem dL_ofLots_182 : decode cL_ofLots 182 = .ok (.goto 5, 3) := by decide +kernel
theorem dL_ofLots_185 : decode cL_ofLots 185 = .ok (.iload 9, 2) := by decide +kernel
theorem dL_ofLots_187 : decode cL_ofLots 187 = .ok (.if_icmp .ne 7, 3) := by decide +kernel
theorem dL_ofLots_190 : decode cL_ofLots 190 = .ok (.iconst 1, 1) := by decide +kernel
theorem dL_ofLots_191 : decode cL_ofLots 191 = .ok (.goto 4, 3) := by decide +kernel
theorem dL_ofLots_194 : decode cL_ofLots 194 = .ok (.iconst 0, 1) := by decide +kernel
theorem dL_ofLots_195 : decode cL_ofLots 195 = .ok (.ireturn, 1) := by decide +kernel
theorem dL_ofLots_196 : decode cL_ofLots 196 = .ok (.aload_n 3, 1) := by decide +kernel
theorem dL_ofLots_197 : decode cL_ofLots 197 = .ok (.iconst 2, 1) := by decide +kernel
theorem dL_ofLots_198 : decode cL_ofLots 198 = .ok (.iaload, 1) := by decide +kernel
theorem dL_ofLots_199 : decode cL_ofLots 199 = .ok (.ifCond .ne 5, 3) := by decide +kernel
theorem dL_ofLots_202 : decode cL_ofLots 202 = .ok (.iconst 1, 1) := by decide +kernel
theorem dL_ofLots_203 : decode cL_ofLots 203 = .ok (.ireturn, 1) := by decide +kernel
theorem dL_ofLots_204 : decode cL_ofLots 204 = .ok (.iload_n 1, 1) := by decide +kernel
theorem dL_ofLots_205 : decode cL_ofLots 205 = .ok (.iconst 5, 1) := by decide +kernel
theorem dL_ofLots_206 : decode cL_ofLots 206 = .ok (.idiv, 1) := by decide +kernel
theorem dL_ofLots_207 : decode cL_ofLots 207 = .ok (.aload_n 3, 1) := by decide +kernel
theorem dL_ofLots_208 : decode cL_ofLots 208 = .ok (.iconst 2, 1) := by decide +kernel
theorem dL_ofLots_209 : decode cL_ofLots 209 = .ok (.iaload, 1) := by decide +kernel
theorem dL_ofLots_210 : decode cL_ofLots 210 = .ok (.irem, 1) := by decide +kernel
theorem dL_ofLots_211 : decode cL_ofLots 211 = .ok (.istore 6, 2) := by decide +kernel
theorem dL_ofLots_213 : decode cL_ofLots 213 = .ok (.iload 5, 2) := by decide +kernel
theorem dL_ofLots_215 : decode cL_ofLots 215 = .ok (.iconst 2, 1) := by decide +kernel
theorem dL_ofLots_216 : decode cL_ofLots 216 = .ok (.if_icmp .ge 62, 3) := by decide +kernel
theorem dL_ofLots_219 : decode cL_ofLots 219 = .ok (.aload_n 0, 1) := by decide +kernel
theorem dL_ofLots_220 : decode cL_ofLots 220 = .ok (.iload 6, 2) := by decide +kernel
theorem dL_ofLots_222 : decode cL_ofLots 222 = .ok (.bipush 7, 2) := by decide +kernel
theorem dL_ofLots_224 : decode cL_ofLots 224 = .ok (.invokevirtual 36, 3) := by decide +kernel
theorem dL_ofLots_227 : decode cL_ofLots 227 = .ok (.istore 7, 2) := by decide +kernel
theorem dL_ofLots_229 : decode cL_ofLots 229 = .ok (.aload_n 0, 1) := by decide +kernel
theorem dL_ofLots_230 : decode cL_ofLots 230 = .ok (.iconst 1, 1) := by decide +kernel
theorem dL_ofLots_231 : decode cL_ofLots 231 = .ok (.iload 6, 2) := by decide +kernel
theorem dL_ofLots_233 : decode cL_ofLots 233 = .ok (.iload_n 2, 1) := by decide +kernel
theorem dL_ofLots_234 : decode cL_ofLots 234 = .ok (.bipush 6, 2) := by decide +kernel
theorem dL_ofLots_236 : decode cL_ofLots 236 = .ok (.irem, 1) := by decide +kernel
theorem dL_ofLots_237 : decode cL_ofLots 237 = .ok (.invokestatic 90, 3) := by decide +kernel
theorem dL_ofLots_240 : decode cL_ofLots 240 = .ok (.istore 8, 2) := by decide +kernel
theorem dL_ofLots_242 : decode cL_ofLots 242 = .ok (.iload 8, 2) := by decide +kernel
theorem dL_ofLots_244 : decode cL_ofLots 244 = .ok (.aload 4, 2) := by decide +kernel
theorem dL_ofLots_246 : decode cL_ofLots 246 = .ok (.iload 6, 2) := by decide +kernel
theorem dL_ofLots_248 : decode cL_ofLots 248 = .ok (.iaload, 1) := by decide +kernel
theorem dL_ofLots_249 : decode cL_ofLots 249 = .ok (.bipush 10, 2) := by decide +kernel
theorem dL_ofLots_251 : decode cL_ofLots 251 = .ok (.irem, 1) := by decide +kernel
theorem dL_ofLots_252 : decode cL_ofLots 252 = .ok (.ifCond .le 8, 3) := by decide +kernel
theorem dL_ofLots_255 : decode cL_ofLots 255 = .ok (.ldc 47, 2) := by decide +kernel
theorem dL_ofLots_257 : decode cL_ofLots 257 = .ok (.goto 12, 3) := by decide +kernel
theorem dL_ofLots_260 : decode cL_ofLots 260 = .ok (.iload 7, 2) := by decide +kernel
theorem dL_ofLots_262 : decode cL_ofLots 262 = .ok (.iconst 1, 1) := by decide +kernel
theorem dL_ofLots_263 : decode cL_ofLots 263 = .ok (.iload_n 2, 1) := by decide +kernel
theorem dL_ofLots_264 : decode cL_ofLots 264 = .ok (.bipush 6, 2) := by decide +kernel
theorem dL_ofLots_266 : decode cL_ofLots 266 = .ok (.irem, 1) := by decide +kernel
theorem dL_ofLots_267 : decode cL_ofLots 267 = .ok (.ishl, 1) := by decide +kernel
theorem dL_ofLots_268 : decode cL_ofLots 268 = .ok (.ior, 1) := by decide +kernel
theorem dL_ofLots_269 : decode cL_ofLots 269 = .ok (.if_icmp .ne 7, 3) := by decide +kernel
theorem dL_ofLots_272 : decode cL_ofLots 272 = .ok (.iconst 1, 1) := by decide +kernel
theorem dL_ofLots_273 : decode cL_ofLots 273 = .ok (.goto 4, 3) := by decide +kernel
theorem dL_ofLots_276 : decode cL_ofLots 276 = .ok (.iconst 0, 1) := by decide +kernel
theorem dL_ofLots_277 : decode cL_ofLots 277 = .ok (.ireturn, 1) := by decide +kernel
theorem dL_ofLots_278 : decode cL_ofLots 278 = .ok (.aload 4, 2) := by decide +kernel
theorem dL_ofLots_280 : decode cL_ofLots 280 = .ok (.iload 6, 2) := by decide +kernel
theorem dL_ofLots_282 : decode cL_ofLots 282 = .ok (.iaload, 1) := by decide +kernel
theorem dL_ofLots_283 : decode cL_ofLots 283 = .ok (.bipush 10, 2) := by decide +kernel
theorem dL_ofLots_285 : decode cL_ofLots 285 = .ok (.irem, 1) := by decide +kernel
theorem dL_ofLots_286 : decode cL_ofLots 286 = .ok (.ifCond .le 7, 3) := by decide +kernel
theorem dL_ofLots_289 : decode cL_ofLots 289 = .ok (.iconst 1, 1) := by decide +kernel
theorem dL_ofLots_290 : decode cL_ofLots 290 = .ok (.goto 4, 3) := by decide +kernel
theorem dL_ofLots_293 : decode cL_ofLots 293 = .ok (.iconst 0, 1) := by decide +kernel
theorem dL_ofLots_294 : decode cL_ofLots 294 = .ok (.istore 7, 2) := by decide +kernel
theorem dL_ofLots_296 : decode cL_ofLots 296 = .ok (.aload_n 0, 1) := by decide +kernel
theorem dL_ofLots_297 : decode cL_ofLots 297 = .ok (.iload 6, 2) := by decide +kernel
theorem dL_ofLots_299 : decode cL_ofLots 299 = .ok (.iload_n 2, 1) := by decide +kernel
theorem dL_ofLots_300 : decode cL_ofLots 300 = .ok (.iconst 3, 1) := by decide +kernel
theorem dL_ofLots_301 : decode cL_ofLots 301 = .ok (.irem, 1) := by decide +kernel
theorem dL_ofLots_302 : decode cL_ofLots 302 = .ok (.aload_n 3, 1) := by decide +kernel
theorem dL_ofLots_303 : decode cL_ofLots 303 = .ok (.invokestatic 63, 3) := by decide +kernel
theorem dL_ofLots_306 : decode cL_ofLots 306 = .ok (.istore 8, 2) := by decide +kernel
theorem dL_ofLots_308 : decode cL_ofLots 308 = .ok (.aload_n 0, 1) := by decide +kernel
theorem dL_ofLots_309 : decode cL_ofLots 309 = .ok (.iconst 2, 1) := by decide +kernel
theorem dL_ofLots_310 : decode cL_ofLots 310 = .ok (.iload 6, 2) := by decide +kernel
theorem dL_ofLots_312 : decode cL_ofLots 312 = .ok (.iload_n 2, 1) := by decide +kernel
theorem dL_ofLots_313 : decode cL_ofLots 313 = .ok (.iconst 3, 1) := by decide +kernel
theorem dL_ofLots_314 : decode cL_ofLots 314 = .ok (.irem, 1) := by decide +kernel
theorem dL_ofLots_315 : decode cL_ofLots 315 = .ok (.invokestatic 90, 3) := by decide +kernel
theorem dL_ofLots_318 : decode cL_ofLots 318 = .ok (.istore 9, 2) := by decide +kernel
theorem dL_ofLots_320 : decode cL_ofLots 320 = .ok (.aload 4, 2) := by decide +kernel
theorem dL_ofLots_322 : decode cL_ofLots 322 = .ok (.iload 6, 2) := by decide +kernel
theorem dL_ofLots_324 : decode cL_ofLots 324 = .ok (.dup2, 1) := by decide +kernel
theorem dL_ofLots_325 : decode cL_ofLots 325 = .ok (.iaload, 1) := by decide +kernel
theorem dL_ofLots_326 : decode cL_ofLots 326 = .ok (.iload 7, 2) := by decide +kernel
theorem dL_ofLots_328 : decode cL_ofLots 328 = .ok (.ifCond .eq 7, 3) := by decide +kernel
theorem dL_ofLots_331 : decode cL_ofLots 331 = .ok (.iconst 0, 1) := by decide +kernel
theorem dL_ofLots_332 : decode cL_ofLots 332 = .ok (.goto 20, 3) := by decide +kernel
theorem dL_ofLots_335 : decode cL_ofLots 335 = .ok (.iconst 1, 1) := by decide +kernel
theorem dL_ofLots_336 : decode cL_ofLots 336 = .ok (.iload_n 2, 1) := by decide +kernel
theorem dL_ofLots_337 : decode cL_ofLots 337 = .ok (.iconst 3, 1) := by decide +kernel
theorem dL_ofLots_338 : decode cL_ofLots 338 = .ok (.irem, 1) := by decide +kernel
theorem dL_ofLots_339 : decode cL_ofLots 339 = .ok (.iadd, 1) := by decide +kernel
theorem dL_ofLots_340 : decode cL_ofLots 340 = .ok (.iload 8, 2) := by decide +kernel
theorem dL_ofLots_342 : decode cL_ofLots 342 = .ok (.ifCond .eq 8, 3) := by decide +kernel
theorem dL_ofLots_345 : decode cL_ofLots 345 = .ok (.bipush 10, 2) := by decide +kernel
theorem dL_ofLots_347 : decode cL_ofLots 347 = .ok (.goto 4, 3) := by decide +kernel
theorem dL_ofLots_350 : decode cL_ofLots 350 = .ok (.iconst 0, 1) := by decide +kernel
theorem dL_ofLots_351 : decode cL_ofLots 351 = .ok (.iadd, 1) := by decide +kernel
theorem dL_ofLots_352 : decode cL_ofLots 352 = .ok (.iadd, 1) := by decide +kernel
theorem dL_ofLots_353 : decode cL_ofLots 353 = .ok (.iastore, 1) := by decide +kernel
theorem dL_ofLots_354 : decode cL_ofLots 354 = .ok (.iload 9, 2) := by decide +kernel
theorem dL_ofLots_356 : decode cL_ofLots 356 = .ok (.iload 7, 2) := by decide +kernel
theorem dL_ofLots_358 : decode cL_ofLots 358 = .ok (.ifCond .eq 8, 3) := by decide +kernel
theorem dL_ofLots_361 : decode cL_ofLots 361 = .ok (.ldc 47, 2) := by decide +kernel
theorem dL_ofLots_363 : decode cL_ofLots 363 = .ok (.goto 13, 3) := by decide +kernel
theorem dL_ofLots_366 : decode cL_ofLots 366 = .ok (.iload 8, 2) := by decide +kernel
theorem dL_ofLots_368 : decode cL_ofLots 368 = .ok (.ifCond .eq 7, 3) := by decide +kernel
theorem dL_ofLots_371 : decode cL_ofLots 371 = .ok (.iconst 1, 1) := by decide +kernel
theorem dL_ofLots_372 : decode cL_ofLots 372 = .ok (.goto 4, 3) := by decide +kernel
theorem dL_ofLots_375 : decode cL_ofLots 375 = .ok (.iconst 0, 1) := by decide +kernel
theorem dL_ofLots_376 : decode cL_ofLots 376 = .ok (.if_icmp .ne 7, 3) := by decide +kernel
theorem dL_ofLots_379 : decode cL_ofLots 379 = .ok (.iconst 1, 1) := by decide +kernel
theorem dL_ofLots_380 : decode cL_ofLots 380 = .ok (.goto 4, 3) := by decide +kernel
theorem dL_ofLots_383 : decode cL_ofLots 383 = .ok (.iconst 0, 1) := by decide +kernel
theorem dL_ofLots_384 : decode cL_ofLots 384 = .ok (.ireturn, 1) := by decide +kernel
theorem dL_others_0 : decode cL_others 0 = .ok (.iload_n 1, 1) := by decide +kernel
theorem dL_others_1 : decode cL_others 1 = .ok (.bipush 7, 2) := by decide +kernel
theorem dL_others_3 : decode cL_others 3 = .ok (.irem, 1) := by decide +kernel
theorem dL_others_4 : decode cL_others 4 = .ok (.istore 6, 2) := by decide +kernel
theorem dL_others_6 : decode cL_others 6 = .ok (.iload_n 1, 1) := by decide +kernel
theorem dL_others_7 : decode cL_others 7 = .ok (.bipush 7, 2) := by decide +kernel
theorem dL_others_9 : decode cL_others 9 = .ok (.idiv, 1) := by decide +kernel
theorem dL_others_10 : decode cL_others 10 = .ok (.bipush 10, 2) := by decide +kernel
theorem dL_others_12 : decode cL_others 12 = .ok (.irem, 1) := by decide +kernel
theorem dL_others_13 : decode cL_others 13 = .ok (.istore 7, 2) := by decide +kernel
theorem dL_others_15 : decode cL_others 15 = .ok (.iload 6, 2) := by decide +kernel
theorem dL_others_17 : decode cL_others 17 = .ok (.ifCond .ne 51, 3) := by decide +kernel
theorem dL_others_20 : decode cL_others 20 = .ok (.aload_n 0, 1) := by decide +kernel
theorem dL_others_21 : decode cL_others 21 = .ok (.iload 7, 2) := by decide +kernel
theorem dL_others_23 : decode cL_others 23 = .ok (.iconst 1, 1) := by decide +kernel
theorem dL_others_24 : decode cL_others 24 = .ok (.invokevirtual 52, 3) := by decide +kernel
theorem dL_others_27 : decode cL_others 27 = .ok (.istore 8, 2) := by decide +kernel
theorem dL_others_29 : decode cL_others 29 = .ok (.aload_n 0, 1) := by decide +kernel
theorem dL_others_30 : decode cL_others 30 = .ok (.iload 7, 2) := by decide +kernel
theorem dL_others_32 : decode cL_others 32 = .ok (.iconst 1, 1) := by decide +kernel
theorem dL_others_33 : decode cL_others 33 = .ok (.iload_n 2, 1) := by decide +kernel
theorem dL_others_34 : decode cL_others 34 = .ok (.bipush 40, 2) := by decide +kernel
theorem dL_others_36 : decode cL_others 36 = .ok (.irem, 1) := by decide +kernel
theorem dL_others_37 : decode cL_others 37 = .ok (.iadd, 1) := by decide +kernel
theorem dL_others_38 : decode cL_others 38 = .ok (.invokevirtual 113, 3) := by decide +kernel
theorem dL_others_41 : decode cL_others 41 = .ok (.iload 8, 2) := by decide +kernel
theorem dL_others_43 : decode cL_others 43 = .ok (.if_icmp .ne 23, 3) := by decide +kernel
theorem dL_others_46 : decode cL_others 46 = .ok (.aload_n 0, 1) := by decide +kernel
theorem dL_others_47 : decode cL_others 47 = .ok (.iload 7, 2) := by decide +kernel
theorem dL_others_49 : decode cL_others 49 = .ok (.iconst 1, 1) := by decide +kernel
theorem dL_others_50 : decode cL_others 50 = .ok (.invokevirtual 52, 3) := by decide +kernel
theorem dL_others_53 : decode cL_others 53 = .ok (.iconst 1, 1) := by decide +kernel
theorem dL_others_54 : decode cL_others 54 = .ok (.iload_n 2, 1) := by decide +kernel
theorem dL_others_55 : decode cL_others 55 = .ok (.bipush 40, 2) := by decide +kernel
theorem dL_others_57 : decode cL_others 57 = .ok (.irem, 1) := by decide +kernel
theorem dL_others_58 : decode cL_others 58 = .ok (.iadd, 1) := by decide +kernel
theorem dL_others_59 : decode cL_others 59 = .ok (.if_icmp .ne 7, 3) := by decide +kernel
theorem dL_others_62 : decode cL_others 62 = .ok (.iconst 1, 1) := by decide +kernel
theorem dL_others_63 : decode cL_others 63 = .ok (.goto 4, 3) := by decide +kernel
theorem dL_others_66 : decode cL_others 66 = .ok (.iconst 0, 1) := by decide +kernel
theorem dL_others_67 : decode cL_others 67 = .ok (.ireturn, 1) := by decide +kernel
theorem dL_others_68 : decode cL_others 68 = .ok (.iload 6, 2) := by decide +kernel
theorem dL_others_70 : decode cL_others 70 = .ok (.iconst 1, 1) := by decide +kernel
theorem dL_others_71 : decode cL_others 71 = .ok (.if_icmp .ne 87, 3) := by decide +kernel
theorem dL_others_74 : decode cL_others 74 = .ok (.aload_n 0, 1) := by decide +kernel
theorem dL_others_75 : decode cL_others 75 = .ok (.iload 7, 2) := by decide +kernel
theorem dL_others_77 : decode cL_others 77 = .ok (.iconst 2, 1) := by decide +kernel
theorem dL_others_78 : decode cL_others 78 = .ok (.invokevirtual 52, 3) := by decide +kernel
theorem dL_others_81 : decode cL_others 81 = .ok (.istore 8, 2) := by decide +kernel
theorem dL_others_83 : decode cL_others 83 = .ok (.aload_n 0, 1) := by decide +kernel
theorem dL_others_84 : decode cL_others 84 = .ok (.iconst 5, 1) := by decide +kernel
theorem dL_others_85 : decode cL_others 85 = .ok (.iload 7, 2) := by decide +kernel
theorem dL_others_87 : decode cL_others 87 = .ok (.iload_n 2, 1) := by decide +kernel
theorem dL_others_88 : decode cL_others 88 = .ok (.iconst 3, 1) := by decide +kernel
theorem dL_others_89 : decode cL_others 89 = .ok (.irem, 1) := by decide +kernel
theorem dL_others_90 : decode cL_others 90 = .ok (.invokestatic 90, 3) := by decide +kernel
theorem dL_others_93 : decode cL_others 93 = .ok (.istore 9, 2) := by decide +kernel
theorem dL_others_95 : decode cL_others 95 = .ok (.aload_n 0, 1) := by decide +kernel
theorem dL_others_96 : decode cL_others 96 = .ok (.iload 7, 2) := by decide +kernel
theorem dL_others_98 : decode cL_others 98 = .ok (.iconst 5, 1) := by decide +kernel
theorem dL_others_99 : decode cL_others 99 = .ok (.invokevirtual 52, 3) := by decide +kernel
theorem dL_others_102 : decode cL_others 102 = .ok (.ifCond .le 30, 3) := by decide +kernel
theorem dL_others_105 : decode cL_others 105 = .ok (.iload 9, 2) := by decide +kernel
theorem dL_others_107 : decode cL_others 107 = .ok (.ldc 47, 2) := by decide +kernel
theorem dL_others_109 : decode cL_others 109 = .ok (.if_icmp .ne 19, 3) := by decide +kernel
theorem dL_others_112 : decode cL_others 112 = .ok (.aload_n 0, 1) := by decide +kernel
theorem dL_others_113 : decode cL_others 113 = .ok (.iload 7, 2) := by decide +kernel
theorem dL_others_115 : decode cL_others 115 = .ok (.iconst 2, 1) := by decide +kernel
theorem dL_others_116 : decode cL_others 116 = .ok (.invokevirtual 52, 3) := by decide +kernel
theorem dL_others_119 : decode cL_others 119 = .ok (.iload 8, 2) := by decide +kernel
theorem dL_others_121 : decode cL_others 121 = .ok (.if_icmp .ne 7, 3) := by decide +kernel
theorem dL_others_124 : decode cL_others 124 = .ok (.iconst 1, 1) := by decide +kernel
theorem dL_others_125 : decode cL_others 125 = .ok (.goto 32, 3) := by decide +kernel
theorem dL_others_128 : decode cL_others 128 = .ok (.iconst 0, 1) := by decide +kernel
theorem dL_others_129 : decode cL_others 129 = .ok (.goto 28, 3) := by decide +kernel
theorem dL_others_132 : decode cL_others 132 = .ok (.iload 9, 2) := by decide +kernel
theorem dL_others_134 : decode cL_others 134 = .ok (.iload 8, 2) := by decide +kernel
theorem dL_others_136 : decode cL_others 136 = .ok (.if_icmp .ne 20, 3) := by decide +kernel
theorem dL_others_139 : decode cL_others 139 = .ok (.aload_n 0, 1) := by decide +kernel
theorem dL_others_140 : decode cL_others 140 = .ok (.iload 7, 2) := by decide +kernel
theorem dL_others_142 : decode cL_others 142 = .ok (.iconst 2, 1) := by decide +kernel
theorem dL_others_143 : decode cL_others 143 = .ok (.invokevirtual 52, 3) := by decide +kernel
theorem dL_others_146 : decode cL_others 146 = .ok (.iload_n 2, 1) := by decide +kernel
theorem dL_others_147 : decode cL_others 147 = .ok (.iconst 3, 1) := by decide +kernel
theorem dL_others_148 : decode cL_others 148 = .ok (.irem, 1) := by decide +kernel
theorem dL_others_149 : decode cL_others 149 = .ok (.if_icmp .ne 7, 3) := by decide +kernel
theorem dL_others_152 : decode cL_others 152 = .ok (.iconst 1, 1) := by decide +kernel
theorem dL_others_153 : decode cL_others 153 = .ok (.goto 4, 3) := by decide +kernel
theorem dL_others_156 : decode cL_others 156 = .ok (.iconst 0, 1) := by decide +kernel
theorem dL_others_157 : decode cL_others 157 = .ok (.ireturn, 1) := by decide +kernel
theorem dL_others_158 : decode cL_others 158 = .ok (.iload 6, 2) := by decide +kernel
theorem dL_others_160 : decode cL_others 160 = .ok (.iconst 2, 1) := by decide +kernel
theorem dL_others_161 : decode cL_others 161 = .ok (.if_icmp .ne 77, 3) := by decide +kernel
theorem dL_others_164 : decode cL_others 164 = .ok (.iload_n 2, 1) := by decide +kernel
theorem dL_others_165 : decode cL_others 165 = .ok (.bipush 11, 2) := by decide +kernel
theorem dL_others_167 : decode cL_others 167 = .ok (.irem, 1) := by decide +kernel
theorem dL_others_168 : decode cL_others 168 = .ok (.iconst 1, 1) := by decide +kernel
theorem dL_others_169 : decode cL_others 169 = .ok (.isub, 1) := by decide +kernel
theorem dL_others_170 : decode cL_others 170 = .ok (.istore 8, 2) := by decide +kernel
theorem dL_others_172 : decode cL_others 172 = .ok (.aload_n 0, 1) := by decide +kernel
theorem dL_others_173 : decode cL_others 173 = .ok (.iload 7, 2) := by decide +kernel
theorem dL_others_175 : decode cL_others 175 = .ok (.iconst 3, 1) := by decide +kernel
theorem dL_others_176 : decode cL_others 176 = .ok (.invokevirtual 52, 3) := by decide +kernel
theorem dL_others_179 : decode cL_others 179 = .ok (.istore 9, 2) := by decide +kernel
theorem dL_others_181 : decode cL_others 181 = .ok (.aload_n 0, 1) := by decide +kernel
theorem dL_others_182 : decode cL_others 182 = .ok (.bipush 6, 2) := by decide +kernel
theorem dL_others_184 : decode cL_others 184 = .ok (.iload 7, 2) := by decide +kernel
theorem dL_others_186 : decode cL_others 186 = .ok (.iload 8, 2) := by decide +kernel
theorem dL_others_188 : decode cL_others 188 = .ok (.invokestatic 90, 3) := by decide +kernel
theorem dL_others_191 : decode cL_others 191 = .ok (.iload 8, 2) := by decide +kernel
theorem dL_others_193 : decode cL_others 193 = .ok (.iload 7, 2) := by decide +kernel
theorem dL_others_195 : decode cL_others 195 = .ok (.if_icmp .ge 8, 3) := by decide +kernel
theorem dL_others_198 : decode cL_others 198 = .ok (.iload 9, 2) := by decide +kernel
theorem dL_others_200 : decode cL_others 200 = .ok (.goto 5, 3) := by decide +kernel
theorem dL_others_203 : decode cL_others 203 = .ok (.ldc 44, 2) := by decide +kernel
theorem dL_others_205 : decode cL_others 205 = .ok (.if_icmp .ne 31, 3) := by decide +kernel
theorem dL_others_208 : decode cL_others 208 = .ok (.aload_n 0, 1) := by decide +kernel
theorem dL_others_209 : decode cL_others 209 = .ok (.iload 7, 2) := by decide +kernel
theorem dL_others_211 : decode cL_others 211 = .ok (.iconst 3, 1) := by decide +kernel
theorem dL_others_212 : decode cL_others 212 = .ok (.invokevirtual 52, 3) := by decide +kernel
theorem dL_others_215 : decode cL_others 215 = .ok (.iload 8, 2) := by decide +kernel
theorem dL_others_217 : decode cL_others 217 = .ok (.iload 7, 2) := by decide +kernel
theorem dL_others_219 : decode cL_others 219 = .ok (.if_icmp .ge 8, 3) := by decide +kernel
theorem dL_others_222 : decode cL_others 222 = .ok (.iload 8, 2) := by decide +kernel
theorem dL_others_224 : decode cL_others 224 = .ok (.goto 5, 3) := by decide +kernel
theorem dL_others_227 : decode cL_others 227 = .ok (.iload 9, 2) := by decide +kernel
theorem dL_others_229 : decode cL_others 229 = .ok (.if_icmp .ne 7, 3) := by decide +kernel
theorem dL_others_232 : decode cL_others 232 = .ok (.iconst 1, 1) := by decide +kernel
theorem dL_others_233 : decode cL_others 233 = .ok (.goto 4, 3) := by decide +kernel
theorem dL_others_236 : decode cL_others 236 = .ok (.iconst 0, 1) := by decide +kernel
theorem dL_others_237 : decode cL_others 237 = .ok (.ireturn, 1) := by decide +kernel
theorem dL_others_238 : decode cL_others 238 = .ok (.iload 6, 2) := by decide +kernel
theorem dL_others_240 : decode cL_others 240 = .ok (.iconst 3, 1) := by decide +kernel
theorem dL_others_241 : decode cL_others 241 = .ok (.if_icmp .ne 77, 3) := by decide +kernel
theorem dL_others_244 : decode cL_others 244 = .ok (.aload_n 0, 1) := by decide +kernel
theorem dL_others_245 : decode cL_others 245 = .ok (.iconst 4, 1) := by decide +kernel
theorem dL_others_246 : decode cL_others 246 = .ok (.iload 7, 2) := by decide +kernel
theorem dL_others_248 : decode cL_others 248 = .ok (.iload_n 2, 1) := by decide +kernel
theorem dL_others_249 : decode cL_others 249 = .ok (.bipush 8, 2) := by decide +kernel
theorem dL_others_251 : decode cL_others 251 = .ok (.irem, 1) := by decide +kernel
theorem dL_others_252 : decode cL_others 252 = .ok (.invokestatic 90, 3) := by decide +kernel
theorem dL_others_255 : decode cL_others 255 = .ok (.istore 8, 2) := by decide +kernel
theorem dL_others_257 : decode cL_others 257 = .ok (.aload_n 0, 1) := by decide +kernel
theorem dL_others_258 : decode cL_others 258 = .ok (.iload 7, 2) := by decide +kernel
theorem dL_others_260 : decode cL_others 260 = .ok (.iconst 4, 1) := by decide +kernel
theorem dL_others_261 : decode cL_others 261 = .ok (.invokevirtual 52, 3) := by decide +kernel
theorem dL_others_264 : decode cL_others 264 = .ok (.iconst 5, 1) := by decide +kernel
theorem dL_others_265 : decode cL_others 265 = .ok (.if_icmp .gt 18, 3) := by decide +kernel
theorem dL_others_268 : decode cL_others 268 = .ok (.iload 8, 2) := by decide +kernel
theorem dL_others_270 : decode cL_others 270 = .ok (.ldc 47, 2) := by decide +kernel
theorem dL_others_272 : decode cL_others 272 = .ok (.if_icmp .ne 7, 3) := by decide +kernel
theorem dL_others_275 : decode cL_others 275 = .ok (.iconst 1, 1) := by decide +kernel
theorem dL_others_276 : decode cL_others 276 = .ok (.goto 41, 3) := by decide +kernel
theorem dL_others_279 : decode cL_others 279 = .ok (.iconst 0, 1) := by decide +kernel
theorem dL_others_280 : decode cL_others 280 = .ok (.goto 37, 3) := by decide +kernel
theorem dL_others_283 : decode cL_others 283 = .ok (.iload 8, 2) := by decide +kernel
theorem dL_others_285 : decode cL_others 285 = .ok (.iload_n 2, 1) := by decide +kernel
theorem dL_others_286 : decode cL_others 286 = .ok (.bipush 8, 2) := by decide +kernel
theorem dL_others_288 : decode cL_others 288 = .ok (.irem, 1) := by decide +kernel
theorem dL_others_289 : decode cL_others 289 = .ok (.ishr, 1) := by decide +kernel
theorem dL_others_290 : decode cL_others 290 = .ok (.iconst 1, 1) := by decide +kernel
theorem dL_others_291 : decode cL_others 291 = .ok (.iand, 1) := by decide +kernel
theorem dL_others_292 : decode cL_others 292 = .ok (.iconst 1, 1) := by decide +kernel
theorem dL_others_293 : decode cL_others 293 = .ok (.if_icmp .ne 23, 3) := by decide +kernel
theorem dL_others_296 : decode cL_others 296 = .ok (.aload_n 0, 1) := by decide +kernel
theorem dL_others_297 : decode cL_others 297 = .ok (.iconst 4, 1) := by decide +kernel
theorem dL_others_298 : decode cL_others 298 = .ok (.iload 7, 2) := by decide +kernel
theorem dL_others_300 : decode cL_others 300 = .ok (.iload_n 2, 1) := by decide +kernel
theorem dL_others_301 : decode cL_others 301 = .ok (.bipush 8, 2) := by decide +kernel
theorem dL_others_303 : decode cL_others 303 = .ok (.irem, 1) := by decide +kernel
theorem dL_others_304 : decode cL_others 304 = .ok (.invokestatic 90, 3) := by decide +kernel
theorem dL_others_307 : decode cL_others 307 = .ok (.iload 8, 2) := by decide +kernel
theorem dL_others_309 : decode cL_others 309 = .ok (.if_icmp .ne 7, 3) := by decide +kernel
theorem dL_others_312 : decode cL_others 312 = .ok (.iconst 1, 1) := by decide +kernel
theorem dL_others_313 : decode cL_others 313 = .ok (.goto 4, 3) := by decide +kernel
theorem dL_others_316 : decode cL_others 316 = .ok (.iconst 0, 1) := by decide +kernel
theorem dL_others_317 : decode cL_others 317 = .ok (.ireturn, 1) := by decide +kernel
theorem dL_others_318 : decode cL_others 318 = .ok (.iload 6, 2) := by decide +kernel
theorem dL_others_320 : decode cL_others 320 = .ok (.iconst 4, 1) := by decide +kernel
theorem dL_others_321 : decode cL_others 321 = .ok (.if_icmp .ne 109, 3) := by decide +kernel
theorem dL_others_324 : decode cL_others 324 = .ok (.aload_n 0, 1) := by decide +kernel
theorem dL_others_325 : decode cL_others 325 = .ok (.iload 7, 2) := by decide +kernel
theorem dL_others_327 : decode cL_others 327 = .ok (.iconst 2, 1) := by decide +kernel
theorem dL_others_328 : decode cL_others 328 = .ok (.invokevirtual 52, 3) := by decide +kernel
theorem dL_others_331 : decode cL_others 331 = .ok (.iconst 2, 1) := by decide +kernel
theorem dL_others_332 : decode cL_others 332 = .ok (.if_icmp .ne 17, 3) := by decide +kernel
theorem dL_others_335 : decode cL_others 335 = .ok (.aload_n 0, 1) := by decide +kernel
theorem dL_others_336 : decode cL_others 336 = .ok (.iload 7, 2) := by decide +kernel
theorem dL_others_338 : decode cL_others 338 = .ok (.iconst 5, 1) := by decide +kernel
theorem dL_others_339 : decode cL_others 339 = .ok (.invokevirtual 52, 3) := by decide +kernel
theorem dL_others_342 : decode cL_others 342 = .ok (.ifCond .ne 7, 3) := by decide +kernel
theorem dL_others_345 : decode cL_others 345 = .ok (.iconst 1, 1) := by decide +kernel
theorem dL_others_346 : decode cL_others 346 = .ok (.goto 4, 3) := by decide +kernel
theorem dL_others_349 : decode cL_others 349 = .ok (.iconst 0, 1) := by decide +kernel
theorem dL_others_350 : decode cL_others 350 = .ok (.istore 8, 2) := by decide +kernel
theorem dL_others_352 : decode cL_others 352 = .ok (.aload 4, 2) := by decide +kernel
theorem dL_others_354 : decode cL_others 354 = .ok (.iload 7, 2) := by decide +kernel
theorem dL_others_356 : decode cL_others 356 = .ok (.iload 8, 2) := by decide +kernel
theorem dL_others_358 : decode cL_others 358 = .ok (.ifCond .eq 14, 3) := by decide +kernel
theorem dL_others_361 : decode cL_others 361 = .ok (.iload_n 2, 1) := by decide +kernel
theorem dL_others_362 : decode cL_others 362 = .ok (.bipush 30, 2) := by decide +kernel
theorem dL_others_364 : decode cL_others 364 = .ok (.idiv, 1) := by decide +kernel
theorem dL_others_365 : decode cL_others 365 = .ok (.sipush 1001, 3) := by decide +kernel
theorem dL_others_368 : decode cL_others 368 = .ok (.irem, 1) := by decide +kernel
theorem dL_others_369 : decode cL_others 369 = .ok (.goto 8, 3) := by decide +kernel
theorem dL_others_372 : decode cL_others 372 = .ok (.aload 4, 2) := by decide +kernel
theorem dL_others_374 : decode cL_others 374 = .ok (.iload 7, 2) := by decide +kernel
theorem dL_others_376 : decode cL_others 376 = .ok (.iaload, 1) := by decide +kernel
theorem dL_others_377 : decode cL_others 377 = .ok (.iastore, 1) := by decide +kernel
theorem dL_others_378 : decode cL_others 378 = .ok (.aload_n 0, 1) := by decide +kernel
theorem dL_others_379 : decode cL_others 379 = .ok (.iload 7, 2) := by decide +kernel
theorem dL_others_381 : decode cL_others 381 = .ok (.iconst 1, 1) := by decide +kernel
theorem dL_others_382 : decode cL_others 382 = .ok (.iload_n 2, 1) := by decide +kernel
theorem dL_others_383 : decode cL_others 383 = .ok (.bipush 30, 2) := by decide +kernel
theorem dL_others_385 : decode cL_others 385 = .ok (.irem, 1) := by decide +kernel
theorem dL_others_386 : decode cL_others 386 = .ok (.iadd, 1) := by decide +kernel
theorem dL_others_387 : decode cL_others 387 = .ok (.iload_n 2, 1) := by decide +kernel
theorem dL_others_388 : decode cL_others 388 = .ok (.bipush 30, 2) := by decide +kernel
theorem dL_others_390 : decode cL_others 390 = .ok (.idiv, 1) := by decide +kernel
theorem dL_others_391 : decode cL_others 391 = .ok (.sipush 1001, 3) := by decide +kernel
theorem dL_others_394 : decode cL_others 394 = .ok (.irem, 1) := by decide +kernel
theorem dL_others_395 : decode cL_others 395 = .ok (.invokestatic 116, 3) := by decide +kernel
theorem dL_others_398 : decode cL_others 398 = .ok (.iload 8, 2) := by decide +kernel
theorem dL_others_400 : decode cL_others 400 = .ok (.if_icmp .ne 28, 3) := by decide +kernel
theorem dL_others_403 : decode cL_others 403 = .ok (.iload 8, 2) := by decide +kernel
theorem dL_others_405 : decode cL_others 405 = .ok (.ifCond .eq 19, 3) := by decide +kernel
theorem dL_others_408 : decode cL_others 408 = .ok (.aload_n 0, 1) := by decide +kernel
theorem dL_others_409 : decode cL_others 409 = .ok (.iload 7, 2) := by decide +kernel
theorem dL_others_411 : decode cL_others 411 = .ok (.iconst 5, 1) := by decide +kernel
theorem dL_others_412 : decode cL_others 412 = .ok (.invokevirtual 52, 3) := by decide +kernel
theorem dL_others_415 : decode cL_others 415 = .ok (.iconst 1, 1) := by decide +kernel
theorem dL_others_416 : decode cL_others 416 = .ok (.iload_n 2, 1) := by decide +kernel
theorem dL_others_417 : decode cL_others 417 = .ok (.bipush 30, 2) := by decide +kernel
theorem dL_others_419 : decode cL_others 419 = .ok (.irem, 1) := by decide +kernel
theorem dL_others_420 : decode cL_others 420 = .ok (.iadd, 1) := by decide +kernel
theorem dL_others_421 : decode cL_others 421 = .ok (.if_icmp .ne 7, 3) := by decide +kernel
theorem dL_others_424 : decode cL_others 424 = .ok (.iconst 1, 1) := by decide +kernel
theorem dL_others_425 : decode cL_others 425 = .ok (.goto 4, 3) := by decide +kernel
theorem dL_others_428 : decode cL_others 428 = .ok (.iconst 0, 1) := by decide +kernel
theorem dL_others_429 : decode cL_others 429 = .ok (.ireturn, 1) := by decide +kernel
theorem dL_others_430 : decode cL_others 430 = .ok (.iload 6, 2) := by decide +kernel
theorem dL_others_432 : decode cL_others 432 = .ok (.iconst 5, 1) := by decide +kernel
theorem dL_others_433 : decode cL_others 433 = .ok (.if_icmp .ne 80, 3) := by decide +kernel
theorem dL_others_436 : decode cL_others 436 = .ok (.aload_n 3, 1) := by decide +kernel
theorem dL_others_437 : decode cL_others 437 = .ok (.iconst 4, 1) := by decide +kernel
theorem dL_others_438 : decode cL_others 438 = .ok (.iaload, 1) := by decide +kernel
theorem dL_others_439 : decode cL_others 439 = .ok (.istore 8, 2) := by decide +kernel
theorem dL_others_441 : decode cL_others 441 = .ok (.aload_n 3, 1) := by decide +kernel
theorem dL_others_442 : decode cL_others 442 = .ok (.iconst 4, 1) := by decide +kernel
theorem dL_others_443 : decode cL_others 443 = .ok (.iload_n 2, 1) := by decide +kernel
theorem dL_others_444 : decode cL_others 444 = .ok (.bipush 101, 2) := by decide +kernel
theorem dL_others_446 : decode cL_others 446 = .ok (.irem, 1) := by decide +kernel
theorem dL_others_447 : decode cL_others 447 = .ok (.iastore, 1) := by decide +kernel
theorem dL_others_448 : decode cL_others 448 = .ok (.aload_n 3, 1) := by decide +kernel
theorem dL_others_449 : decode cL_others 449 = .ok (.iconst 5, 1) := by decide +kernel
theorem dL_others_450 : decode cL_others 450 = .ok (.iload 7, 2) := by decide +kernel
theorem dL_others_452 : decode cL_others 452 = .ok (.iastore, 1) := by decide +kernel
theorem dL_others_453 : decode cL_others 453 = .ok (.aload_n 3, 1) := by decide +kernel
theorem dL_others_454 : decode cL_others 454 = .ok (.bipush 6, 2) := by decide +kernel
theorem dL_others_456 : decode cL_others 456 = .ok (.iload_n 2, 1) := by decide +kernel
theorem dL_others_457 : decode cL_others 457 = .ok (.bipush 101, 2) := by decide +kernel
theorem dL_others_459 : decode cL_others 459 = .ok (.idiv, 1) := by decide +kernel
theorem dL_others_460 : decode cL_others 460 = .ok (.sipush 400, 3) := by decide +kernel
theorem dL_others_463 : decode cL_others 463 = .ok (.irem, 1) := by decide +kernel
theorem dL_others_464 : decode cL_others 464 = .ok (.iastore, 1) := by decide +kernel
theorem dL_others_465 : decode cL_others 465 = .ok (.aload_n 3, 1) := by decide +kernel
theorem dL_others_466 : decode cL_others 466 = .ok (.bipush 7, 2) := by decide +kernel
theorem dL_others_468 : decode cL_others 468 = .ok (.iload_n 2, 1) := by decide +kernel
theorem dL_others_469 : decode cL_others 469 = .ok (.ldc 120, 2) := by decide +kernel
theorem dL_others_471 : decode cL_others 471 = .ok (.idiv, 1) := by decide +kernel
theorem dL_others_472 : decode cL_others 472 = .ok (.aload_n 3, 1) := by decide +kernel
theorem dL_others_473 : decode cL_others 473 = .ok (.bipush 6, 2) := by decide +kernel
theorem dL_others_475 : decode cL_others 475 = .ok (.iaload, 1) := by decide +kernel
theorem dL_others_476 : decode cL_others 476 = .ok (.iconst 1, 1) := by decide +kernel
theorem dL_others_477 : decode cL_others 477 = .ok (.iadd, 1) := by decide +kernel
theorem dL_others_478 : decode cL_others 478 = .ok (.irem, 1) := by decide +kernel
theorem dL_others_479 : decode cL_others 479 = .ok (.iastore, 1) := by decide +kernel
theorem dL_others_480 : decode cL_others 480 = .ok (.aload_n 0, 1) := by decide +kernel
theorem dL_others_481 : decode cL_others 481 = .ok (.aload_n 3, 1) := by decide +kernel
theorem dL_others_482 : decode cL_others 482 = .ok (.iconst 5, 1) := by decide +kernel
theorem dL_others_483 : decode cL_others 483 = .ok (.iaload, 1) := by decide +kernel
theorem dL_others_484 : decode cL_others 484 = .ok (.aload_n 3, 1) := by decide +kernel
theorem dL_others_485 : decode cL_others 485 = .ok (.bipush 6, 2) := by decide +kernel
theorem dL_others_487 : decode cL_others 487 = .ok (.iaload, 1) := by decide +kernel
theorem dL_others_488 : decode cL_others 488 = .ok (.aload_n 3, 1) := by decide +kernel
theorem dL_others_489 : decode cL_others 489 = .ok (.bipush 7, 2) := by decide +kernel
theorem dL_others_491 : decode cL_others 491 = .ok (.iaload, 1) := by decide +kernel
theorem dL_others_492 : decode cL_others 492 = .ok (.invokevirtual 121, 3) := by decide +kernel
theorem dL_others_495 : decode cL_others 495 = .ok (.aload_n 0, 1) := by decide +kernel
theorem dL_others_496 : decode cL_others 496 = .ok (.aload_n 3, 1) := by decide +kernel
theorem dL_others_497 : decode cL_others 497 = .ok (.iconst 4, 1) := by decide +kernel
theorem dL_others_498 : decode cL_others 498 = .ok (.iaload, 1) := by decide +kernel
theorem dL_others_499 : decode cL_others 499 = .ok (.invokevirtual 124, 3) := by decide +kernel
theorem dL_others_502 : decode cL_others 502 = .ok (.iload 8, 2) := by decide +kernel
theorem dL_others_504 : decode cL_others 504 = .ok (.if_icmp .ne 7, 3) := by decide +kernel
theorem dL_others_507 : decode cL_others 507 = .ok (.iconst 1, 1) := by decide +kernel
theorem dL_others_508 : decode cL_others 508 = .ok (.goto 4, 3) := by decide +kernel
theorem dL_others_511 : decode cL_others 511 = .ok (.iconst 0, 1) := by decide +kernel
theorem dL_others_512 : decode cL_others 512 = .ok (.ireturn, 1) := by decide +kernel
theorem dL_others_513 : decode cL_others 513 = .ok (.aload_n 3, 1) := by decide +kernel
theorem dL_others_514 : decode cL_others 514 = .ok (.iconst 1, 1) := by decide +kernel
theorem dL_others_515 : decode cL_others 515 = .ok (.iaload, 1) := by decide +kernel
theorem dL_others_516 : decode cL_others 516 = .ok (.bipush 6, 2) := by decide +kernel
theorem dL_others_518 : decode cL_others 518 = .ok (.if_icmp .ne 5, 3) := by decide +kernel
theorem dL_others_521 : decode cL_others 521 = .ok (.iconst 1, 1) := by decide +kernel
theorem dL_others_522 : decode cL_others 522 = .ok (.ireturn, 1) := by decide +kernel
theorem dL_others_523 : decode cL_others 523 = .ok (.aload 5, 2) := by decide +kernel
theorem dL_others_525 : decode cL_others 525 = .ok (.aload_n 3, 1) := by decide +kernel
theorem dL_others_526 : decode cL_others 526 = .ok (.iconst 1, 1) := by decide +kernel
theorem dL_others_527 : decode cL_others 527 = .ok (.iaload, 1) := by decide +kernel
theorem dL_others_528 : decode cL_others 528 = .ok (.iload 7, 2) := by decide +kernel
theorem dL_others_530 : decode cL_others 530 = .ok (.iastore, 1) := by decide +kernel
theorem dL_others_531 : decode cL_others 531 = .ok (.aload 5, 2) := by decide +kernel
theorem dL_others_533 : decode cL_others 533 = .ok (.bipush 6, 2) := by decide +kernel
theorem dL_others_535 : decode cL_others 535 = .ok (.aload_n 3, 1) := by decide +kernel
theorem dL_others_536 : decode cL_others 536 = .ok (.iconst 1, 1) := by decide +kernel
theorem dL_others_537 : decode cL_others 537 = .ok (.iaload, 1) := by decide +kernel
theorem dL_others_538 : decode cL_others 538 = .ok (.iadd, 1) := by decide +kernel
theorem dL_others_539 : decode cL_others 539 = .ok (.iload_n 2, 1) := by decide +kernel
theorem dL_others_540 : decode cL_others 540 = .ok (.sipush 200, 3) := by decide +kernel
theorem dL_others_543 : decode cL_others 543 = .ok (.irem, 1) := by decide +kernel
theorem dL_others_544 : decode cL_others 544 = .ok (.iastore, 1) := by decide +kernel
theorem dL_others_545 : decode cL_others 545 = .ok (.aload 5, 2) := by decide +kernel
theorem dL_others_547 : decode cL_others 547 = .ok (.bipush 12, 2) := by decide +kernel
theorem dL_others_549 : decode cL_others 549 = .ok (.aload_n 3, 1) := by decide +kernel
theorem dL_others_550 : decode cL_others 550 = .ok (.iconst 1, 1) := by decide +kernel
theorem dL_others_551 : decode cL_others 551 = .ok (.iaload, 1) := by decide +kernel
theorem dL_others_552 : decode cL_others 552 = .ok (.iadd, 1) := by decide +kernel
theorem dL_others_553 : decode cL_others 553 = .ok (.iconst 0, 1) := by decide +kernel
theorem dL_others_554 : decode cL_others 554 = .ok (.iastore, 1) := by decide +kernel
theorem dL_others_555 : decode cL_others 555 = .ok (.aload_n 3, 1) := by decide +kernel
theorem dL_others_556 : decode cL_others 556 = .ok (.iconst 1, 1) := by decide +kernel
theorem dL_others_557 : decode cL_others 557 = .ok (.dup2, 1) := by decide +kernel
theorem dL_others_558 : decode cL_others 558 = .ok (.iaload, 1) := by decide +kernel
theorem dL_others_559 : decode cL_others 559 = .ok (.iconst 1, 1) := by decide +kernel
theorem dL_others_560 : decode cL_others 560 = .ok (.iadd, 1) := by decide +kernel
theorem dL_others_561 : decode cL_others 561 = .ok (.iastore, 1) := by decide +kernel
theorem dL_others_562 : decode cL_others 562 = .ok (.aload_n 0, 1) := by decide +kernel
theorem dL_others_563 : decode cL_others 563 = .ok (.iload 7, 2) := by decide +kernel
theorem dL_others_565 : decode cL_others 565 = .ok (.iload_n 2, 1) := by decide +kernel
theorem dL_others_566 : decode cL_others 566 = .ok (.sipush 200, 3) := by decide +kernel
theorem dL_others_569 : decode cL_others 569 = .ok (.irem, 1) := by decide +kernel
theorem dL_others_570 : decode cL_others 570 = .ok (.invokevirtual 127, 3) := by decide +kernel
theorem dL_others_573 : decode cL_others 573 = .ok (.aload_n 3, 1) := by decide +kernel
theorem dL_others_574 : decode cL_others 574 = .ok (.iconst 1, 1) := by decide +kernel
theorem dL_others_575 : decode cL_others 575 = .ok (.iaload, 1) := by decide +kernel
theorem dL_others_576 : decode cL_others 576 = .ok (.iconst 1, 1) := by decide +kernel
theorem dL_others_577 : decode cL_others 577 = .ok (.isub, 1) := by decide +kernel
theorem dL_others_578 : decode cL_others 578 = .ok (.if_icmp .ne 7, 3) := by decide +kernel
theorem dL_others_581 : decode cL_others 581 = .ok (.iconst 1, 1) := by decide +kernel
theorem dL_others_582 : decode cL_others 582 = .ok (.goto 4, 3) := by decide +kernel
theorem dL_others_585 : decode cL_others 585 = .ok (.iconst 0, 1) := by decide +kernel
theorem dL_others_586 : decode cL_others 586 = .ok (.ireturn, 1) := by decide +kernel
theorem dL_mountain_0 : decode cL_mountain 0 = .ok (.new 11, 3) := by decide +kernel
theorem dL_mountain_3 : decode cL_mountain 3 = .ok (.dup, 1) := by decide +kernel
theorem dL_mountain_4 : decode cL_mountain 4 = .ok (.invokespecial 130, 3) := by decide +kernel
theorem dL_mountain_7 : decode cL_mountain 7 = .ok (.astore_n 2, 1) := by decide +kernel
theorem dL_mountain_8 : decode cL_mountain 8 = .ok (.bipush 8, 2) := by decide +kernel
theorem dL_mountain_10 : decode cL_mountain 10 = .ok (.newarray .int, 2) := by decide +kernel
theorem dL_mountain_12 : decode cL_mountain 12 = .ok (.astore_n 3, 1) := by decide +kernel
theorem dL_mountain_13 : decode cL_mountain 13 = .ok (.bipush 10, 2) := by decide +kernel
theorem dL_mountain_15 : decode cL_mountain 15 = .ok (.newarray .int, 2) := by decide +kernel
theorem dL_mountain_17 : decode cL_mountain 17 = .ok (.astore 4, 2) := by decide +kernel
theorem dL_mountain_19 : decode cL_mountain 19 = .ok (.bipush 18, 2) := by decide +kernel
theorem dL_mountain_21 : decode cL_mountain 21 = .ok (.newarray .int, 2) := by decide +kernel
theorem dL_mountain_23 : decode cL_mountain 23 = .ok (.astore 5, 2) := by decide +kernel
theorem dL_mountain_25 : decode cL_mountain 25 = .ok (.bipush 40, 2) := by decide +kernel
theorem dL_mountain_27 : decode cL_mountain 27 = .ok (.newarray .int, 2) := by decide +kernel
theorem dL_mountain_29 : decode cL_mountain 29 = .ok (.astore 6, 2) := by decide +kernel
theorem dL_mountain_31 : decode cL_mountain 31 = .ok (.iconst 1, 1) := by decide +kernel
theorem dL_mountain_32 : decode cL_mountain 32 = .ok (.istore 7, 2) := by decide +kernel
theorem dL_mountain_34 : decode cL_mountain 34 = .ok (.aload_n 3, 1) := by decide +kernel
theorem dL_mountain_35 : decode cL_mountain 35 = .ok (.iconst 4, 1) := by decide +kernel
theorem dL_mountain_36 : decode cL_mountain 36 = .ok (.iconst 1, 1) := by decide +kernel
theorem dL_mountain_37 : decode cL_mountain 37 = .ok (.iastore, 1) := by decide +kernel
theorem dL_mountain_38 : decode cL_mountain 38 = .ok (.iconst 0, 1) := by decide +kernel
theorem dL_mountain_39 : decode cL_mountain 39 = .ok (.istore 8, 2) := by decide +kernel
theorem dL_mountain_41 : decode cL_mountain 41 = .ok (.iload 8, 2) := by decide +kernel
theorem dL_mountain_43 : decode cL_mountain 43 = .ok (.bipush 80, 2) := by decide +kernel
theorem dL_mountain_45 : decode cL_mountain 45 = .ok (.if_icmp .ge 190, 3) := by decide +kernel
theorem dL_mountain_48 : decode cL_mountain 48 = .ok (.iload 7, 2) := by decide +kernel
theorem dL_mountain_50 : decode cL_mountain 50 = .ok (.ifCond .eq 185, 3) := by decide +kernel
theorem dL_mountain_53 : decode cL_mountain 53 = .ok (.aload_n 0, 1) := by decide +kernel
theorem dL_mountain_54 : decode cL_mountain 54 = .ok (.iload_n 1, 1) := by decide +kernel
theorem dL_mountain_55 : decode cL_mountain 55 = .ok (.iconst 2, 1) := by decide +kernel
theorem dL_mountain_56 : decode cL_mountain 56 = .ok (.iload 8, 2) := by decide +kernel
theorem dL_mountain_58 : decode cL_mountain 58 = .ok (.imul, 1) := by decide +kernel
theorem dL_mountain_59 : decode cL_mountain 59 = .ok (.iadd, 1) := by decide +kernel
theorem dL_mountain_60 : decode cL_mountain 60 = .ok (.ldc 131, 2) := by decide +kernel
theorem dL_mountain_62 : decode cL_mountain 62 = .ok (.invokestatic 132, 3) := by decide +kernel
theorem dL_mountain_65 : decode cL_mountain 65 = .ok (.istore 9, 2) := by decide +kernel
theorem dL_mountain_67 : decode cL_mountain 67 = .ok (.aload_n 0, 1) := by decide +kernel
theorem dL_mountain_68 : decode cL_mountain 68 = .ok (.iload_n 1, 1) := by decide +kernel
theorem dL_mountain_69 : decode cL_mountain 69 = .ok (.iconst 2, 1) := by decide +kernel
theorem dL_mountain_70 : decode cL_mountain 70 = .ok (.iload 8, 2) := by decide +kernel
theorem dL_mountain_72 : decode cL_mountain 72 = .ok (.imul, 1) := by decide +kernel
theorem dL_mountain_73 : decode cL_mountain 73 = .ok (.iadd, 1) := by decide +kernel
theorem dL_mountain_74 : decode cL_mountain 74 = .ok (.iconst 1, 1) := by decide +kernel
theorem dL_mountain_75 : decode cL_mountain 75 = .ok (.iadd, 1) := by decide +kernel
theorem dL_mountain_76 : decode cL_mountain 76 = .ok (.ldc 131, 2) := by decide +kernel
theorem dL_mountain_78 : decode cL_mountain 78 = .ok (.invokestatic 132, 3) := by decide +kernel
theorem dL_mountain_81 : decode cL_mountain 81 = .ok (.istore 10, 2) := by decide +kernel
theorem dL_mountain_83 : decode cL_mountain 83 = .ok (.iload 9, 2) := by decide +kernel
theorem dL_mountain_85 : decode cL_mountain 85 = .ok (.bipush 16, 2) := by decide +kernel
theorem dL_mountain_87 : decode cL_mountain 87 = .ok (.irem, 1) := by decide +kernel
theorem dL_mountain_88 : decode cL_mountain 88 = .ok (.istore 11, 2) := by decide +kernel
theorem dL_mountain_90 : decode cL_mountain 90 = .ok (.iload 9, 2) := by decide +kernel
theorem dL_mountain_92 : decode cL_mountain 92 = .ok (.bipush 16, 2) := by decide +kernel
theorem dL_mountain_94 : decode cL_mountain 94 = .ok (.idiv, 1) := by decide +kernel
theorem dL_mountain_95 : decode cL_mountain 95 = .ok (.istore 12, 2) := by decide +kernel
theorem dL_mountain_97 : decode cL_mountain 97 = .ok (.iload 11, 2) := by decide +kernel
theorem dL_mountain_99 : decode cL_mountain 99 = .ok (.bipush 6, 2) := by decide +kernel
theorem dL_mountain_101 : decode cL_mountain 101 = .ok (.if_icmp .ge 35, 3) := by decide +kernel
theorem dL_mountain_104 : decode cL_mountain 104 = .ok (.aload_n 2, 1) := by decide +kernel
theorem dL_mountain_105 : decode cL_mountain 105 = .ok (.iload 12, 2) := by decide +kernel
theorem dL_mountain_107 : decode cL_mountain 107 = .ok (.iconst 5, 1) := by decide +kernel
theorem dL_mountain_108 : decode cL_mountain 108 = .ok (.irem, 1) := by decide +kernel
theorem dL_mountain_109 : decode cL_mountain 109 = .ok (.ifCond .ne 7, 3) := by decide +kernel
theorem dL_mountain_112 : decode cL_mountain 112 = .ok (.iconst 0, 1) := by decide +kernel
theorem dL_mountain_113 : decode cL_mountain 113 = .ok (.goto 10, 3) := by decide +kernel
theorem dL_mountain_116 : decode cL_mountain 116 = .ok (.iload 12, 2) := by decide +kernel
theorem dL_mountain_118 : decode cL_mountain 118 = .ok (.iconst 5, 1) := by decide +kernel
theorem dL_mountain_119 : decode cL_mountain 119 = .ok (.idiv, 1) := by decide +kernel
theorem dL_mountain_120 : decode cL_mountain 120 = .ok (.bipush 60, 2) := by decide +kernel
theorem dL_mountain_122 : decode cL_mountain 122 = .ok (.irem, 1) := by decide +kernel
theorem dL_mountain_123 : decode cL_mountain 123 = .ok (.aload_n 3, 1) := by decide +kernel
theorem dL_mountain_124 : decode cL_mountain 124 = .ok (.aload 4, 2) := by decide +kernel
theorem dL_mountain_126 : decode cL_mountain 126 = .ok (.aload 5, 2) := by decide +kernel
theorem dL_mountain_128 : decode cL_mountain 128 = .ok (.invokestatic 136, 3) := by decide +kernel
theorem dL_mountain_131 : decode cL_mountain 131 = .ok (.istore 7, 2) := by decide +kernel
theorem dL_mountain_133 : decode cL_mountain 133 = .ok (.goto 62, 3) := by decide +kernel
theorem dL_mountain_136 : decode cL_mountain 136 = .ok (.iload 11, 2) := by decide +kernel
theorem dL_mountain_138 : decode cL_mountain 138 = .ok (.bipush 10, 2) := by decide +kernel
theorem dL_mountain_140 : decode cL_mountain 140 = .ok (.if_icmp .ge 21, 3) := by decide +kernel
theorem dL_mountain_143 : decode cL_mountain 143 = .ok (.aload_n 2, 1) := by decide +kernel
theorem dL_mountain_144 : decode cL_mountain 144 = .ok (.iload 12, 2) := by decide +kernel
theorem dL_mountain_146 : decode cL_mountain 146 = .ok (.iload 10, 2) := by decide +kernel
theorem dL_mountain_148 : decode cL_mountain 148 = .ok (.aload_n 3, 1) := by decide +kernel
theorem dL_mountain_149 : decode cL_mountain 149 = .ok (.aload 4, 2) := by decide +kernel
theorem dL_mountain_151 : decode cL_mountain 151 = .ok (.aload 5, 2) := by decide +kernel
theorem dL_mountain_153 : decode cL_mountain 153 = .ok (.invokestatic 140, 3) := by decide +kernel
theorem dL_mountain_156 : decode cL_mountain 156 = .ok (.istore 7, 2) := by decide +kernel
theorem dL_mountain_158 : decode cL_mountain 158 = .ok (.goto 37, 3) := by decide +kernel
theorem dL_mountain_161 : decode cL_mountain 161 = .ok (.iload 11, 2) := by decide +kernel
theorem dL_mountain_163 : decode cL_mountain 163 = .ok (.bipush 13, 2) := by decide +kernel
theorem dL_mountain_165 : decode cL_mountain 165 = .ok (.if_icmp .ge 17, 3) := by decide +kernel
theorem dL_mountain_168 : decode cL_mountain 168 = .ok (.aload_n 2, 1) := by decide +kernel
theorem dL_mountain_169 : decode cL_mountain 169 = .ok (.iload 12, 2) := by decide +kernel
theorem dL_mountain_171 : decode cL_mountain 171 = .ok (.iload 10, 2) := by decide +kernel
theorem dL_mountain_173 : decode cL_mountain 173 = .ok (.aload_n 3, 1) := by decide +kernel
theorem dL_mountain_174 : decode cL_mountain 174 = .ok (.aload 5, 2) := by decide +kernel
theorem dL_mountain_176 : decode cL_mountain 176 = .ok (.invokestatic 144, 3) := by decide +kernel
theorem dL_mountain_179 : decode cL_mountain 179 = .ok (.goto 14, 3) := by decide +kernel
theorem dL_mountain_182 : decode cL_mountain 182 = .ok (.aload_n 2, 1) := by decide +kernel
theorem dL_mountain_183 : decode cL_mountain 183 = .ok (.iload 12, 2) := by decide +kernel
theorem dL_mountain_185 : decode cL_mountain 185 = .ok (.iload 10, 2) := by decide +kernel
theorem dL_mountain_187 : decode cL_mountain 187 = .ok (.aload_n 3, 1) := by decide +kernel
theorem dL_mountain_188 : decode cL_mountain 188 = .ok (.aload 6, 2) := by decide +kernel
theorem dL_mountain_190 : decode cL_mountain 190 = .ok (.invokestatic 148, 3) := by decide +kernel
theorem dL_mountain_193 : decode cL_mountain 193 = .ok (.istore 7, 2) := by decide +kernel
theorem dL_mountain_195 : decode cL_mountain 195 = .ok (.iload 7, 2) := by decide +kernel
theorem dL_mountain_197 : decode cL_mountain 197 = .ok (.ifCond .eq 29, 3) := by decide +kernel
theorem dL_mountain_200 : decode cL_mountain 200 = .ok (.iload 8, 2) := by decide +kernel
theorem dL_mountain_202 : decode cL_mountain 202 = .ok (.bipush 10, 2) := by decide +kernel
theorem dL_mountain_204 : decode cL_mountain 204 = .ok (.irem, 1) := by decide +kernel
theorem dL_mountain_205 : decode cL_mountain 205 = .ok (.bipush 9, 2) := by decide +kernel
theorem dL_mountain_207 : decode cL_mountain 207 = .ok (.if_icmp .lt 15, 3) := by decide +kernel
theorem dL_mountain_210 : decode cL_mountain 210 = .ok (.aload_n 2, 1) := by decide +kernel
theorem dL_mountain_211 : decode cL_mountain 211 = .ok (.aload_n 3, 1) := by decide +kernel
theorem dL_mountain_212 : decode cL_mountain 212 = .ok (.aload 5, 2) := by decide +kernel
theorem dL_mountain_214 : decode cL_mountain 214 = .ok (.aload 6, 2) := by decide +kernel
theorem dL_mountain_216 : decode cL_mountain 216 = .ok (.invokestatic 151, 3) := by decide +kernel
theorem dL_mountain_219 : decode cL_mountain 219 = .ok (.ifCond .eq 7, 3) := by decide +kernel
theorem dL_mountain_222 : decode cL_mountain 222 = .ok (.iconst 1, 1) := by decide +kernel
theorem dL_mountain_223 : decode cL_mountain 223 = .ok (.goto 4, 3) := by decide +kernel
theorem dL_mountain_226 : decode cL_mountain 226 = .ok (.iconst 0, 1) := by decide +kernel
theorem dL_mountain_227 : decode cL_mountain 227 = .ok (.istore 7, 2) := by decide +kernel
theorem dL_mountain_229 : decode cL_mountain 229 = .ok (.iinc 8 1, 3) := by decide +kernel
theorem dL_mountain_232 : decode cL_mountain 232 = .ok (.goto (-191), 3) := by decide +kernel
theorem dL_mountain_235 : decode cL_mountain 235 = .ok (.iload 7, 2) := by decide +kernel
theorem dL_mountain_237 : decode cL_mountain 237 = .ok (.ifCond .eq 38, 3) := by decide +kernel
theorem dL_mountain_240 : decode cL_mountain 240 = .ok (.aload_n 2, 1) := by decide +kernel
theorem dL_mountain_241 : decode cL_mountain 241 = .ok (.aload_n 3, 1) := by decide +kernel
theorem dL_mountain_242 : decode cL_mountain 242 = .ok (.aload 5, 2) := by decide +kernel
theorem dL_mountain_244 : decode cL_mountain 244 = .ok (.aload 6, 2) := by decide +kernel
theorem dL_mountain_246 : decode cL_mountain 246 = .ok (.invokestatic 151, 3) := by decide +kernel
theorem dL_mountain_249 : decode cL_mountain 249 = .ok (.ifCond .eq 26, 3) := by decide +kernel
theorem dL_mountain_252 : decode cL_mountain 252 = .ok (.aload_n 3, 1) := by decide +kernel
theorem dL_mountain_253 : decode cL_mountain 253 = .ok (.iconst 2, 1) := by decide +kernel
theorem dL_mountain_254 : decode cL_mountain 254 = .ok (.iaload, 1) := by decide +kernel
theorem dL_mountain_255 : decode cL_mountain 255 = .ok (.ifCond .eq 16, 3) := by decide +kernel
theorem dL_mountain_258 : decode cL_mountain 258 = .ok (.aload_n 2, 1) := by decide +kernel
theorem dL_mountain_259 : decode cL_mountain 259 = .ok (.aload_n 3, 1) := by decide +kernel
theorem dL_mountain_260 : decode cL_mountain 260 = .ok (.iconst 2, 1) := by decide +kernel
theorem dL_mountain_261 : decode cL_mountain 261 = .ok (.iaload, 1) := by decide +kernel
theorem dL_mountain_262 : decode cL_mountain 262 = .ok (.iconst 1, 1) := by decide +kernel
theorem dL_mountain_263 : decode cL_mountain 263 = .ok (.isub, 1) := by decide +kernel
theorem dL_mountain_264 : decode cL_mountain 264 = .ok (.aload_n 3, 1) := by decide +kernel
theorem dL_mountain_265 : decode cL_mountain 265 = .ok (.invokestatic 155, 3) := by decide +kernel
theorem dL_mountain_268 : decode cL_mountain 268 = .ok (.ifCond .eq 7, 3) := by decide +kernel
theorem dL_mountain_271 : decode cL_mountain 271 = .ok (.iconst 1, 1) := by decide +kernel
theorem dL_mountain_272 : decode cL_mountain 272 = .ok (.goto 4, 3) := by decide +kernel
theorem dL_mountain_275 : decode cL_mountain 275 = .ok (.iconst 0, 1) := by decide +kernel
theorem dL_mountain_276 : decode cL_mountain 276 = .ok (.ireturn, 1) := by decide +kernel
theorem dL_law_0 : decode cL_law 0 = .ok (.aload_n 0, 1) := by decide +kernel
theorem dL_law_1 : decode cL_law 1 = .ok (.iconst 0, 1) := by decide +kernel
theorem dL_law_2 : decode cL_law 2 = .ok (.invokestatic 159, 3) := by decide +kernel
theorem dL_law_5 : decode cL_law 5 = .ok (.ifCond .eq 27, 3) := by decide +kernel
theorem dL_law_8 : decode cL_law 8 = .ok (.aload_n 0, 1) := by decide +kernel
theorem dL_law_9 : decode cL_law 9 = .ok (.sipush 160, 3) := by decide +kernel
theorem dL_law_12 : decode cL_law 12 = .ok (.invokestatic 159, 3) := by decide +kernel
theorem dL_law_15 : decode cL_law 15 = .ok (.ifCond .eq 17, 3) := by decide +kernel
theorem dL_law_18 : decode cL_law 18 = .ok (.aload_n 0, 1) := by decide +kernel
theorem dL_law_19 : decode cL_law 19 = .ok (.sipush 320, 3) := by decide +kernel
theorem dL_law_22 : decode cL_law 22 = .ok (.invokestatic 159, 3) := by decide +kernel
theorem dL_law_25 : decode cL_law 25 = .ok (.ifCond .eq 7, 3) := by decide +kernel
theorem dL_law_28 : decode cL_law 28 = .ok (.iconst 1, 1) := by decide +kernel
theorem dL_law_29 : decode cL_law 29 = .ok (.goto 4, 3) := by decide +kernel
theorem dL_law_32 : decode cL_law 32 = .ok (.iconst 0, 1) := by decide +kernel
theorem dL_law_33 : decode cL_law 33 = .ok (.ireturn, 1) := by decide +kernel
