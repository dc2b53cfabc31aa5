theorem dL_readings_432 : decode cL_readings 432 = .ok (.if_icmp .ne 10, 3) := by decide +kernel
theorem dL_readings_435 : decode cL_readings 435 = .ok (.iload 13, 2) := by decide +kernel
theorem dL_readings_437 : decode cL_readings 437 = .ok (.iload 10, 2) := by decide +kernel
theorem dL_readings_439 : decode cL_readings 439 = .ok (.if_icmp .ne 7, 3) := by decide +kernel
theorem dL_readings_442 : decode cL_readings 442 = .ok (.iconst 1, 1) := by decide +kernel
theorem dL_readings_443 : decode cL_readings 443 = .ok (.goto 4, 3) := by decide +kernel
theorem dL_readings_446 : decode cL_readings 446 = .ok (.iconst 0, 1) := by decide +kernel
theorem dL_readings_447 : decode cL_readings 447 = .ok (.istore 14, 2) := by decide +kernel
theorem dL_readings_449 : decode cL_readings 449 = .ok (.iload 14, 2) := by decide +kernel
theorem dL_readings_451 : decode cL_readings 451 = .ok (.ifCond .eq 27, 3) := by decide +kernel
theorem dL_readings_454 : decode cL_readings 454 = .ok (.aload_n 0, 1) := by decide +kernel
theorem dL_readings_455 : decode cL_readings 455 = .ok (.invokevirtual 90, 3) := by decide +kernel
theorem dL_readings_458 : decode cL_readings 458 = .ok (.iload 4, 2) := by decide +kernel
theorem dL_readings_460 : decode cL_readings 460 = .ok (.ifCond .le 9, 3) := by decide +kernel
theorem dL_readings_463 : decode cL_readings 463 = .ok (.sipush (-1002), 3) := by decide +kernel
theorem dL_readings_466 : decode cL_readings 466 = .ok (.goto 5, 3) := by decide +kernel
theorem dL_readings_469 : decode cL_readings 469 = .ok (.iload 11, 2) := by decide +kernel
theorem dL_readings_471 : decode cL_readings 471 = .ok (.if_icmp .ne 7, 3) := by decide +kernel
theorem dL_readings_474 : decode cL_readings 474 = .ok (.iconst 1, 1) := by decide +kernel
theorem dL_readings_475 : decode cL_readings 475 = .ok (.goto 4, 3) := by decide +kernel
theorem dL_readings_478 : decode cL_readings 478 = .ok (.iconst 0, 1) := by decide +kernel
theorem dL_readings_479 : decode cL_readings 479 = .ok (.ireturn, 1) := by decide +kernel
theorem dL_law_0 : decode cL_law 0 = .ok (.new 21, 3) := by decide +kernel
theorem dL_law_3 : decode cL_law 3 = .ok (.dup, 1) := by decide +kernel
theorem dL_law_4 : decode cL_law 4 = .ok (.invokespecial 93, 3) := by decide +kernel
theorem dL_law_7 : decode cL_law 7 = .ok (.astore_n 1, 1) := by decide +kernel
theorem dL_law_8 : decode cL_law 8 = .ok (.bipush 60, 2) := by decide +kernel
theorem dL_law_10 : decode cL_law 10 = .ok (.newarray .int, 2) := by decide +kernel
theorem dL_law_12 : decode cL_law 12 = .ok (.astore_n 2, 1) := by decide +kernel
theorem dL_law_13 : decode cL_law 13 = .ok (.aload_n 1, 1) := by decide +kernel
theorem dL_law_14 : decode cL_law 14 = .ok (.aload_n 0, 1) := by decide +kernel
theorem dL_law_15 : decode cL_law 15 = .ok (.iconst 1, 1) := by decide +kernel
theorem dL_law_16 : decode cL_law 16 = .ok (.aload_n 2, 1) := by decide +kernel
theorem dL_law_17 : decode cL_law 17 = .ok (.invokestatic 94, 3) := by decide +kernel
theorem dL_law_20 : decode cL_law 20 = .ok (.ifCond .ne 5, 3) := by decide +kernel
theorem dL_law_23 : decode cL_law 23 = .ok (.iconst 0, 1) := by decide +kernel
theorem dL_law_24 : decode cL_law 24 = .ok (.ireturn, 1) := by decide +kernel
theorem dL_law_25 : decode cL_law 25 = .ok (.aload_n 1, 1) := by decide +kernel
theorem dL_law_26 : decode cL_law 26 = .ok (.iconst 0, 1) := by decide +kernel
theorem dL_law_27 : decode cL_law 27 = .ok (.invokevirtual 33, 3) := by decide +kernel
theorem dL_law_30 : decode cL_law 30 = .ok (.istore_n 3, 1) := by decide +kernel
theorem dL_law_31 : decode cL_law 31 = .ok (.aload_n 0, 1) := by decide +kernel
theorem dL_law_32 : decode cL_law 32 = .ok (.iconst 0, 1) := by decide +kernel
theorem dL_law_33 : decode cL_law 33 = .ok (.invokestatic 10, 3) := by decide +kernel
theorem dL_law_36 : decode cL_law 36 = .ok (.iconst 4, 1) := by decide +kernel
theorem dL_law_37 : decode cL_law 37 = .ok (.invokestatic 16, 3) := by decide +kernel
theorem dL_law_40 : decode cL_law 40 = .ok (.istore 4, 2) := by decide +kernel
theorem dL_law_42 : decode cL_law 42 = .ok (.bipush 6, 2) := by decide +kernel
theorem dL_law_44 : decode cL_law 44 = .ok (.newarray .int, 2) := by decide +kernel
theorem dL_law_46 : decode cL_law 46 = .ok (.astore 5, 2) := by decide +kernel
theorem dL_law_48 : decode cL_law 48 = .ok (.bipush 6, 2) := by decide +kernel
theorem dL_law_50 : decode cL_law 50 = .ok (.newarray .int, 2) := by decide +kernel
theorem dL_law_52 : decode cL_law 52 = .ok (.astore 6, 2) := by decide +kernel
theorem dL_law_54 : decode cL_law 54 = .ok (.aload_n 1, 1) := by decide +kernel
theorem dL_law_55 : decode cL_law 55 = .ok (.aload_n 0, 1) := by decide +kernel
theorem dL_law_56 : decode cL_law 56 = .ok (.bipush 8, 2) := by decide +kernel
theorem dL_law_58 : decode cL_law 58 = .ok (.aload 5, 2) := by decide +kernel
theorem dL_law_60 : decode cL_law 60 = .ok (.aload 6, 2) := by decide +kernel
theorem dL_law_62 : decode cL_law 62 = .ok (.iload 4, 2) := by decide +kernel
theorem dL_law_64 : decode cL_law 64 = .ok (.invokestatic 98, 3) := by decide +kernel
theorem dL_law_67 : decode cL_law 67 = .ok (.ifCond .ne 5, 3) := by decide +kernel
theorem dL_law_70 : decode cL_law 70 = .ok (.iconst 0, 1) := by decide +kernel
theorem dL_law_71 : decode cL_law 71 = .ok (.ireturn, 1) := by decide +kernel
theorem dL_law_72 : decode cL_law 72 = .ok (.aload_n 2, 1) := by decide +kernel
theorem dL_law_73 : decode cL_law 73 = .ok (.iload_n 3, 1) := by decide +kernel
theorem dL_law_74 : decode cL_law 74 = .ok (.invokestatic 102, 3) := by decide +kernel
theorem dL_law_77 : decode cL_law 77 = .ok (.istore 7, 2) := by decide +kernel
theorem dL_law_79 : decode cL_law 79 = .ok (.aload_n 1, 1) := by decide +kernel
theorem dL_law_80 : decode cL_law 80 = .ok (.iconst 2, 1) := by decide +kernel
theorem dL_law_81 : decode cL_law 81 = .ok (.invokevirtual 33, 3) := by decide +kernel
theorem dL_law_84 : decode cL_law 84 = .ok (.iload 7, 2) := by decide +kernel
theorem dL_law_86 : decode cL_law 86 = .ok (.if_icmp .ne 10, 3) := by decide +kernel
theorem dL_law_89 : decode cL_law 89 = .ok (.iload_n 3, 1) := by decide +kernel
theorem dL_law_90 : decode cL_law 90 = .ok (.iload 7, 2) := by decide +kernel
theorem dL_law_92 : decode cL_law 92 = .ok (.irem, 1) := by decide +kernel
theorem dL_law_93 : decode cL_law 93 = .ok (.ifCond .eq 5, 3) := by decide +kernel
theorem dL_law_96 : decode cL_law 96 = .ok (.iconst 0, 1) := by decide +kernel
theorem dL_law_97 : decode cL_law 97 = .ok (.ireturn, 1) := by decide +kernel
theorem dL_law_98 : decode cL_law 98 = .ok (.aload_n 1, 1) := by decide +kernel
theorem dL_law_99 : decode cL_law 99 = .ok (.aload_n 2, 1) := by decide +kernel
theorem dL_law_100 : decode cL_law 100 = .ok (.iload_n 3, 1) := by decide +kernel
theorem dL_law_101 : decode cL_law 101 = .ok (.aload 5, 2) := by decide +kernel
theorem dL_law_103 : decode cL_law 103 = .ok (.aload 6, 2) := by decide +kernel
theorem dL_law_105 : decode cL_law 105 = .ok (.iload 4, 2) := by decide +kernel
theorem dL_law_107 : decode cL_law 107 = .ok (.iconst 1, 1) := by decide +kernel
theorem dL_law_108 : decode cL_law 108 = .ok (.iadd, 1) := by decide +kernel
theorem dL_law_109 : decode cL_law 109 = .ok (.aload_n 0, 1) := by decide +kernel
theorem dL_law_110 : decode cL_law 110 = .ok (.bipush 14, 2) := by decide +kernel
theorem dL_law_112 : decode cL_law 112 = .ok (.invokestatic 10, 3) := by decide +kernel
theorem dL_law_115 : decode cL_law 115 = .ok (.invokestatic 105, 3) := by decide +kernel
theorem dL_law_118 : decode cL_law 118 = .ok (.ifCond .eq 26, 3) := by decide +kernel
theorem dL_law_121 : decode cL_law 121 = .ok (.aload_n 1, 1) := by decide +kernel
theorem dL_law_122 : decode cL_law 122 = .ok (.aload_n 2, 1) := by decide +kernel
theorem dL_law_123 : decode cL_law 123 = .ok (.iload_n 3, 1) := by decide +kernel
theorem dL_law_124 : decode cL_law 124 = .ok (.aload 5, 2) := by decide +kernel
theorem dL_law_126 : decode cL_law 126 = .ok (.aload 6, 2) := by decide +kernel
theorem dL_law_128 : decode cL_law 128 = .ok (.iload 4, 2) := by decide +kernel
theorem dL_law_130 : decode cL_law 130 = .ok (.iconst 1, 1) := by decide +kernel
theorem dL_law_131 : decode cL_law 131 = .ok (.iadd, 1) := by decide +kernel
theorem dL_law_132 : decode cL_law 132 = .ok (.aload_n 0, 1) := by decide +kernel
theorem dL_law_133 : decode cL_law 133 = .ok (.bipush 15, 2) := by decide +kernel
theorem dL_law_135 : decode cL_law 135 = .ok (.invokestatic 10, 3) := by decide +kernel
theorem dL_law_138 : decode cL_law 138 = .ok (.invokestatic 105, 3) := by decide +kernel
theorem dL_law_141 : decode cL_law 141 = .ok (.ifCond .ne 5, 3) := by decide +kernel
theorem dL_law_144 : decode cL_law 144 = .ok (.iconst 0, 1) := by decide +kernel
theorem dL_law_145 : decode cL_law 145 = .ok (.ireturn, 1) := by decide +kernel
theorem dL_law_146 : decode cL_law 146 = .ok (.aload_n 0, 1) := by decide +kernel
theorem dL_law_147 : decode cL_law 147 = .ok (.iconst 0, 1) := by decide +kernel
theorem dL_law_148 : decode cL_law 148 = .ok (.invokestatic 10, 3) := by decide +kernel
theorem dL_law_151 : decode cL_law 151 = .ok (.iconst 4, 1) := by decide +kernel
theorem dL_law_152 : decode cL_law 152 = .ok (.ishr, 1) := by decide +kernel
theorem dL_law_153 : decode cL_law 153 = .ok (.iconst 5, 1) := by decide +kernel
theorem dL_law_154 : decode cL_law 154 = .ok (.invokestatic 16, 3) := by decide +kernel
theorem dL_law_157 : decode cL_law 157 = .ok (.istore 8, 2) := by decide +kernel
theorem dL_law_159 : decode cL_law 159 = .ok (.iload 4, 2) := by decide +kernel
theorem dL_law_161 : decode cL_law 161 = .ok (.ifCond .ne 7, 3) := by decide +kernel
theorem dL_law_164 : decode cL_law 164 = .ok (.iconst 1, 1) := by decide +kernel
theorem dL_law_165 : decode cL_law 165 = .ok (.goto 4, 3) := by decide +kernel
theorem dL_law_168 : decode cL_law 168 = .ok (.iconst 0, 1) := by decide +kernel
theorem dL_law_169 : decode cL_law 169 = .ok (.istore 9, 2) := by decide +kernel
theorem dL_law_171 : decode cL_law 171 = .ok (.iconst 0, 1) := by decide +kernel
theorem dL_law_172 : decode cL_law 172 = .ok (.istore 10, 2) := by decide +kernel
theorem dL_law_174 : decode cL_law 174 = .ok (.iload 10, 2) := by decide +kernel
theorem dL_law_176 : decode cL_law 176 = .ok (.iload 8, 2) := by decide +kernel
theorem dL_law_178 : decode cL_law 178 = .ok (.if_icmp .ge 230, 3) := by decide +kernel
theorem dL_law_181 : decode cL_law 181 = .ok (.aload_n 0, 1) := by decide +kernel
theorem dL_law_182 : decode cL_law 182 = .ok (.bipush 16, 2) := by decide +kernel
theorem dL_law_184 : decode cL_law 184 = .ok (.iload 10, 2) := by decide +kernel
theorem dL_law_186 : decode cL_law 186 = .ok (.iadd, 1) := by decide +kernel
theorem dL_law_187 : decode cL_law 187 = .ok (.invokestatic 10, 3) := by decide +kernel
theorem dL_law_190 : decode cL_law 190 = .ok (.istore 11, 2) := by decide +kernel
theorem dL_law_192 : decode cL_law 192 = .ok (.iload 11, 2) := by decide +kernel
theorem dL_law_194 : decode cL_law 194 = .ok (.iconst 3, 1) := by decide +kernel
theorem dL_law_195 : decode cL_law 195 = .ok (.invokestatic 16, 3) := by decide +kernel
theorem dL_law_198 : decode cL_law 198 = .ok (.ifCond .le 7, 3) := by decide +kernel
theorem dL_law_201 : decode cL_law 201 = .ok (.iconst 1, 1) := by decide +kernel
theorem dL_law_202 : decode cL_law 202 = .ok (.goto 4, 3) := by decide +kernel
theorem dL_law_205 : decode cL_law 205 = .ok (.iconst 0, 1) := by decide +kernel
theorem dL_law_206 : decode cL_law 206 = .ok (.istore 12, 2) := by decide +kernel
theorem dL_law_208 : decode cL_law 208 = .ok (.aload_n 1, 1) := by decide +kernel
theorem dL_law_209 : decode cL_law 209 = .ok (.bipush 7, 2) := by decide +kernel
theorem dL_law_211 : decode cL_law 211 = .ok (.invokevirtual 33, 3) := by decide +kernel
theorem dL_law_214 : decode cL_law 214 = .ok (.istore 13, 2) := by decide +kernel
theorem dL_law_216 : decode cL_law 216 = .ok (.iload 11, 2) := by decide +kernel
theorem dL_law_218 : decode cL_law 218 = .ok (.iconst 3, 1) := by decide +kernel
theorem dL_law_219 : decode cL_law 219 = .ok (.ishr, 1) := by decide +kernel
theorem dL_law_220 : decode cL_law 220 = .ok (.iconst 5, 1) := by decide +kernel
theorem dL_law_221 : decode cL_law 221 = .ok (.invokestatic 16, 3) := by decide +kernel
theorem dL_law_224 : decode cL_law 224 = .ok (.istore 14, 2) := by decide +kernel
theorem dL_law_226 : decode cL_law 226 = .ok (.iload 14, 2) := by decide +kernel
theorem dL_law_228 : decode cL_law 228 = .ok (.iconst 1, 1) := by decide +kernel
theorem dL_law_229 : decode cL_law 229 = .ok (.iadd, 1) := by decide +kernel
theorem dL_law_230 : decode cL_law 230 = .ok (.aload_n 1, 1) := by decide +kernel
theorem dL_law_231 : decode cL_law 231 = .ok (.bipush 8, 2) := by decide +kernel
theorem dL_law_233 : decode cL_law 233 = .ok (.invokevirtual 33, 3) := by decide +kernel
theorem dL_law_236 : decode cL_law 236 = .ok (.if_icmp .ge 13, 3) := by decide +kernel
theorem dL_law_239 : decode cL_law 239 = .ok (.aload_n 1, 1) := by decide +kernel
theorem dL_law_240 : decode cL_law 240 = .ok (.iload 14, 2) := by decide +kernel
theorem dL_law_242 : decode cL_law 242 = .ok (.iconst 2, 1) := by decide +kernel
theorem dL_law_243 : decode cL_law 243 = .ok (.invokevirtual 57, 3) := by decide +kernel
theorem dL_law_246 : decode cL_law 246 = .ok (.goto 4, 3) := by decide +kernel
theorem dL_law_249 : decode cL_law 249 = .ok (.iconst 0, 1) := by decide +kernel
theorem dL_law_250 : decode cL_law 250 = .ok (.istore 15, 2) := by decide +kernel
theorem dL_law_252 : decode cL_law 252 = .ok (.iload 12, 2) := by decide +kernel
theorem dL_law_254 : decode cL_law 254 = .ok (.ifCond .eq 8, 3) := by decide +kernel
theorem dL_law_257 : decode cL_law 257 = .ok (.iload 13, 2) := by decide +kernel
theorem dL_law_259 : decode cL_law 259 = .ok (.goto 15, 3) := by decide +kernel
theorem dL_law_262 : decode cL_law 262 = .ok (.iconst 1, 1) := by decide +kernel
theorem dL_law_263 : decode cL_law 263 = .ok (.iload 11, 2) := by decide +kernel
theorem dL_law_265 : decode cL_law 265 = .ok (.bipush 6, 2) := by decide +kernel
theorem dL_law_267 : decode cL_law 267 = .ok (.ishr, 1) := by decide +kernel
theorem dL_law_268 : decode cL_law 268 = .ok (.bipush 30, 2) := by decide +kernel
theorem dL_law_270 : decode cL_law 270 = .ok (.invokestatic 16, 3) := by decide +kernel
theorem dL_law_273 : decode cL_law 273 = .ok (.iadd, 1) := by decide +kernel
theorem dL_law_274 : decode cL_law 274 = .ok (.istore 16, 2) := by decide +kernel
theorem dL_law_276 : decode cL_law 276 = .ok (.iload 12, 2) := by decide +kernel
theorem dL_law_278 : decode cL_law 278 = .ok (.ifCond .eq 8, 3) := by decide +kernel
theorem dL_law_281 : decode cL_law 281 = .ok (.iload 15, 2) := by decide +kernel
theorem dL_law_283 : decode cL_law 283 = .ok (.goto 16, 3) := by decide +kernel
theorem dL_law_286 : decode cL_law 286 = .ok (.iload 11, 2) := by decide +kernel
theorem dL_law_288 : decode cL_law 288 = .ok (.bipush 11, 2) := by decide +kernel
theorem dL_law_290 : decode cL_law 290 = .ok (.ishr, 1) := by decide +kernel
theorem dL_law_291 : decode cL_law 291 = .ok (.bipush 13, 2) := by decide +kernel
theorem dL_law_293 : decode cL_law 293 = .ok (.invokestatic 16, 3) := by decide +kernel
theorem dL_law_296 : decode cL_law 296 = .ok (.bipush 6, 2) := by decide +kernel
theorem dL_law_298 : decode cL_law 298 = .ok (.isub, 1) := by decide +kernel
theorem dL_law_299 : decode cL_law 299 = .ok (.istore 17, 2) := by decide +kernel
theorem dL_law_301 : decode cL_law 301 = .ok (.iload 12, 2) := by decide +kernel
theorem dL_law_303 : decode cL_law 303 = .ok (.ifCond .eq 12, 3) := by decide +kernel
theorem dL_law_306 : decode cL_law 306 = .ok (.aload_n 1, 1) := by decide +kernel
theorem dL_law_307 : decode cL_law 307 = .ok (.iload 14, 2) := by decide +kernel
theorem dL_law_309 : decode cL_law 309 = .ok (.invokevirtual 109, 3) := by decide +kernel
theorem dL_law_312 : decode cL_law 312 = .ok (.goto 11, 3) := by decide +kernel
theorem dL_law_315 : decode cL_law 315 = .ok (.aload_n 1, 1) := by decide +kernel
theorem dL_law_316 : decode cL_law 316 = .ok (.iload 16, 2) := by decide +kernel
theorem dL_law_318 : decode cL_law 318 = .ok (.iload 17, 2) := by decide +kernel
theorem dL_law_320 : decode cL_law 320 = .ok (.invokevirtual 112, 3) := by decide +kernel
theorem dL_law_323 : decode cL_law 323 = .ok (.istore 18, 2) := by decide +kernel
theorem dL_law_325 : decode cL_law 325 = .ok (.iload 18, 2) := by decide +kernel
theorem dL_law_327 : decode cL_law 327 = .ok (.iload 10, 2) := by decide +kernel
theorem dL_law_329 : decode cL_law 329 = .ok (.if_icmp .ne 27, 3) := by decide +kernel
theorem dL_law_332 : decode cL_law 332 = .ok (.aload_n 1, 1) := by decide +kernel
theorem dL_law_333 : decode cL_law 333 = .ok (.iload 10, 2) := by decide +kernel
theorem dL_law_335 : decode cL_law 335 = .ok (.iconst 0, 1) := by decide +kernel
theorem dL_law_336 : decode cL_law 336 = .ok (.invokevirtual 66, 3) := by decide +kernel
theorem dL_law_339 : decode cL_law 339 = .ok (.iload 16, 2) := by decide +kernel
theorem dL_law_341 : decode cL_law 341 = .ok (.if_icmp .ne 15, 3) := by decide +kernel
theorem dL_law_344 : decode cL_law 344 = .ok (.aload_n 1, 1) := by decide +kernel
theorem dL_law_345 : decode cL_law 345 = .ok (.iload 10, 2) := by decide +kernel
theorem dL_law_347 : decode cL_law 347 = .ok (.iconst 1, 1) := by decide +kernel
theorem dL_law_348 : decode cL_law 348 = .ok (.invokevirtual 66, 3) := by decide +kernel
theorem dL_law_351 : decode cL_law 351 = .ok (.iload 17, 2) := by decide +kernel
theorem dL_law_353 : decode cL_law 353 = .ok (.if_icmp .eq 5, 3) := by decide +kernel
theorem dL_law_356 : decode cL_law 356 = .ok (.iconst 0, 1) := by decide +kernel
theorem dL_law_357 : decode cL_law 357 = .ok (.ireturn, 1) := by decide +kernel
theorem dL_law_358 : decode cL_law 358 = .ok (.iload 9, 2) := by decide +kernel
theorem dL_law_360 : decode cL_law 360 = .ok (.ifCond .eq 12, 3) := by decide +kernel
theorem dL_law_363 : decode cL_law 363 = .ok (.iload 12, 2) := by decide +kernel
theorem dL_law_365 : decode cL_law 365 = .ok (.ifCond .eq 7, 3) := by decide +kernel
theorem dL_law_368 : decode cL_law 368 = .ok (.iconst 1, 1) := by decide +kernel
theorem dL_law_369 : decode cL_law 369 = .ok (.goto 4, 3) := by decide +kernel
theorem dL_law_372 : decode cL_law 372 = .ok (.iconst 0, 1) := by decide +kernel
theorem dL_law_373 : decode cL_law 373 = .ok (.istore 9, 2) := by decide +kernel
theorem dL_law_375 : decode cL_law 375 = .ok (.aload_n 1, 1) := by decide +kernel
theorem dL_law_376 : decode cL_law 376 = .ok (.iload 11, 2) := by decide +kernel
theorem dL_law_378 : decode cL_law 378 = .ok (.bipush 15, 2) := by decide +kernel
theorem dL_law_380 : decode cL_law 380 = .ok (.ishr, 1) := by decide +kernel
theorem dL_law_381 : decode cL_law 381 = .ok (.bipush 20, 2) := by decide +kernel
theorem dL_law_383 : decode cL_law 383 = .ok (.invokestatic 16, 3) := by decide +kernel
theorem dL_law_386 : decode cL_law 386 = .ok (.iconst 1, 1) := by decide +kernel
theorem dL_law_387 : decode cL_law 387 = .ok (.iload 11, 2) := by decide +kernel
theorem dL_law_389 : decode cL_law 389 = .ok (.bipush 19, 2) := by decide +kernel
theorem dL_law_391 : decode cL_law 391 = .ok (.ishr, 1) := by decide +kernel
theorem dL_law_392 : decode cL_law 392 = .ok (.bipush 20, 2) := by decide +kernel
theorem dL_law_394 : decode cL_law 394 = .ok (.invokestatic 16, 3) := by decide +kernel
theorem dL_law_397 : decode cL_law 397 = .ok (.iadd, 1) := by decide +kernel
theorem dL_law_398 : decode cL_law 398 = .ok (.invokevirtual 46, 3) := by decide +kernel
theorem dL_law_401 : decode cL_law 401 = .ok (.pop, 1) := by decide +kernel
theorem dL_law_402 : decode cL_law 402 = .ok (.iinc 10 1, 3) := by decide +kernel
theorem dL_law_405 : decode cL_law 405 = .ok (.goto (-231), 3) := by decide +kernel
theorem dL_law_408 : decode cL_law 408 = .ok (.aload_n 1, 1) := by decide +kernel
theorem dL_law_409 : decode cL_law 409 = .ok (.sipush 1000, 3) := by decide +kernel
theorem dL_law_412 : decode cL_law 412 = .ok (.invokevirtual 69, 3) := by decide +kernel
theorem dL_law_415 : decode cL_law 415 = .ok (.pop, 1) := by decide +kernel
theorem dL_law_416 : decode cL_law 416 = .ok (.iload 9, 2) := by decide +kernel
theorem dL_law_418 : decode cL_law 418 = .ok (.ifCond .eq 20, 3) := by decide +kernel
theorem dL_law_421 : decode cL_law 421 = .ok (.aload_n 1, 1) := by decide +kernel
theorem dL_law_422 : decode cL_law 422 = .ok (.aload 6, 2) := by decide +kernel
theorem dL_law_424 : decode cL_law 424 = .ok (.iconst 0, 1) := by decide +kernel
theorem dL_law_425 : decode cL_law 425 = .ok (.iaload, 1) := by decide +kernel
theorem dL_law_426 : decode cL_law 426 = .ok (.invokevirtual 83, 3) := by decide +kernel
theorem dL_law_429 : decode cL_law 429 = .ok (.aload 6, 2) := by decide +kernel
theorem dL_law_431 : decode cL_law 431 = .ok (.iconst 0, 1) := by decide +kernel
theorem dL_law_432 : decode cL_law 432 = .ok (.iaload, 1) := by decide +kernel
theorem dL_law_433 : decode cL_law 433 = .ok (.if_icmp .eq 5, 3) := by decide +kernel
theorem dL_law_436 : decode cL_law 436 = .ok (.iconst 0, 1) := by decide +kernel
theorem dL_law_437 : decode cL_law 437 = .ok (.ireturn, 1) := by decide +kernel
theorem dL_law_438 : decode cL_law 438 = .ok (.iconst 1, 1) := by decide +kernel
theorem dL_law_439 : decode cL_law 439 = .ok (.aload_n 0, 1) := by decide +kernel
theorem dL_law_440 : decode cL_law 440 = .ok (.bipush 22, 2) := by decide +kernel
theorem dL_law_442 : decode cL_law 442 = .ok (.invokestatic 10, 3) := by decide +kernel
theorem dL_law_445 : decode cL_law 445 = .ok (.bipush 60, 2) := by decide +kernel
theorem dL_law_447 : decode cL_law 447 = .ok (.invokestatic 16, 3) := by decide +kernel
theorem dL_law_450 : decode cL_law 450 = .ok (.iadd, 1) := by decide +kernel
theorem dL_law_451 : decode cL_law 451 = .ok (.istore 10, 2) := by decide +kernel
theorem dL_law_453 : decode cL_law 453 = .ok (.sipush (-1004), 3) := by decide +kernel
theorem dL_law_456 : decode cL_law 456 = .ok (.istore 11, 2) := by decide +kernel
theorem dL_law_458 : decode cL_law 458 = .ok (.bipush 60, 2) := by decide +kernel
theorem dL_law_460 : decode cL_law 460 = .ok (.istore 12, 2) := by decide +kernel
theorem dL_law_462 : decode cL_law 462 = .ok (.iload 12, 2) := by decide +kernel
theorem dL_law_464 : decode cL_law 464 = .ok (.iload 10, 2) := by decide +kernel
theorem dL_law_466 : decode cL_law 466 = .ok (.if_icmp .lt 33, 3) := by decide +kernel
theorem dL_law_469 : decode cL_law 469 = .ok (.aload 6, 2) := by decide +kernel
theorem dL_law_471 : decode cL_law 471 = .ok (.iconst 0, 1) := by decide +kernel
theorem dL_law_472 : decode cL_law 472 = .ok (.iaload, 1) := by decide +kernel
theorem dL_law_473 : decode cL_law 473 = .ok (.iload 12, 2) := by decide +kernel
theorem dL_law_475 : decode cL_law 475 = .ok (.imul, 1) := by decide +kernel
theorem dL_law_476 : decode cL_law 476 = .ok (.iload 7, 2) := by decide +kernel
theorem dL_law_478 : decode cL_law 478 = .ok (.invokestatic 43, 3) := by decide +kernel
theorem dL_law_481 : decode cL_law 481 = .ok (.ifCond .ne 8, 3) := by decide +kernel
theorem dL_law_484 : decode cL_law 484 = .ok (.iload 12, 2) := by decide +kernel
theorem dL_law_486 : decode cL_law 486 = .ok (.goto 5, 3) := by decide +kernel
theorem dL_law_489 : decode cL_law 489 = .ok (.iload 11, 2) := by decide +kernel
theorem dL_law_491 : decode cL_law 491 = .ok (.istore 11, 2) := by decide +kernel
theorem dL_law_493 : decode cL_law 493 = .ok (.iinc 12 (-1), 3) := by decide +kernel
theorem dL_law_496 : decode cL_law 496 = .ok (.goto (-34), 3) := by decide +kernel
theorem dL_law_499 : decode cL_law 499 = .ok (.aload_n 1, 1) := by decide +kernel
theorem dL_law_500 : decode cL_law 500 = .ok (.iload 10, 2) := by decide +kernel
theorem dL_law_502 : decode cL_law 502 = .ok (.bipush 60, 2) := by decide +kernel
theorem dL_law_504 : decode cL_law 504 = .ok (.invokevirtual 115, 3) := by decide +kernel
theorem dL_law_507 : decode cL_law 507 = .ok (.iload 11, 2) := by decide +kernel
theorem dL_law_509 : decode cL_law 509 = .ok (.if_icmp .ne 22, 3) := by decide +kernel
theorem dL_law_512 : decode cL_law 512 = .ok (.aload_n 1, 1) := by decide +kernel
theorem dL_law_513 : decode cL_law 513 = .ok (.iload 7, 2) := by decide +kernel
theorem dL_law_515 : decode cL_law 515 = .ok (.aload_n 0, 1) := by decide +kernel
theorem dL_law_516 : decode cL_law 516 = .ok (.bipush 23, 2) := by decide +kernel
theorem dL_law_518 : decode cL_law 518 = .ok (.invokestatic 10, 3) := by decide +kernel
theorem dL_law_521 : decode cL_law 521 = .ok (.invokestatic 118, 3) := by decide +kernel
theorem dL_law_524 : decode cL_law 524 = .ok (.ifCond .eq 7, 3) := by decide +kernel
theorem dL_law_527 : decode cL_law 527 = .ok (.iconst 1, 1) := by decide +kernel
theorem dL_law_528 : decode cL_law 528 = .ok (.goto 4, 3) := by decide +kernel
theorem dL_law_531 : decode cL_law 531 = .ok (.iconst 0, 1) := by decide +kernel
theorem dL_law_532 : decode cL_law 532 = .ok (.ireturn, 1) := by decide +kernel
