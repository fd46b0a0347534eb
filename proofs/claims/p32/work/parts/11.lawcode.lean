theorem dL_law_0 : decode code 0 = .ok (.iconst 0, 1) := by decide +kernel
theorem dL_law_1 : decode code 1 = .ok (.istore_n 1, 1) := by decide +kernel
theorem dL_law_2 : decode code 2 = .ok (.iload_n 1, 1) := by decide +kernel
theorem dL_law_3 : decode code 3 = .ok (.iconst 3, 1) := by decide +kernel
theorem dL_law_4 : decode code 4 = .ok (.if_icmp .ge 608, 3) := by decide +kernel
theorem dL_law_7 : decode code 7 = .ok (.new 9, 3) := by decide +kernel
theorem dL_law_10 : decode code 10 = .ok (.dup, 1) := by decide +kernel
theorem dL_law_11 : decode code 11 = .ok (.aload_n 0, 1) := by decide +kernel
theorem dL_law_12 : decode code 12 = .ok (.bipush 31, 2) := by decide +kernel
theorem dL_law_14 : decode code 14 = .ok (.iload_n 1, 1) := by decide +kernel
theorem dL_law_15 : decode code 15 = .ok (.imul, 1) := by decide +kernel
theorem dL_law_16 : decode code 16 = .ok (.bipush 7, 2) := by decide +kernel
theorem dL_law_18 : decode code 18 = .ok (.iadd, 1) := by decide +kernel
theorem dL_law_19 : decode code 19 = .ok (.invokespecial 11, 3) := by decide +kernel
theorem dL_law_22 : decode code 22 = .ok (.astore_n 2, 1) := by decide +kernel
theorem dL_law_23 : decode code 23 = .ok (.aload_n 2, 1) := by decide +kernel
theorem dL_law_24 : decode code 24 = .ok (.getfield 14, 3) := by decide +kernel
theorem dL_law_27 : decode code 27 = .ok (.astore_n 3, 1) := by decide +kernel
theorem dL_law_28 : decode code 28 = .ok (.aload_n 2, 1) := by decide +kernel
theorem dL_law_29 : decode code 29 = .ok (.invokevirtual 18, 3) := by decide +kernel
theorem dL_law_32 : decode code 32 = .ok (.ifCond .ne 5, 3) := by decide +kernel
theorem dL_law_35 : decode code 35 = .ok (.iconst 0, 1) := by decide +kernel
theorem dL_law_36 : decode code 36 = .ok (.ireturn, 1) := by decide +kernel
theorem dL_law_37 : decode code 37 = .ok (.iconst 0, 1) := by decide +kernel
theorem dL_law_38 : decode code 38 = .ok (.istore 4, 2) := by decide +kernel
theorem dL_law_40 : decode code 40 = .ok (.iload 4, 2) := by decide +kernel
theorem dL_law_42 : decode code 42 = .ok (.iconst 3, 1) := by decide +kernel
theorem dL_law_43 : decode code 43 = .ok (.if_icmp .ge 563, 3) := by decide +kernel
theorem dL_law_46 : decode code 46 = .ok (.aload_n 2, 1) := by decide +kernel
theorem dL_law_47 : decode code 47 = .ok (.invokevirtual 22, 3) := by decide +kernel
theorem dL_law_50 : decode code 50 = .ok (.ifCond .eq 17, 3) := by decide +kernel
theorem dL_law_53 : decode code 53 = .ok (.aload_n 2, 1) := by decide +kernel
theorem dL_law_54 : decode code 54 = .ok (.invokevirtual 25, 3) := by decide +kernel
theorem dL_law_57 : decode code 57 = .ok (.ifCond .eq 10, 3) := by decide +kernel
theorem dL_law_60 : decode code 60 = .ok (.aload_n 2, 1) := by decide +kernel
theorem dL_law_61 : decode code 61 = .ok (.invokevirtual 28, 3) := by decide +kernel
theorem dL_law_64 : decode code 64 = .ok (.ifCond .ne 5, 3) := by decide +kernel
theorem dL_law_67 : decode code 67 = .ok (.iconst 0, 1) := by decide +kernel
theorem dL_law_68 : decode code 68 = .ok (.ireturn, 1) := by decide +kernel
theorem dL_law_69 : decode code 69 = .ok (.aload_n 2, 1) := by decide +kernel
theorem dL_law_70 : decode code 70 = .ok (.bipush 8, 2) := by decide +kernel
theorem dL_law_72 : decode code 72 = .ok (.invokevirtual 31, 3) := by decide +kernel
theorem dL_law_75 : decode code 75 = .ok (.istore 5, 2) := by decide +kernel
theorem dL_law_77 : decode code 77 = .ok (.aload_n 2, 1) := by decide +kernel
theorem dL_law_78 : decode code 78 = .ok (.iconst 2, 1) := by decide +kernel
theorem dL_law_79 : decode code 79 = .ok (.invokevirtual 31, 3) := by decide +kernel
theorem dL_law_82 : decode code 82 = .ok (.ifCond .ne 7, 3) := by decide +kernel
theorem dL_law_85 : decode code 85 = .ok (.iconst 1, 1) := by decide +kernel
theorem dL_law_86 : decode code 86 = .ok (.goto 4, 3) := by decide +kernel
theorem dL_law_89 : decode code 89 = .ok (.iconst 0, 1) := by decide +kernel
theorem dL_law_90 : decode code 90 = .ok (.istore 6, 2) := by decide +kernel
theorem dL_law_92 : decode code 92 = .ok (.aload_n 3, 1) := by decide +kernel
theorem dL_law_93 : decode code 93 = .ok (.iload 5, 2) := by decide +kernel
theorem dL_law_95 : decode code 95 = .ok (.iload 6, 2) := by decide +kernel
theorem dL_law_97 : decode code 97 = .ok (.invokevirtual 35, 3) := by decide +kernel
theorem dL_law_100 : decode code 100 = .ok (.istore 7, 2) := by decide +kernel
theorem dL_law_102 : decode code 102 = .ok (.aload_n 3, 1) := by decide +kernel
theorem dL_law_103 : decode code 103 = .ok (.invokevirtual 41, 3) := by decide +kernel
theorem dL_law_106 : decode code 106 = .ok (.lstore 8, 2) := by decide +kernel
theorem dL_law_108 : decode code 108 = .ok (.aload_n 3, 1) := by decide +kernel
theorem dL_law_109 : decode code 109 = .ok (.iload 5, 2) := by decide +kernel
theorem dL_law_111 : decode code 111 = .ok (.iload 6, 2) := by decide +kernel
theorem dL_law_113 : decode code 113 = .ok (.invokevirtual 35, 3) := by decide +kernel
theorem dL_law_116 : decode code 116 = .ok (.iload 7, 2) := by decide +kernel
theorem dL_law_118 : decode code 118 = .ok (.if_icmp .ne 13, 3) := by decide +kernel
theorem dL_law_121 : decode code 121 = .ok (.aload_n 3, 1) := by decide +kernel
theorem dL_law_122 : decode code 122 = .ok (.invokevirtual 41, 3) := by decide +kernel
theorem dL_law_125 : decode code 125 = .ok (.lload 8, 2) := by decide +kernel
theorem dL_law_127 : decode code 127 = .ok (.lcmp, 1) := by decide +kernel
theorem dL_law_128 : decode code 128 = .ok (.ifCond .eq 5, 3) := by decide +kernel
theorem dL_law_131 : decode code 131 = .ok (.iconst 0, 1) := by decide +kernel
theorem dL_law_132 : decode code 132 = .ok (.ireturn, 1) := by decide +kernel
theorem dL_law_133 : decode code 133 = .ok (.aload_n 3, 1) := by decide +kernel
theorem dL_law_134 : decode code 134 = .ok (.bipush 9, 2) := by decide +kernel
theorem dL_law_136 : decode code 136 = .ok (.invokevirtual 45, 3) := by decide +kernel
theorem dL_law_139 : decode code 139 = .ok (.newarray .int, 2) := by decide +kernel
theorem dL_law_141 : decode code 141 = .ok (.astore 10, 2) := by decide +kernel
theorem dL_law_143 : decode code 143 = .ok (.iconst 0, 1) := by decide +kernel
theorem dL_law_144 : decode code 144 = .ok (.istore 11, 2) := by decide +kernel
theorem dL_law_146 : decode code 146 = .ok (.iload 11, 2) := by decide +kernel
theorem dL_law_148 : decode code 148 = .ok (.aload 10, 2) := by decide +kernel
theorem dL_law_150 : decode code 150 = .ok (.arraylength, 1) := by decide +kernel
theorem dL_law_151 : decode code 151 = .ok (.if_icmp .ge 20, 3) := by decide +kernel
theorem dL_law_154 : decode code 154 = .ok (.aload 10, 2) := by decide +kernel
theorem dL_law_156 : decode code 156 = .ok (.iload 11, 2) := by decide +kernel
theorem dL_law_158 : decode code 158 = .ok (.aload_n 3, 1) := by decide +kernel
theorem dL_law_159 : decode code 159 = .ok (.iload 11, 2) := by decide +kernel
theorem dL_law_161 : decode code 161 = .ok (.invokevirtual 48, 3) := by decide +kernel
theorem dL_law_164 : decode code 164 = .ok (.iastore, 1) := by decide +kernel
theorem dL_law_165 : decode code 165 = .ok (.iinc 11 1, 3) := by decide +kernel
theorem dL_law_168 : decode code 168 = .ok (.goto (-22), 3) := by decide +kernel
theorem dL_law_171 : decode code 171 = .ok (.aload_n 3, 1) := by decide +kernel
theorem dL_law_172 : decode code 172 = .ok (.iconst 1, 1) := by decide +kernel
theorem dL_law_173 : decode code 173 = .ok (.invokevirtual 45, 3) := by decide +kernel
theorem dL_law_176 : decode code 176 = .ok (.bipush 24, 2) := by decide +kernel
theorem dL_law_178 : decode code 178 = .ok (.if_icmp .ge 104, 3) := by decide +kernel
theorem dL_law_181 : decode code 181 = .ok (.aload_n 3, 1) := by decide +kernel
theorem dL_law_182 : decode code 182 = .ok (.aload_n 2, 1) := by decide +kernel
theorem dL_law_183 : decode code 183 = .ok (.iconst 5, 1) := by decide +kernel
theorem dL_law_184 : decode code 184 = .ok (.invokevirtual 31, 3) := by decide +kernel
theorem dL_law_187 : decode code 187 = .ok (.bipush 16, 2) := by decide +kernel
theorem dL_law_189 : decode code 189 = .ok (.iconst 0, 1) := by decide +kernel
theorem dL_law_190 : decode code 190 = .ok (.invokevirtual 51, 3) := by decide +kernel
theorem dL_law_193 : decode code 193 = .ok (.aload_n 3, 1) := by decide +kernel
theorem dL_law_194 : decode code 194 = .ok (.iconst 1, 1) := by decide +kernel
theorem dL_law_195 : decode code 195 = .ok (.invokevirtual 45, 3) := by decide +kernel
theorem dL_law_198 : decode code 198 = .ok (.iconst 1, 1) := by decide +kernel
theorem dL_law_199 : decode code 199 = .ok (.isub, 1) := by decide +kernel
theorem dL_law_200 : decode code 200 = .ok (.if_icmp .eq 5, 3) := by decide +kernel
theorem dL_law_203 : decode code 203 = .ok (.iconst 0, 1) := by decide +kernel
theorem dL_law_204 : decode code 204 = .ok (.ireturn, 1) := by decide +kernel
theorem dL_law_205 : decode code 205 = .ok (.aload_n 2, 1) := by decide +kernel
theorem dL_law_206 : decode code 206 = .ok (.aload_n 2, 1) := by decide +kernel
theorem dL_law_207 : decode code 207 = .ok (.getfield 55, 3) := by decide +kernel
theorem dL_law_210 : decode code 210 = .ok (.iconst 3, 1) := by decide +kernel
theorem dL_law_211 : decode code 211 = .ok (.newarray .int, 2) := by decide +kernel
theorem dL_law_213 : decode code 213 = .ok (.dup, 1) := by decide +kernel
theorem dL_law_214 : decode code 214 = .ok (.iconst 0, 1) := by decide +kernel
theorem dL_law_215 : decode code 215 = .ok (.aload_n 3, 1) := by decide +kernel
theorem dL_law_216 : decode code 216 = .ok (.aload_n 3, 1) := by decide +kernel
theorem dL_law_217 : decode code 217 = .ok (.iconst 1, 1) := by decide +kernel
theorem dL_law_218 : decode code 218 = .ok (.invokevirtual 45, 3) := by decide +kernel
theorem dL_law_221 : decode code 221 = .ok (.iconst 1, 1) := by decide +kernel
theorem dL_law_222 : decode code 222 = .ok (.isub, 1) := by decide +kernel
theorem dL_law_223 : decode code 223 = .ok (.iconst 0, 1) := by decide +kernel
theorem dL_law_224 : decode code 224 = .ok (.invokevirtual 59, 3) := by decide +kernel
theorem dL_law_227 : decode code 227 = .ok (.iastore, 1) := by decide +kernel
theorem dL_law_228 : decode code 228 = .ok (.dup, 1) := by decide +kernel
theorem dL_law_229 : decode code 229 = .ok (.iconst 1, 1) := by decide +kernel
theorem dL_law_230 : decode code 230 = .ok (.bipush 16, 2) := by decide +kernel
theorem dL_law_232 : decode code 232 = .ok (.iastore, 1) := by decide +kernel
theorem dL_law_233 : decode code 233 = .ok (.dup, 1) := by decide +kernel
theorem dL_law_234 : decode code 234 = .ok (.iconst 2, 1) := by decide +kernel
theorem dL_law_235 : decode code 235 = .ok (.iconst 0, 1) := by decide +kernel
theorem dL_law_236 : decode code 236 = .ok (.iastore, 1) := by decide +kernel
theorem dL_law_237 : decode code 237 = .ok (.invokestatic 63, 3) := by decide +kernel
theorem dL_law_240 : decode code 240 = .ok (.putfield 55, 3) := by decide +kernel
theorem dL_law_243 : decode code 243 = .ok (.aload_n 2, 1) := by decide +kernel
theorem dL_law_244 : decode code 244 = .ok (.aload_n 2, 1) := by decide +kernel
theorem dL_law_245 : decode code 245 = .ok (.getfield 67, 3) := by decide +kernel
theorem dL_law_248 : decode code 248 = .ok (.iconst 0, 1) := by decide +kernel
theorem dL_law_249 : decode code 249 = .ok (.anewarray 71, 3) := by decide +kernel
theorem dL_law_252 : decode code 252 = .ok (.invokestatic 73, 3) := by decide +kernel
theorem dL_law_255 : decode code 255 = .ok (.putfield 67, 3) := by decide +kernel
theorem dL_law_258 : decode code 258 = .ok (.aload_n 3, 1) := by decide +kernel
theorem dL_law_259 : decode code 259 = .ok (.iload 5, 2) := by decide +kernel
theorem dL_law_261 : decode code 261 = .ok (.iload 6, 2) := by decide +kernel
theorem dL_law_263 : decode code 263 = .ok (.invokevirtual 35, 3) := by decide +kernel
theorem dL_law_266 : decode code 266 = .ok (.iload 7, 2) := by decide +kernel
theorem dL_law_268 : decode code 268 = .ok (.if_icmp .ne 12, 3) := by decide +kernel
theorem dL_law_271 : decode code 271 = .ok (.aload_n 3, 1) := by decide +kernel
theorem dL_law_272 : decode code 272 = .ok (.aload 10, 2) := by decide +kernel
theorem dL_law_274 : decode code 274 = .ok (.invokestatic 77, 3) := by decide +kernel
theorem dL_law_277 : decode code 277 = .ok (.ifCond .ne 5, 3) := by decide +kernel
theorem dL_law_280 : decode code 280 = .ok (.iconst 0, 1) := by decide +kernel
theorem dL_law_281 : decode code 281 = .ok (.ireturn, 1) := by decide +kernel
theorem dL_law_282 : decode code 282 = .ok (.aload_n 3, 1) := by decide +kernel
theorem dL_law_283 : decode code 283 = .ok (.iconst 0, 1) := by decide +kernel
theorem dL_law_284 : decode code 284 = .ok (.invokevirtual 45, 3) := by decide +kernel
theorem dL_law_287 : decode code 287 = .ok (.bipush 10, 2) := by decide +kernel
theorem dL_law_289 : decode code 289 = .ok (.if_icmp .ge 59, 3) := by decide +kernel
theorem dL_law_292 : decode code 292 = .ok (.aload_n 3, 1) := by decide +kernel
theorem dL_law_293 : decode code 293 = .ok (.invokevirtual 83, 3) := by decide +kernel
theorem dL_law_296 : decode code 296 = .ok (.istore 11, 2) := by decide +kernel
theorem dL_law_298 : decode code 298 = .ok (.aload_n 3, 1) := by decide +kernel
theorem dL_law_299 : decode code 299 = .ok (.iload 11, 2) := by decide +kernel
theorem dL_law_301 : decode code 301 = .ok (.iload 5, 2) := by decide +kernel
theorem dL_law_303 : decode code 303 = .ok (.bipush 9, 2) := by decide +kernel
theorem dL_law_305 : decode code 305 = .ok (.iconst 1, 1) := by decide +kernel
theorem dL_law_306 : decode code 306 = .ok (.invokevirtual 87, 3) := by decide +kernel
theorem dL_law_309 : decode code 309 = .ok (.iconst 1, 1) := by decide +kernel
theorem dL_law_310 : decode code 310 = .ok (.if_icmp .ne 36, 3) := by decide +kernel
theorem dL_law_313 : decode code 313 = .ok (.aload_n 3, 1) := by decide +kernel
theorem dL_law_314 : decode code 314 = .ok (.iload 5, 2) := by decide +kernel
theorem dL_law_316 : decode code 316 = .ok (.iload 6, 2) := by decide +kernel
theorem dL_law_318 : decode code 318 = .ok (.invokevirtual 35, 3) := by decide +kernel
theorem dL_law_321 : decode code 321 = .ok (.iload 7, 2) := by decide +kernel
theorem dL_law_323 : decode code 323 = .ok (.if_icmp .ne 23, 3) := by decide +kernel
theorem dL_law_326 : decode code 326 = .ok (.aload_n 3, 1) := by decide +kernel
theorem dL_law_327 : decode code 327 = .ok (.aload 10, 2) := by decide +kernel
theorem dL_law_329 : decode code 329 = .ok (.invokestatic 77, 3) := by decide +kernel
theorem dL_law_332 : decode code 332 = .ok (.ifCond .eq 14, 3) := by decide +kernel
theorem dL_law_335 : decode code 335 = .ok (.aload_n 3, 1) := by decide +kernel
theorem dL_law_336 : decode code 336 = .ok (.iload 11, 2) := by decide +kernel
theorem dL_law_338 : decode code 338 = .ok (.iconst 3, 1) := by decide +kernel
theorem dL_law_339 : decode code 339 = .ok (.invokevirtual 91, 3) := by decide +kernel
theorem dL_law_342 : decode code 342 = .ok (.iconst (-1), 1) := by decide +kernel
theorem dL_law_343 : decode code 343 = .ok (.if_icmp .eq 5, 3) := by decide +kernel
theorem dL_law_346 : decode code 346 = .ok (.iconst 0, 1) := by decide +kernel
theorem dL_law_347 : decode code 347 = .ok (.ireturn, 1) := by decide +kernel
theorem dL_law_348 : decode code 348 = .ok (.aload_n 3, 1) := by decide +kernel
theorem dL_law_349 : decode code 349 = .ok (.bipush 11, 2) := by decide +kernel
theorem dL_law_351 : decode code 351 = .ok (.invokevirtual 45, 3) := by decide +kernel
theorem dL_law_354 : decode code 354 = .ok (.istore 11, 2) := by decide +kernel
theorem dL_law_356 : decode code 356 = .ok (.aload_n 3, 1) := by decide +kernel
theorem dL_law_357 : decode code 357 = .ok (.sipush 500, 3) := by decide +kernel
theorem dL_law_360 : decode code 360 = .ok (.sipush 9999, 3) := by decide +kernel
theorem dL_law_363 : decode code 363 = .ok (.invokevirtual 94, 3) := by decide +kernel
theorem dL_law_366 : decode code 366 = .ok (.istore 12, 2) := by decide +kernel
theorem dL_law_368 : decode code 368 = .ok (.aload_n 3, 1) := by decide +kernel
theorem dL_law_369 : decode code 369 = .ok (.iload 5, 2) := by decide +kernel
theorem dL_law_371 : decode code 371 = .ok (.iload 6, 2) := by decide +kernel
theorem dL_law_373 : decode code 373 = .ok (.invokevirtual 35, 3) := by decide +kernel
theorem dL_law_376 : decode code 376 = .ok (.pop, 1) := by decide +kernel
theorem dL_law_377 : decode code 377 = .ok (.aload_n 3, 1) := by decide +kernel
theorem dL_law_378 : decode code 378 = .ok (.bipush 11, 2) := by decide +kernel
theorem dL_law_380 : decode code 380 = .ok (.invokevirtual 45, 3) := by decide +kernel
theorem dL_law_383 : decode code 383 = .ok (.iload 11, 2) := by decide +kernel
theorem dL_law_385 : decode code 385 = .ok (.if_icmp .le 5, 3) := by decide +kernel
theorem dL_law_388 : decode code 388 = .ok (.iconst 0, 1) := by decide +kernel
theorem dL_law_389 : decode code 389 = .ok (.ireturn, 1) := by decide +kernel
theorem dL_law_390 : decode code 390 = .ok (.aload_n 3, 1) := by decide +kernel
theorem dL_law_391 : decode code 391 = .ok (.iload 12, 2) := by decide +kernel
theorem dL_law_393 : decode code 393 = .ok (.sipush 9999, 3) := by decide +kernel
theorem dL_law_396 : decode code 396 = .ok (.invokevirtual 94, 3) := by decide +kernel
theorem dL_law_399 : decode code 399 = .ok (.pop, 1) := by decide +kernel
theorem dL_law_400 : decode code 400 = .ok (.aload_n 3, 1) := by decide +kernel
theorem dL_law_401 : decode code 401 = .ok (.iload 5, 2) := by decide +kernel
theorem dL_law_403 : decode code 403 = .ok (.iload 6, 2) := by decide +kernel
theorem dL_law_405 : decode code 405 = .ok (.invokevirtual 35, 3) := by decide +kernel
theorem dL_law_408 : decode code 408 = .ok (.iload 7, 2) := by decide +kernel
theorem dL_law_410 : decode code 410 = .ok (.if_icmp .ne 12, 3) := by decide +kernel
theorem dL_law_413 : decode code 413 = .ok (.aload_n 3, 1) := by decide +kernel
theorem dL_law_414 : decode code 414 = .ok (.aload 10, 2) := by decide +kernel
theorem dL_law_416 : decode code 416 = .ok (.invokestatic 77, 3) := by decide +kernel
theorem dL_law_419 : decode code 419 = .ok (.ifCond .ne 5, 3) := by decide +kernel
theorem dL_law_422 : decode code 422 = .ok (.iconst 0, 1) := by decide +kernel
theorem dL_law_423 : decode code 423 = .ok (.ireturn, 1) := by decide +kernel
theorem dL_law_424 : decode code 424 = .ok (.iload 6, 2) := by decide +kernel
theorem dL_law_426 : decode code 426 = .ok (.ifCond .eq 174, 3) := by decide +kernel
theorem dL_law_429 : decode code 429 = .ok (.iload 7, 2) := by decide +kernel
theorem dL_law_431 : decode code 431 = .ok (.ifCond .gt 169, 3) := by decide +kernel
theorem dL_law_434 : decode code 434 = .ok (.aload_n 3, 1) := by decide +kernel
theorem dL_law_435 : decode code 435 = .ok (.iconst 3, 1) := by decide +kernel
theorem dL_law_436 : decode code 436 = .ok (.invokevirtual 45, 3) := by decide +kernel
theorem dL_law_439 : decode code 439 = .ok (.bipush 6, 2) := by decide +kernel
theorem dL_law_441 : decode code 441 = .ok (.if_icmp .ne 6, 3) := by decide +kernel
theorem dL_law_444 : decode code 444 = .ok (.goto 156, 3) := by decide +kernel
theorem dL_law_447 : decode code 447 = .ok (.aload_n 3, 1) := by decide +kernel
theorem dL_law_448 : decode code 448 = .ok (.iconst 0, 1) := by decide +kernel
theorem dL_law_449 : decode code 449 = .ok (.invokevirtual 97, 3) := by decide +kernel
theorem dL_law_452 : decode code 452 = .ok (.istore 13, 2) := by decide +kernel
theorem dL_law_454 : decode code 454 = .ok (.aload_n 3, 1) := by decide +kernel
theorem dL_law_455 : decode code 455 = .ok (.iload 13, 2) := by decide +kernel
theorem dL_law_457 : decode code 457 = .ok (.iconst 0, 1) := by decide +kernel
theorem dL_law_458 : decode code 458 = .ok (.invokevirtual 100, 3) := by decide +kernel
theorem dL_law_461 : decode code 461 = .ok (.istore 14, 2) := by decide +kernel
theorem dL_law_463 : decode code 463 = .ok (.aload_n 3, 1) := by decide +kernel
theorem dL_law_464 : decode code 464 = .ok (.iload 5, 2) := by decide +kernel
theorem dL_law_466 : decode code 466 = .ok (.iconst 1, 1) := by decide +kernel
theorem dL_law_467 : decode code 467 = .ok (.iadd, 1) := by decide +kernel
theorem dL_law_468 : decode code 468 = .ok (.bipush 8, 2) := by decide +kernel
theorem dL_law_470 : decode code 470 = .ok (.irem, 1) := by decide +kernel
theorem dL_law_471 : decode code 471 = .ok (.iconst 0, 1) := by decide +kernel
theorem dL_law_472 : decode code 472 = .ok (.invokevirtual 35, 3) := by decide +kernel
theorem dL_law_475 : decode code 475 = .ok (.pop, 1) := by decide +kernel
theorem dL_law_476 : decode code 476 = .ok (.aload_n 3, 1) := by decide +kernel
theorem dL_law_477 : decode code 477 = .ok (.invokevirtual 41, 3) := by decide +kernel
theorem dL_law_480 : decode code 480 = .ok (.lstore 15, 2) := by decide +kernel
theorem dL_law_482 : decode code 482 = .ok (.iload 14, 2) := by decide +kernel
theorem dL_law_484 : decode code 484 = .ok (.aload 10, 2) := by decide +kernel
theorem dL_law_486 : decode code 486 = .ok (.arraylength, 1) := by decide +kernel
theorem dL_law_487 : decode code 487 = .ok (.if_icmp .ne 111, 3) := by decide +kernel
theorem dL_law_490 : decode code 490 = .ok (.aload_n 3, 1) := by decide +kernel
theorem dL_law_491 : decode code 491 = .ok (.iload 13, 2) := by decide +kernel
theorem dL_law_493 : decode code 493 = .ok (.iconst 0, 1) := by decide +kernel
theorem dL_law_494 : decode code 494 = .ok (.invokevirtual 100, 3) := by decide +kernel
theorem dL_law_497 : decode code 497 = .ok (.iload 14, 2) := by decide +kernel
theorem dL_law_499 : decode code 499 = .ok (.if_icmp .ne 99, 3) := by decide +kernel
theorem dL_law_502 : decode code 502 = .ok (.aload_n 3, 1) := by decide +kernel
theorem dL_law_503 : decode code 503 = .ok (.iload 13, 2) := by decide +kernel
theorem dL_law_505 : decode code 505 = .ok (.iconst 0, 1) := by decide +kernel
theorem dL_law_506 : decode code 506 = .ok (.invokevirtual 103, 3) := by decide +kernel
theorem dL_law_509 : decode code 509 = .ok (.iconst 1, 1) := by decide +kernel
theorem dL_law_510 : decode code 510 = .ok (.if_icmp .ne 88, 3) := by decide +kernel
theorem dL_law_513 : decode code 513 = .ok (.aload_n 3, 1) := by decide +kernel
theorem dL_law_514 : decode code 514 = .ok (.iload 13, 2) := by decide +kernel
theorem dL_law_516 : decode code 516 = .ok (.iconst 5, 1) := by decide +kernel
theorem dL_law_517 : decode code 517 = .ok (.invokevirtual 100, 3) := by decide +kernel
theorem dL_law_520 : decode code 520 = .ok (.bipush 64, 2) := by decide +kernel
theorem dL_law_522 : decode code 522 = .ok (.irem, 1) := by decide +kernel
theorem dL_law_523 : decode code 523 = .ok (.ifCond .ne 75, 3) := by decide +kernel
theorem dL_law_526 : decode code 526 = .ok (.aload_n 3, 1) := by decide +kernel
theorem dL_law_527 : decode code 527 = .ok (.iload 13, 2) := by decide +kernel
theorem dL_law_529 : decode code 529 = .ok (.iconst 0, 1) := by decide +kernel
theorem dL_law_530 : decode code 530 = .ok (.invokevirtual 103, 3) := by decide +kernel
theorem dL_law_533 : decode code 533 = .ok (.ifCond .ne 65, 3) := by decide +kernel
theorem dL_law_536 : decode code 536 = .ok (.aload_n 3, 1) := by decide +kernel
theorem dL_law_537 : decode code 537 = .ok (.iload 13, 2) := by decide +kernel
theorem dL_law_539 : decode code 539 = .ok (.iconst 4, 1) := by decide +kernel
theorem dL_law_540 : decode code 540 = .ok (.invokevirtual 100, 3) := by decide +kernel
theorem dL_law_543 : decode code 543 = .ok (.iconst 2, 1) := by decide +kernel
theorem dL_law_544 : decode code 544 = .ok (.if_icmp .ne 54, 3) := by decide +kernel
theorem dL_law_547 : decode code 547 = .ok (.aload_n 3, 1) := by decide +kernel
theorem dL_law_548 : decode code 548 = .ok (.iconst 4, 1) := by decide +kernel
theorem dL_law_549 : decode code 549 = .ok (.invokevirtual 45, 3) := by decide +kernel
theorem dL_law_552 : decode code 552 = .ok (.iconst 1, 1) := by decide +kernel
theorem dL_law_553 : decode code 553 = .ok (.if_icmp .ne 45, 3) := by decide +kernel
theorem dL_law_556 : decode code 556 = .ok (.aload_n 3, 1) := by decide +kernel
theorem dL_law_557 : decode code 557 = .ok (.iload 13, 2) := by decide +kernel
theorem dL_law_559 : decode code 559 = .ok (.invokevirtual 106, 3) := by decide +kernel
theorem dL_law_562 : decode code 562 = .ok (.ifCond .ne 36, 3) := by decide +kernel
theorem dL_law_565 : decode code 565 = .ok (.aload_n 3, 1) := by decide +kernel
theorem dL_law_566 : decode code 566 = .ok (.iload 13, 2) := by decide +kernel
theorem dL_law_568 : decode code 568 = .ok (.invokevirtual 109, 3) := by decide +kernel
theorem dL_law_571 : decode code 571 = .ok (.iconst 1, 1) := by decide +kernel
theorem dL_law_572 : decode code 572 = .ok (.iload 13, 2) := by decide +kernel
theorem dL_law_574 : decode code 574 = .ok (.ishl, 1) := by decide +kernel
theorem dL_law_575 : decode code 575 = .ok (.if_icmp .ne 23, 3) := by decide +kernel
theorem dL_law_578 : decode code 578 = .ok (.aload_n 3, 1) := by decide +kernel
theorem dL_law_579 : decode code 579 = .ok (.iload 13, 2) := by decide +kernel
theorem dL_law_581 : decode code 581 = .ok (.invokevirtual 106, 3) := by decide +kernel
theorem dL_law_584 : decode code 584 = .ok (.iconst 1, 1) := by decide +kernel
theorem dL_law_585 : decode code 585 = .ok (.if_icmp .ne 13, 3) := by decide +kernel
theorem dL_law_588 : decode code 588 = .ok (.aload_n 3, 1) := by decide +kernel
theorem dL_law_589 : decode code 589 = .ok (.invokevirtual 41, 3) := by decide +kernel
theorem dL_law_592 : decode code 592 = .ok (.lload 15, 2) := by decide +kernel
theorem dL_law_594 : decode code 594 = .ok (.lcmp, 1) := by decide +kernel
theorem dL_law_595 : decode code 595 = .ok (.ifCond .eq 5, 3) := by decide +kernel
theorem dL_law_598 : decode code 598 = .ok (.iconst 0, 1) := by decide +kernel
theorem dL_law_599 : decode code 599 = .ok (.ireturn, 1) := by decide +kernel
theorem dL_law_600 : decode code 600 = .ok (.iinc 4 1, 3) := by decide +kernel
theorem dL_law_603 : decode code 603 = .ok (.goto (-563), 3) := by decide +kernel
theorem dL_law_606 : decode code 606 = .ok (.iinc 1 1, 3) := by decide +kernel
theorem dL_law_609 : decode code 609 = .ok (.goto (-607), 3) := by decide +kernel
theorem dL_law_612 : decode code 612 = .ok (.iconst 1, 1) := by decide +kernel
theorem dL_law_613 : decode code 613 = .ok (.ireturn, 1) := by decide +kernel
def lawt_0 : Nat → EA := (t_n 32 (t_n 15 (t_n 7 (t_n 2 (t_n 1 (t_l 0 (a_push 1 (.int 0))) (t_l 1 (a_istore 17 1 1))) (t_n 3 (t_l 2 (a_iload 1 1)) (t_n 4 (t_l 3 (a_push 1 (.int 3))) (t_l 4 (a_ic 612 (fun x y => decide (y ≤ x))))))) (t_n 11 (t_n 10 (t_l 7 (a_new 12 24 [.null, .null, .int 0, .int 0, .null, .null, .null, .null, .int 0, .int 0, .null, .null, .null, .null, .null, .null, .null, .null, .int 0, .int 0, .null, .int 0, .null, .null])) (t_l 10 a_dup)) (t_n 12 (t_l 11 (a_aload 1 0)) (t_n 14 (t_l 12 (a_push 2 (.int 31))) (t_l 14 (a_iload 1 1)))))) (t_n 23 (t_n 18 (t_n 16 (t_l 15 (a_ii 1 (fun x y => x * y))) (t_l 16 (a_push 2 (.int 7)))) (t_n 19 (t_l 18 (a_ii 1 (fun x y => x + y))) (t_n 22 (t_l 19 (a_inv false 199 3 (some 12))) (t_l 22 (a_astore 17 1 2))))) (t_n 27 (t_n 24 (t_l 23 (a_aload 1 2)) (t_l 24 (a_getf 12 0))) (t_n 28 (t_l 27 (a_astore 17 1 3)) (t_n 29 (t_l 28 (a_aload 1 2)) (t_l 29 (a_inv true 208 1 (some 12)))))))) (t_n 50 (t_n 40 (t_n 36 (t_n 35 (t_l 32 (a_if 37 (fun x => !decide (x = 0)))) (t_l 35 (a_push 1 (.int 0)))) (t_n 37 (t_l 36 a_iret) (t_n 38 (t_l 37 (a_push 1 (.int 0))) (t_l 38 (a_istore 17 2 4))))) (t_n 43 (t_n 42 (t_l 40 (a_iload 2 4)) (t_l 42 (a_push 1 (.int 3)))) (t_n 46 (t_l 43 (a_ic 606 (fun x y => decide (y ≤ x)))) (t_n 47 (t_l 46 (a_aload 1 2)) (t_l 47 (a_inv true 204 1 (some 12))))))) (t_n 61 (t_n 54 (t_n 53 (t_l 50 (a_if 67 (fun x => decide (x = 0)))) (t_l 53 (a_aload 1 2))) (t_n 57 (t_l 54 (a_inv true 206 1 (some 12))) (t_n 60 (t_l 57 (a_if 67 (fun x => decide (x = 0)))) (t_l 60 (a_aload 1 2))))) (t_n 67 (t_n 64 (t_l 61 (a_inv true 207 1 (some 12))) (t_l 64 (a_if 69 (fun x => !decide (x = 0))))) (t_n 68 (t_l 67 (a_push 1 (.int 0))) (t_n 69 (t_l 68 a_iret) (t_l 69 (a_aload 1 2))))))))
set_option maxRecDepth 100000 in
theorem lawt_0_ok (hh : List (Nat × Nat × Nat × Nat)) (sc : Nat × (Nat → Int32)) (d : Nat) : ∀ pc, ev_Ok code 17 hh RL lw_g lw_n (lw_q sc) vwCl false (ev_CO mt lw_g lw_n (lw_q sc) vwCl d) pc (lawt_0 pc) := (ok_t_n (ok_t_n (ok_t_n (ok_t_n (ok_t_n (ok_t_l (ok_iconst dL_law_0 rfl)) (ok_t_l (ok_istore_n dL_law_1 rfl))) (ok_t_n (ok_t_l (ok_iload_n dL_law_2 rfl)) (ok_t_n (ok_t_l (ok_iconst dL_law_3 rfl)) (ok_t_l (ok_icmp_ge dL_law_4 rfl))))) (ok_t_n (ok_t_n (ok_t_l (ok_new dL_law_7 (ci := 12) rfl inGX12 tyX12 tyX12_ok w_949 w_950 w_38 (by decide +kernel) rfl)) (ok_t_l (ok_dup dL_law_10))) (ok_t_n (ok_t_l (ok_aload_n dL_law_11 rfl)) (ok_t_n (ok_t_l (ok_bipush dL_law_12 rfl)) (ok_t_l (ok_iload_n dL_law_14 rfl)))))) (ok_t_n (ok_t_n (ok_t_n (ok_t_l (ok_imul dL_law_15)) (ok_t_l (ok_bipush dL_law_16 rfl))) (ok_t_n (ok_t_l (ok_iadd dL_law_18)) (ok_t_n (ok_t_l (ok_inv (run_I (y := 199) (n := 2) (ci := 12) dL_law_19 cz_199 gdG cc_199 ci_199 w_951 cm_199 rfl rfl cd_199 cl_199))) (ok_t_l (ok_astore_n dL_law_22 rfl))))) (ok_t_n (ok_t_n (ok_t_l (ok_aload_n dL_law_23 rfl)) (ok_t_l (ok_getfield dL_law_24 (ci := 12) (kf := 0) rfl inGX12 (by decide) w_1341))) (ok_t_n (ok_t_l (ok_astore_n dL_law_27 rfl)) (ok_t_n (ok_t_l (ok_aload_n dL_law_28 rfl)) (ok_t_l (ok_inv (run_V (y := 208) (n := 0) (ci := 12) dL_law_29 cz_208 gdG cc_208 ci_208 w_1526 cm_208 cs_208 cd_208 cl_208 rfl rfl)))))))) (ok_t_n (ok_t_n (ok_t_n (ok_t_n (ok_t_l (ok_if_ne dL_law_32 rfl)) (ok_t_l (ok_iconst dL_law_35 rfl))) (ok_t_n (ok_t_l (ok_ireturn dL_law_36)) (ok_t_n (ok_t_l (ok_iconst dL_law_37 rfl)) (ok_t_l (ok_istore dL_law_38))))) (ok_t_n (ok_t_n (ok_t_l (ok_iload dL_law_40)) (ok_t_l (ok_iconst dL_law_42 rfl))) (ok_t_n (ok_t_l (ok_icmp_ge dL_law_43 rfl)) (ok_t_n (ok_t_l (ok_aload_n dL_law_46 rfl)) (ok_t_l (ok_inv (run_V (y := 204) (n := 0) (ci := 12) dL_law_47 cz_204 gdG cc_204 ci_204 w_1434 cm_204 cs_204 cd_204 cl_204 rfl rfl))))))) (ok_t_n (ok_t_n (ok_t_n (ok_t_l (ok_if_eq dL_law_50 rfl)) (ok_t_l (ok_aload_n dL_law_53 rfl))) (ok_t_n (ok_t_l (ok_inv (run_V (y := 206) (n := 0) (ci := 12) dL_law_54 cz_206 gdG cc_206 ci_206 w_1473 cm_206 cs_206 cd_206 cl_206 rfl rfl))) (ok_t_n (ok_t_l (ok_if_eq dL_law_57 rfl)) (ok_t_l (ok_aload_n dL_law_60 rfl))))) (ok_t_n (ok_t_n (ok_t_l (ok_inv (run_V (y := 207) (n := 0) (ci := 12) dL_law_61 cz_207 gdG cc_207 ci_207 w_1491 cm_207 cs_207 cd_207 cl_207 rfl rfl))) (ok_t_l (ok_if_ne dL_law_64 rfl))) (ok_t_n (ok_t_l (ok_iconst dL_law_67 rfl)) (ok_t_n (ok_t_l (ok_ireturn dL_law_68)) (ok_t_l (ok_aload_n dL_law_69 rfl))))))))
def lawt_70 : Nat → EA := (t_n 109 (t_n 90 (t_n 79 (t_n 75 (t_n 72 (t_l 70 (a_push 2 (.int 8))) (t_l 72 (a_inv true 200 2 (some 12)))) (t_n 77 (t_l 75 (a_istore 17 2 5)) (t_n 78 (t_l 77 (a_aload 1 2)) (t_l 78 (a_push 1 (.int 2)))))) (t_n 85 (t_n 82 (t_l 79 (a_inv true 200 2 (some 12))) (t_l 82 (a_if 89 (fun x => !decide (x = 0))))) (t_n 86 (t_l 85 (a_push 1 (.int 1))) (t_n 89 (t_l 86 (a_goto 90)) (t_l 89 (a_push 1 (.int 0))))))) (t_n 100 (t_n 93 (t_n 92 (t_l 90 (a_istore 17 2 6)) (t_l 92 (a_aload 1 3))) (t_n 95 (t_l 93 (a_iload 2 5)) (t_n 97 (t_l 95 (a_iload 2 6)) (t_l 97 (a_inv true 170 3 (some 11)))))) (t_n 103 (t_n 102 (t_l 100 (a_istore 17 2 7)) (t_l 102 (a_aload 1 3))) (t_n 106 (t_l 103 (a_inv true 185 1 (some 11))) (t_n 108 (t_l 106 (a_lstore 17 2 8)) (t_l 108 (a_aload 1 3))))))) (t_n 131 (t_n 121 (t_n 113 (t_n 111 (t_l 109 (a_iload 2 5)) (t_l 111 (a_iload 2 6))) (t_n 116 (t_l 113 (a_inv true 170 3 (some 11))) (t_n 118 (t_l 116 (a_iload 2 7)) (t_l 118 (a_ic 131 (fun x y => !decide (x = y))))))) (t_n 125 (t_n 122 (t_l 121 (a_aload 1 3)) (t_l 122 (a_inv true 185 1 (some 11)))) (t_n 127 (t_l 125 (a_lload 2 8)) (t_n 128 (t_l 127 (a_ll (fun x y => .int (lg_cmp x y)))) (t_l 128 (a_if 133 (fun x => decide (x = 0)))))))) (t_n 139 (t_n 133 (t_n 132 (t_l 131 (a_push 1 (.int 0))) (t_l 132 a_iret)) (t_n 134 (t_l 133 (a_aload 1 3)) (t_n 136 (t_l 134 (a_push 2 (.int 9))) (t_l 136 (a_inv true 180 2 (some 11)))))) (t_n 144 (t_n 141 (t_l 139 (a_newa 0)) (t_n 143 (t_l 141 (a_astore 17 2 10)) (t_l 143 (a_push 1 (.int 0))))) (t_n 146 (t_l 144 (a_istore 17 2 11)) (t_n 148 (t_l 146 (a_iload 2 11)) (t_l 148 (a_aload 2 10))))))))
set_option maxRecDepth 100000 in
theorem lawt_70_ok (hh : List (Nat × Nat × Nat × Nat)) (sc : Nat × (Nat → Int32)) (d : Nat) : ∀ pc, ev_Ok code 17 hh RL lw_g lw_n (lw_q sc) vwCl false (ev_CO mt lw_g lw_n (lw_q sc) vwCl d) pc (lawt_70 pc) := (ok_t_n (ok_t_n (ok_t_n (ok_t_n (ok_t_n (ok_t_l (ok_bipush dL_law_70 rfl)) (ok_t_l (ok_inv (run_V (y := 200) (n := 1) (ci := 12) dL_law_72 cz_200 gdG cc_200 ci_200 w_1413 cm_200 cs_200 cd_200 cl_200 rfl rfl)))) (ok_t_n (ok_t_l (ok_istore dL_law_75)) (ok_t_n (ok_t_l (ok_aload_n dL_law_77 rfl)) (ok_t_l (ok_iconst dL_law_78 rfl))))) (ok_t_n (ok_t_n (ok_t_l (ok_inv (run_V (y := 200) (n := 1) (ci := 12) dL_law_79 cz_200 gdG cc_200 ci_200 w_1413 cm_200 cs_200 cd_200 cl_200 rfl rfl))) (ok_t_l (ok_if_ne dL_law_82 rfl))) (ok_t_n (ok_t_l (ok_iconst dL_law_85 rfl)) (ok_t_n (ok_t_l (ok_goto dL_law_86 rfl)) (ok_t_l (ok_iconst dL_law_89 rfl)))))) (ok_t_n (ok_t_n (ok_t_n (ok_t_l (ok_istore dL_law_90)) (ok_t_l (ok_aload_n dL_law_92 rfl))) (ok_t_n (ok_t_l (ok_iload dL_law_93)) (ok_t_n (ok_t_l (ok_iload dL_law_95)) (ok_t_l (ok_inv (run_V (y := 170) (n := 2) (ci := 11) dL_law_97 cz_170 gdG cc_170 ci_170 w_257 cm_170 cs_170 cd_170 cl_170 rfl rfl)))))) (ok_t_n (ok_t_n (ok_t_l (ok_istore dL_law_100)) (ok_t_l (ok_aload_n dL_law_102 rfl))) (ok_t_n (ok_t_l (ok_inv (run_V (y := 185) (n := 0) (ci := 11) dL_law_103 cz_185 gdG cc_185 ci_185 w_835 cm_185 cs_185 cd_185 cl_185 rfl rfl))) (ok_t_n (ok_t_l (ok_lstore dL_law_106)) (ok_t_l (ok_aload_n dL_law_108 rfl))))))) (ok_t_n (ok_t_n (ok_t_n (ok_t_n (ok_t_l (ok_iload dL_law_109)) (ok_t_l (ok_iload dL_law_111))) (ok_t_n (ok_t_l (ok_inv (run_V (y := 170) (n := 2) (ci := 11) dL_law_113 cz_170 gdG cc_170 ci_170 w_257 cm_170 cs_170 cd_170 cl_170 rfl rfl))) (ok_t_n (ok_t_l (ok_iload dL_law_116)) (ok_t_l (ok_icmp_ne dL_law_118 rfl))))) (ok_t_n (ok_t_n (ok_t_l (ok_aload_n dL_law_121 rfl)) (ok_t_l (ok_inv (run_V (y := 185) (n := 0) (ci := 11) dL_law_122 cz_185 gdG cc_185 ci_185 w_835 cm_185 cs_185 cd_185 cl_185 rfl rfl)))) (ok_t_n (ok_t_l (ok_lload dL_law_125)) (ok_t_n (ok_t_l (ok_lcmp dL_law_127)) (ok_t_l (ok_if_eq dL_law_128 rfl)))))) (ok_t_n (ok_t_n (ok_t_n (ok_t_l (ok_iconst dL_law_131 rfl)) (ok_t_l (ok_ireturn dL_law_132))) (ok_t_n (ok_t_l (ok_aload_n dL_law_133 rfl)) (ok_t_n (ok_t_l (ok_bipush dL_law_134 rfl)) (ok_t_l (ok_inv (run_V (y := 180) (n := 1) (ci := 11) dL_law_136 cz_180 gdG cc_180 ci_180 w_796 cm_180 cs_180 cd_180 cl_180 rfl rfl)))))) (ok_t_n (ok_t_n (ok_t_l (ok_newint dL_law_139 w_614)) (ok_t_n (ok_t_l (ok_astore dL_law_141)) (ok_t_l (ok_iconst dL_law_143 rfl)))) (ok_t_n (ok_t_l (ok_istore dL_law_144)) (ok_t_n (ok_t_l (ok_iload dL_law_146)) (ok_t_l (ok_aload dL_law_148))))))))
def lawt_150 : Nat → EA := (t_n 189 (t_n 171 (t_n 159 (t_n 154 (t_n 151 (t_l 150 a_alen) (t_l 151 (a_ic 171 (fun x y => decide (y ≤ x))))) (t_n 156 (t_l 154 (a_aload 2 10)) (t_n 158 (t_l 156 (a_iload 2 11)) (t_l 158 (a_aload 1 3))))) (t_n 164 (t_n 161 (t_l 159 (a_iload 2 11)) (t_l 161 (a_inv true 174 2 (some 11)))) (t_n 165 (t_l 164 (a_ist 0)) (t_n 168 (t_l 165 (a_iinc 17 11 1)) (t_l 168 (a_goto 146)))))) (t_n 181 (t_n 173 (t_n 172 (t_l 171 (a_aload 1 3)) (t_l 172 (a_push 1 (.int 1)))) (t_n 176 (t_l 173 (a_inv true 180 2 (some 11))) (t_n 178 (t_l 176 (a_push 2 (.int 24))) (t_l 178 (a_ic 282 (fun x y => decide (y ≤ x))))))) (t_n 183 (t_n 182 (t_l 181 (a_aload 1 3)) (t_l 182 (a_aload 1 2))) (t_n 184 (t_l 183 (a_push 1 (.int 5))) (t_n 187 (t_l 184 (a_inv true 200 2 (some 12))) (t_l 187 (a_push 2 (.int 16)))))))) (t_n 205 (t_n 198 (t_n 193 (t_n 190 (t_l 189 (a_push 1 (.int 0))) (t_l 190 (a_inv true 160 4 (some 11)))) (t_n 194 (t_l 193 (a_aload 1 3)) (t_n 195 (t_l 194 (a_push 1 (.int 1))) (t_l 195 (a_inv true 180 2 (some 11)))))) (t_n 200 (t_n 199 (t_l 198 (a_push 1 (.int 1))) (t_l 199 (a_ii 1 (fun x y => x - y)))) (t_n 203 (t_l 200 (a_ic 205 (fun x y => decide (x = y)))) (t_n 204 (t_l 203 (a_push 1 (.int 0))) (t_l 204 a_iret))))) (t_n 213 (t_n 207 (t_n 206 (t_l 205 (a_aload 1 2)) (t_l 206 (a_aload 1 2))) (t_n 210 (t_l 207 (a_getf 12 4)) (t_n 211 (t_l 210 (a_push 1 (.int 3))) (t_l 211 (a_newa 0))))) (t_n 216 (t_n 214 (t_l 213 a_dup) (t_n 215 (t_l 214 (a_push 1 (.int 0))) (t_l 215 (a_aload 1 3)))) (t_n 217 (t_l 216 (a_aload 1 3)) (t_n 218 (t_l 217 (a_push 1 (.int 1))) (t_l 218 (a_inv true 180 2 (some 11)))))))))
set_option maxRecDepth 100000 in
theorem lawt_150_ok (hh : List (Nat × Nat × Nat × Nat)) (sc : Nat × (Nat → Int32)) (d : Nat) : ∀ pc, ev_Ok code 17 hh RL lw_g lw_n (lw_q sc) vwCl false (ev_CO mt lw_g lw_n (lw_q sc) vwCl d) pc (lawt_150 pc) := (ok_t_n (ok_t_n (ok_t_n (ok_t_n (ok_t_n (ok_t_l (ok_arraylength dL_law_150)) (ok_t_l (ok_icmp_ge dL_law_151 rfl))) (ok_t_n (ok_t_l (ok_aload dL_law_154)) (ok_t_n (ok_t_l (ok_iload dL_law_156)) (ok_t_l (ok_aload_n dL_law_158 rfl))))) (ok_t_n (ok_t_n (ok_t_l (ok_iload dL_law_159)) (ok_t_l (ok_inv (run_V (y := 174) (n := 1) (ci := 11) dL_law_161 cz_174 gdG cc_174 ci_174 w_635 cm_174 cs_174 cd_174 cl_174 rfl rfl)))) (ok_t_n (ok_t_l (ok_iastore dL_law_164)) (ok_t_n (ok_t_l (ok_iinc dL_law_165 rfl)) (ok_t_l (ok_goto dL_law_168 rfl)))))) (ok_t_n (ok_t_n (ok_t_n (ok_t_l (ok_aload_n dL_law_171 rfl)) (ok_t_l (ok_iconst dL_law_172 rfl))) (ok_t_n (ok_t_l (ok_inv (run_V (y := 180) (n := 1) (ci := 11) dL_law_173 cz_180 gdG cc_180 ci_180 w_796 cm_180 cs_180 cd_180 cl_180 rfl rfl))) (ok_t_n (ok_t_l (ok_bipush dL_law_176 rfl)) (ok_t_l (ok_icmp_ge dL_law_178 rfl))))) (ok_t_n (ok_t_n (ok_t_l (ok_aload_n dL_law_181 rfl)) (ok_t_l (ok_aload_n dL_law_182 rfl))) (ok_t_n (ok_t_l (ok_iconst dL_law_183 rfl)) (ok_t_n (ok_t_l (ok_inv (run_V (y := 200) (n := 1) (ci := 12) dL_law_184 cz_200 gdG cc_200 ci_200 w_1413 cm_200 cs_200 cd_200 cl_200 rfl rfl))) (ok_t_l (ok_bipush dL_law_187 rfl))))))) (ok_t_n (ok_t_n (ok_t_n (ok_t_n (ok_t_l (ok_iconst dL_law_189 rfl)) (ok_t_l (ok_inv (run_V (y := 160) (n := 3) (ci := 11) dL_law_190 cz_160 gdG cc_160 ci_160 w_142 cm_160 cs_160 cd_160 cl_160 rfl rfl)))) (ok_t_n (ok_t_l (ok_aload_n dL_law_193 rfl)) (ok_t_n (ok_t_l (ok_iconst dL_law_194 rfl)) (ok_t_l (ok_inv (run_V (y := 180) (n := 1) (ci := 11) dL_law_195 cz_180 gdG cc_180 ci_180 w_796 cm_180 cs_180 cd_180 cl_180 rfl rfl)))))) (ok_t_n (ok_t_n (ok_t_l (ok_iconst dL_law_198 rfl)) (ok_t_l (ok_isub dL_law_199))) (ok_t_n (ok_t_l (ok_icmp_eq dL_law_200 rfl)) (ok_t_n (ok_t_l (ok_iconst dL_law_203 rfl)) (ok_t_l (ok_ireturn dL_law_204)))))) (ok_t_n (ok_t_n (ok_t_n (ok_t_l (ok_aload_n dL_law_205 rfl)) (ok_t_l (ok_aload_n dL_law_206 rfl))) (ok_t_n (ok_t_l (ok_getfield dL_law_207 (ci := 12) (kf := 4) rfl inGX12 (by decide) w_1346)) (ok_t_n (ok_t_l (ok_iconst dL_law_210 rfl)) (ok_t_l (ok_newint dL_law_211 w_614))))) (ok_t_n (ok_t_n (ok_t_l (ok_dup dL_law_213)) (ok_t_n (ok_t_l (ok_iconst dL_law_214 rfl)) (ok_t_l (ok_aload_n dL_law_215 rfl)))) (ok_t_n (ok_t_l (ok_aload_n dL_law_216 rfl)) (ok_t_n (ok_t_l (ok_iconst dL_law_217 rfl)) (ok_t_l (ok_inv (run_V (y := 180) (n := 1) (ci := 11) dL_law_218 cz_180 gdG cc_180 ci_180 w_796 cm_180 cs_180 cd_180 cl_180 rfl rfl)))))))))
def lawt_221 : Nat → EA := (t_n 252 (t_n 234 (t_n 228 (t_n 223 (t_n 222 (t_l 221 (a_push 1 (.int 1))) (t_l 222 (a_ii 1 (fun x y => x - y)))) (t_n 224 (t_l 223 (a_push 1 (.int 0))) (t_n 227 (t_l 224 (a_inv true 171 3 (some 11))) (t_l 227 (a_ist 0))))) (t_n 230 (t_n 229 (t_l 228 a_dup) (t_l 229 (a_push 1 (.int 1)))) (t_n 232 (t_l 230 (a_push 2 (.int 16))) (t_n 233 (t_l 232 (a_ist 0)) (t_l 233 a_dup))))) (t_n 243 (t_n 236 (t_n 235 (t_l 234 (a_push 1 (.int 2))) (t_l 235 (a_push 1 (.int 0)))) (t_n 237 (t_l 236 (a_ist 0)) (t_n 240 (t_l 237 (a_inv true 201 2 none)) (t_l 240 (a_putf 9 12 4))))) (t_n 245 (t_n 244 (t_l 243 (a_aload 1 2)) (t_l 244 (a_aload 1 2))) (t_n 248 (t_l 245 (a_getf 12 5)) (t_n 249 (t_l 248 (a_push 1 (.int 0))) (t_l 249 (a_newq 3))))))) (t_n 274 (t_n 263 (t_n 258 (t_n 255 (t_l 252 (a_inv true 202 2 none)) (t_l 255 (a_putf 9 12 5))) (t_n 259 (t_l 258 (a_aload 1 3)) (t_n 261 (t_l 259 (a_iload 2 5)) (t_l 261 (a_iload 2 6))))) (t_n 268 (t_n 266 (t_l 263 (a_inv true 170 3 (some 11))) (t_l 266 (a_iload 2 7))) (t_n 271 (t_l 268 (a_ic 280 (fun x y => !decide (x = y)))) (t_n 272 (t_l 271 (a_aload 1 3)) (t_l 272 (a_aload 2 10)))))) (t_n 283 (t_n 280 (t_n 277 (t_l 274 (a_inv true 214 2 none)) (t_l 277 (a_if 282 (fun x => !decide (x = 0))))) (t_n 281 (t_l 280 (a_push 1 (.int 0))) (t_n 282 (t_l 281 a_iret) (t_l 282 (a_aload 1 3))))) (t_n 289 (t_n 284 (t_l 283 (a_push 1 (.int 0))) (t_n 287 (t_l 284 (a_inv true 180 2 (some 11))) (t_l 287 (a_push 2 (.int 10))))) (t_n 292 (t_l 289 (a_ic 348 (fun x y => decide (y ≤ x)))) (t_n 293 (t_l 292 (a_aload 1 3)) (t_l 293 (a_inv true 159 1 (some 11)))))))))
set_option maxRecDepth 100000 in
theorem lawt_221_ok (hh : List (Nat × Nat × Nat × Nat)) (sc : Nat × (Nat → Int32)) (d : Nat) : ∀ pc, ev_Ok code 17 hh RL lw_g lw_n (lw_q sc) vwCl false (ev_CO mt lw_g lw_n (lw_q sc) vwCl d) pc (lawt_221 pc) := (ok_t_n (ok_t_n (ok_t_n (ok_t_n (ok_t_n (ok_t_l (ok_iconst dL_law_221 rfl)) (ok_t_l (ok_isub dL_law_222))) (ok_t_n (ok_t_l (ok_iconst dL_law_223 rfl)) (ok_t_n (ok_t_l (ok_inv (run_V (y := 171) (n := 2) (ci := 11) dL_law_224 cz_171 gdG cc_171 ci_171 w_615 cm_171 cs_171 cd_171 cl_171 rfl rfl))) (ok_t_l (ok_iastore dL_law_227))))) (ok_t_n (ok_t_n (ok_t_l (ok_dup dL_law_228)) (ok_t_l (ok_iconst dL_law_229 rfl))) (ok_t_n (ok_t_l (ok_bipush dL_law_230 rfl)) (ok_t_n (ok_t_l (ok_iastore dL_law_232)) (ok_t_l (ok_dup dL_law_233)))))) (ok_t_n (ok_t_n (ok_t_n (ok_t_l (ok_iconst dL_law_234 rfl)) (ok_t_l (ok_iconst dL_law_235 rfl))) (ok_t_n (ok_t_l (ok_iastore dL_law_236)) (ok_t_n (ok_t_l (ok_inv (run_S (y := 201) (n := 2) dL_law_237 cz_201 gdG cc_201 ci_201 w_1425 cm_201 cd_201 cl_201))) (ok_t_l (ok_putfield dL_law_240 (ci := 12) (kf := 4) rfl inGX12 (by decide) tyX12_ok nmX12 rfl w_1346 rfl))))) (ok_t_n (ok_t_n (ok_t_l (ok_aload_n dL_law_243 rfl)) (ok_t_l (ok_aload_n dL_law_244 rfl))) (ok_t_n (ok_t_l (ok_getfield dL_law_245 (ci := 12) (kf := 5) rfl inGX12 (by decide) w_1348)) (ok_t_n (ok_t_l (ok_iconst dL_law_248 rfl)) (ok_t_l (ok_anewq (ft := .int) dL_law_249 (by decide) (by decide) rfl w_1543 (by decide)))))))) (ok_t_n (ok_t_n (ok_t_n (ok_t_n (ok_t_l (ok_inv (run_S (y := 202) (n := 2) dL_law_252 cz_202 gdG cc_202 ci_202 w_1431 cm_202 cd_202 cl_202))) (ok_t_l (ok_putfield dL_law_255 (ci := 12) (kf := 5) rfl inGX12 (by decide) tyX12_ok nmX12 rfl w_1348 rfl))) (ok_t_n (ok_t_l (ok_aload_n dL_law_258 rfl)) (ok_t_n (ok_t_l (ok_iload dL_law_259)) (ok_t_l (ok_iload dL_law_261))))) (ok_t_n (ok_t_n (ok_t_l (ok_inv (run_V (y := 170) (n := 2) (ci := 11) dL_law_263 cz_170 gdG cc_170 ci_170 w_257 cm_170 cs_170 cd_170 cl_170 rfl rfl))) (ok_t_l (ok_iload dL_law_266))) (ok_t_n (ok_t_l (ok_icmp_ne dL_law_268 rfl)) (ok_t_n (ok_t_l (ok_aload_n dL_law_271 rfl)) (ok_t_l (ok_aload dL_law_272)))))) (ok_t_n (ok_t_n (ok_t_n (ok_t_l (ok_inv (run_S (y := 214) (n := 2) dL_law_274 cz_214 gdG cc_214 ci_214 w_1540 cm_214 cd_214 cl_214))) (ok_t_l (ok_if_ne dL_law_277 rfl))) (ok_t_n (ok_t_l (ok_iconst dL_law_280 rfl)) (ok_t_n (ok_t_l (ok_ireturn dL_law_281)) (ok_t_l (ok_aload_n dL_law_282 rfl))))) (ok_t_n (ok_t_n (ok_t_l (ok_iconst dL_law_283 rfl)) (ok_t_n (ok_t_l (ok_inv (run_V (y := 180) (n := 1) (ci := 11) dL_law_284 cz_180 gdG cc_180 ci_180 w_796 cm_180 cs_180 cd_180 cl_180 rfl rfl))) (ok_t_l (ok_bipush dL_law_287 rfl)))) (ok_t_n (ok_t_l (ok_icmp_ge dL_law_289 rfl)) (ok_t_n (ok_t_l (ok_aload_n dL_law_292 rfl)) (ok_t_l (ok_inv (run_V (y := 159) (n := 0) (ci := 11) dL_law_293 cz_159 gdG cc_159 ci_159 w_60 cm_159 cs_159 cd_159 cl_159 rfl rfl)))))))))
def lawt_296 : Nat → EA := (t_n 336 (t_n 314 (t_n 305 (t_n 299 (t_n 298 (t_l 296 (a_istore 17 2 11)) (t_l 298 (a_aload 1 3))) (t_n 301 (t_l 299 (a_iload 2 11)) (t_n 303 (t_l 301 (a_iload 2 5)) (t_l 303 (a_push 2 (.int 9)))))) (t_n 309 (t_n 306 (t_l 305 (a_push 1 (.int 1))) (t_l 306 (a_inv true 165 5 (some 11)))) (t_n 310 (t_l 309 (a_push 1 (.int 1))) (t_n 313 (t_l 310 (a_ic 346 (fun x y => !decide (x = y)))) (t_l 313 (a_aload 1 3)))))) (t_n 326 (t_n 318 (t_n 316 (t_l 314 (a_iload 2 5)) (t_l 316 (a_iload 2 6))) (t_n 321 (t_l 318 (a_inv true 170 3 (some 11))) (t_n 323 (t_l 321 (a_iload 2 7)) (t_l 323 (a_ic 346 (fun x y => !decide (x = y))))))) (t_n 329 (t_n 327 (t_l 326 (a_aload 1 3)) (t_l 327 (a_aload 2 10))) (t_n 332 (t_l 329 (a_inv true 214 2 none)) (t_n 335 (t_l 332 (a_if 346 (fun x => decide (x = 0)))) (t_l 335 (a_aload 1 3))))))) (t_n 354 (t_n 346 (t_n 339 (t_n 338 (t_l 336 (a_iload 2 11)) (t_l 338 (a_push 1 (.int 3)))) (t_n 342 (t_l 339 (a_inv true 168 3 (some 11))) (t_n 343 (t_l 342 (a_push 1 (.int (-1)))) (t_l 343 (a_ic 348 (fun x y => decide (x = y))))))) (t_n 348 (t_n 347 (t_l 346 (a_push 1 (.int 0))) (t_l 347 a_iret)) (t_n 349 (t_l 348 (a_aload 1 3)) (t_n 351 (t_l 349 (a_push 2 (.int 11))) (t_l 351 (a_inv true 180 2 (some 11))))))) (t_n 366 (t_n 357 (t_n 356 (t_l 354 (a_istore 17 2 11)) (t_l 356 (a_aload 1 3))) (t_n 360 (t_l 357 (a_push 3 (.int 500))) (t_n 363 (t_l 360 (a_push 3 (.int 9999))) (t_l 363 (a_inv true 169 3 (some 11)))))) (t_n 371 (t_n 368 (t_l 366 (a_istore 17 2 12)) (t_n 369 (t_l 368 (a_aload 1 3)) (t_l 369 (a_iload 2 5)))) (t_n 373 (t_l 371 (a_iload 2 6)) (t_n 376 (t_l 373 (a_inv true 170 3 (some 11))) (t_l 376 a_pop)))))))
set_option maxRecDepth 100000 in
theorem lawt_296_ok (hh : List (Nat × Nat × Nat × Nat)) (sc : Nat × (Nat → Int32)) (d : Nat) : ∀ pc, ev_Ok code 17 hh RL lw_g lw_n (lw_q sc) vwCl false (ev_CO mt lw_g lw_n (lw_q sc) vwCl d) pc (lawt_296 pc) := (ok_t_n (ok_t_n (ok_t_n (ok_t_n (ok_t_n (ok_t_l (ok_istore dL_law_296)) (ok_t_l (ok_aload_n dL_law_298 rfl))) (ok_t_n (ok_t_l (ok_iload dL_law_299)) (ok_t_n (ok_t_l (ok_iload dL_law_301)) (ok_t_l (ok_bipush dL_law_303 rfl))))) (ok_t_n (ok_t_n (ok_t_l (ok_iconst dL_law_305 rfl)) (ok_t_l (ok_inv (run_V (y := 165) (n := 4) (ci := 11) dL_law_306 cz_165 gdG cc_165 ci_165 w_195 cm_165 cs_165 cd_165 cl_165 rfl rfl)))) (ok_t_n (ok_t_l (ok_iconst dL_law_309 rfl)) (ok_t_n (ok_t_l (ok_icmp_ne dL_law_310 rfl)) (ok_t_l (ok_aload_n dL_law_313 rfl)))))) (ok_t_n (ok_t_n (ok_t_n (ok_t_l (ok_iload dL_law_314)) (ok_t_l (ok_iload dL_law_316))) (ok_t_n (ok_t_l (ok_inv (run_V (y := 170) (n := 2) (ci := 11) dL_law_318 cz_170 gdG cc_170 ci_170 w_257 cm_170 cs_170 cd_170 cl_170 rfl rfl))) (ok_t_n (ok_t_l (ok_iload dL_law_321)) (ok_t_l (ok_icmp_ne dL_law_323 rfl))))) (ok_t_n (ok_t_n (ok_t_l (ok_aload_n dL_law_326 rfl)) (ok_t_l (ok_aload dL_law_327))) (ok_t_n (ok_t_l (ok_inv (run_S (y := 214) (n := 2) dL_law_329 cz_214 gdG cc_214 ci_214 w_1540 cm_214 cd_214 cl_214))) (ok_t_n (ok_t_l (ok_if_eq dL_law_332 rfl)) (ok_t_l (ok_aload_n dL_law_335 rfl))))))) (ok_t_n (ok_t_n (ok_t_n (ok_t_n (ok_t_l (ok_iload dL_law_336)) (ok_t_l (ok_iconst dL_law_338 rfl))) (ok_t_n (ok_t_l (ok_inv (run_V (y := 168) (n := 2) (ci := 11) dL_law_339 cz_168 gdG cc_168 ci_168 w_231 cm_168 cs_168 cd_168 cl_168 rfl rfl))) (ok_t_n (ok_t_l (ok_iconst dL_law_342 rfl)) (ok_t_l (ok_icmp_eq dL_law_343 rfl))))) (ok_t_n (ok_t_n (ok_t_l (ok_iconst dL_law_346 rfl)) (ok_t_l (ok_ireturn dL_law_347))) (ok_t_n (ok_t_l (ok_aload_n dL_law_348 rfl)) (ok_t_n (ok_t_l (ok_bipush dL_law_349 rfl)) (ok_t_l (ok_inv (run_V (y := 180) (n := 1) (ci := 11) dL_law_351 cz_180 gdG cc_180 ci_180 w_796 cm_180 cs_180 cd_180 cl_180 rfl rfl))))))) (ok_t_n (ok_t_n (ok_t_n (ok_t_l (ok_istore dL_law_354)) (ok_t_l (ok_aload_n dL_law_356 rfl))) (ok_t_n (ok_t_l (ok_sipush dL_law_357 rfl)) (ok_t_n (ok_t_l (ok_sipush dL_law_360 rfl)) (ok_t_l (ok_inv (run_V (y := 169) (n := 2) (ci := 11) dL_law_363 cz_169 gdG cc_169 ci_169 w_249 cm_169 cs_169 cd_169 cl_169 rfl rfl)))))) (ok_t_n (ok_t_n (ok_t_l (ok_istore dL_law_366)) (ok_t_n (ok_t_l (ok_aload_n dL_law_368 rfl)) (ok_t_l (ok_iload dL_law_369)))) (ok_t_n (ok_t_l (ok_iload dL_law_371)) (ok_t_n (ok_t_l (ok_inv (run_V (y := 170) (n := 2) (ci := 11) dL_law_373 cz_170 gdG cc_170 ci_170 w_257 cm_170 cs_170 cd_170 cl_170 rfl rfl))) (ok_t_l (ok_pop dL_law_376))))))))
def lawt_377 : Nat → EA := (t_n 416 (t_n 396 (t_n 388 (t_n 380 (t_n 378 (t_l 377 (a_aload 1 3)) (t_l 378 (a_push 2 (.int 11)))) (t_n 383 (t_l 380 (a_inv true 180 2 (some 11))) (t_n 385 (t_l 383 (a_iload 2 11)) (t_l 385 (a_ic 390 (fun x y => decide (x ≤ y))))))) (t_n 390 (t_n 389 (t_l 388 (a_push 1 (.int 0))) (t_l 389 a_iret)) (t_n 391 (t_l 390 (a_aload 1 3)) (t_n 393 (t_l 391 (a_iload 2 12)) (t_l 393 (a_push 3 (.int 9999))))))) (t_n 405 (t_n 400 (t_n 399 (t_l 396 (a_inv true 169 3 (some 11))) (t_l 399 a_pop)) (t_n 401 (t_l 400 (a_aload 1 3)) (t_n 403 (t_l 401 (a_iload 2 5)) (t_l 403 (a_iload 2 6))))) (t_n 410 (t_n 408 (t_l 405 (a_inv true 170 3 (some 11))) (t_l 408 (a_iload 2 7))) (t_n 413 (t_l 410 (a_ic 422 (fun x y => !decide (x = y)))) (t_n 414 (t_l 413 (a_aload 1 3)) (t_l 414 (a_aload 2 10))))))) (t_n 436 (t_n 426 (t_n 422 (t_n 419 (t_l 416 (a_inv true 214 2 none)) (t_l 419 (a_if 424 (fun x => !decide (x = 0))))) (t_n 423 (t_l 422 (a_push 1 (.int 0))) (t_n 424 (t_l 423 a_iret) (t_l 424 (a_iload 2 6))))) (t_n 431 (t_n 429 (t_l 426 (a_if 600 (fun x => decide (x = 0)))) (t_l 429 (a_iload 2 7))) (t_n 434 (t_l 431 (a_if 600 (fun x => decide (0 < x)))) (t_n 435 (t_l 434 (a_aload 1 3)) (t_l 435 (a_push 1 (.int 3))))))) (t_n 448 (t_n 441 (t_n 439 (t_l 436 (a_inv true 180 2 (some 11))) (t_l 439 (a_push 2 (.int 6)))) (t_n 444 (t_l 441 (a_ic 447 (fun x y => !decide (x = y)))) (t_n 447 (t_l 444 (a_goto 600)) (t_l 447 (a_aload 1 3))))) (t_n 454 (t_n 449 (t_l 448 (a_push 1 (.int 0))) (t_n 452 (t_l 449 (a_inv true 175 2 (some 11))) (t_l 452 (a_istore 17 2 13)))) (t_n 455 (t_l 454 (a_aload 1 3)) (t_n 457 (t_l 455 (a_iload 2 13)) (t_l 457 (a_push 1 (.int 0)))))))))
set_option maxRecDepth 100000 in
theorem lawt_377_ok (hh : List (Nat × Nat × Nat × Nat)) (sc : Nat × (Nat → Int32)) (d : Nat) : ∀ pc, ev_Ok code 17 hh RL lw_g lw_n (lw_q sc) vwCl false (ev_CO mt lw_g lw_n (lw_q sc) vwCl d) pc (lawt_377 pc) := (ok_t_n (ok_t_n (ok_t_n (ok_t_n (ok_t_n (ok_t_l (ok_aload_n dL_law_377 rfl)) (ok_t_l (ok_bipush dL_law_378 rfl))) (ok_t_n (ok_t_l (ok_inv (run_V (y := 180) (n := 1) (ci := 11) dL_law_380 cz_180 gdG cc_180 ci_180 w_796 cm_180 cs_180 cd_180 cl_180 rfl rfl))) (ok_t_n (ok_t_l (ok_iload dL_law_383)) (ok_t_l (ok_icmp_le dL_law_385 rfl))))) (ok_t_n (ok_t_n (ok_t_l (ok_iconst dL_law_388 rfl)) (ok_t_l (ok_ireturn dL_law_389))) (ok_t_n (ok_t_l (ok_aload_n dL_law_390 rfl)) (ok_t_n (ok_t_l (ok_iload dL_law_391)) (ok_t_l (ok_sipush dL_law_393 rfl)))))) (ok_t_n (ok_t_n (ok_t_n (ok_t_l (ok_inv (run_V (y := 169) (n := 2) (ci := 11) dL_law_396 cz_169 gdG cc_169 ci_169 w_249 cm_169 cs_169 cd_169 cl_169 rfl rfl))) (ok_t_l (ok_pop dL_law_399))) (ok_t_n (ok_t_l (ok_aload_n dL_law_400 rfl)) (ok_t_n (ok_t_l (ok_iload dL_law_401)) (ok_t_l (ok_iload dL_law_403))))) (ok_t_n (ok_t_n (ok_t_l (ok_inv (run_V (y := 170) (n := 2) (ci := 11) dL_law_405 cz_170 gdG cc_170 ci_170 w_257 cm_170 cs_170 cd_170 cl_170 rfl rfl))) (ok_t_l (ok_iload dL_law_408))) (ok_t_n (ok_t_l (ok_icmp_ne dL_law_410 rfl)) (ok_t_n (ok_t_l (ok_aload_n dL_law_413 rfl)) (ok_t_l (ok_aload dL_law_414))))))) (ok_t_n (ok_t_n (ok_t_n (ok_t_n (ok_t_l (ok_inv (run_S (y := 214) (n := 2) dL_law_416 cz_214 gdG cc_214 ci_214 w_1540 cm_214 cd_214 cl_214))) (ok_t_l (ok_if_ne dL_law_419 rfl))) (ok_t_n (ok_t_l (ok_iconst dL_law_422 rfl)) (ok_t_n (ok_t_l (ok_ireturn dL_law_423)) (ok_t_l (ok_iload dL_law_424))))) (ok_t_n (ok_t_n (ok_t_l (ok_if_eq dL_law_426 rfl)) (ok_t_l (ok_iload dL_law_429))) (ok_t_n (ok_t_l (ok_if_gt dL_law_431 rfl)) (ok_t_n (ok_t_l (ok_aload_n dL_law_434 rfl)) (ok_t_l (ok_iconst dL_law_435 rfl)))))) (ok_t_n (ok_t_n (ok_t_n (ok_t_l (ok_inv (run_V (y := 180) (n := 1) (ci := 11) dL_law_436 cz_180 gdG cc_180 ci_180 w_796 cm_180 cs_180 cd_180 cl_180 rfl rfl))) (ok_t_l (ok_bipush dL_law_439 rfl))) (ok_t_n (ok_t_l (ok_icmp_ne dL_law_441 rfl)) (ok_t_n (ok_t_l (ok_goto dL_law_444 rfl)) (ok_t_l (ok_aload_n dL_law_447 rfl))))) (ok_t_n (ok_t_n (ok_t_l (ok_iconst dL_law_448 rfl)) (ok_t_n (ok_t_l (ok_inv (run_V (y := 175) (n := 1) (ci := 11) dL_law_449 cz_175 gdG cc_175 ci_175 w_645 cm_175 cs_175 cd_175 cl_175 rfl rfl))) (ok_t_l (ok_istore dL_law_452)))) (ok_t_n (ok_t_l (ok_aload_n dL_law_454 rfl)) (ok_t_n (ok_t_l (ok_iload dL_law_455)) (ok_t_l (ok_iconst dL_law_457 rfl))))))))
def lawt_458 : Nat → EA := (t_n 493 (t_n 475 (t_n 467 (t_n 463 (t_n 461 (t_l 458 (a_inv true 179 3 (some 11))) (t_l 461 (a_istore 17 2 14))) (t_n 464 (t_l 463 (a_aload 1 3)) (t_n 466 (t_l 464 (a_iload 2 5)) (t_l 466 (a_push 1 (.int 1)))))) (t_n 470 (t_n 468 (t_l 467 (a_ii 1 (fun x y => x + y))) (t_l 468 (a_push 2 (.int 8)))) (t_n 471 (t_l 470 (a_iiN (fun x y => x - x / y * y))) (t_n 472 (t_l 471 (a_push 1 (.int 0))) (t_l 472 (a_inv true 170 3 (some 11))))))) (t_n 484 (t_n 477 (t_n 476 (t_l 475 a_pop) (t_l 476 (a_aload 1 3))) (t_n 480 (t_l 477 (a_inv true 185 1 (some 11))) (t_n 482 (t_l 480 (a_lstore 17 2 15)) (t_l 482 (a_iload 2 14))))) (t_n 487 (t_n 486 (t_l 484 (a_aload 2 10)) (t_l 486 a_alen)) (t_n 490 (t_l 487 (a_ic 598 (fun x y => !decide (x = y)))) (t_n 491 (t_l 490 (a_aload 1 3)) (t_l 491 (a_iload 2 13))))))) (t_n 513 (t_n 503 (t_n 497 (t_n 494 (t_l 493 (a_push 1 (.int 0))) (t_l 494 (a_inv true 179 3 (some 11)))) (t_n 499 (t_l 497 (a_iload 2 14)) (t_n 502 (t_l 499 (a_ic 598 (fun x y => !decide (x = y)))) (t_l 502 (a_aload 1 3))))) (t_n 506 (t_n 505 (t_l 503 (a_iload 2 13)) (t_l 505 (a_push 1 (.int 0)))) (t_n 509 (t_l 506 (a_inv true 176 3 (some 11))) (t_n 510 (t_l 509 (a_push 1 (.int 1))) (t_l 510 (a_ic 598 (fun x y => !decide (x = y)))))))) (t_n 522 (t_n 516 (t_n 514 (t_l 513 (a_aload 1 3)) (t_l 514 (a_iload 2 13))) (t_n 517 (t_l 516 (a_push 1 (.int 5))) (t_n 520 (t_l 517 (a_inv true 179 3 (some 11))) (t_l 520 (a_push 2 (.int 64)))))) (t_n 527 (t_n 523 (t_l 522 (a_iiN (fun x y => x - x / y * y))) (t_n 526 (t_l 523 (a_if 598 (fun x => !decide (x = 0)))) (t_l 526 (a_aload 1 3)))) (t_n 529 (t_l 527 (a_iload 2 13)) (t_n 530 (t_l 529 (a_push 1 (.int 0))) (t_l 530 (a_inv true 176 3 (some 11)))))))))
set_option maxRecDepth 100000 in
theorem lawt_458_ok (hh : List (Nat × Nat × Nat × Nat)) (sc : Nat × (Nat → Int32)) (d : Nat) : ∀ pc, ev_Ok code 17 hh RL lw_g lw_n (lw_q sc) vwCl false (ev_CO mt lw_g lw_n (lw_q sc) vwCl d) pc (lawt_458 pc) := (ok_t_n (ok_t_n (ok_t_n (ok_t_n (ok_t_n (ok_t_l (ok_inv (run_V (y := 179) (n := 2) (ci := 11) dL_law_458 cz_179 gdG cc_179 ci_179 w_769 cm_179 cs_179 cd_179 cl_179 rfl rfl))) (ok_t_l (ok_istore dL_law_461))) (ok_t_n (ok_t_l (ok_aload_n dL_law_463 rfl)) (ok_t_n (ok_t_l (ok_iload dL_law_464)) (ok_t_l (ok_iconst dL_law_466 rfl))))) (ok_t_n (ok_t_n (ok_t_l (ok_iadd dL_law_467)) (ok_t_l (ok_bipush dL_law_468 rfl))) (ok_t_n (ok_t_l (ok_irem dL_law_470)) (ok_t_n (ok_t_l (ok_iconst dL_law_471 rfl)) (ok_t_l (ok_inv (run_V (y := 170) (n := 2) (ci := 11) dL_law_472 cz_170 gdG cc_170 ci_170 w_257 cm_170 cs_170 cd_170 cl_170 rfl rfl))))))) (ok_t_n (ok_t_n (ok_t_n (ok_t_l (ok_pop dL_law_475)) (ok_t_l (ok_aload_n dL_law_476 rfl))) (ok_t_n (ok_t_l (ok_inv (run_V (y := 185) (n := 0) (ci := 11) dL_law_477 cz_185 gdG cc_185 ci_185 w_835 cm_185 cs_185 cd_185 cl_185 rfl rfl))) (ok_t_n (ok_t_l (ok_lstore dL_law_480)) (ok_t_l (ok_iload dL_law_482))))) (ok_t_n (ok_t_n (ok_t_l (ok_aload dL_law_484)) (ok_t_l (ok_arraylength dL_law_486))) (ok_t_n (ok_t_l (ok_icmp_ne dL_law_487 rfl)) (ok_t_n (ok_t_l (ok_aload_n dL_law_490 rfl)) (ok_t_l (ok_iload dL_law_491))))))) (ok_t_n (ok_t_n (ok_t_n (ok_t_n (ok_t_l (ok_iconst dL_law_493 rfl)) (ok_t_l (ok_inv (run_V (y := 179) (n := 2) (ci := 11) dL_law_494 cz_179 gdG cc_179 ci_179 w_769 cm_179 cs_179 cd_179 cl_179 rfl rfl)))) (ok_t_n (ok_t_l (ok_iload dL_law_497)) (ok_t_n (ok_t_l (ok_icmp_ne dL_law_499 rfl)) (ok_t_l (ok_aload_n dL_law_502 rfl))))) (ok_t_n (ok_t_n (ok_t_l (ok_iload dL_law_503)) (ok_t_l (ok_iconst dL_law_505 rfl))) (ok_t_n (ok_t_l (ok_inv (run_V (y := 176) (n := 2) (ci := 11) dL_law_506 cz_176 gdG cc_176 ci_176 w_683 cm_176 cs_176 cd_176 cl_176 rfl rfl))) (ok_t_n (ok_t_l (ok_iconst dL_law_509 rfl)) (ok_t_l (ok_icmp_ne dL_law_510 rfl)))))) (ok_t_n (ok_t_n (ok_t_n (ok_t_l (ok_aload_n dL_law_513 rfl)) (ok_t_l (ok_iload dL_law_514))) (ok_t_n (ok_t_l (ok_iconst dL_law_516 rfl)) (ok_t_n (ok_t_l (ok_inv (run_V (y := 179) (n := 2) (ci := 11) dL_law_517 cz_179 gdG cc_179 ci_179 w_769 cm_179 cs_179 cd_179 cl_179 rfl rfl))) (ok_t_l (ok_bipush dL_law_520 rfl))))) (ok_t_n (ok_t_n (ok_t_l (ok_irem dL_law_522)) (ok_t_n (ok_t_l (ok_if_ne dL_law_523 rfl)) (ok_t_l (ok_aload_n dL_law_526 rfl)))) (ok_t_n (ok_t_l (ok_iload dL_law_527)) (ok_t_n (ok_t_l (ok_iconst dL_law_529 rfl)) (ok_t_l (ok_inv (run_V (y := 176) (n := 2) (ci := 11) dL_law_530 cz_176 gdG cc_176 ci_176 w_683 cm_176 cs_176 cd_176 cl_176 rfl rfl)))))))))
def lawt_533 : Nat → EA := (t_n 572 (t_n 552 (t_n 543 (t_n 537 (t_n 536 (t_l 533 (a_if 598 (fun x => !decide (x = 0)))) (t_l 536 (a_aload 1 3))) (t_n 539 (t_l 537 (a_iload 2 13)) (t_n 540 (t_l 539 (a_push 1 (.int 4))) (t_l 540 (a_inv true 179 3 (some 11)))))) (t_n 547 (t_n 544 (t_l 543 (a_push 1 (.int 2))) (t_l 544 (a_ic 598 (fun x y => !decide (x = y))))) (t_n 548 (t_l 547 (a_aload 1 3)) (t_n 549 (t_l 548 (a_push 1 (.int 4))) (t_l 549 (a_inv true 180 2 (some 11))))))) (t_n 562 (t_n 556 (t_n 553 (t_l 552 (a_push 1 (.int 1))) (t_l 553 (a_ic 598 (fun x y => !decide (x = y))))) (t_n 557 (t_l 556 (a_aload 1 3)) (t_n 559 (t_l 557 (a_iload 2 13)) (t_l 559 (a_inv true 177 2 (some 11)))))) (t_n 566 (t_n 565 (t_l 562 (a_if 598 (fun x => !decide (x = 0)))) (t_l 565 (a_aload 1 3))) (t_n 568 (t_l 566 (a_iload 2 13)) (t_n 571 (t_l 568 (a_inv true 183 2 (some 11))) (t_l 571 (a_push 1 (.int 1)))))))) (t_n 592 (t_n 581 (t_n 575 (t_n 574 (t_l 572 (a_iload 2 13)) (t_l 574 (a_ii 1 (fun x y => x <<< (y &&& 31))))) (t_n 578 (t_l 575 (a_ic 598 (fun x y => !decide (x = y)))) (t_n 579 (t_l 578 (a_aload 1 3)) (t_l 579 (a_iload 2 13))))) (t_n 585 (t_n 584 (t_l 581 (a_inv true 177 2 (some 11))) (t_l 584 (a_push 1 (.int 1)))) (t_n 588 (t_l 585 (a_ic 598 (fun x y => !decide (x = y)))) (t_n 589 (t_l 588 (a_aload 1 3)) (t_l 589 (a_inv true 185 1 (some 11))))))) (t_n 600 (t_n 595 (t_n 594 (t_l 592 (a_lload 2 15)) (t_l 594 (a_ll (fun x y => .int (lg_cmp x y))))) (t_n 598 (t_l 595 (a_if 600 (fun x => decide (x = 0)))) (t_n 599 (t_l 598 (a_push 1 (.int 0))) (t_l 599 a_iret)))) (t_n 609 (t_n 603 (t_l 600 (a_iinc 17 4 1)) (t_n 606 (t_l 603 (a_goto 40)) (t_l 606 (a_iinc 17 1 1)))) (t_n 612 (t_l 609 (a_goto 2)) (t_n 613 (t_l 612 (a_push 1 (.int 1))) (t_l 613 a_iret)))))))
set_option maxRecDepth 100000 in
theorem lawt_533_ok (hh : List (Nat × Nat × Nat × Nat)) (sc : Nat × (Nat → Int32)) (d : Nat) : ∀ pc, ev_Ok code 17 hh RL lw_g lw_n (lw_q sc) vwCl false (ev_CO mt lw_g lw_n (lw_q sc) vwCl d) pc (lawt_533 pc) := (ok_t_n (ok_t_n (ok_t_n (ok_t_n (ok_t_n (ok_t_l (ok_if_ne dL_law_533 rfl)) (ok_t_l (ok_aload_n dL_law_536 rfl))) (ok_t_n (ok_t_l (ok_iload dL_law_537)) (ok_t_n (ok_t_l (ok_iconst dL_law_539 rfl)) (ok_t_l (ok_inv (run_V (y := 179) (n := 2) (ci := 11) dL_law_540 cz_179 gdG cc_179 ci_179 w_769 cm_179 cs_179 cd_179 cl_179 rfl rfl)))))) (ok_t_n (ok_t_n (ok_t_l (ok_iconst dL_law_543 rfl)) (ok_t_l (ok_icmp_ne dL_law_544 rfl))) (ok_t_n (ok_t_l (ok_aload_n dL_law_547 rfl)) (ok_t_n (ok_t_l (ok_iconst dL_law_548 rfl)) (ok_t_l (ok_inv (run_V (y := 180) (n := 1) (ci := 11) dL_law_549 cz_180 gdG cc_180 ci_180 w_796 cm_180 cs_180 cd_180 cl_180 rfl rfl))))))) (ok_t_n (ok_t_n (ok_t_n (ok_t_l (ok_iconst dL_law_552 rfl)) (ok_t_l (ok_icmp_ne dL_law_553 rfl))) (ok_t_n (ok_t_l (ok_aload_n dL_law_556 rfl)) (ok_t_n (ok_t_l (ok_iload dL_law_557)) (ok_t_l (ok_inv (run_V (y := 177) (n := 1) (ci := 11) dL_law_559 cz_177 gdG cc_177 ci_177 w_740 cm_177 cs_177 cd_177 cl_177 rfl rfl)))))) (ok_t_n (ok_t_n (ok_t_l (ok_if_ne dL_law_562 rfl)) (ok_t_l (ok_aload_n dL_law_565 rfl))) (ok_t_n (ok_t_l (ok_iload dL_law_566)) (ok_t_n (ok_t_l (ok_inv (run_V (y := 183) (n := 1) (ci := 11) dL_law_568 cz_183 gdG cc_183 ci_183 w_830 cm_183 cs_183 cd_183 cl_183 rfl rfl))) (ok_t_l (ok_iconst dL_law_571 rfl))))))) (ok_t_n (ok_t_n (ok_t_n (ok_t_n (ok_t_l (ok_iload dL_law_572)) (ok_t_l (ok_ishl dL_law_574))) (ok_t_n (ok_t_l (ok_icmp_ne dL_law_575 rfl)) (ok_t_n (ok_t_l (ok_aload_n dL_law_578 rfl)) (ok_t_l (ok_iload dL_law_579))))) (ok_t_n (ok_t_n (ok_t_l (ok_inv (run_V (y := 177) (n := 1) (ci := 11) dL_law_581 cz_177 gdG cc_177 ci_177 w_740 cm_177 cs_177 cd_177 cl_177 rfl rfl))) (ok_t_l (ok_iconst dL_law_584 rfl))) (ok_t_n (ok_t_l (ok_icmp_ne dL_law_585 rfl)) (ok_t_n (ok_t_l (ok_aload_n dL_law_588 rfl)) (ok_t_l (ok_inv (run_V (y := 185) (n := 0) (ci := 11) dL_law_589 cz_185 gdG cc_185 ci_185 w_835 cm_185 cs_185 cd_185 cl_185 rfl rfl))))))) (ok_t_n (ok_t_n (ok_t_n (ok_t_l (ok_lload dL_law_592)) (ok_t_l (ok_lcmp dL_law_594))) (ok_t_n (ok_t_l (ok_if_eq dL_law_595 rfl)) (ok_t_n (ok_t_l (ok_iconst dL_law_598 rfl)) (ok_t_l (ok_ireturn dL_law_599))))) (ok_t_n (ok_t_n (ok_t_l (ok_iinc dL_law_600 rfl)) (ok_t_n (ok_t_l (ok_goto dL_law_603 rfl)) (ok_t_l (ok_iinc dL_law_606 rfl)))) (ok_t_n (ok_t_l (ok_goto dL_law_609 rfl)) (ok_t_n (ok_t_l (ok_iconst dL_law_612 rfl)) (ok_t_l (ok_ireturn dL_law_613))))))))
def g_law : Nat → EA := (t_n 296 (t_n 150 (t_n 70 lawt_0 lawt_70) (t_n 221 lawt_150 lawt_221)) (t_n 458 (t_n 377 lawt_296 lawt_377) (t_n 533 lawt_458 lawt_533)))
theorem k_law (hh : List (Nat × Nat × Nat × Nat)) (sc : Nat × (Nat → Int32)) (d : Nat) : ∀ pc, ev_Ok code 17 hh RL lw_g lw_n (lw_q sc) vwCl false (ev_CO mt lw_g lw_n (lw_q sc) vwCl d) pc (g_law pc) := (ok_t_n (ok_t_n (ok_t_n (lawt_0_ok hh sc d) (lawt_70_ok hh sc d)) (ok_t_n (lawt_150_ok hh sc d) (lawt_221_ok hh sc d))) (ok_t_n (ok_t_n (lawt_296_ok hh sc d) (lawt_377_ok hh sc d)) (ok_t_n (lawt_458_ok hh sc d) (lawt_533_ok hh sc d))))
