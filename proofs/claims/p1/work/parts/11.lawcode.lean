theorem dL_law_0 : decode code 0 = .ok (.new 8, 3) := by decide +kernel
theorem dL_law_3 : decode code 3 = .ok (.dup, 1) := by decide +kernel
theorem dL_law_4 : decode code 4 = .ok (.invokespecial 102, 3) := by decide +kernel
theorem dL_law_7 : decode code 7 = .ok (.astore_n 1, 1) := by decide +kernel
theorem dL_law_8 : decode code 8 = .ok (.new 103, 3) := by decide +kernel
theorem dL_law_11 : decode code 11 = .ok (.dup, 1) := by decide +kernel
theorem dL_law_12 : decode code 12 = .ok (.invokespecial 105, 3) := by decide +kernel
theorem dL_law_15 : decode code 15 = .ok (.astore_n 2, 1) := by decide +kernel
theorem dL_law_16 : decode code 16 = .ok (.iconst 1, 1) := by decide +kernel
theorem dL_law_17 : decode code 17 = .ok (.newarray .long, 2) := by decide +kernel
theorem dL_law_19 : decode code 19 = .ok (.astore_n 3, 1) := by decide +kernel
theorem dL_law_20 : decode code 20 = .ok (.iconst 0, 1) := by decide +kernel
theorem dL_law_21 : decode code 21 = .ok (.istore 4, 2) := by decide +kernel
theorem dL_law_23 : decode code 23 = .ok (.iload 4, 2) := by decide +kernel
theorem dL_law_25 : decode code 25 = .ok (.aload_n 0, 1) := by decide +kernel
theorem dL_law_26 : decode code 26 = .ok (.arraylength, 1) := by decide +kernel
theorem dL_law_27 : decode code 27 = .ok (.iconst 5, 1) := by decide +kernel
theorem dL_law_28 : decode code 28 = .ok (.isub, 1) := by decide +kernel
theorem dL_law_29 : decode code 29 = .ok (.if_icmp .gt 2093, 3) := by decide +kernel
theorem dL_law_32 : decode code 32 = .ok (.aload_n 0, 1) := by decide +kernel
theorem dL_law_33 : decode code 33 = .ok (.iload 4, 2) := by decide +kernel
theorem dL_law_35 : decode code 35 = .ok (.iaload, 1) := by decide +kernel
theorem dL_law_36 : decode code 36 = .ok (.bipush 31, 2) := by decide +kernel
theorem dL_law_38 : decode code 38 = .ok (.iand, 1) := by decide +kernel
theorem dL_law_39 : decode code 39 = .ok (.tableswitch 2077 0 28 #[129, 173, 269, 337, 445, 541, 665, 757, 825, 838, 906, 974, 1058, 1126, 1194, 1262, 1318, 1374, 1458, 1514, 1582, 1662, 1730, 1786, 1827, 1883, 1939, 1995, 2063], 129) := by decide +kernel
theorem dL_law_168 : decode code 168 = .ok (.aload_n 1, 1) := by decide +kernel
theorem dL_law_169 : decode code 169 = .ok (.aload_n 3, 1) := by decide +kernel
theorem dL_law_170 : decode code 170 = .ok (.invokestatic 106, 3) := by decide +kernel
theorem dL_law_173 : decode code 173 = .ok (.istore 5, 2) := by decide +kernel
theorem dL_law_175 : decode code 175 = .ok (.aload_n 2, 1) := by decide +kernel
theorem dL_law_176 : decode code 176 = .ok (.invokevirtual 111, 3) := by decide +kernel
theorem dL_law_179 : decode code 179 = .ok (.istore 6, 2) := by decide +kernel
theorem dL_law_181 : decode code 181 = .ok (.aload_n 2, 1) := by decide +kernel
theorem dL_law_182 : decode code 182 = .ok (.invokevirtual 112, 3) := by decide +kernel
theorem dL_law_185 : decode code 185 = .ok (.iload 5, 2) := by decide +kernel
theorem dL_law_187 : decode code 187 = .ok (.if_icmp .eq 5, 3) := by decide +kernel
theorem dL_law_190 : decode code 190 = .ok (.iconst 0, 1) := by decide +kernel
theorem dL_law_191 : decode code 191 = .ok (.ireturn, 1) := by decide +kernel
theorem dL_law_192 : decode code 192 = .ok (.iload 5, 2) := by decide +kernel
theorem dL_law_194 : decode code 194 = .ok (.ifCond .ne 15, 3) := by decide +kernel
theorem dL_law_197 : decode code 197 = .ok (.aload_n 3, 1) := by decide +kernel
theorem dL_law_198 : decode code 198 = .ok (.iconst 0, 1) := by decide +kernel
theorem dL_law_199 : decode code 199 = .ok (.laload, 1) := by decide +kernel
theorem dL_law_200 : decode code 200 = .ok (.iload 6, 2) := by decide +kernel
theorem dL_law_202 : decode code 202 = .ok (.i2l, 1) := by decide +kernel
theorem dL_law_203 : decode code 203 = .ok (.lcmp, 1) := by decide +kernel
theorem dL_law_204 : decode code 204 = .ok (.ifCond .eq 5, 3) := by decide +kernel
theorem dL_law_207 : decode code 207 = .ok (.iconst 0, 1) := by decide +kernel
theorem dL_law_208 : decode code 208 = .ok (.ireturn, 1) := by decide +kernel
theorem dL_law_209 : decode code 209 = .ok (.goto 1907, 3) := by decide +kernel
theorem dL_law_212 : decode code 212 = .ok (.aload_n 1, 1) := by decide +kernel
theorem dL_law_213 : decode code 213 = .ok (.aload_n 0, 1) := by decide +kernel
theorem dL_law_214 : decode code 214 = .ok (.iload 4, 2) := by decide +kernel
theorem dL_law_216 : decode code 216 = .ok (.iconst 1, 1) := by decide +kernel
theorem dL_law_217 : decode code 217 = .ok (.iadd, 1) := by decide +kernel
theorem dL_law_218 : decode code 218 = .ok (.iaload, 1) := by decide +kernel
theorem dL_law_219 : decode code 219 = .ok (.aload_n 0, 1) := by decide +kernel
theorem dL_law_220 : decode code 220 = .ok (.iload 4, 2) := by decide +kernel
theorem dL_law_222 : decode code 222 = .ok (.iconst 2, 1) := by decide +kernel
theorem dL_law_223 : decode code 223 = .ok (.iadd, 1) := by decide +kernel
theorem dL_law_224 : decode code 224 = .ok (.iaload, 1) := by decide +kernel
theorem dL_law_225 : decode code 225 = .ok (.aload_n 0, 1) := by decide +kernel
theorem dL_law_226 : decode code 226 = .ok (.iload 4, 2) := by decide +kernel
theorem dL_law_228 : decode code 228 = .ok (.iconst 3, 1) := by decide +kernel
theorem dL_law_229 : decode code 229 = .ok (.iadd, 1) := by decide +kernel
theorem dL_law_230 : decode code 230 = .ok (.iaload, 1) := by decide +kernel
theorem dL_law_231 : decode code 231 = .ok (.ifCond .eq 7, 3) := by decide +kernel
theorem dL_law_234 : decode code 234 = .ok (.iconst 1, 1) := by decide +kernel
theorem dL_law_235 : decode code 235 = .ok (.goto 4, 3) := by decide +kernel
theorem dL_law_238 : decode code 238 = .ok (.iconst 0, 1) := by decide +kernel
theorem dL_law_239 : decode code 239 = .ok (.aload_n 3, 1) := by decide +kernel
theorem dL_law_240 : decode code 240 = .ok (.invokestatic 115, 3) := by decide +kernel
theorem dL_law_243 : decode code 243 = .ok (.istore 5, 2) := by decide +kernel
theorem dL_law_245 : decode code 245 = .ok (.aload_n 2, 1) := by decide +kernel
theorem dL_law_246 : decode code 246 = .ok (.aload_n 0, 1) := by decide +kernel
theorem dL_law_247 : decode code 247 = .ok (.iload 4, 2) := by decide +kernel
theorem dL_law_249 : decode code 249 = .ok (.iconst 1, 1) := by decide +kernel
theorem dL_law_250 : decode code 250 = .ok (.iadd, 1) := by decide +kernel
theorem dL_law_251 : decode code 251 = .ok (.iaload, 1) := by decide +kernel
theorem dL_law_252 : decode code 252 = .ok (.aload_n 0, 1) := by decide +kernel
theorem dL_law_253 : decode code 253 = .ok (.iload 4, 2) := by decide +kernel
theorem dL_law_255 : decode code 255 = .ok (.iconst 2, 1) := by decide +kernel
theorem dL_law_256 : decode code 256 = .ok (.iadd, 1) := by decide +kernel
theorem dL_law_257 : decode code 257 = .ok (.iaload, 1) := by decide +kernel
theorem dL_law_258 : decode code 258 = .ok (.aload_n 0, 1) := by decide +kernel
theorem dL_law_259 : decode code 259 = .ok (.iload 4, 2) := by decide +kernel
theorem dL_law_261 : decode code 261 = .ok (.iconst 3, 1) := by decide +kernel
theorem dL_law_262 : decode code 262 = .ok (.iadd, 1) := by decide +kernel
theorem dL_law_263 : decode code 263 = .ok (.iaload, 1) := by decide +kernel
theorem dL_law_264 : decode code 264 = .ok (.ifCond .eq 7, 3) := by decide +kernel
theorem dL_law_267 : decode code 267 = .ok (.iconst 1, 1) := by decide +kernel
theorem dL_law_268 : decode code 268 = .ok (.goto 4, 3) := by decide +kernel
theorem dL_law_271 : decode code 271 = .ok (.iconst 0, 1) := by decide +kernel
theorem dL_law_272 : decode code 272 = .ok (.invokevirtual 118, 3) := by decide +kernel
theorem dL_law_275 : decode code 275 = .ok (.istore 6, 2) := by decide +kernel
theorem dL_law_277 : decode code 277 = .ok (.aload_n 2, 1) := by decide +kernel
theorem dL_law_278 : decode code 278 = .ok (.invokevirtual 112, 3) := by decide +kernel
theorem dL_law_281 : decode code 281 = .ok (.iload 5, 2) := by decide +kernel
theorem dL_law_283 : decode code 283 = .ok (.if_icmp .eq 5, 3) := by decide +kernel
theorem dL_law_286 : decode code 286 = .ok (.iconst 0, 1) := by decide +kernel
theorem dL_law_287 : decode code 287 = .ok (.ireturn, 1) := by decide +kernel
theorem dL_law_288 : decode code 288 = .ok (.iload 5, 2) := by decide +kernel
theorem dL_law_290 : decode code 290 = .ok (.ifCond .ne 15, 3) := by decide +kernel
theorem dL_law_293 : decode code 293 = .ok (.aload_n 3, 1) := by decide +kernel
theorem dL_law_294 : decode code 294 = .ok (.iconst 0, 1) := by decide +kernel
theorem dL_law_295 : decode code 295 = .ok (.laload, 1) := by decide +kernel
theorem dL_law_296 : decode code 296 = .ok (.iload 6, 2) := by decide +kernel
theorem dL_law_298 : decode code 298 = .ok (.i2l, 1) := by decide +kernel
theorem dL_law_299 : decode code 299 = .ok (.lcmp, 1) := by decide +kernel
theorem dL_law_300 : decode code 300 = .ok (.ifCond .eq 5, 3) := by decide +kernel
theorem dL_law_303 : decode code 303 = .ok (.iconst 0, 1) := by decide +kernel
theorem dL_law_304 : decode code 304 = .ok (.ireturn, 1) := by decide +kernel
theorem dL_law_305 : decode code 305 = .ok (.goto 1811, 3) := by decide +kernel
theorem dL_law_308 : decode code 308 = .ok (.aload_n 1, 1) := by decide +kernel
theorem dL_law_309 : decode code 309 = .ok (.aload_n 0, 1) := by decide +kernel
theorem dL_law_310 : decode code 310 = .ok (.iload 4, 2) := by decide +kernel
theorem dL_law_312 : decode code 312 = .ok (.iconst 1, 1) := by decide +kernel
theorem dL_law_313 : decode code 313 = .ok (.iadd, 1) := by decide +kernel
theorem dL_law_314 : decode code 314 = .ok (.iaload, 1) := by decide +kernel
theorem dL_law_315 : decode code 315 = .ok (.aload_n 0, 1) := by decide +kernel
theorem dL_law_316 : decode code 316 = .ok (.iload 4, 2) := by decide +kernel
theorem dL_law_318 : decode code 318 = .ok (.iconst 2, 1) := by decide +kernel
theorem dL_law_319 : decode code 319 = .ok (.iadd, 1) := by decide +kernel
theorem dL_law_320 : decode code 320 = .ok (.iaload, 1) := by decide +kernel
theorem dL_law_321 : decode code 321 = .ok (.aload_n 3, 1) := by decide +kernel
theorem dL_law_322 : decode code 322 = .ok (.invokestatic 119, 3) := by decide +kernel
theorem dL_law_325 : decode code 325 = .ok (.istore 5, 2) := by decide +kernel
theorem dL_law_327 : decode code 327 = .ok (.aload_n 2, 1) := by decide +kernel
theorem dL_law_328 : decode code 328 = .ok (.aload_n 0, 1) := by decide +kernel
theorem dL_law_329 : decode code 329 = .ok (.iload 4, 2) := by decide +kernel
theorem dL_law_331 : decode code 331 = .ok (.iconst 1, 1) := by decide +kernel
theorem dL_law_332 : decode code 332 = .ok (.iadd, 1) := by decide +kernel
theorem dL_law_333 : decode code 333 = .ok (.iaload, 1) := by decide +kernel
theorem dL_law_334 : decode code 334 = .ok (.aload_n 0, 1) := by decide +kernel
theorem dL_law_335 : decode code 335 = .ok (.iload 4, 2) := by decide +kernel
theorem dL_law_337 : decode code 337 = .ok (.iconst 2, 1) := by decide +kernel
theorem dL_law_338 : decode code 338 = .ok (.iadd, 1) := by decide +kernel
theorem dL_law_339 : decode code 339 = .ok (.iaload, 1) := by decide +kernel
theorem dL_law_340 : decode code 340 = .ok (.invokevirtual 122, 3) := by decide +kernel
theorem dL_law_343 : decode code 343 = .ok (.istore 6, 2) := by decide +kernel
theorem dL_law_345 : decode code 345 = .ok (.aload_n 2, 1) := by decide +kernel
theorem dL_law_346 : decode code 346 = .ok (.invokevirtual 112, 3) := by decide +kernel
theorem dL_law_349 : decode code 349 = .ok (.iload 5, 2) := by decide +kernel
theorem dL_law_351 : decode code 351 = .ok (.if_icmp .eq 5, 3) := by decide +kernel
theorem dL_law_354 : decode code 354 = .ok (.iconst 0, 1) := by decide +kernel
theorem dL_law_355 : decode code 355 = .ok (.ireturn, 1) := by decide +kernel
theorem dL_law_356 : decode code 356 = .ok (.iload 5, 2) := by decide +kernel
theorem dL_law_358 : decode code 358 = .ok (.ifCond .ne 15, 3) := by decide +kernel
theorem dL_law_361 : decode code 361 = .ok (.aload_n 3, 1) := by decide +kernel
theorem dL_law_362 : decode code 362 = .ok (.iconst 0, 1) := by decide +kernel
theorem dL_law_363 : decode code 363 = .ok (.laload, 1) := by decide +kernel
theorem dL_law_364 : decode code 364 = .ok (.iload 6, 2) := by decide +kernel
theorem dL_law_366 : decode code 366 = .ok (.i2l, 1) := by decide +kernel
theorem dL_law_367 : decode code 367 = .ok (.lcmp, 1) := by decide +kernel
theorem dL_law_368 : decode code 368 = .ok (.ifCond .eq 5, 3) := by decide +kernel
theorem dL_law_371 : decode code 371 = .ok (.iconst 0, 1) := by decide +kernel
theorem dL_law_372 : decode code 372 = .ok (.ireturn, 1) := by decide +kernel
theorem dL_law_373 : decode code 373 = .ok (.goto 1743, 3) := by decide +kernel
theorem dL_law_376 : decode code 376 = .ok (.aload_n 1, 1) := by decide +kernel
theorem dL_law_377 : decode code 377 = .ok (.aload_n 0, 1) := by decide +kernel
theorem dL_law_378 : decode code 378 = .ok (.iload 4, 2) := by decide +kernel
theorem dL_law_380 : decode code 380 = .ok (.iconst 1, 1) := by decide +kernel
theorem dL_law_381 : decode code 381 = .ok (.iadd, 1) := by decide +kernel
theorem dL_law_382 : decode code 382 = .ok (.iaload, 1) := by decide +kernel
theorem dL_law_383 : decode code 383 = .ok (.aload_n 0, 1) := by decide +kernel
theorem dL_law_384 : decode code 384 = .ok (.iload 4, 2) := by decide +kernel
theorem dL_law_386 : decode code 386 = .ok (.iconst 2, 1) := by decide +kernel
theorem dL_law_387 : decode code 387 = .ok (.iadd, 1) := by decide +kernel
theorem dL_law_388 : decode code 388 = .ok (.iaload, 1) := by decide +kernel
theorem dL_law_389 : decode code 389 = .ok (.aload_n 0, 1) := by decide +kernel
theorem dL_law_390 : decode code 390 = .ok (.iload 4, 2) := by decide +kernel
theorem dL_law_392 : decode code 392 = .ok (.iconst 3, 1) := by decide +kernel
theorem dL_law_393 : decode code 393 = .ok (.iadd, 1) := by decide +kernel
theorem dL_law_394 : decode code 394 = .ok (.iaload, 1) := by decide +kernel
theorem dL_law_395 : decode code 395 = .ok (.aload_n 0, 1) := by decide +kernel
theorem dL_law_396 : decode code 396 = .ok (.iload 4, 2) := by decide +kernel
theorem dL_law_398 : decode code 398 = .ok (.iconst 4, 1) := by decide +kernel
theorem dL_law_399 : decode code 399 = .ok (.iadd, 1) := by decide +kernel
theorem dL_law_400 : decode code 400 = .ok (.iaload, 1) := by decide +kernel
theorem dL_law_401 : decode code 401 = .ok (.ifCond .eq 7, 3) := by decide +kernel
theorem dL_law_404 : decode code 404 = .ok (.iconst 1, 1) := by decide +kernel
theorem dL_law_405 : decode code 405 = .ok (.goto 4, 3) := by decide +kernel
theorem dL_law_408 : decode code 408 = .ok (.iconst 0, 1) := by decide +kernel
theorem dL_law_409 : decode code 409 = .ok (.aload_n 3, 1) := by decide +kernel
theorem dL_law_410 : decode code 410 = .ok (.invokestatic 123, 3) := by decide +kernel
theorem dL_law_413 : decode code 413 = .ok (.istore 5, 2) := by decide +kernel
theorem dL_law_415 : decode code 415 = .ok (.aload_n 2, 1) := by decide +kernel
theorem dL_law_416 : decode code 416 = .ok (.aload_n 0, 1) := by decide +kernel
theorem dL_law_417 : decode code 417 = .ok (.iload 4, 2) := by decide +kernel
theorem dL_law_419 : decode code 419 = .ok (.iconst 1, 1) := by decide +kernel
theorem dL_law_420 : decode code 420 = .ok (.iadd, 1) := by decide +kernel
theorem dL_law_421 : decode code 421 = .ok (.iaload, 1) := by decide +kernel
theorem dL_law_422 : decode code 422 = .ok (.aload_n 0, 1) := by decide +kernel
theorem dL_law_423 : decode code 423 = .ok (.iload 4, 2) := by decide +kernel
theorem dL_law_425 : decode code 425 = .ok (.iconst 2, 1) := by decide +kernel
theorem dL_law_426 : decode code 426 = .ok (.iadd, 1) := by decide +kernel
theorem dL_law_427 : decode code 427 = .ok (.iaload, 1) := by decide +kernel
theorem dL_law_428 : decode code 428 = .ok (.aload_n 0, 1) := by decide +kernel
theorem dL_law_429 : decode code 429 = .ok (.iload 4, 2) := by decide +kernel
theorem dL_law_431 : decode code 431 = .ok (.iconst 3, 1) := by decide +kernel
theorem dL_law_432 : decode code 432 = .ok (.iadd, 1) := by decide +kernel
theorem dL_law_433 : decode code 433 = .ok (.iaload, 1) := by decide +kernel
theorem dL_law_434 : decode code 434 = .ok (.aload_n 0, 1) := by decide +kernel
theorem dL_law_435 : decode code 435 = .ok (.iload 4, 2) := by decide +kernel
theorem dL_law_437 : decode code 437 = .ok (.iconst 4, 1) := by decide +kernel
theorem dL_law_438 : decode code 438 = .ok (.iadd, 1) := by decide +kernel
theorem dL_law_439 : decode code 439 = .ok (.iaload, 1) := by decide +kernel
theorem dL_law_440 : decode code 440 = .ok (.ifCond .eq 7, 3) := by decide +kernel
theorem dL_law_443 : decode code 443 = .ok (.iconst 1, 1) := by decide +kernel
theorem dL_law_444 : decode code 444 = .ok (.goto 4, 3) := by decide +kernel
theorem dL_law_447 : decode code 447 = .ok (.iconst 0, 1) := by decide +kernel
theorem dL_law_448 : decode code 448 = .ok (.invokevirtual 126, 3) := by decide +kernel
theorem dL_law_451 : decode code 451 = .ok (.istore 6, 2) := by decide +kernel
theorem dL_law_453 : decode code 453 = .ok (.aload_n 2, 1) := by decide +kernel
theorem dL_law_454 : decode code 454 = .ok (.invokevirtual 112, 3) := by decide +kernel
theorem dL_law_457 : decode code 457 = .ok (.iload 5, 2) := by decide +kernel
theorem dL_law_459 : decode code 459 = .ok (.if_icmp .eq 5, 3) := by decide +kernel
theorem dL_law_462 : decode code 462 = .ok (.iconst 0, 1) := by decide +kernel
theorem dL_law_463 : decode code 463 = .ok (.ireturn, 1) := by decide +kernel
theorem dL_law_464 : decode code 464 = .ok (.iload 5, 2) := by decide +kernel
theorem dL_law_466 : decode code 466 = .ok (.ifCond .ne 15, 3) := by decide +kernel
theorem dL_law_469 : decode code 469 = .ok (.aload_n 3, 1) := by decide +kernel
theorem dL_law_470 : decode code 470 = .ok (.iconst 0, 1) := by decide +kernel
theorem dL_law_471 : decode code 471 = .ok (.laload, 1) := by decide +kernel
theorem dL_law_472 : decode code 472 = .ok (.iload 6, 2) := by decide +kernel
theorem dL_law_474 : decode code 474 = .ok (.i2l, 1) := by decide +kernel
theorem dL_law_475 : decode code 475 = .ok (.lcmp, 1) := by decide +kernel
theorem dL_law_476 : decode code 476 = .ok (.ifCond .eq 5, 3) := by decide +kernel
theorem dL_law_479 : decode code 479 = .ok (.iconst 0, 1) := by decide +kernel
theorem dL_law_480 : decode code 480 = .ok (.ireturn, 1) := by decide +kernel
theorem dL_law_481 : decode code 481 = .ok (.goto 1635, 3) := by decide +kernel
theorem dL_law_484 : decode code 484 = .ok (.aload_n 1, 1) := by decide +kernel
theorem dL_law_485 : decode code 485 = .ok (.aload_n 0, 1) := by decide +kernel
theorem dL_law_486 : decode code 486 = .ok (.iload 4, 2) := by decide +kernel
theorem dL_law_488 : decode code 488 = .ok (.iconst 1, 1) := by decide +kernel
theorem dL_law_489 : decode code 489 = .ok (.iadd, 1) := by decide +kernel
theorem dL_law_490 : decode code 490 = .ok (.iaload, 1) := by decide +kernel
theorem dL_law_491 : decode code 491 = .ok (.aload_n 0, 1) := by decide +kernel
theorem dL_law_492 : decode code 492 = .ok (.iload 4, 2) := by decide +kernel
theorem dL_law_494 : decode code 494 = .ok (.iconst 2, 1) := by decide +kernel
theorem dL_law_495 : decode code 495 = .ok (.iadd, 1) := by decide +kernel
theorem dL_law_496 : decode code 496 = .ok (.iaload, 1) := by decide +kernel
theorem dL_law_497 : decode code 497 = .ok (.aload_n 0, 1) := by decide +kernel
theorem dL_law_498 : decode code 498 = .ok (.iload 4, 2) := by decide +kernel
theorem dL_law_500 : decode code 500 = .ok (.iconst 3, 1) := by decide +kernel
theorem dL_law_501 : decode code 501 = .ok (.iadd, 1) := by decide +kernel
theorem dL_law_502 : decode code 502 = .ok (.iaload, 1) := by decide +kernel
theorem dL_law_503 : decode code 503 = .ok (.ifCond .eq 7, 3) := by decide +kernel
theorem dL_law_506 : decode code 506 = .ok (.iconst 1, 1) := by decide +kernel
theorem dL_law_507 : decode code 507 = .ok (.goto 4, 3) := by decide +kernel
theorem dL_law_510 : decode code 510 = .ok (.iconst 0, 1) := by decide +kernel
theorem dL_law_511 : decode code 511 = .ok (.aload_n 3, 1) := by decide +kernel
theorem dL_law_512 : decode code 512 = .ok (.invokestatic 127, 3) := by decide +kernel
theorem dL_law_515 : decode code 515 = .ok (.istore 5, 2) := by decide +kernel
theorem dL_law_517 : decode code 517 = .ok (.aload_n 2, 1) := by decide +kernel
theorem dL_law_518 : decode code 518 = .ok (.aload_n 0, 1) := by decide +kernel
theorem dL_law_519 : decode code 519 = .ok (.iload 4, 2) := by decide +kernel
theorem dL_law_521 : decode code 521 = .ok (.iconst 1, 1) := by decide +kernel
theorem dL_law_522 : decode code 522 = .ok (.iadd, 1) := by decide +kernel
theorem dL_law_523 : decode code 523 = .ok (.iaload, 1) := by decide +kernel
theorem dL_law_524 : decode code 524 = .ok (.aload_n 0, 1) := by decide +kernel
theorem dL_law_525 : decode code 525 = .ok (.iload 4, 2) := by decide +kernel
theorem dL_law_527 : decode code 527 = .ok (.iconst 2, 1) := by decide +kernel
theorem dL_law_528 : decode code 528 = .ok (.iadd, 1) := by decide +kernel
theorem dL_law_529 : decode code 529 = .ok (.iaload, 1) := by decide +kernel
theorem dL_law_530 : decode code 530 = .ok (.aload_n 0, 1) := by decide +kernel
theorem dL_law_531 : decode code 531 = .ok (.iload 4, 2) := by decide +kernel
theorem dL_law_533 : decode code 533 = .ok (.iconst 3, 1) := by decide +kernel
theorem dL_law_534 : decode code 534 = .ok (.iadd, 1) := by decide +kernel
theorem dL_law_535 : decode code 535 = .ok (.iaload, 1) := by decide +kernel
theorem dL_law_536 : decode code 536 = .ok (.ifCond .eq 7, 3) := by decide +kernel
theorem dL_law_539 : decode code 539 = .ok (.iconst 1, 1) := by decide +kernel
theorem dL_law_540 : decode code 540 = .ok (.goto 4, 3) := by decide +kernel
theorem dL_law_543 : decode code 543 = .ok (.iconst 0, 1) := by decide +kernel
theorem dL_law_544 : decode code 544 = .ok (.invokevirtual 129, 3) := by decide +kernel
theorem dL_law_547 : decode code 547 = .ok (.istore 6, 2) := by decide +kernel
theorem dL_law_549 : decode code 549 = .ok (.aload_n 2, 1) := by decide +kernel
theorem dL_law_550 : decode code 550 = .ok (.invokevirtual 112, 3) := by decide +kernel
theorem dL_law_553 : decode code 553 = .ok (.iload 5, 2) := by decide +kernel
theorem dL_law_555 : decode code 555 = .ok (.if_icmp .eq 5, 3) := by decide +kernel
theorem dL_law_558 : decode code 558 = .ok (.iconst 0, 1) := by decide +kernel
theorem dL_law_559 : decode code 559 = .ok (.ireturn, 1) := by decide +kernel
theorem dL_law_560 : decode code 560 = .ok (.iload 5, 2) := by decide +kernel
theorem dL_law_562 : decode code 562 = .ok (.ifCond .ne 15, 3) := by decide +kernel
theorem dL_law_565 : decode code 565 = .ok (.aload_n 3, 1) := by decide +kernel
theorem dL_law_566 : decode code 566 = .ok (.iconst 0, 1) := by decide +kernel
theorem dL_law_567 : decode code 567 = .ok (.laload, 1) := by decide +kernel
theorem dL_law_568 : decode code 568 = .ok (.iload 6, 2) := by decide +kernel
theorem dL_law_570 : decode code 570 = .ok (.i2l, 1) := by decide +kernel
theorem dL_law_571 : decode code 571 = .ok (.lcmp, 1) := by decide +kernel
theorem dL_law_572 : decode code 572 = .ok (.ifCond .eq 5, 3) := by decide +kernel
theorem dL_law_575 : decode code 575 = .ok (.iconst 0, 1) := by decide +kernel
theorem dL_law_576 : decode code 576 = .ok (.ireturn, 1) := by decide +kernel
theorem dL_law_577 : decode code 577 = .ok (.goto 1539, 3) := by decide +kernel
theorem dL_law_580 : decode code 580 = .ok (.aload_n 1, 1) := by decide +kernel
theorem dL_law_581 : decode code 581 = .ok (.aload_n 0, 1) := by decide +kernel
theorem dL_law_582 : decode code 582 = .ok (.iload 4, 2) := by decide +kernel
theorem dL_law_584 : decode code 584 = .ok (.iconst 1, 1) := by decide +kernel
theorem dL_law_585 : decode code 585 = .ok (.iadd, 1) := by decide +kernel
theorem dL_law_586 : decode code 586 = .ok (.iaload, 1) := by decide +kernel
theorem dL_law_587 : decode code 587 = .ok (.aload_n 0, 1) := by decide +kernel
theorem dL_law_588 : decode code 588 = .ok (.iload 4, 2) := by decide +kernel
theorem dL_law_590 : decode code 590 = .ok (.iconst 2, 1) := by decide +kernel
theorem dL_law_591 : decode code 591 = .ok (.iadd, 1) := by decide +kernel
theorem dL_law_592 : decode code 592 = .ok (.iaload, 1) := by decide +kernel
theorem dL_law_593 : decode code 593 = .ok (.aload_n 0, 1) := by decide +kernel
theorem dL_law_594 : decode code 594 = .ok (.iload 4, 2) := by decide +kernel
theorem dL_law_596 : decode code 596 = .ok (.iconst 3, 1) := by decide +kernel
theorem dL_law_597 : decode code 597 = .ok (.iadd, 1) := by decide +kernel
theorem dL_law_598 : decode code 598 = .ok (.iaload, 1) := by decide +kernel
theorem dL_law_599 : decode code 599 = .ok (.ifCond .eq 7, 3) := by decide +kernel
theorem dL_law_602 : decode code 602 = .ok (.iconst 1, 1) := by decide +kernel
theorem dL_law_603 : decode code 603 = .ok (.goto 4, 3) := by decide +kernel
theorem dL_law_606 : decode code 606 = .ok (.iconst 0, 1) := by decide +kernel
theorem dL_law_607 : decode code 607 = .ok (.aload_n 0, 1) := by decide +kernel
theorem dL_law_608 : decode code 608 = .ok (.iload 4, 2) := by decide +kernel
theorem dL_law_610 : decode code 610 = .ok (.iconst 4, 1) := by decide +kernel
theorem dL_law_611 : decode code 611 = .ok (.iadd, 1) := by decide +kernel
theorem dL_law_612 : decode code 612 = .ok (.iaload, 1) := by decide +kernel
theorem dL_law_613 : decode code 613 = .ok (.ifCond .eq 7, 3) := by decide +kernel
theorem dL_law_616 : decode code 616 = .ok (.iconst 1, 1) := by decide +kernel
theorem dL_law_617 : decode code 617 = .ok (.goto 4, 3) := by decide +kernel
theorem dL_law_620 : decode code 620 = .ok (.iconst 0, 1) := by decide +kernel
theorem dL_law_621 : decode code 621 = .ok (.aload_n 3, 1) := by decide +kernel
theorem dL_law_622 : decode code 622 = .ok (.invokestatic 130, 3) := by decide +kernel
theorem dL_law_625 : decode code 625 = .ok (.istore 5, 2) := by decide +kernel
theorem dL_law_627 : decode code 627 = .ok (.aload_n 2, 1) := by decide +kernel
theorem dL_law_628 : decode code 628 = .ok (.aload_n 0, 1) := by decide +kernel
theorem dL_law_629 : decode code 629 = .ok (.iload 4, 2) := by decide +kernel
theorem dL_law_631 : decode code 631 = .ok (.iconst 1, 1) := by decide +kernel
theorem dL_law_632 : decode code 632 = .ok (.iadd, 1) := by decide +kernel
theorem dL_law_633 : decode code 633 = .ok (.iaload, 1) := by decide +kernel
theorem dL_law_634 : decode code 634 = .ok (.aload_n 0, 1) := by decide +kernel
theorem dL_law_635 : decode code 635 = .ok (.iload 4, 2) := by decide +kernel
theorem dL_law_637 : decode code 637 = .ok (.iconst 2, 1) := by decide +kernel
theorem dL_law_638 : decode code 638 = .ok (.iadd, 1) := by decide +kernel
theorem dL_law_639 : decode code 639 = .ok (.iaload, 1) := by decide +kernel
theorem dL_law_640 : decode code 640 = .ok (.aload_n 0, 1) := by decide +kernel
theorem dL_law_641 : decode code 641 = .ok (.iload 4, 2) := by decide +kernel
theorem dL_law_643 : decode code 643 = .ok (.iconst 3, 1) := by decide +kernel
theorem dL_law_644 : decode code 644 = .ok (.iadd, 1) := by decide +kernel
theorem dL_law_645 : decode code 645 = .ok (.iaload, 1) := by decide +kernel
theorem dL_law_646 : decode code 646 = .ok (.ifCond .eq 7, 3) := by decide +kernel
theorem dL_law_649 : decode code 649 = .ok (.iconst 1, 1) := by decide +kernel
theorem dL_law_650 : decode code 650 = .ok (.goto 4, 3) := by decide +kernel
theorem dL_law_653 : decode code 653 = .ok (.iconst 0, 1) := by decide +kernel
theorem dL_law_654 : decode code 654 = .ok (.aload_n 0, 1) := by decide +kernel
theorem dL_law_655 : decode code 655 = .ok (.iload 4, 2) := by decide +kernel
theorem dL_law_657 : decode code 657 = .ok (.iconst 4, 1) := by decide +kernel
theorem dL_law_658 : decode code 658 = .ok (.iadd, 1) := by decide +kernel
theorem dL_law_659 : decode code 659 = .ok (.iaload, 1) := by decide +kernel
theorem dL_law_660 : decode code 660 = .ok (.ifCond .eq 7, 3) := by decide +kernel
theorem dL_law_663 : decode code 663 = .ok (.iconst 1, 1) := by decide +kernel
theorem dL_law_664 : decode code 664 = .ok (.goto 4, 3) := by decide +kernel
theorem dL_law_667 : decode code 667 = .ok (.iconst 0, 1) := by decide +kernel
theorem dL_law_668 : decode code 668 = .ok (.invokevirtual 133, 3) := by decide +kernel
theorem dL_law_671 : decode code 671 = .ok (.istore 6, 2) := by decide +kernel
theorem dL_law_673 : decode code 673 = .ok (.aload_n 2, 1) := by decide +kernel
theorem dL_law_674 : decode code 674 = .ok (.invokevirtual 112, 3) := by decide +kernel
theorem dL_law_677 : decode code 677 = .ok (.iload 5, 2) := by decide +kernel
theorem dL_law_679 : decode code 679 = .ok (.if_icmp .eq 5, 3) := by decide +kernel
theorem dL_law_682 : decode code 682 = .ok (.iconst 0, 1) := by decide +kernel
theorem dL_law_683 : decode code 683 = .ok (.ireturn, 1) := by decide +kernel
theorem dL_law_684 : decode code 684 = .ok (.iload 5, 2) := by decide +kernel
theorem dL_law_686 : decode code 686 = .ok (.ifCond .ne 15, 3) := by decide +kernel
theorem dL_law_689 : decode code 689 = .ok (.aload_n 3, 1) := by decide +kernel
theorem dL_law_690 : decode code 690 = .ok (.iconst 0, 1) := by decide +kernel
theorem dL_law_691 : decode code 691 = .ok (.laload, 1) := by decide +kernel
theorem dL_law_692 : decode code 692 = .ok (.iload 6, 2) := by decide +kernel
theorem dL_law_694 : decode code 694 = .ok (.i2l, 1) := by decide +kernel
theorem dL_law_695 : decode code 695 = .ok (.lcmp, 1) := by decide +kernel
theorem dL_law_696 : decode code 696 = .ok (.ifCond .eq 5, 3) := by decide +kernel
theorem dL_law_699 : decode code 699 = .ok (.iconst 0, 1) := by decide +kernel
theorem dL_law_700 : decode code 700 = .ok (.ireturn, 1) := by decide +kernel
theorem dL_law_701 : decode code 701 = .ok (.goto 1415, 3) := by decide +kernel
theorem dL_law_704 : decode code 704 = .ok (.aload_n 1, 1) := by decide +kernel
theorem dL_law_705 : decode code 705 = .ok (.aload_n 0, 1) := by decide +kernel
theorem dL_law_706 : decode code 706 = .ok (.iload 4, 2) := by decide +kernel
theorem dL_law_708 : decode code 708 = .ok (.iconst 1, 1) := by decide +kernel
theorem dL_law_709 : decode code 709 = .ok (.iadd, 1) := by decide +kernel
theorem dL_law_710 : decode code 710 = .ok (.iaload, 1) := by decide +kernel
theorem dL_law_711 : decode code 711 = .ok (.aload_n 0, 1) := by decide +kernel
theorem dL_law_712 : decode code 712 = .ok (.iload 4, 2) := by decide +kernel
theorem dL_law_714 : decode code 714 = .ok (.iconst 2, 1) := by decide +kernel
theorem dL_law_715 : decode code 715 = .ok (.iadd, 1) := by decide +kernel
theorem dL_law_716 : decode code 716 = .ok (.iaload, 1) := by decide +kernel
theorem dL_law_717 : decode code 717 = .ok (.aload_n 0, 1) := by decide +kernel
theorem dL_law_718 : decode code 718 = .ok (.iload 4, 2) := by decide +kernel
theorem dL_law_720 : decode code 720 = .ok (.iconst 3, 1) := by decide +kernel
theorem dL_law_721 : decode code 721 = .ok (.iadd, 1) := by decide +kernel
theorem dL_law_722 : decode code 722 = .ok (.iaload, 1) := by decide +kernel
theorem dL_law_723 : decode code 723 = .ok (.aload_n 0, 1) := by decide +kernel
theorem dL_law_724 : decode code 724 = .ok (.iload 4, 2) := by decide +kernel
theorem dL_law_726 : decode code 726 = .ok (.iconst 4, 1) := by decide +kernel
theorem dL_law_727 : decode code 727 = .ok (.iadd, 1) := by decide +kernel
theorem dL_law_728 : decode code 728 = .ok (.iaload, 1) := by decide +kernel
theorem dL_law_729 : decode code 729 = .ok (.aload_n 3, 1) := by decide +kernel
theorem dL_law_730 : decode code 730 = .ok (.invokestatic 134, 3) := by decide +kernel
theorem dL_law_733 : decode code 733 = .ok (.istore 5, 2) := by decide +kernel
theorem dL_law_735 : decode code 735 = .ok (.aload_n 2, 1) := by decide +kernel
theorem dL_law_736 : decode code 736 = .ok (.aload_n 0, 1) := by decide +kernel
theorem dL_law_737 : decode code 737 = .ok (.iload 4, 2) := by decide +kernel
theorem dL_law_739 : decode code 739 = .ok (.iconst 1, 1) := by decide +kernel
theorem dL_law_740 : decode code 740 = .ok (.iadd, 1) := by decide +kernel
theorem dL_law_741 : decode code 741 = .ok (.iaload, 1) := by decide +kernel
theorem dL_law_742 : decode code 742 = .ok (.aload_n 0, 1) := by decide +kernel
theorem dL_law_743 : decode code 743 = .ok (.iload 4, 2) := by decide +kernel
theorem dL_law_745 : decode code 745 = .ok (.iconst 2, 1) := by decide +kernel
theorem dL_law_746 : decode code 746 = .ok (.iadd, 1) := by decide +kernel
theorem dL_law_747 : decode code 747 = .ok (.iaload, 1) := by decide +kernel
theorem dL_law_748 : decode code 748 = .ok (.aload_n 0, 1) := by decide +kernel
theorem dL_law_749 : decode code 749 = .ok (.iload 4, 2) := by decide +kernel
theorem dL_law_751 : decode code 751 = .ok (.iconst 3, 1) := by decide +kernel
theorem dL_law_752 : decode code 752 = .ok (.iadd, 1) := by decide +kernel
theorem dL_law_753 : decode code 753 = .ok (.iaload, 1) := by decide +kernel
theorem dL_law_754 : decode code 754 = .ok (.aload_n 0, 1) := by decide +kernel
theorem dL_law_755 : decode code 755 = .ok (.iload 4, 2) := by decide +kernel
theorem dL_law_757 : decode code 757 = .ok (.iconst 4, 1) := by decide +kernel
theorem dL_law_758 : decode code 758 = .ok (.iadd, 1) := by decide +kernel
theorem dL_law_759 : decode code 759 = .ok (.iaload, 1) := by decide +kernel
theorem dL_law_760 : decode code 760 = .ok (.invokevirtual 137, 3) := by decide +kernel
theorem dL_law_763 : decode code 763 = .ok (.istore 6, 2) := by decide +kernel
theorem dL_law_765 : decode code 765 = .ok (.aload_n 2, 1) := by decide +kernel
theorem dL_law_766 : decode code 766 = .ok (.invokevirtual 112, 3) := by decide +kernel
theorem dL_law_769 : decode code 769 = .ok (.iload 5, 2) := by decide +kernel
theorem dL_law_771 : decode code 771 = .ok (.if_icmp .eq 5, 3) := by decide +kernel
theorem dL_law_774 : decode code 774 = .ok (.iconst 0, 1) := by decide +kernel
theorem dL_law_775 : decode code 775 = .ok (.ireturn, 1) := by decide +kernel
theorem dL_law_776 : decode code 776 = .ok (.iload 5, 2) := by decide +kernel
theorem dL_law_778 : decode code 778 = .ok (.ifCond .ne 15, 3) := by decide +kernel
theorem dL_law_781 : decode code 781 = .ok (.aload_n 3, 1) := by decide +kernel
theorem dL_law_782 : decode code 782 = .ok (.iconst 0, 1) := by decide +kernel
theorem dL_law_783 : decode code 783 = .ok (.laload, 1) := by decide +kernel
theorem dL_law_784 : decode code 784 = .ok (.iload 6, 2) := by decide +kernel
theorem dL_law_786 : decode code 786 = .ok (.i2l, 1) := by decide +kernel
theorem dL_law_787 : decode code 787 = .ok (.lcmp, 1) := by decide +kernel
theorem dL_law_788 : decode code 788 = .ok (.ifCond .eq 5, 3) := by decide +kernel
theorem dL_law_791 : decode code 791 = .ok (.iconst 0, 1) := by decide +kernel
theorem dL_law_792 : decode code 792 = .ok (.ireturn, 1) := by decide +kernel
theorem dL_law_793 : decode code 793 = .ok (.goto 1323, 3) := by decide +kernel
theorem dL_law_796 : decode code 796 = .ok (.aload_n 1, 1) := by decide +kernel
theorem dL_law_797 : decode code 797 = .ok (.aload_n 0, 1) := by decide +kernel
theorem dL_law_798 : decode code 798 = .ok (.iload 4, 2) := by decide +kernel
theorem dL_law_800 : decode code 800 = .ok (.iconst 1, 1) := by decide +kernel
theorem dL_law_801 : decode code 801 = .ok (.iadd, 1) := by decide +kernel
theorem dL_law_802 : decode code 802 = .ok (.iaload, 1) := by decide +kernel
theorem dL_law_803 : decode code 803 = .ok (.aload_n 0, 1) := by decide +kernel
theorem dL_law_804 : decode code 804 = .ok (.iload 4, 2) := by decide +kernel
theorem dL_law_806 : decode code 806 = .ok (.iconst 2, 1) := by decide +kernel
theorem dL_law_807 : decode code 807 = .ok (.iadd, 1) := by decide +kernel
theorem dL_law_808 : decode code 808 = .ok (.iaload, 1) := by decide +kernel
theorem dL_law_809 : decode code 809 = .ok (.aload_n 3, 1) := by decide +kernel
theorem dL_law_810 : decode code 810 = .ok (.invokestatic 138, 3) := by decide +kernel
theorem dL_law_813 : decode code 813 = .ok (.istore 5, 2) := by decide +kernel
theorem dL_law_815 : decode code 815 = .ok (.aload_n 2, 1) := by decide +kernel
theorem dL_law_816 : decode code 816 = .ok (.aload_n 0, 1) := by decide +kernel
theorem dL_law_817 : decode code 817 = .ok (.iload 4, 2) := by decide +kernel
theorem dL_law_819 : decode code 819 = .ok (.iconst 1, 1) := by decide +kernel
theorem dL_law_820 : decode code 820 = .ok (.iadd, 1) := by decide +kernel
theorem dL_law_821 : decode code 821 = .ok (.iaload, 1) := by decide +kernel
theorem dL_law_822 : decode code 822 = .ok (.aload_n 0, 1) := by decide +kernel
theorem dL_law_823 : decode code 823 = .ok (.iload 4, 2) := by decide +kernel
theorem dL_law_825 : decode code 825 = .ok (.iconst 2, 1) := by decide +kernel
theorem dL_law_826 : decode code 826 = .ok (.iadd, 1) := by decide +kernel
theorem dL_law_827 : decode code 827 = .ok (.iaload, 1) := by decide +kernel
theorem dL_law_828 : decode code 828 = .ok (.invokevirtual 140, 3) := by decide +kernel
theorem dL_law_831 : decode code 831 = .ok (.istore 6, 2) := by decide +kernel
theorem dL_law_833 : decode code 833 = .ok (.aload_n 2, 1) := by decide +kernel
theorem dL_law_834 : decode code 834 = .ok (.invokevirtual 112, 3) := by decide +kernel
theorem dL_law_837 : decode code 837 = .ok (.iload 5, 2) := by decide +kernel
theorem dL_law_839 : decode code 839 = .ok (.if_icmp .eq 5, 3) := by decide +kernel
theorem dL_law_842 : decode code 842 = .ok (.iconst 0, 1) := by decide +kernel
theorem dL_law_843 : decode code 843 = .ok (.ireturn, 1) := by decide +kernel
theorem dL_law_844 : decode code 844 = .ok (.iload 5, 2) := by decide +kernel
theorem dL_law_846 : decode code 846 = .ok (.ifCond .ne 15, 3) := by decide +kernel
theorem dL_law_849 : decode code 849 = .ok (.aload_n 3, 1) := by decide +kernel
theorem dL_law_850 : decode code 850 = .ok (.iconst 0, 1) := by decide +kernel
theorem dL_law_851 : decode code 851 = .ok (.laload, 1) := by decide +kernel
theorem dL_law_852 : decode code 852 = .ok (.iload 6, 2) := by decide +kernel
theorem dL_law_854 : decode code 854 = .ok (.i2l, 1) := by decide +kernel
theorem dL_law_855 : decode code 855 = .ok (.lcmp, 1) := by decide +kernel
theorem dL_law_856 : decode code 856 = .ok (.ifCond .eq 5, 3) := by decide +kernel
theorem dL_law_859 : decode code 859 = .ok (.iconst 0, 1) := by decide +kernel
theorem dL_law_860 : decode code 860 = .ok (.ireturn, 1) := by decide +kernel
theorem dL_law_861 : decode code 861 = .ok (.goto 1255, 3) := by decide +kernel
theorem dL_law_864 : decode code 864 = .ok (.aload_n 1, 1) := by decide +kernel
theorem dL_law_865 : decode code 865 = .ok (.invokevirtual 141, 3) := by decide +kernel
theorem dL_law_868 : decode code 868 = .ok (.aload_n 2, 1) := by decide +kernel
theorem dL_law_869 : decode code 869 = .ok (.invokevirtual 144, 3) := by decide +kernel
theorem dL_law_872 : decode code 872 = .ok (.if_icmp .eq 1244, 3) := by decide +kernel
theorem dL_law_875 : decode code 875 = .ok (.iconst 0, 1) := by decide +kernel
theorem dL_law_876 : decode code 876 = .ok (.ireturn, 1) := by decide +kernel
theorem dL_law_877 : decode code 877 = .ok (.aload_n 1, 1) := by decide +kernel
theorem dL_law_878 : decode code 878 = .ok (.aload_n 0, 1) := by decide +kernel
theorem dL_law_879 : decode code 879 = .ok (.iload 4, 2) := by decide +kernel
theorem dL_law_881 : decode code 881 = .ok (.iconst 1, 1) := by decide +kernel
theorem dL_law_882 : decode code 882 = .ok (.iadd, 1) := by decide +kernel
theorem dL_law_883 : decode code 883 = .ok (.iaload, 1) := by decide +kernel
theorem dL_law_884 : decode code 884 = .ok (.aload_n 0, 1) := by decide +kernel
theorem dL_law_885 : decode code 885 = .ok (.iload 4, 2) := by decide +kernel
theorem dL_law_887 : decode code 887 = .ok (.iconst 2, 1) := by decide +kernel
theorem dL_law_888 : decode code 888 = .ok (.iadd, 1) := by decide +kernel
theorem dL_law_889 : decode code 889 = .ok (.iaload, 1) := by decide +kernel
theorem dL_law_890 : decode code 890 = .ok (.aload_n 3, 1) := by decide +kernel
theorem dL_law_891 : decode code 891 = .ok (.invokestatic 145, 3) := by decide +kernel
theorem dL_law_894 : decode code 894 = .ok (.istore 5, 2) := by decide +kernel
theorem dL_law_896 : decode code 896 = .ok (.aload_n 2, 1) := by decide +kernel
theorem dL_law_897 : decode code 897 = .ok (.aload_n 0, 1) := by decide +kernel
theorem dL_law_898 : decode code 898 = .ok (.iload 4, 2) := by decide +kernel
theorem dL_law_900 : decode code 900 = .ok (.iconst 1, 1) := by decide +kernel
theorem dL_law_901 : decode code 901 = .ok (.iadd, 1) := by decide +kernel
theorem dL_law_902 : decode code 902 = .ok (.iaload, 1) := by decide +kernel
theorem dL_law_903 : decode code 903 = .ok (.aload_n 0, 1) := by decide +kernel
theorem dL_law_904 : decode code 904 = .ok (.iload 4, 2) := by decide +kernel
theorem dL_law_906 : decode code 906 = .ok (.iconst 2, 1) := by decide +kernel
theorem dL_law_907 : decode code 907 = .ok (.iadd, 1) := by decide +kernel
theorem dL_law_908 : decode code 908 = .ok (.iaload, 1) := by decide +kernel
theorem dL_law_909 : decode code 909 = .ok (.invokevirtual 147, 3) := by decide +kernel
theorem dL_law_912 : decode code 912 = .ok (.istore 6, 2) := by decide +kernel
theorem dL_law_914 : decode code 914 = .ok (.aload_n 2, 1) := by decide +kernel
theorem dL_law_915 : decode code 915 = .ok (.invokevirtual 112, 3) := by decide +kernel
theorem dL_law_918 : decode code 918 = .ok (.iload 5, 2) := by decide +kernel
theorem dL_law_920 : decode code 920 = .ok (.if_icmp .eq 5, 3) := by decide +kernel
theorem dL_law_923 : decode code 923 = .ok (.iconst 0, 1) := by decide +kernel
theorem dL_law_924 : decode code 924 = .ok (.ireturn, 1) := by decide +kernel
theorem dL_law_925 : decode code 925 = .ok (.iload 5, 2) := by decide +kernel
theorem dL_law_927 : decode code 927 = .ok (.ifCond .ne 15, 3) := by decide +kernel
theorem dL_law_930 : decode code 930 = .ok (.aload_n 3, 1) := by decide +kernel
theorem dL_law_931 : decode code 931 = .ok (.iconst 0, 1) := by decide +kernel
theorem dL_law_932 : decode code 932 = .ok (.laload, 1) := by decide +kernel
theorem dL_law_933 : decode code 933 = .ok (.iload 6, 2) := by decide +kernel
theorem dL_law_935 : decode code 935 = .ok (.i2l, 1) := by decide +kernel
theorem dL_law_936 : decode code 936 = .ok (.lcmp, 1) := by decide +kernel
theorem dL_law_937 : decode code 937 = .ok (.ifCond .eq 5, 3) := by decide +kernel
theorem dL_law_940 : decode code 940 = .ok (.iconst 0, 1) := by decide +kernel
theorem dL_law_941 : decode code 941 = .ok (.ireturn, 1) := by decide +kernel
theorem dL_law_942 : decode code 942 = .ok (.goto 1174, 3) := by decide +kernel
theorem dL_law_945 : decode code 945 = .ok (.aload_n 1, 1) := by decide +kernel
theorem dL_law_946 : decode code 946 = .ok (.aload_n 0, 1) := by decide +kernel
theorem dL_law_947 : decode code 947 = .ok (.iload 4, 2) := by decide +kernel
theorem dL_law_949 : decode code 949 = .ok (.iconst 1, 1) := by decide +kernel
theorem dL_law_950 : decode code 950 = .ok (.iadd, 1) := by decide +kernel
theorem dL_law_951 : decode code 951 = .ok (.iaload, 1) := by decide +kernel
theorem dL_law_952 : decode code 952 = .ok (.aload_n 0, 1) := by decide +kernel
theorem dL_law_953 : decode code 953 = .ok (.iload 4, 2) := by decide +kernel
theorem dL_law_955 : decode code 955 = .ok (.iconst 2, 1) := by decide +kernel
theorem dL_law_956 : decode code 956 = .ok (.iadd, 1) := by decide +kernel
theorem dL_law_957 : decode code 957 = .ok (.iaload, 1) := by decide +kernel
theorem dL_law_958 : decode code 958 = .ok (.aload_n 3, 1) := by decide +kernel
theorem dL_law_959 : decode code 959 = .ok (.invokestatic 148, 3) := by decide +kernel
theorem dL_law_962 : decode code 962 = .ok (.istore 5, 2) := by decide +kernel
theorem dL_law_964 : decode code 964 = .ok (.aload_n 2, 1) := by decide +kernel
theorem dL_law_965 : decode code 965 = .ok (.aload_n 0, 1) := by decide +kernel
theorem dL_law_966 : decode code 966 = .ok (.iload 4, 2) := by decide +kernel
theorem dL_law_968 : decode code 968 = .ok (.iconst 1, 1) := by decide +kernel
theorem dL_law_969 : decode code 969 = .ok (.iadd, 1) := by decide +kernel
theorem dL_law_970 : decode code 970 = .ok (.iaload, 1) := by decide +kernel
theorem dL_law_971 : decode code 971 = .ok (.aload_n 0, 1) := by decide +kernel
theorem dL_law_972 : decode code 972 = .ok (.iload 4, 2) := by decide +kernel
theorem dL_law_974 : decode code 974 = .ok (.iconst 2, 1) := by decide +kernel
theorem dL_law_975 : decode code 975 = .ok (.iadd, 1) := by decide +kernel
theorem dL_law_976 : decode code 976 = .ok (.iaload, 1) := by decide +kernel
theorem dL_law_977 : decode code 977 = .ok (.invokevirtual 150, 3) := by decide +kernel
theorem dL_law_980 : decode code 980 = .ok (.istore 6, 2) := by decide +kernel
theorem dL_law_982 : decode code 982 = .ok (.aload_n 2, 1) := by decide +kernel
theorem dL_law_983 : decode code 983 = .ok (.invokevirtual 112, 3) := by decide +kernel
theorem dL_law_986 : decode code 986 = .ok (.iload 5, 2) := by decide +kernel
theorem dL_law_988 : decode code 988 = .ok (.if_icmp .eq 5, 3) := by decide +kernel
theorem dL_law_991 : decode code 991 = .ok (.iconst 0, 1) := by decide +kernel
theorem dL_law_992 : decode code 992 = .ok (.ireturn, 1) := by decide +kernel
theorem dL_law_993 : decode code 993 = .ok (.iload 5, 2) := by decide +kernel
theorem dL_law_995 : decode code 995 = .ok (.ifCond .ne 15, 3) := by decide +kernel
theorem dL_law_998 : decode code 998 = .ok (.aload_n 3, 1) := by decide +kernel
theorem dL_law_999 : decode code 999 = .ok (.iconst 0, 1) := by decide +kernel
theorem dL_law_1000 : decode code 1000 = .ok (.laload, 1) := by decide +kernel
theorem dL_law_1001 : decode code 1001 = .ok (.iload 6, 2) := by decide +kernel
theorem dL_law_1003 : decode code 1003 = .ok (.i2l, 1) := by decide +kernel
theorem dL_law_1004 : decode code 1004 = .ok (.lcmp, 1) := by decide +kernel
theorem dL_law_1005 : decode code 1005 = .ok (.ifCond .eq 5, 3) := by decide +kernel
theorem dL_law_1008 : decode code 1008 = .ok (.iconst 0, 1) := by decide +kernel
theorem dL_law_1009 : decode code 1009 = .ok (.ireturn, 1) := by decide +kernel
theorem dL_law_1010 : decode code 1010 = .ok (.goto 1106, 3) := by decide +kernel
theorem dL_law_1013 : decode code 1013 = .ok (.aload_n 1, 1) := by decide +kernel
theorem dL_law_1014 : decode code 1014 = .ok (.aload_n 0, 1) := by decide +kernel
theorem dL_law_1015 : decode code 1015 = .ok (.iload 4, 2) := by decide +kernel
theorem dL_law_1017 : decode code 1017 = .ok (.iconst 1, 1) := by decide +kernel
theorem dL_law_1018 : decode code 1018 = .ok (.iadd, 1) := by decide +kernel
theorem dL_law_1019 : decode code 1019 = .ok (.iaload, 1) := by decide +kernel
theorem dL_law_1020 : decode code 1020 = .ok (.aload_n 0, 1) := by decide +kernel
theorem dL_law_1021 : decode code 1021 = .ok (.iload 4, 2) := by decide +kernel
theorem dL_law_1023 : decode code 1023 = .ok (.iconst 2, 1) := by decide +kernel
theorem dL_law_1024 : decode code 1024 = .ok (.iadd, 1) := by decide +kernel
theorem dL_law_1025 : decode code 1025 = .ok (.iaload, 1) := by decide +kernel
theorem dL_law_1026 : decode code 1026 = .ok (.ifCond .eq 7, 3) := by decide +kernel
theorem dL_law_1029 : decode code 1029 = .ok (.iconst 1, 1) := by decide +kernel
theorem dL_law_1030 : decode code 1030 = .ok (.goto 4, 3) := by decide +kernel
theorem dL_law_1033 : decode code 1033 = .ok (.iconst 0, 1) := by decide +kernel
theorem dL_law_1034 : decode code 1034 = .ok (.aload_n 3, 1) := by decide +kernel
theorem dL_law_1035 : decode code 1035 = .ok (.invokestatic 151, 3) := by decide +kernel
theorem dL_law_1038 : decode code 1038 = .ok (.istore 5, 2) := by decide +kernel
theorem dL_law_1040 : decode code 1040 = .ok (.aload_n 2, 1) := by decide +kernel
theorem dL_law_1041 : decode code 1041 = .ok (.aload_n 0, 1) := by decide +kernel
theorem dL_law_1042 : decode code 1042 = .ok (.iload 4, 2) := by decide +kernel
theorem dL_law_1044 : decode code 1044 = .ok (.iconst 1, 1) := by decide +kernel
theorem dL_law_1045 : decode code 1045 = .ok (.iadd, 1) := by decide +kernel
theorem dL_law_1046 : decode code 1046 = .ok (.iaload, 1) := by decide +kernel
theorem dL_law_1047 : decode code 1047 = .ok (.aload_n 0, 1) := by decide +kernel
theorem dL_law_1048 : decode code 1048 = .ok (.iload 4, 2) := by decide +kernel
theorem dL_law_1050 : decode code 1050 = .ok (.iconst 2, 1) := by decide +kernel
theorem dL_law_1051 : decode code 1051 = .ok (.iadd, 1) := by decide +kernel
theorem dL_law_1052 : decode code 1052 = .ok (.iaload, 1) := by decide +kernel
theorem dL_law_1053 : decode code 1053 = .ok (.ifCond .eq 7, 3) := by decide +kernel
theorem dL_law_1056 : decode code 1056 = .ok (.iconst 1, 1) := by decide +kernel
theorem dL_law_1057 : decode code 1057 = .ok (.goto 4, 3) := by decide +kernel
theorem dL_law_1060 : decode code 1060 = .ok (.iconst 0, 1) := by decide +kernel
theorem dL_law_1061 : decode code 1061 = .ok (.invokevirtual 154, 3) := by decide +kernel
theorem dL_law_1064 : decode code 1064 = .ok (.istore 6, 2) := by decide +kernel
theorem dL_law_1066 : decode code 1066 = .ok (.aload_n 2, 1) := by decide +kernel
theorem dL_law_1067 : decode code 1067 = .ok (.invokevirtual 112, 3) := by decide +kernel
theorem dL_law_1070 : decode code 1070 = .ok (.iload 5, 2) := by decide +kernel
theorem dL_law_1072 : decode code 1072 = .ok (.if_icmp .eq 5, 3) := by decide +kernel
theorem dL_law_1075 : decode code 1075 = .ok (.iconst 0, 1) := by decide +kernel
theorem dL_law_1076 : decode code 1076 = .ok (.ireturn, 1) := by decide +kernel
theorem dL_law_1077 : decode code 1077 = .ok (.iload 5, 2) := by decide +kernel
theorem dL_law_1079 : decode code 1079 = .ok (.ifCond .ne 15, 3) := by decide +kernel
theorem dL_law_1082 : decode code 1082 = .ok (.aload_n 3, 1) := by decide +kernel
theorem dL_law_1083 : decode code 1083 = .ok (.iconst 0, 1) := by decide +kernel
theorem dL_law_1084 : decode code 1084 = .ok (.laload, 1) := by decide +kernel
theorem dL_law_1085 : decode code 1085 = .ok (.iload 6, 2) := by decide +kernel
theorem dL_law_1087 : decode code 1087 = .ok (.i2l, 1) := by decide +kernel
theorem dL_law_1088 : decode code 1088 = .ok (.lcmp, 1) := by decide +kernel
theorem dL_law_1089 : decode code 1089 = .ok (.ifCond .eq 5, 3) := by decide +kernel
theorem dL_law_1092 : decode code 1092 = .ok (.iconst 0, 1) := by decide +kernel
theorem dL_law_1093 : decode code 1093 = .ok (.ireturn, 1) := by decide +kernel
theorem dL_law_1094 : decode code 1094 = .ok (.goto 1022, 3) := by decide +kernel
theorem dL_law_1097 : decode code 1097 = .ok (.aload_n 1, 1) := by decide +kernel
theorem dL_law_1098 : decode code 1098 = .ok (.aload_n 0, 1) := by decide +kernel
theorem dL_law_1099 : decode code 1099 = .ok (.iload 4, 2) := by decide +kernel
theorem dL_law_1101 : decode code 1101 = .ok (.iconst 1, 1) := by decide +kernel
theorem dL_law_1102 : decode code 1102 = .ok (.iadd, 1) := by decide +kernel
theorem dL_law_1103 : decode code 1103 = .ok (.iaload, 1) := by decide +kernel
theorem dL_law_1104 : decode code 1104 = .ok (.aload_n 0, 1) := by decide +kernel
theorem dL_law_1105 : decode code 1105 = .ok (.iload 4, 2) := by decide +kernel
theorem dL_law_1107 : decode code 1107 = .ok (.iconst 2, 1) := by decide +kernel
theorem dL_law_1108 : decode code 1108 = .ok (.iadd, 1) := by decide +kernel
theorem dL_law_1109 : decode code 1109 = .ok (.iaload, 1) := by decide +kernel
theorem dL_law_1110 : decode code 1110 = .ok (.aload_n 3, 1) := by decide +kernel
theorem dL_law_1111 : decode code 1111 = .ok (.invokestatic 155, 3) := by decide +kernel
theorem dL_law_1114 : decode code 1114 = .ok (.istore 5, 2) := by decide +kernel
theorem dL_law_1116 : decode code 1116 = .ok (.aload_n 2, 1) := by decide +kernel
theorem dL_law_1117 : decode code 1117 = .ok (.aload_n 0, 1) := by decide +kernel
theorem dL_law_1118 : decode code 1118 = .ok (.iload 4, 2) := by decide +kernel
theorem dL_law_1120 : decode code 1120 = .ok (.iconst 1, 1) := by decide +kernel
theorem dL_law_1121 : decode code 1121 = .ok (.iadd, 1) := by decide +kernel
theorem dL_law_1122 : decode code 1122 = .ok (.iaload, 1) := by decide +kernel
theorem dL_law_1123 : decode code 1123 = .ok (.aload_n 0, 1) := by decide +kernel
theorem dL_law_1124 : decode code 1124 = .ok (.iload 4, 2) := by decide +kernel
theorem dL_law_1126 : decode code 1126 = .ok (.iconst 2, 1) := by decide +kernel
theorem dL_law_1127 : decode code 1127 = .ok (.iadd, 1) := by decide +kernel
theorem dL_law_1128 : decode code 1128 = .ok (.iaload, 1) := by decide +kernel
theorem dL_law_1129 : decode code 1129 = .ok (.invokevirtual 157, 3) := by decide +kernel
theorem dL_law_1132 : decode code 1132 = .ok (.istore 6, 2) := by decide +kernel
theorem dL_law_1134 : decode code 1134 = .ok (.aload_n 2, 1) := by decide +kernel
theorem dL_law_1135 : decode code 1135 = .ok (.invokevirtual 112, 3) := by decide +kernel
theorem dL_law_1138 : decode code 1138 = .ok (.iload 5, 2) := by decide +kernel
theorem dL_law_1140 : decode code 1140 = .ok (.if_icmp .eq 5, 3) := by decide +kernel
theorem dL_law_1143 : decode code 1143 = .ok (.iconst 0, 1) := by decide +kernel
theorem dL_law_1144 : decode code 1144 = .ok (.ireturn, 1) := by decide +kernel
theorem dL_law_1145 : decode code 1145 = .ok (.iload 5, 2) := by decide +kernel
theorem dL_law_1147 : decode code 1147 = .ok (.ifCond .ne 15, 3) := by decide +kernel
theorem dL_law_1150 : decode code 1150 = .ok (.aload_n 3, 1) := by decide +kernel
theorem dL_law_1151 : decode code 1151 = .ok (.iconst 0, 1) := by decide +kernel
theorem dL_law_1152 : decode code 1152 = .ok (.laload, 1) := by decide +kernel
theorem dL_law_1153 : decode code 1153 = .ok (.iload 6, 2) := by decide +kernel
theorem dL_law_1155 : decode code 1155 = .ok (.i2l, 1) := by decide +kernel
theorem dL_law_1156 : decode code 1156 = .ok (.lcmp, 1) := by decide +kernel
theorem dL_law_1157 : decode code 1157 = .ok (.ifCond .eq 5, 3) := by decide +kernel
theorem dL_law_1160 : decode code 1160 = .ok (.iconst 0, 1) := by decide +kernel
theorem dL_law_1161 : decode code 1161 = .ok (.ireturn, 1) := by decide +kernel
theorem dL_law_1162 : decode code 1162 = .ok (.goto 954, 3) := by decide +kernel
theorem dL_law_1165 : decode code 1165 = .ok (.aload_n 1, 1) := by decide +kernel
theorem dL_law_1166 : decode code 1166 = .ok (.aload_n 0, 1) := by decide +kernel
theorem dL_law_1167 : decode code 1167 = .ok (.iload 4, 2) := by decide +kernel
theorem dL_law_1169 : decode code 1169 = .ok (.iconst 1, 1) := by decide +kernel
theorem dL_law_1170 : decode code 1170 = .ok (.iadd, 1) := by decide +kernel
theorem dL_law_1171 : decode code 1171 = .ok (.iaload, 1) := by decide +kernel
theorem dL_law_1172 : decode code 1172 = .ok (.aload_n 0, 1) := by decide +kernel
theorem dL_law_1173 : decode code 1173 = .ok (.iload 4, 2) := by decide +kernel
theorem dL_law_1175 : decode code 1175 = .ok (.iconst 2, 1) := by decide +kernel
theorem dL_law_1176 : decode code 1176 = .ok (.iadd, 1) := by decide +kernel
theorem dL_law_1177 : decode code 1177 = .ok (.iaload, 1) := by decide +kernel
theorem dL_law_1178 : decode code 1178 = .ok (.aload_n 3, 1) := by decide +kernel
theorem dL_law_1179 : decode code 1179 = .ok (.invokestatic 158, 3) := by decide +kernel
theorem dL_law_1182 : decode code 1182 = .ok (.istore 5, 2) := by decide +kernel
theorem dL_law_1184 : decode code 1184 = .ok (.aload_n 2, 1) := by decide +kernel
theorem dL_law_1185 : decode code 1185 = .ok (.aload_n 0, 1) := by decide +kernel
theorem dL_law_1186 : decode code 1186 = .ok (.iload 4, 2) := by decide +kernel
theorem dL_law_1188 : decode code 1188 = .ok (.iconst 1, 1) := by decide +kernel
theorem dL_law_1189 : decode code 1189 = .ok (.iadd, 1) := by decide +kernel
theorem dL_law_1190 : decode code 1190 = .ok (.iaload, 1) := by decide +kernel
theorem dL_law_1191 : decode code 1191 = .ok (.aload_n 0, 1) := by decide +kernel
theorem dL_law_1192 : decode code 1192 = .ok (.iload 4, 2) := by decide +kernel
theorem dL_law_1194 : decode code 1194 = .ok (.iconst 2, 1) := by decide +kernel
theorem dL_law_1195 : decode code 1195 = .ok (.iadd, 1) := by decide +kernel
theorem dL_law_1196 : decode code 1196 = .ok (.iaload, 1) := by decide +kernel
theorem dL_law_1197 : decode code 1197 = .ok (.invokevirtual 160, 3) := by decide +kernel
theorem dL_law_1200 : decode code 1200 = .ok (.istore 6, 2) := by decide +kernel
theorem dL_law_1202 : decode code 1202 = .ok (.aload_n 2, 1) := by decide +kernel
theorem dL_law_1203 : decode code 1203 = .ok (.invokevirtual 112, 3) := by decide +kernel
theorem dL_law_1206 : decode code 1206 = .ok (.iload 5, 2) := by decide +kernel
theorem dL_law_1208 : decode code 1208 = .ok (.if_icmp .eq 5, 3) := by decide +kernel
theorem dL_law_1211 : decode code 1211 = .ok (.iconst 0, 1) := by decide +kernel
theorem dL_law_1212 : decode code 1212 = .ok (.ireturn, 1) := by decide +kernel
theorem dL_law_1213 : decode code 1213 = .ok (.iload 5, 2) := by decide +kernel
theorem dL_law_1215 : decode code 1215 = .ok (.ifCond .ne 15, 3) := by decide +kernel
theorem dL_law_1218 : decode code 1218 = .ok (.aload_n 3, 1) := by decide +kernel
theorem dL_law_1219 : decode code 1219 = .ok (.iconst 0, 1) := by decide +kernel
theorem dL_law_1220 : decode code 1220 = .ok (.laload, 1) := by decide +kernel
theorem dL_law_1221 : decode code 1221 = .ok (.iload 6, 2) := by decide +kernel
theorem dL_law_1223 : decode code 1223 = .ok (.i2l, 1) := by decide +kernel
theorem dL_law_1224 : decode code 1224 = .ok (.lcmp, 1) := by decide +kernel
theorem dL_law_1225 : decode code 1225 = .ok (.ifCond .eq 5, 3) := by decide +kernel
theorem dL_law_1228 : decode code 1228 = .ok (.iconst 0, 1) := by decide +kernel
theorem dL_law_1229 : decode code 1229 = .ok (.ireturn, 1) := by decide +kernel
theorem dL_law_1230 : decode code 1230 = .ok (.goto 886, 3) := by decide +kernel
theorem dL_law_1233 : decode code 1233 = .ok (.aload_n 1, 1) := by decide +kernel
theorem dL_law_1234 : decode code 1234 = .ok (.aload_n 0, 1) := by decide +kernel
theorem dL_law_1235 : decode code 1235 = .ok (.iload 4, 2) := by decide +kernel
theorem dL_law_1237 : decode code 1237 = .ok (.iconst 1, 1) := by decide +kernel
theorem dL_law_1238 : decode code 1238 = .ok (.iadd, 1) := by decide +kernel
theorem dL_law_1239 : decode code 1239 = .ok (.iaload, 1) := by decide +kernel
theorem dL_law_1240 : decode code 1240 = .ok (.aload_n 0, 1) := by decide +kernel
theorem dL_law_1241 : decode code 1241 = .ok (.iload 4, 2) := by decide +kernel
theorem dL_law_1243 : decode code 1243 = .ok (.iconst 2, 1) := by decide +kernel
theorem dL_law_1244 : decode code 1244 = .ok (.iadd, 1) := by decide +kernel
theorem dL_law_1245 : decode code 1245 = .ok (.iaload, 1) := by decide +kernel
theorem dL_law_1246 : decode code 1246 = .ok (.aload_n 3, 1) := by decide +kernel
theorem dL_law_1247 : decode code 1247 = .ok (.invokestatic 161, 3) := by decide +kernel
theorem dL_law_1250 : decode code 1250 = .ok (.istore 5, 2) := by decide +kernel
theorem dL_law_1252 : decode code 1252 = .ok (.aload_n 2, 1) := by decide +kernel
theorem dL_law_1253 : decode code 1253 = .ok (.aload_n 0, 1) := by decide +kernel
theorem dL_law_1254 : decode code 1254 = .ok (.iload 4, 2) := by decide +kernel
theorem dL_law_1256 : decode code 1256 = .ok (.iconst 1, 1) := by decide +kernel
theorem dL_law_1257 : decode code 1257 = .ok (.iadd, 1) := by decide +kernel
theorem dL_law_1258 : decode code 1258 = .ok (.iaload, 1) := by decide +kernel
theorem dL_law_1259 : decode code 1259 = .ok (.aload_n 0, 1) := by decide +kernel
theorem dL_law_1260 : decode code 1260 = .ok (.iload 4, 2) := by decide +kernel
theorem dL_law_1262 : decode code 1262 = .ok (.iconst 2, 1) := by decide +kernel
theorem dL_law_1263 : decode code 1263 = .ok (.iadd, 1) := by decide +kernel
theorem dL_law_1264 : decode code 1264 = .ok (.iaload, 1) := by decide +kernel
theorem dL_law_1265 : decode code 1265 = .ok (.invokevirtual 163, 3) := by decide +kernel
theorem dL_law_1268 : decode code 1268 = .ok (.istore 6, 2) := by decide +kernel
theorem dL_law_1270 : decode code 1270 = .ok (.aload_n 2, 1) := by decide +kernel
theorem dL_law_1271 : decode code 1271 = .ok (.invokevirtual 112, 3) := by decide +kernel
theorem dL_law_1274 : decode code 1274 = .ok (.iload 5, 2) := by decide +kernel
theorem dL_law_1276 : decode code 1276 = .ok (.if_icmp .eq 5, 3) := by decide +kernel
theorem dL_law_1279 : decode code 1279 = .ok (.iconst 0, 1) := by decide +kernel
theorem dL_law_1280 : decode code 1280 = .ok (.ireturn, 1) := by decide +kernel
theorem dL_law_1281 : decode code 1281 = .ok (.iload 5, 2) := by decide +kernel
theorem dL_law_1283 : decode code 1283 = .ok (.ifCond .ne 15, 3) := by decide +kernel
theorem dL_law_1286 : decode code 1286 = .ok (.aload_n 3, 1) := by decide +kernel
theorem dL_law_1287 : decode code 1287 = .ok (.iconst 0, 1) := by decide +kernel
theorem dL_law_1288 : decode code 1288 = .ok (.laload, 1) := by decide +kernel
theorem dL_law_1289 : decode code 1289 = .ok (.iload 6, 2) := by decide +kernel
theorem dL_law_1291 : decode code 1291 = .ok (.i2l, 1) := by decide +kernel
theorem dL_law_1292 : decode code 1292 = .ok (.lcmp, 1) := by decide +kernel
theorem dL_law_1293 : decode code 1293 = .ok (.ifCond .eq 5, 3) := by decide +kernel
theorem dL_law_1296 : decode code 1296 = .ok (.iconst 0, 1) := by decide +kernel
theorem dL_law_1297 : decode code 1297 = .ok (.ireturn, 1) := by decide +kernel
theorem dL_law_1298 : decode code 1298 = .ok (.goto 818, 3) := by decide +kernel
theorem dL_law_1301 : decode code 1301 = .ok (.aload_n 1, 1) := by decide +kernel
theorem dL_law_1302 : decode code 1302 = .ok (.aload_n 0, 1) := by decide +kernel
theorem dL_law_1303 : decode code 1303 = .ok (.iload 4, 2) := by decide +kernel
theorem dL_law_1305 : decode code 1305 = .ok (.iconst 1, 1) := by decide +kernel
theorem dL_law_1306 : decode code 1306 = .ok (.iadd, 1) := by decide +kernel
theorem dL_law_1307 : decode code 1307 = .ok (.iaload, 1) := by decide +kernel
theorem dL_law_1308 : decode code 1308 = .ok (.aload_n 3, 1) := by decide +kernel
theorem dL_law_1309 : decode code 1309 = .ok (.invokestatic 164, 3) := by decide +kernel
theorem dL_law_1312 : decode code 1312 = .ok (.istore 5, 2) := by decide +kernel
theorem dL_law_1314 : decode code 1314 = .ok (.aload_n 2, 1) := by decide +kernel
theorem dL_law_1315 : decode code 1315 = .ok (.aload_n 0, 1) := by decide +kernel
theorem dL_law_1316 : decode code 1316 = .ok (.iload 4, 2) := by decide +kernel
theorem dL_law_1318 : decode code 1318 = .ok (.iconst 1, 1) := by decide +kernel
theorem dL_law_1319 : decode code 1319 = .ok (.iadd, 1) := by decide +kernel
theorem dL_law_1320 : decode code 1320 = .ok (.iaload, 1) := by decide +kernel
theorem dL_law_1321 : decode code 1321 = .ok (.invokevirtual 167, 3) := by decide +kernel
theorem dL_law_1324 : decode code 1324 = .ok (.istore 6, 2) := by decide +kernel
theorem dL_law_1326 : decode code 1326 = .ok (.aload_n 2, 1) := by decide +kernel
theorem dL_law_1327 : decode code 1327 = .ok (.invokevirtual 112, 3) := by decide +kernel
theorem dL_law_1330 : decode code 1330 = .ok (.iload 5, 2) := by decide +kernel
theorem dL_law_1332 : decode code 1332 = .ok (.if_icmp .eq 5, 3) := by decide +kernel
theorem dL_law_1335 : decode code 1335 = .ok (.iconst 0, 1) := by decide +kernel
theorem dL_law_1336 : decode code 1336 = .ok (.ireturn, 1) := by decide +kernel
theorem dL_law_1337 : decode code 1337 = .ok (.iload 5, 2) := by decide +kernel
theorem dL_law_1339 : decode code 1339 = .ok (.ifCond .ne 15, 3) := by decide +kernel
theorem dL_law_1342 : decode code 1342 = .ok (.aload_n 3, 1) := by decide +kernel
theorem dL_law_1343 : decode code 1343 = .ok (.iconst 0, 1) := by decide +kernel
theorem dL_law_1344 : decode code 1344 = .ok (.laload, 1) := by decide +kernel
theorem dL_law_1345 : decode code 1345 = .ok (.iload 6, 2) := by decide +kernel
theorem dL_law_1347 : decode code 1347 = .ok (.i2l, 1) := by decide +kernel
theorem dL_law_1348 : decode code 1348 = .ok (.lcmp, 1) := by decide +kernel
theorem dL_law_1349 : decode code 1349 = .ok (.ifCond .eq 5, 3) := by decide +kernel
theorem dL_law_1352 : decode code 1352 = .ok (.iconst 0, 1) := by decide +kernel
theorem dL_law_1353 : decode code 1353 = .ok (.ireturn, 1) := by decide +kernel
theorem dL_law_1354 : decode code 1354 = .ok (.goto 762, 3) := by decide +kernel
theorem dL_law_1357 : decode code 1357 = .ok (.aload_n 1, 1) := by decide +kernel
theorem dL_law_1358 : decode code 1358 = .ok (.aload_n 0, 1) := by decide +kernel
theorem dL_law_1359 : decode code 1359 = .ok (.iload 4, 2) := by decide +kernel
theorem dL_law_1361 : decode code 1361 = .ok (.iconst 1, 1) := by decide +kernel
theorem dL_law_1362 : decode code 1362 = .ok (.iadd, 1) := by decide +kernel
theorem dL_law_1363 : decode code 1363 = .ok (.iaload, 1) := by decide +kernel
theorem dL_law_1364 : decode code 1364 = .ok (.aload_n 3, 1) := by decide +kernel
theorem dL_law_1365 : decode code 1365 = .ok (.invokestatic 168, 3) := by decide +kernel
theorem dL_law_1368 : decode code 1368 = .ok (.istore 5, 2) := by decide +kernel
theorem dL_law_1370 : decode code 1370 = .ok (.aload_n 2, 1) := by decide +kernel
theorem dL_law_1371 : decode code 1371 = .ok (.aload_n 0, 1) := by decide +kernel
theorem dL_law_1372 : decode code 1372 = .ok (.iload 4, 2) := by decide +kernel
theorem dL_law_1374 : decode code 1374 = .ok (.iconst 1, 1) := by decide +kernel
theorem dL_law_1375 : decode code 1375 = .ok (.iadd, 1) := by decide +kernel
theorem dL_law_1376 : decode code 1376 = .ok (.iaload, 1) := by decide +kernel
theorem dL_law_1377 : decode code 1377 = .ok (.invokevirtual 170, 3) := by decide +kernel
theorem dL_law_1380 : decode code 1380 = .ok (.istore 6, 2) := by decide +kernel
theorem dL_law_1382 : decode code 1382 = .ok (.aload_n 2, 1) := by decide +kernel
theorem dL_law_1383 : decode code 1383 = .ok (.invokevirtual 112, 3) := by decide +kernel
theorem dL_law_1386 : decode code 1386 = .ok (.iload 5, 2) := by decide +kernel
theorem dL_law_1388 : decode code 1388 = .ok (.if_icmp .eq 5, 3) := by decide +kernel
theorem dL_law_1391 : decode code 1391 = .ok (.iconst 0, 1) := by decide +kernel
theorem dL_law_1392 : decode code 1392 = .ok (.ireturn, 1) := by decide +kernel
theorem dL_law_1393 : decode code 1393 = .ok (.iload 5, 2) := by decide +kernel
theorem dL_law_1395 : decode code 1395 = .ok (.ifCond .ne 15, 3) := by decide +kernel
theorem dL_law_1398 : decode code 1398 = .ok (.aload_n 3, 1) := by decide +kernel
theorem dL_law_1399 : decode code 1399 = .ok (.iconst 0, 1) := by decide +kernel
theorem dL_law_1400 : decode code 1400 = .ok (.laload, 1) := by decide +kernel
theorem dL_law_1401 : decode code 1401 = .ok (.iload 6, 2) := by decide +kernel
theorem dL_law_1403 : decode code 1403 = .ok (.i2l, 1) := by decide +kernel
theorem dL_law_1404 : decode code 1404 = .ok (.lcmp, 1) := by decide +kernel
theorem dL_law_1405 : decode code 1405 = .ok (.ifCond .eq 5, 3) := by decide +kernel
theorem dL_law_1408 : decode code 1408 = .ok (.iconst 0, 1) := by decide +kernel
theorem dL_law_1409 : decode code 1409 = .ok (.ireturn, 1) := by decide +kernel
theorem dL_law_1410 : decode code 1410 = .ok (.goto 706, 3) := by decide +kernel
theorem dL_law_1413 : decode code 1413 = .ok (.aload_n 1, 1) := by decide +kernel
theorem dL_law_1414 : decode code 1414 = .ok (.aload_n 0, 1) := by decide +kernel
theorem dL_law_1415 : decode code 1415 = .ok (.iload 4, 2) := by decide +kernel
theorem dL_law_1417 : decode code 1417 = .ok (.iconst 1, 1) := by decide +kernel
theorem dL_law_1418 : decode code 1418 = .ok (.iadd, 1) := by decide +kernel
theorem dL_law_1419 : decode code 1419 = .ok (.iaload, 1) := by decide +kernel
theorem dL_law_1420 : decode code 1420 = .ok (.aload_n 0, 1) := by decide +kernel
theorem dL_law_1421 : decode code 1421 = .ok (.iload 4, 2) := by decide +kernel
theorem dL_law_1423 : decode code 1423 = .ok (.iconst 2, 1) := by decide +kernel
theorem dL_law_1424 : decode code 1424 = .ok (.iadd, 1) := by decide +kernel
theorem dL_law_1425 : decode code 1425 = .ok (.iaload, 1) := by decide +kernel
theorem dL_law_1426 : decode code 1426 = .ok (.ifCond .eq 7, 3) := by decide +kernel
theorem dL_law_1429 : decode code 1429 = .ok (.iconst 1, 1) := by decide +kernel
theorem dL_law_1430 : decode code 1430 = .ok (.goto 4, 3) := by decide +kernel
theorem dL_law_1433 : decode code 1433 = .ok (.iconst 0, 1) := by decide +kernel
theorem dL_law_1434 : decode code 1434 = .ok (.aload_n 3, 1) := by decide +kernel
theorem dL_law_1435 : decode code 1435 = .ok (.invokestatic 171, 3) := by decide +kernel
theorem dL_law_1438 : decode code 1438 = .ok (.istore 5, 2) := by decide +kernel
theorem dL_law_1440 : decode code 1440 = .ok (.aload_n 2, 1) := by decide +kernel
theorem dL_law_1441 : decode code 1441 = .ok (.aload_n 0, 1) := by decide +kernel
theorem dL_law_1442 : decode code 1442 = .ok (.iload 4, 2) := by decide +kernel
theorem dL_law_1444 : decode code 1444 = .ok (.iconst 1, 1) := by decide +kernel
theorem dL_law_1445 : decode code 1445 = .ok (.iadd, 1) := by decide +kernel
theorem dL_law_1446 : decode code 1446 = .ok (.iaload, 1) := by decide +kernel
theorem dL_law_1447 : decode code 1447 = .ok (.aload_n 0, 1) := by decide +kernel
theorem dL_law_1448 : decode code 1448 = .ok (.iload 4, 2) := by decide +kernel
theorem dL_law_1450 : decode code 1450 = .ok (.iconst 2, 1) := by decide +kernel
theorem dL_law_1451 : decode code 1451 = .ok (.iadd, 1) := by decide +kernel
theorem dL_law_1452 : decode code 1452 = .ok (.iaload, 1) := by decide +kernel
theorem dL_law_1453 : decode code 1453 = .ok (.ifCond .eq 7, 3) := by decide +kernel
theorem dL_law_1456 : decode code 1456 = .ok (.iconst 1, 1) := by decide +kernel
theorem dL_law_1457 : decode code 1457 = .ok (.goto 4, 3) := by decide +kernel
theorem dL_law_1460 : decode code 1460 = .ok (.iconst 0, 1) := by decide +kernel
theorem dL_law_1461 : decode code 1461 = .ok (.invokevirtual 173, 3) := by decide +kernel
theorem dL_law_1464 : decode code 1464 = .ok (.istore 6, 2) := by decide +kernel
theorem dL_law_1466 : decode code 1466 = .ok (.aload_n 2, 1) := by decide +kernel
theorem dL_law_1467 : decode code 1467 = .ok (.invokevirtual 112, 3) := by decide +kernel
theorem dL_law_1470 : decode code 1470 = .ok (.iload 5, 2) := by decide +kernel
theorem dL_law_1472 : decode code 1472 = .ok (.if_icmp .eq 5, 3) := by decide +kernel
theorem dL_law_1475 : decode code 1475 = .ok (.iconst 0, 1) := by decide +kernel
theorem dL_law_1476 : decode code 1476 = .ok (.ireturn, 1) := by decide +kernel
theorem dL_law_1477 : decode code 1477 = .ok (.iload 5, 2) := by decide +kernel
theorem dL_law_1479 : decode code 1479 = .ok (.ifCond .ne 15, 3) := by decide +kernel
theorem dL_law_1482 : decode code 1482 = .ok (.aload_n 3, 1) := by decide +kernel
theorem dL_law_1483 : decode code 1483 = .ok (.iconst 0, 1) := by decide +kernel
theorem dL_law_1484 : decode code 1484 = .ok (.laload, 1) := by decide +kernel
theorem dL_law_1485 : decode code 1485 = .ok (.iload 6, 2) := by decide +kernel
theorem dL_law_1487 : decode code 1487 = .ok (.i2l, 1) := by decide +kernel
theorem dL_law_1488 : decode code 1488 = .ok (.lcmp, 1) := by decide +kernel
theorem dL_law_1489 : decode code 1489 = .ok (.ifCond .eq 5, 3) := by decide +kernel
theorem dL_law_1492 : decode code 1492 = .ok (.iconst 0, 1) := by decide +kernel
theorem dL_law_1493 : decode code 1493 = .ok (.ireturn, 1) := by decide +kernel
theorem dL_law_1494 : decode code 1494 = .ok (.goto 622, 3) := by decide +kernel
theorem dL_law_1497 : decode code 1497 = .ok (.aload_n 1, 1) := by decide +kernel
theorem dL_law_1498 : decode code 1498 = .ok (.aload_n 0, 1) := by decide +kernel
theorem dL_law_1499 : decode code 1499 = .ok (.iload 4, 2) := by decide +kernel
theorem dL_law_1501 : decode code 1501 = .ok (.iconst 1, 1) := by decide +kernel
theorem dL_law_1502 : decode code 1502 = .ok (.iadd, 1) := by decide +kernel
theorem dL_law_1503 : decode code 1503 = .ok (.iaload, 1) := by decide +kernel
theorem dL_law_1504 : decode code 1504 = .ok (.aload_n 3, 1) := by decide +kernel
theorem dL_law_1505 : decode code 1505 = .ok (.invokestatic 174, 3) := by decide +kernel
theorem dL_law_1508 : decode code 1508 = .ok (.istore 5, 2) := by decide +kernel
theorem dL_law_1510 : decode code 1510 = .ok (.aload_n 2, 1) := by decide +kernel
theorem dL_law_1511 : decode code 1511 = .ok (.aload_n 0, 1) := by decide +kernel
theorem dL_law_1512 : decode code 1512 = .ok (.iload 4, 2) := by decide +kernel
theorem dL_law_1514 : decode code 1514 = .ok (.iconst 1, 1) := by decide +kernel
theorem dL_law_1515 : decode code 1515 = .ok (.iadd, 1) := by decide +kernel
theorem dL_law_1516 : decode code 1516 = .ok (.iaload, 1) := by decide +kernel
theorem dL_law_1517 : decode code 1517 = .ok (.invokevirtual 176, 3) := by decide +kernel
theorem dL_law_1520 : decode code 1520 = .ok (.istore 6, 2) := by decide +kernel
theorem dL_law_1522 : decode code 1522 = .ok (.aload_n 2, 1) := by decide +kernel
theorem dL_law_1523 : decode code 1523 = .ok (.invokevirtual 112, 3) := by decide +kernel
theorem dL_law_1526 : decode code 1526 = .ok (.iload 5, 2) := by decide +kernel
theorem dL_law_1528 : decode code 1528 = .ok (.if_icmp .eq 5, 3) := by decide +kernel
theorem dL_law_1531 : decode code 1531 = .ok (.iconst 0, 1) := by decide +kernel
theorem dL_law_1532 : decode code 1532 = .ok (.ireturn, 1) := by decide +kernel
theorem dL_law_1533 : decode code 1533 = .ok (.iload 5, 2) := by decide +kernel
theorem dL_law_1535 : decode code 1535 = .ok (.ifCond .ne 15, 3) := by decide +kernel
theorem dL_law_1538 : decode code 1538 = .ok (.aload_n 3, 1) := by decide +kernel
theorem dL_law_1539 : decode code 1539 = .ok (.iconst 0, 1) := by decide +kernel
theorem dL_law_1540 : decode code 1540 = .ok (.laload, 1) := by decide +kernel
theorem dL_law_1541 : decode code 1541 = .ok (.iload 6, 2) := by decide +kernel
theorem dL_law_1543 : decode code 1543 = .ok (.i2l, 1) := by decide +kernel
theorem dL_law_1544 : decode code 1544 = .ok (.lcmp, 1) := by decide +kernel
theorem dL_law_1545 : decode code 1545 = .ok (.ifCond .eq 5, 3) := by decide +kernel
theorem dL_law_1548 : decode code 1548 = .ok (.iconst 0, 1) := by decide +kernel
theorem dL_law_1549 : decode code 1549 = .ok (.ireturn, 1) := by decide +kernel
theorem dL_law_1550 : decode code 1550 = .ok (.goto 566, 3) := by decide +kernel
theorem dL_law_1553 : decode code 1553 = .ok (.aload_n 1, 1) := by decide +kernel
theorem dL_law_1554 : decode code 1554 = .ok (.aload_n 0, 1) := by decide +kernel
theorem dL_law_1555 : decode code 1555 = .ok (.iload 4, 2) := by decide +kernel
theorem dL_law_1557 : decode code 1557 = .ok (.iconst 1, 1) := by decide +kernel
theorem dL_law_1558 : decode code 1558 = .ok (.iadd, 1) := by decide +kernel
theorem dL_law_1559 : decode code 1559 = .ok (.iaload, 1) := by decide +kernel
theorem dL_law_1560 : decode code 1560 = .ok (.aload_n 0, 1) := by decide +kernel
theorem dL_law_1561 : decode code 1561 = .ok (.iload 4, 2) := by decide +kernel
theorem dL_law_1563 : decode code 1563 = .ok (.iconst 2, 1) := by decide +kernel
theorem dL_law_1564 : decode code 1564 = .ok (.iadd, 1) := by decide +kernel
theorem dL_law_1565 : decode code 1565 = .ok (.iaload, 1) := by decide +kernel
theorem dL_law_1566 : decode code 1566 = .ok (.aload_n 3, 1) := by decide +kernel
theorem dL_law_1567 : decode code 1567 = .ok (.invokestatic 177, 3) := by decide +kernel
theorem dL_law_1570 : decode code 1570 = .ok (.istore 5, 2) := by decide +kernel
theorem dL_law_1572 : decode code 1572 = .ok (.aload_n 2, 1) := by decide +kernel
theorem dL_law_1573 : decode code 1573 = .ok (.aload_n 0, 1) := by decide +kernel
theorem dL_law_1574 : decode code 1574 = .ok (.iload 4, 2) := by decide +kernel
theorem dL_law_1576 : decode code 1576 = .ok (.iconst 1, 1) := by decide +kernel
theorem dL_law_1577 : decode code 1577 = .ok (.iadd, 1) := by decide +kernel
theorem dL_law_1578 : decode code 1578 = .ok (.iaload, 1) := by decide +kernel
theorem dL_law_1579 : decode code 1579 = .ok (.aload_n 0, 1) := by decide +kernel
theorem dL_law_1580 : decode code 1580 = .ok (.iload 4, 2) := by decide +kernel
theorem dL_law_1582 : decode code 1582 = .ok (.iconst 2, 1) := by decide +kernel
theorem dL_law_1583 : decode code 1583 = .ok (.iadd, 1) := by decide +kernel
theorem dL_law_1584 : decode code 1584 = .ok (.iaload, 1) := by decide +kernel
theorem dL_law_1585 : decode code 1585 = .ok (.invokevirtual 179, 3) := by decide +kernel
theorem dL_law_1588 : decode code 1588 = .ok (.istore 6, 2) := by decide +kernel
theorem dL_law_1590 : decode code 1590 = .ok (.aload_n 2, 1) := by decide +kernel
theorem dL_law_1591 : decode code 1591 = .ok (.invokevirtual 112, 3) := by decide +kernel
theorem dL_law_1594 : decode code 1594 = .ok (.iload 5, 2) := by decide +kernel
theorem dL_law_1596 : decode code 1596 = .ok (.if_icmp .eq 5, 3) := by decide +kernel
theorem dL_law_1599 : decode code 1599 = .ok (.iconst 0, 1) := by decide +kernel
theorem dL_law_1600 : decode code 1600 = .ok (.ireturn, 1) := by decide +kernel
theorem dL_law_1601 : decode code 1601 = .ok (.iload 5, 2) := by decide +kernel
theorem dL_law_1603 : decode code 1603 = .ok (.ifCond .ne 15, 3) := by decide +kernel
theorem dL_law_1606 : decode code 1606 = .ok (.aload_n 3, 1) := by decide +kernel
theorem dL_law_1607 : decode code 1607 = .ok (.iconst 0, 1) := by decide +kernel
theorem dL_law_1608 : decode code 1608 = .ok (.laload, 1) := by decide +kernel
theorem dL_law_1609 : decode code 1609 = .ok (.iload 6, 2) := by decide +kernel
theorem dL_law_1611 : decode code 1611 = .ok (.i2l, 1) := by decide +kernel
theorem dL_law_1612 : decode code 1612 = .ok (.lcmp, 1) := by decide +kernel
theorem dL_law_1613 : decode code 1613 = .ok (.ifCond .eq 5, 3) := by decide +kernel
theorem dL_law_1616 : decode code 1616 = .ok (.iconst 0, 1) := by decide +kernel
theorem dL_law_1617 : decode code 1617 = .ok (.ireturn, 1) := by decide +kernel
theorem dL_law_1618 : decode code 1618 = .ok (.goto 498, 3) := by decide +kernel
theorem dL_law_1621 : decode code 1621 = .ok (.aload_n 1, 1) := by decide +kernel
theorem dL_law_1622 : decode code 1622 = .ok (.aload_n 0, 1) := by decide +kernel
theorem dL_law_1623 : decode code 1623 = .ok (.iload 4, 2) := by decide +kernel
theorem dL_law_1625 : decode code 1625 = .ok (.iconst 1, 1) := by decide +kernel
theorem dL_law_1626 : decode code 1626 = .ok (.iadd, 1) := by decide +kernel
theorem dL_law_1627 : decode code 1627 = .ok (.iaload, 1) := by decide +kernel
theorem dL_law_1628 : decode code 1628 = .ok (.aload_n 0, 1) := by decide +kernel
theorem dL_law_1629 : decode code 1629 = .ok (.iload 4, 2) := by decide +kernel
theorem dL_law_1631 : decode code 1631 = .ok (.iconst 2, 1) := by decide +kernel
theorem dL_law_1632 : decode code 1632 = .ok (.iadd, 1) := by decide +kernel
theorem dL_law_1633 : decode code 1633 = .ok (.iaload, 1) := by decide +kernel
theorem dL_law_1634 : decode code 1634 = .ok (.aload_n 0, 1) := by decide +kernel
theorem dL_law_1635 : decode code 1635 = .ok (.iload 4, 2) := by decide +kernel
theorem dL_law_1637 : decode code 1637 = .ok (.iconst 3, 1) := by decide +kernel
theorem dL_law_1638 : decode code 1638 = .ok (.iadd, 1) := by decide +kernel
theorem dL_law_1639 : decode code 1639 = .ok (.iaload, 1) := by decide +kernel
theorem dL_law_1640 : decode code 1640 = .ok (.aload_n 3, 1) := by decide +kernel
theorem dL_law_1641 : decode code 1641 = .ok (.invokestatic 180, 3) := by decide +kernel
theorem dL_law_1644 : decode code 1644 = .ok (.istore 5, 2) := by decide +kernel
theorem dL_law_1646 : decode code 1646 = .ok (.aload_n 2, 1) := by decide +kernel
theorem dL_law_1647 : decode code 1647 = .ok (.aload_n 0, 1) := by decide +kernel
theorem dL_law_1648 : decode code 1648 = .ok (.iload 4, 2) := by decide +kernel
theorem dL_law_1650 : decode code 1650 = .ok (.iconst 1, 1) := by decide +kernel
theorem dL_law_1651 : decode code 1651 = .ok (.iadd, 1) := by decide +kernel
theorem dL_law_1652 : decode code 1652 = .ok (.iaload, 1) := by decide +kernel
theorem dL_law_1653 : decode code 1653 = .ok (.aload_n 0, 1) := by decide +kernel
theorem dL_law_1654 : decode code 1654 = .ok (.iload 4, 2) := by decide +kernel
theorem dL_law_1656 : decode code 1656 = .ok (.iconst 2, 1) := by decide +kernel
theorem dL_law_1657 : decode code 1657 = .ok (.iadd, 1) := by decide +kernel
theorem dL_law_1658 : decode code 1658 = .ok (.iaload, 1) := by decide +kernel
theorem dL_law_1659 : decode code 1659 = .ok (.aload_n 0, 1) := by decide +kernel
theorem dL_law_1660 : decode code 1660 = .ok (.iload 4, 2) := by decide +kernel
theorem dL_law_1662 : decode code 1662 = .ok (.iconst 3, 1) := by decide +kernel
theorem dL_law_1663 : decode code 1663 = .ok (.iadd, 1) := by decide +kernel
theorem dL_law_1664 : decode code 1664 = .ok (.iaload, 1) := by decide +kernel
theorem dL_law_1665 : decode code 1665 = .ok (.invokevirtual 183, 3) := by decide +kernel
theorem dL_law_1668 : decode code 1668 = .ok (.istore 6, 2) := by decide +kernel
theorem dL_law_1670 : decode code 1670 = .ok (.aload_n 2, 1) := by decide +kernel
theorem dL_law_1671 : decode code 1671 = .ok (.invokevirtual 112, 3) := by decide +kernel
theorem dL_law_1674 : decode code 1674 = .ok (.iload 5, 2) := by decide +kernel
theorem dL_law_1676 : decode code 1676 = .ok (.if_icmp .eq 5, 3) := by decide +kernel
theorem dL_law_1679 : decode code 1679 = .ok (.iconst 0, 1) := by decide +kernel
theorem dL_law_1680 : decode code 1680 = .ok (.ireturn, 1) := by decide +kernel
theorem dL_law_1681 : decode code 1681 = .ok (.iload 5, 2) := by decide +kernel
theorem dL_law_1683 : decode code 1683 = .ok (.ifCond .ne 15, 3) := by decide +kernel
theorem dL_law_1686 : decode code 1686 = .ok (.aload_n 3, 1) := by decide +kernel
theorem dL_law_1687 : decode code 1687 = .ok (.iconst 0, 1) := by decide +kernel
theorem dL_law_1688 : decode code 1688 = .ok (.laload, 1) := by decide +kernel
theorem dL_law_1689 : decode code 1689 = .ok (.iload 6, 2) := by decide +kernel
theorem dL_law_1691 : decode code 1691 = .ok (.i2l, 1) := by decide +kernel
theorem dL_law_1692 : decode code 1692 = .ok (.lcmp, 1) := by decide +kernel
theorem dL_law_1693 : decode code 1693 = .ok (.ifCond .eq 5, 3) := by decide +kernel
theorem dL_law_1696 : decode code 1696 = .ok (.iconst 0, 1) := by decide +kernel
theorem dL_law_1697 : decode code 1697 = .ok (.ireturn, 1) := by decide +kernel
theorem dL_law_1698 : decode code 1698 = .ok (.goto 418, 3) := by decide +kernel
theorem dL_law_1701 : decode code 1701 = .ok (.aload_n 1, 1) := by decide +kernel
theorem dL_law_1702 : decode code 1702 = .ok (.aload_n 0, 1) := by decide +kernel
theorem dL_law_1703 : decode code 1703 = .ok (.iload 4, 2) := by decide +kernel
theorem dL_law_1705 : decode code 1705 = .ok (.iconst 1, 1) := by decide +kernel
theorem dL_law_1706 : decode code 1706 = .ok (.iadd, 1) := by decide +kernel
theorem dL_law_1707 : decode code 1707 = .ok (.iaload, 1) := by decide +kernel
theorem dL_law_1708 : decode code 1708 = .ok (.aload_n 0, 1) := by decide +kernel
theorem dL_law_1709 : decode code 1709 = .ok (.iload 4, 2) := by decide +kernel
theorem dL_law_1711 : decode code 1711 = .ok (.iconst 2, 1) := by decide +kernel
theorem dL_law_1712 : decode code 1712 = .ok (.iadd, 1) := by decide +kernel
theorem dL_law_1713 : decode code 1713 = .ok (.iaload, 1) := by decide +kernel
theorem dL_law_1714 : decode code 1714 = .ok (.aload_n 3, 1) := by decide +kernel
theorem dL_law_1715 : decode code 1715 = .ok (.invokestatic 184, 3) := by decide +kernel
theorem dL_law_1718 : decode code 1718 = .ok (.istore 5, 2) := by decide +kernel
theorem dL_law_1720 : decode code 1720 = .ok (.aload_n 2, 1) := by decide +kernel
theorem dL_law_1721 : decode code 1721 = .ok (.aload_n 0, 1) := by decide +kernel
theorem dL_law_1722 : decode code 1722 = .ok (.iload 4, 2) := by decide +kernel
theorem dL_law_1724 : decode code 1724 = .ok (.iconst 1, 1) := by decide +kernel
theorem dL_law_1725 : decode code 1725 = .ok (.iadd, 1) := by decide +kernel
theorem dL_law_1726 : decode code 1726 = .ok (.iaload, 1) := by decide +kernel
theorem dL_law_1727 : decode code 1727 = .ok (.aload_n 0, 1) := by decide +kernel
theorem dL_law_1728 : decode code 1728 = .ok (.iload 4, 2) := by decide +kernel
theorem dL_law_1730 : decode code 1730 = .ok (.iconst 2, 1) := by decide +kernel
theorem dL_law_1731 : decode code 1731 = .ok (.iadd, 1) := by decide +kernel
theorem dL_law_1732 : decode code 1732 = .ok (.iaload, 1) := by decide +kernel
theorem dL_law_1733 : decode code 1733 = .ok (.invokevirtual 186, 3) := by decide +kernel
theorem dL_law_1736 : decode code 1736 = .ok (.istore 6, 2) := by decide +kernel
theorem dL_law_1738 : decode code 1738 = .ok (.aload_n 2, 1) := by decide +kernel
theorem dL_law_1739 : decode code 1739 = .ok (.invokevirtual 112, 3) := by decide +kernel
theorem dL_law_1742 : decode code 1742 = .ok (.iload 5, 2) := by decide +kernel
theorem dL_law_1744 : decode code 1744 = .ok (.if_icmp .eq 5, 3) := by decide +kernel
theorem dL_law_1747 : decode code 1747 = .ok (.iconst 0, 1) := by decide +kernel
theorem dL_law_1748 : decode code 1748 = .ok (.ireturn, 1) := by decide +kernel
theorem dL_law_1749 : decode code 1749 = .ok (.iload 5, 2) := by decide +kernel
theorem dL_law_1751 : decode code 1751 = .ok (.ifCond .ne 15, 3) := by decide +kernel
theorem dL_law_1754 : decode code 1754 = .ok (.aload_n 3, 1) := by decide +kernel
theorem dL_law_1755 : decode code 1755 = .ok (.iconst 0, 1) := by decide +kernel
theorem dL_law_1756 : decode code 1756 = .ok (.laload, 1) := by decide +kernel
theorem dL_law_1757 : decode code 1757 = .ok (.iload 6, 2) := by decide +kernel
theorem dL_law_1759 : decode code 1759 = .ok (.i2l, 1) := by decide +kernel
theorem dL_law_1760 : decode code 1760 = .ok (.lcmp, 1) := by decide +kernel
theorem dL_law_1761 : decode code 1761 = .ok (.ifCond .eq 5, 3) := by decide +kernel
theorem dL_law_1764 : decode code 1764 = .ok (.iconst 0, 1) := by decide +kernel
theorem dL_law_1765 : decode code 1765 = .ok (.ireturn, 1) := by decide +kernel
theorem dL_law_1766 : decode code 1766 = .ok (.goto 350, 3) := by decide +kernel
theorem dL_law_1769 : decode code 1769 = .ok (.aload_n 1, 1) := by decide +kernel
theorem dL_law_1770 : decode code 1770 = .ok (.aload_n 0, 1) := by decide +kernel
theorem dL_law_1771 : decode code 1771 = .ok (.iload 4, 2) := by decide +kernel
theorem dL_law_1773 : decode code 1773 = .ok (.iconst 1, 1) := by decide +kernel
theorem dL_law_1774 : decode code 1774 = .ok (.iadd, 1) := by decide +kernel
theorem dL_law_1775 : decode code 1775 = .ok (.iaload, 1) := by decide +kernel
theorem dL_law_1776 : decode code 1776 = .ok (.aload_n 3, 1) := by decide +kernel
theorem dL_law_1777 : decode code 1777 = .ok (.invokestatic 187, 3) := by decide +kernel
theorem dL_law_1780 : decode code 1780 = .ok (.istore 5, 2) := by decide +kernel
theorem dL_law_1782 : decode code 1782 = .ok (.aload_n 2, 1) := by decide +kernel
theorem dL_law_1783 : decode code 1783 = .ok (.aload_n 0, 1) := by decide +kernel
theorem dL_law_1784 : decode code 1784 = .ok (.iload 4, 2) := by decide +kernel
theorem dL_law_1786 : decode code 1786 = .ok (.iconst 1, 1) := by decide +kernel
theorem dL_law_1787 : decode code 1787 = .ok (.iadd, 1) := by decide +kernel
theorem dL_law_1788 : decode code 1788 = .ok (.iaload, 1) := by decide +kernel
theorem dL_law_1789 : decode code 1789 = .ok (.invokevirtual 189, 3) := by decide +kernel
theorem dL_law_1792 : decode code 1792 = .ok (.istore 6, 2) := by decide +kernel
theorem dL_law_1794 : decode code 1794 = .ok (.aload_n 2, 1) := by decide +kernel
theorem dL_law_1795 : decode code 1795 = .ok (.invokevirtual 112, 3) := by decide +kernel
theorem dL_law_1798 : decode code 1798 = .ok (.iload 5, 2) := by decide +kernel
theorem dL_law_1800 : decode code 1800 = .ok (.if_icmp .eq 5, 3) := by decide +kernel
theorem dL_law_1803 : decode code 1803 = .ok (.iconst 0, 1) := by decide +kernel
theorem dL_law_1804 : decode code 1804 = .ok (.ireturn, 1) := by decide +kernel
theorem dL_law_1805 : decode code 1805 = .ok (.iload 5, 2) := by decide +kernel
theorem dL_law_1807 : decode code 1807 = .ok (.ifCond .ne 15, 3) := by decide +kernel
theorem dL_law_1810 : decode code 1810 = .ok (.aload_n 3, 1) := by decide +kernel
theorem dL_law_1811 : decode code 1811 = .ok (.iconst 0, 1) := by decide +kernel
theorem dL_law_1812 : decode code 1812 = .ok (.laload, 1) := by decide +kernel
theorem dL_law_1813 : decode code 1813 = .ok (.iload 6, 2) := by decide +kernel
theorem dL_law_1815 : decode code 1815 = .ok (.i2l, 1) := by decide +kernel
theorem dL_law_1816 : decode code 1816 = .ok (.lcmp, 1) := by decide +kernel
theorem dL_law_1817 : decode code 1817 = .ok (.ifCond .eq 5, 3) := by decide +kernel
theorem dL_law_1820 : decode code 1820 = .ok (.iconst 0, 1) := by decide +kernel
theorem dL_law_1821 : decode code 1821 = .ok (.ireturn, 1) := by decide +kernel
theorem dL_law_1822 : decode code 1822 = .ok (.goto 294, 3) := by decide +kernel
theorem dL_law_1825 : decode code 1825 = .ok (.aload_n 1, 1) := by decide +kernel
theorem dL_law_1826 : decode code 1826 = .ok (.invokevirtual 190, 3) := by decide +kernel
theorem dL_law_1829 : decode code 1829 = .ok (.dstore 5, 2) := by decide +kernel
theorem dL_law_1831 : decode code 1831 = .ok (.aload_n 2, 1) := by decide +kernel
theorem dL_law_1832 : decode code 1832 = .ok (.invokevirtual 194, 3) := by decide +kernel
theorem dL_law_1835 : decode code 1835 = .ok (.dstore 7, 2) := by decide +kernel
theorem dL_law_1837 : decode code 1837 = .ok (.dload 5, 2) := by decide +kernel
theorem dL_law_1839 : decode code 1839 = .ok (.dload 7, 2) := by decide +kernel
theorem dL_law_1841 : decode code 1841 = .ok (.dcmp .l, 1) := by decide +kernel
theorem dL_law_1842 : decode code 1842 = .ok (.ifCond .eq 21, 3) := by decide +kernel
theorem dL_law_1845 : decode code 1845 = .ok (.dload 5, 2) := by decide +kernel
theorem dL_law_1847 : decode code 1847 = .ok (.dload 5, 2) := by decide +kernel
theorem dL_law_1849 : decode code 1849 = .ok (.dcmp .l, 1) := by decide +kernel
theorem dL_law_1850 : decode code 1850 = .ok (.ifCond .eq 11, 3) := by decide +kernel
theorem dL_law_1853 : decode code 1853 = .ok (.dload 7, 2) := by decide +kernel
theorem dL_law_1855 : decode code 1855 = .ok (.dload 7, 2) := by decide +kernel
theorem dL_law_1857 : decode code 1857 = .ok (.dcmp .l, 1) := by decide +kernel
theorem dL_law_1858 : decode code 1858 = .ok (.ifCond .ne 5, 3) := by decide +kernel
theorem dL_law_1861 : decode code 1861 = .ok (.iconst 0, 1) := by decide +kernel
theorem dL_law_1862 : decode code 1862 = .ok (.ireturn, 1) := by decide +kernel
theorem dL_law_1863 : decode code 1863 = .ok (.goto 253, 3) := by decide +kernel
theorem dL_law_1866 : decode code 1866 = .ok (.aload_n 1, 1) := by decide +kernel
theorem dL_law_1867 : decode code 1867 = .ok (.aload_n 0, 1) := by decide +kernel
theorem dL_law_1868 : decode code 1868 = .ok (.iload 4, 2) := by decide +kernel
theorem dL_law_1870 : decode code 1870 = .ok (.iconst 1, 1) := by decide +kernel
theorem dL_law_1871 : decode code 1871 = .ok (.iadd, 1) := by decide +kernel
theorem dL_law_1872 : decode code 1872 = .ok (.iaload, 1) := by decide +kernel
theorem dL_law_1873 : decode code 1873 = .ok (.aload_n 3, 1) := by decide +kernel
theorem dL_law_1874 : decode code 1874 = .ok (.invokestatic 195, 3) := by decide +kernel
theorem dL_law_1877 : decode code 1877 = .ok (.istore 5, 2) := by decide +kernel
theorem dL_law_1879 : decode code 1879 = .ok (.aload_n 2, 1) := by decide +kernel
theorem dL_law_1880 : decode code 1880 = .ok (.aload_n 0, 1) := by decide +kernel
theorem dL_law_1881 : decode code 1881 = .ok (.iload 4, 2) := by decide +kernel
theorem dL_law_1883 : decode code 1883 = .ok (.iconst 1, 1) := by decide +kernel
theorem dL_law_1884 : decode code 1884 = .ok (.iadd, 1) := by decide +kernel
theorem dL_law_1885 : decode code 1885 = .ok (.iaload, 1) := by decide +kernel
theorem dL_law_1886 : decode code 1886 = .ok (.invokevirtual 197, 3) := by decide +kernel
theorem dL_law_1889 : decode code 1889 = .ok (.istore 6, 2) := by decide +kernel
theorem dL_law_1891 : decode code 1891 = .ok (.aload_n 2, 1) := by decide +kernel
theorem dL_law_1892 : decode code 1892 = .ok (.invokevirtual 112, 3) := by decide +kernel
theorem dL_law_1895 : decode code 1895 = .ok (.iload 5, 2) := by decide +kernel
theorem dL_law_1897 : decode code 1897 = .ok (.if_icmp .eq 5, 3) := by decide +kernel
theorem dL_law_1900 : decode code 1900 = .ok (.iconst 0, 1) := by decide +kernel
theorem dL_law_1901 : decode code 1901 = .ok (.ireturn, 1) := by decide +kernel
theorem dL_law_1902 : decode code 1902 = .ok (.iload 5, 2) := by decide +kernel
theorem dL_law_1904 : decode code 1904 = .ok (.ifCond .ne 15, 3) := by decide +kernel
theorem dL_law_1907 : decode code 1907 = .ok (.aload_n 3, 1) := by decide +kernel
theorem dL_law_1908 : decode code 1908 = .ok (.iconst 0, 1) := by decide +kernel
theorem dL_law_1909 : decode code 1909 = .ok (.laload, 1) := by decide +kernel
theorem dL_law_1910 : decode code 1910 = .ok (.iload 6, 2) := by decide +kernel
theorem dL_law_1912 : decode code 1912 = .ok (.i2l, 1) := by decide +kernel
theorem dL_law_1913 : decode code 1913 = .ok (.lcmp, 1) := by decide +kernel
theorem dL_law_1914 : decode code 1914 = .ok (.ifCond .eq 5, 3) := by decide +kernel
theorem dL_law_1917 : decode code 1917 = .ok (.iconst 0, 1) := by decide +kernel
theorem dL_law_1918 : decode code 1918 = .ok (.ireturn, 1) := by decide +kernel
theorem dL_law_1919 : decode code 1919 = .ok (.goto 197, 3) := by decide +kernel
theorem dL_law_1922 : decode code 1922 = .ok (.aload_n 1, 1) := by decide +kernel
theorem dL_law_1923 : decode code 1923 = .ok (.aload_n 0, 1) := by decide +kernel
theorem dL_law_1924 : decode code 1924 = .ok (.iload 4, 2) := by decide +kernel
theorem dL_law_1926 : decode code 1926 = .ok (.iconst 1, 1) := by decide +kernel
theorem dL_law_1927 : decode code 1927 = .ok (.iadd, 1) := by decide +kernel
theorem dL_law_1928 : decode code 1928 = .ok (.iaload, 1) := by decide +kernel
theorem dL_law_1929 : decode code 1929 = .ok (.aload_n 3, 1) := by decide +kernel
theorem dL_law_1930 : decode code 1930 = .ok (.invokestatic 198, 3) := by decide +kernel
theorem dL_law_1933 : decode code 1933 = .ok (.istore 5, 2) := by decide +kernel
theorem dL_law_1935 : decode code 1935 = .ok (.aload_n 2, 1) := by decide +kernel
theorem dL_law_1936 : decode code 1936 = .ok (.aload_n 0, 1) := by decide +kernel
theorem dL_law_1937 : decode code 1937 = .ok (.iload 4, 2) := by decide +kernel
theorem dL_law_1939 : decode code 1939 = .ok (.iconst 1, 1) := by decide +kernel
theorem dL_law_1940 : decode code 1940 = .ok (.iadd, 1) := by decide +kernel
theorem dL_law_1941 : decode code 1941 = .ok (.iaload, 1) := by decide +kernel
theorem dL_law_1942 : decode code 1942 = .ok (.invokevirtual 200, 3) := by decide +kernel
theorem dL_law_1945 : decode code 1945 = .ok (.istore 6, 2) := by decide +kernel
theorem dL_law_1947 : decode code 1947 = .ok (.aload_n 2, 1) := by decide +kernel
theorem dL_law_1948 : decode code 1948 = .ok (.invokevirtual 112, 3) := by decide +kernel
theorem dL_law_1951 : decode code 1951 = .ok (.iload 5, 2) := by decide +kernel
theorem dL_law_1953 : decode code 1953 = .ok (.if_icmp .eq 5, 3) := by decide +kernel
theorem dL_law_1956 : decode code 1956 = .ok (.iconst 0, 1) := by decide +kernel
theorem dL_law_1957 : decode code 1957 = .ok (.ireturn, 1) := by decide +kernel
theorem dL_law_1958 : decode code 1958 = .ok (.iload 5, 2) := by decide +kernel
theorem dL_law_1960 : decode code 1960 = .ok (.ifCond .ne 15, 3) := by decide +kernel
theorem dL_law_1963 : decode code 1963 = .ok (.aload_n 3, 1) := by decide +kernel
theorem dL_law_1964 : decode code 1964 = .ok (.iconst 0, 1) := by decide +kernel
theorem dL_law_1965 : decode code 1965 = .ok (.laload, 1) := by decide +kernel
theorem dL_law_1966 : decode code 1966 = .ok (.iload 6, 2) := by decide +kernel
theorem dL_law_1968 : decode code 1968 = .ok (.i2l, 1) := by decide +kernel
theorem dL_law_1969 : decode code 1969 = .ok (.lcmp, 1) := by decide +kernel
theorem dL_law_1970 : decode code 1970 = .ok (.ifCond .eq 5, 3) := by decide +kernel
theorem dL_law_1973 : decode code 1973 = .ok (.iconst 0, 1) := by decide +kernel
theorem dL_law_1974 : decode code 1974 = .ok (.ireturn, 1) := by decide +kernel
theorem dL_law_1975 : decode code 1975 = .ok (.goto 141, 3) := by decide +kernel
theorem dL_law_1978 : decode code 1978 = .ok (.aload_n 1, 1) := by decide +kernel
theorem dL_law_1979 : decode code 1979 = .ok (.aload_n 0, 1) := by decide +kernel
theorem dL_law_1980 : decode code 1980 = .ok (.iload 4, 2) := by decide +kernel
theorem dL_law_1982 : decode code 1982 = .ok (.iconst 1, 1) := by decide +kernel
theorem dL_law_1983 : decode code 1983 = .ok (.iadd, 1) := by decide +kernel
theorem dL_law_1984 : decode code 1984 = .ok (.iaload, 1) := by decide +kernel
theorem dL_law_1985 : decode code 1985 = .ok (.aload_n 3, 1) := by decide +kernel
theorem dL_law_1986 : decode code 1986 = .ok (.invokestatic 201, 3) := by decide +kernel
theorem dL_law_1989 : decode code 1989 = .ok (.istore 5, 2) := by decide +kernel
theorem dL_law_1991 : decode code 1991 = .ok (.aload_n 2, 1) := by decide +kernel
theorem dL_law_1992 : decode code 1992 = .ok (.aload_n 0, 1) := by decide +kernel
theorem dL_law_1993 : decode code 1993 = .ok (.iload 4, 2) := by decide +kernel
theorem dL_law_1995 : decode code 1995 = .ok (.iconst 1, 1) := by decide +kernel
theorem dL_law_1996 : decode code 1996 = .ok (.iadd, 1) := by decide +kernel
theorem dL_law_1997 : decode code 1997 = .ok (.iaload, 1) := by decide +kernel
theorem dL_law_1998 : decode code 1998 = .ok (.invokevirtual 203, 3) := by decide +kernel
theorem dL_law_2001 : decode code 2001 = .ok (.istore 6, 2) := by decide +kernel
theorem dL_law_2003 : decode code 2003 = .ok (.aload_n 2, 1) := by decide +kernel
theorem dL_law_2004 : decode code 2004 = .ok (.invokevirtual 112, 3) := by decide +kernel
theorem dL_law_2007 : decode code 2007 = .ok (.iload 5, 2) := by decide +kernel
theorem dL_law_2009 : decode code 2009 = .ok (.if_icmp .eq 5, 3) := by decide +kernel
theorem dL_law_2012 : decode code 2012 = .ok (.iconst 0, 1) := by decide +kernel
theorem dL_law_2013 : decode code 2013 = .ok (.ireturn, 1) := by decide +kernel
theorem dL_law_2014 : decode code 2014 = .ok (.iload 5, 2) := by decide +kernel
theorem dL_law_2016 : decode code 2016 = .ok (.ifCond .ne 15, 3) := by decide +kernel
theorem dL_law_2019 : decode code 2019 = .ok (.aload_n 3, 1) := by decide +kernel
theorem dL_law_2020 : decode code 2020 = .ok (.iconst 0, 1) := by decide +kernel
theorem dL_law_2021 : decode code 2021 = .ok (.laload, 1) := by decide +kernel
theorem dL_law_2022 : decode code 2022 = .ok (.iload 6, 2) := by decide +kernel
theorem dL_law_2024 : decode code 2024 = .ok (.i2l, 1) := by decide +kernel
theorem dL_law_2025 : decode code 2025 = .ok (.lcmp, 1) := by decide +kernel
theorem dL_law_2026 : decode code 2026 = .ok (.ifCond .eq 5, 3) := by decide +kernel
theorem dL_law_2029 : decode code 2029 = .ok (.iconst 0, 1) := by decide +kernel
theorem dL_law_2030 : decode code 2030 = .ok (.ireturn, 1) := by decide +kernel
theorem dL_law_2031 : decode code 2031 = .ok (.goto 85, 3) := by decide +kernel
theorem dL_law_2034 : decode code 2034 = .ok (.aload_n 1, 1) := by decide +kernel
theorem dL_law_2035 : decode code 2035 = .ok (.aload_n 0, 1) := by decide +kernel
theorem dL_law_2036 : decode code 2036 = .ok (.iload 4, 2) := by decide +kernel
theorem dL_law_2038 : decode code 2038 = .ok (.iconst 1, 1) := by decide +kernel
theorem dL_law_2039 : decode code 2039 = .ok (.iadd, 1) := by decide +kernel
theorem dL_law_2040 : decode code 2040 = .ok (.iaload, 1) := by decide +kernel
theorem dL_law_2041 : decode code 2041 = .ok (.aload_n 0, 1) := by decide +kernel
theorem dL_law_2042 : decode code 2042 = .ok (.iload 4, 2) := by decide +kernel
theorem dL_law_2044 : decode code 2044 = .ok (.iconst 2, 1) := by decide +kernel
theorem dL_law_2045 : decode code 2045 = .ok (.iadd, 1) := by decide +kernel
theorem dL_law_2046 : decode code 2046 = .ok (.iaload, 1) := by decide +kernel
theorem dL_law_2047 : decode code 2047 = .ok (.aload_n 3, 1) := by decide +kernel
theorem dL_law_2048 : decode code 2048 = .ok (.invokestatic 204, 3) := by decide +kernel
theorem dL_law_2051 : decode code 2051 = .ok (.istore 5, 2) := by decide +kernel
theorem dL_law_2053 : decode code 2053 = .ok (.aload_n 2, 1) := by decide +kernel
theorem dL_law_2054 : decode code 2054 = .ok (.aload_n 0, 1) := by decide +kernel
theorem dL_law_2055 : decode code 2055 = .ok (.iload 4, 2) := by decide +kernel
theorem dL_law_2057 : decode code 2057 = .ok (.iconst 1, 1) := by decide +kernel
theorem dL_law_2058 : decode code 2058 = .ok (.iadd, 1) := by decide +kernel
theorem dL_law_2059 : decode code 2059 = .ok (.iaload, 1) := by decide +kernel
theorem dL_law_2060 : decode code 2060 = .ok (.aload_n 0, 1) := by decide +kernel
theorem dL_law_2061 : decode code 2061 = .ok (.iload 4, 2) := by decide +kernel
theorem dL_law_2063 : decode code 2063 = .ok (.iconst 2, 1) := by decide +kernel
theorem dL_law_2064 : decode code 2064 = .ok (.iadd, 1) := by decide +kernel
theorem dL_law_2065 : decode code 2065 = .ok (.iaload, 1) := by decide +kernel
theorem dL_law_2066 : decode code 2066 = .ok (.invokevirtual 206, 3) := by decide +kernel
theorem dL_law_2069 : decode code 2069 = .ok (.istore 6, 2) := by decide +kernel
theorem dL_law_2071 : decode code 2071 = .ok (.aload_n 2, 1) := by decide +kernel
theorem dL_law_2072 : decode code 2072 = .ok (.invokevirtual 112, 3) := by decide +kernel
theorem dL_law_2075 : decode code 2075 = .ok (.iload 5, 2) := by decide +kernel
theorem dL_law_2077 : decode code 2077 = .ok (.if_icmp .eq 5, 3) := by decide +kernel
theorem dL_law_2080 : decode code 2080 = .ok (.iconst 0, 1) := by decide +kernel
theorem dL_law_2081 : decode code 2081 = .ok (.ireturn, 1) := by decide +kernel
theorem dL_law_2082 : decode code 2082 = .ok (.iload 5, 2) := by decide +kernel
theorem dL_law_2084 : decode code 2084 = .ok (.ifCond .ne 15, 3) := by decide +kernel
theorem dL_law_2087 : decode code 2087 = .ok (.aload_n 3, 1) := by decide +kernel
theorem dL_law_2088 : decode code 2088 = .ok (.iconst 0, 1) := by decide +kernel
theorem dL_law_2089 : decode code 2089 = .ok (.laload, 1) := by decide +kernel
theorem dL_law_2090 : decode code 2090 = .ok (.iload 6, 2) := by decide +kernel
theorem dL_law_2092 : decode code 2092 = .ok (.i2l, 1) := by decide +kernel
theorem dL_law_2093 : decode code 2093 = .ok (.lcmp, 1) := by decide +kernel
theorem dL_law_2094 : decode code 2094 = .ok (.ifCond .eq 5, 3) := by decide +kernel
theorem dL_law_2097 : decode code 2097 = .ok (.iconst 0, 1) := by decide +kernel
theorem dL_law_2098 : decode code 2098 = .ok (.ireturn, 1) := by decide +kernel
theorem dL_law_2099 : decode code 2099 = .ok (.goto 17, 3) := by decide +kernel
theorem dL_law_2102 : decode code 2102 = .ok (.aload_n 1, 1) := by decide +kernel
theorem dL_law_2103 : decode code 2103 = .ok (.invokevirtual 207, 3) := by decide +kernel
theorem dL_law_2106 : decode code 2106 = .ok (.aload_n 2, 1) := by decide +kernel
theorem dL_law_2107 : decode code 2107 = .ok (.invokevirtual 211, 3) := by decide +kernel
theorem dL_law_2110 : decode code 2110 = .ok (.lcmp, 1) := by decide +kernel
theorem dL_law_2111 : decode code 2111 = .ok (.ifCond .eq 5, 3) := by decide +kernel
theorem dL_law_2114 : decode code 2114 = .ok (.iconst 0, 1) := by decide +kernel
theorem dL_law_2115 : decode code 2115 = .ok (.ireturn, 1) := by decide +kernel
theorem dL_law_2116 : decode code 2116 = .ok (.iinc 4 5, 3) := by decide +kernel
theorem dL_law_2119 : decode code 2119 = .ok (.goto (-2096), 3) := by decide +kernel
theorem dL_law_2122 : decode code 2122 = .ok (.iconst 1, 1) := by decide +kernel
theorem dL_law_2123 : decode code 2123 = .ok (.ireturn, 1) := by decide +kernel
def lawt_0 (xs : Nat → Int32) (L : Nat) : Nat → EA := (t_n 33 (t_n 19 (t_n 11 (t_n 4 (t_n 3 (t_l 0 (a_new 11 9 [.null, .null, .null, .null, .null, .null, .null, .int 0, .int 0])) (t_l 3 a_dup)) (t_n 7 (t_l 4 (a_inv false 160 1 (some 11))) (t_n 8 (t_l 7 (a_astore 9 1 1)) (t_l 8 (a_new 13 30 [.int 0, .int 0, .int 0, .int 0, .null, .null, .null, .null, .null, .null, .null, .null, .null, .null, .null, .int 0, .int 0, .int 0, .null, .null, .int 0, .null, .null, .null, .null, .null, .null, .null, .null, .null]))))) (t_n 15 (t_n 12 (t_l 11 a_dup) (t_l 12 (a_inv false 227 1 (some 13)))) (t_n 16 (t_l 15 (a_astore 9 1 2)) (t_n 17 (t_l 16 (a_push 1 (.int 1))) (t_l 17 (a_newa 2)))))) (t_n 26 (t_n 21 (t_n 20 (t_l 19 (a_astore 9 1 3)) (t_l 20 (a_push 1 (.int 0)))) (t_n 23 (t_l 21 (a_istore 9 2 4)) (t_n 25 (t_l 23 (a_iload 2 4)) (t_l 25 (a_aload 1 0))))) (t_n 28 (t_n 27 (t_l 26 (a_slen L)) (t_l 27 (a_push 1 (.int 5)))) (t_n 29 (t_l 28 (a_ii 1 (fun x y => x - y))) (t_n 32 (t_l 29 (a_ic 2122 (fun x y => decide (y < x)))) (t_l 32 (a_aload 1 0))))))) (t_n 176 (t_n 168 (t_n 36 (t_n 35 (t_l 33 (a_iload 2 4)) (t_l 35 (a_sld xs L))) (t_n 38 (t_l 36 (a_push 2 (.int 31))) (t_n 39 (t_l 38 (a_ii 1 (fun x y => x &&& y))) (t_l 39 (a_tsw 0 [168, 212, 308, 376, 484, 580, 704, 796, 864, 877, 945, 1013, 1097, 1165, 1233, 1301, 1357, 1413, 1497, 1553, 1621, 1701, 1769, 1825, 1866, 1922, 1978, 2034, 2102] 2116))))) (t_n 170 (t_n 169 (t_l 168 (a_aload 1 1)) (t_l 169 (a_aload 1 3))) (t_n 173 (t_l 170 (a_inv false 293 2 none)) (t_n 175 (t_l 173 (a_istore 9 2 5)) (t_l 175 (a_aload 1 2)))))) (t_n 187 (t_n 181 (t_n 179 (t_l 176 (a_inv true 236 1 (some 13))) (t_l 179 (a_istore 9 2 6))) (t_n 182 (t_l 181 (a_aload 1 2)) (t_n 185 (t_l 182 (a_inv true 228 1 (some 13))) (t_l 185 (a_iload 2 5))))) (t_n 191 (t_n 190 (t_l 187 (a_ic 192 (fun x y => decide (x = y)))) (t_l 190 (a_push 1 (.int 0)))) (t_n 192 (t_l 191 a_iret) (t_n 194 (t_l 192 (a_iload 2 5)) (t_l 194 (a_if 209 (fun x => !decide (x = 0))))))))))
set_option maxRecDepth 100000 in
theorem lawt_0_ok (hh : List (Nat × Nat × Nat × Nat)) (b L d : Nat) (xs : Nat → Int32) : ∀ pc, ev_OkL (ev_OX b L xs) code 9 hh RL lw_g lw_n lw_q vwCl false (ev_CO mt lw_g lw_n lw_q vwCl d) pc (lawt_0 xs L pc) := (ok_t_nL (ok_t_nL (ok_t_nL (ok_t_nL (ok_t_nL (ok_t_lL (ev_lift (ok_new dL_law_0 (ci := 11) rfl inGX11 tyX11 tyX11_ok w_107 w_108 w_84 (by decide +kernel) rfl))) (ok_t_lL (ev_lift (ok_dup dL_law_3)))) (ok_t_nL (ok_t_lL (ev_lift (ok_inv (run_I (y := 160) (n := 0) (ci := 11) dL_law_4 cz_160 gdG cc_160 ci_160 w_109 cm_160 rfl rfl cd_160 cl_160)))) (ok_t_nL (ok_t_lL (ev_lift (ok_astore_n dL_law_7 rfl))) (ok_t_lL (ev_lift (ok_new dL_law_8 (ci := 13) rfl inGX13 tyX13 tyX13_ok w_1553 w_1554 w_96 (by decide +kernel) rfl)))))) (ok_t_nL (ok_t_nL (ok_t_lL (ev_lift (ok_dup dL_law_11))) (ok_t_lL (ev_lift (ok_inv (run_I (y := 227) (n := 0) (ci := 13) dL_law_12 cz_227 gdG cc_227 ci_227 w_1555 cm_227 rfl rfl cd_227 cl_227))))) (ok_t_nL (ok_t_lL (ev_lift (ok_astore_n dL_law_15 rfl))) (ok_t_nL (ok_t_lL (ev_lift (ok_iconst dL_law_16 rfl))) (ok_t_lL (ev_lift (ok_newlong dL_law_17 w_2102))))))) (ok_t_nL (ok_t_nL (ok_t_nL (ok_t_lL (ev_lift (ok_astore_n dL_law_19 rfl))) (ok_t_lL (ev_lift (ok_iconst dL_law_20 rfl)))) (ok_t_nL (ok_t_lL (ev_lift (ok_istore dL_law_21))) (ok_t_nL (ok_t_lL (ev_lift (ok_iload dL_law_23))) (ok_t_lL (ev_lift (ok_aload_n dL_law_25 rfl)))))) (ok_t_nL (ok_t_nL (ok_t_lL (ok_slen dL_law_26)) (ok_t_lL (ev_lift (ok_iconst dL_law_27 rfl)))) (ok_t_nL (ok_t_lL (ev_lift (ok_isub dL_law_28))) (ok_t_nL (ok_t_lL (ev_lift (ok_icmp_gt dL_law_29 rfl))) (ok_t_lL (ev_lift (ok_aload_n dL_law_32 rfl)))))))) (ok_t_nL (ok_t_nL (ok_t_nL (ok_t_nL (ok_t_lL (ev_lift (ok_iload dL_law_33))) (ok_t_lL (ok_sld dL_law_35))) (ok_t_nL (ok_t_lL (ev_lift (ok_bipush dL_law_36 rfl))) (ok_t_nL (ok_t_lL (ev_lift (ok_iand dL_law_38))) (ok_t_lL (ev_lift (ok_tsw dL_law_39 rfl rfl rfl)))))) (ok_t_nL (ok_t_nL (ok_t_lL (ev_lift (ok_aload_n dL_law_168 rfl))) (ok_t_lL (ev_lift (ok_aload_n dL_law_169 rfl)))) (ok_t_nL (ok_t_lL (ev_lift (ok_inv (run_SW (y := 293) (n := 2) dL_law_170 cz_293 gdG cc_293 ci_293 w_1247 cm_293 cd_293 cl_293)))) (ok_t_nL (ok_t_lL (ev_lift (ok_istore dL_law_173))) (ok_t_lL (ev_lift (ok_aload_n dL_law_175 rfl))))))) (ok_t_nL (ok_t_nL (ok_t_nL (ok_t_lL (ev_lift (ok_inv (run_V (y := 236) (n := 0) (ci := 13) dL_law_176 cz_236 gdG cc_236 ci_236 w_1668 cm_236 cs_236 cd_236 cl_236 rfl rfl)))) (ok_t_lL (ev_lift (ok_istore dL_law_179)))) (ok_t_nL (ok_t_lL (ev_lift (ok_aload_n dL_law_181 rfl))) (ok_t_nL (ok_t_lL (ev_lift (ok_inv (run_V (y := 228) (n := 0) (ci := 13) dL_law_182 cz_228 gdG cc_228 ci_228 w_1664 cm_228 cs_228 cd_228 cl_228 rfl rfl)))) (ok_t_lL (ev_lift (ok_iload dL_law_185)))))) (ok_t_nL (ok_t_nL (ok_t_lL (ev_lift (ok_icmp_eq dL_law_187 rfl))) (ok_t_lL (ev_lift (ok_iconst dL_law_190 rfl)))) (ok_t_nL (ok_t_lL (ev_lift (ok_ireturn dL_law_191))) (ok_t_nL (ok_t_lL (ev_lift (ok_iload dL_law_192))) (ok_t_lL (ev_lift (ok_if_ne dL_law_194 rfl)))))))))
def lawt_197 (xs : Nat → Int32) (L : Nat) : Nat → EA := (t_n 224 (t_n 212 (t_n 203 (t_n 199 (t_n 198 (t_l 197 (a_aload 1 3)) (t_l 198 (a_push 1 (.int 0)))) (t_n 200 (t_l 199 a_lld) (t_n 202 (t_l 200 (a_iload 2 6)) (t_l 202 (a_i (fun x => .long x.toInt64)))))) (t_n 207 (t_n 204 (t_l 203 (a_ll (fun x y => .int (lg_cmp x y)))) (t_l 204 (a_if 209 (fun x => decide (x = 0))))) (t_n 208 (t_l 207 (a_push 1 (.int 0))) (t_n 209 (t_l 208 a_iret) (t_l 209 (a_goto 2116)))))) (t_n 218 (t_n 214 (t_n 213 (t_l 212 (a_aload 1 1)) (t_l 213 (a_aload 1 0))) (t_n 216 (t_l 214 (a_iload 2 4)) (t_n 217 (t_l 216 (a_push 1 (.int 1))) (t_l 217 (a_ii 1 (fun x y => x + y)))))) (t_n 220 (t_n 219 (t_l 218 (a_sld xs L)) (t_l 219 (a_aload 1 0))) (t_n 222 (t_l 220 (a_iload 2 4)) (t_n 223 (t_l 222 (a_push 1 (.int 2))) (t_l 223 (a_ii 1 (fun x y => x + y)))))))) (t_n 239 (t_n 230 (t_n 226 (t_n 225 (t_l 224 (a_sld xs L)) (t_l 225 (a_aload 1 0))) (t_n 228 (t_l 226 (a_iload 2 4)) (t_n 229 (t_l 228 (a_push 1 (.int 3))) (t_l 229 (a_ii 1 (fun x y => x + y)))))) (t_n 234 (t_n 231 (t_l 230 (a_sld xs L)) (t_l 231 (a_if 238 (fun x => decide (x = 0))))) (t_n 235 (t_l 234 (a_push 1 (.int 1))) (t_n 238 (t_l 235 (a_goto 239)) (t_l 238 (a_push 1 (.int 0))))))) (t_n 247 (t_n 243 (t_n 240 (t_l 239 (a_aload 1 3)) (t_l 240 (a_inv false 294 5 none))) (t_n 245 (t_l 243 (a_istore 9 2 5)) (t_n 246 (t_l 245 (a_aload 1 2)) (t_l 246 (a_aload 1 0))))) (t_n 250 (t_n 249 (t_l 247 (a_iload 2 4)) (t_l 249 (a_push 1 (.int 1)))) (t_n 251 (t_l 250 (a_ii 1 (fun x y => x + y))) (t_n 252 (t_l 251 (a_sld xs L)) (t_l 252 (a_aload 1 0))))))))
set_option maxRecDepth 100000 in
theorem lawt_197_ok (hh : List (Nat × Nat × Nat × Nat)) (b L d : Nat) (xs : Nat → Int32) : ∀ pc, ev_OkL (ev_OX b L xs) code 9 hh RL lw_g lw_n lw_q vwCl false (ev_CO mt lw_g lw_n lw_q vwCl d) pc (lawt_197 xs L pc) := (ok_t_nL (ok_t_nL (ok_t_nL (ok_t_nL (ok_t_nL (ok_t_lL (ev_lift (ok_aload_n dL_law_197 rfl))) (ok_t_lL (ev_lift (ok_iconst dL_law_198 rfl)))) (ok_t_nL (ok_t_lL (ev_lift (ok_laload dL_law_199))) (ok_t_nL (ok_t_lL (ev_lift (ok_iload dL_law_200))) (ok_t_lL (ev_lift (ok_i2l dL_law_202)))))) (ok_t_nL (ok_t_nL (ok_t_lL (ev_lift (ok_lcmp dL_law_203))) (ok_t_lL (ev_lift (ok_if_eq dL_law_204 rfl)))) (ok_t_nL (ok_t_lL (ev_lift (ok_iconst dL_law_207 rfl))) (ok_t_nL (ok_t_lL (ev_lift (ok_ireturn dL_law_208))) (ok_t_lL (ev_lift (ok_goto dL_law_209 rfl))))))) (ok_t_nL (ok_t_nL (ok_t_nL (ok_t_lL (ev_lift (ok_aload_n dL_law_212 rfl))) (ok_t_lL (ev_lift (ok_aload_n dL_law_213 rfl)))) (ok_t_nL (ok_t_lL (ev_lift (ok_iload dL_law_214))) (ok_t_nL (ok_t_lL (ev_lift (ok_iconst dL_law_216 rfl))) (ok_t_lL (ev_lift (ok_iadd dL_law_217)))))) (ok_t_nL (ok_t_nL (ok_t_lL (ok_sld dL_law_218)) (ok_t_lL (ev_lift (ok_aload_n dL_law_219 rfl)))) (ok_t_nL (ok_t_lL (ev_lift (ok_iload dL_law_220))) (ok_t_nL (ok_t_lL (ev_lift (ok_iconst dL_law_222 rfl))) (ok_t_lL (ev_lift (ok_iadd dL_law_223)))))))) (ok_t_nL (ok_t_nL (ok_t_nL (ok_t_nL (ok_t_lL (ok_sld dL_law_224)) (ok_t_lL (ev_lift (ok_aload_n dL_law_225 rfl)))) (ok_t_nL (ok_t_lL (ev_lift (ok_iload dL_law_226))) (ok_t_nL (ok_t_lL (ev_lift (ok_iconst dL_law_228 rfl))) (ok_t_lL (ev_lift (ok_iadd dL_law_229)))))) (ok_t_nL (ok_t_nL (ok_t_lL (ok_sld dL_law_230)) (ok_t_lL (ev_lift (ok_if_eq dL_law_231 rfl)))) (ok_t_nL (ok_t_lL (ev_lift (ok_iconst dL_law_234 rfl))) (ok_t_nL (ok_t_lL (ev_lift (ok_goto dL_law_235 rfl))) (ok_t_lL (ev_lift (ok_iconst dL_law_238 rfl))))))) (ok_t_nL (ok_t_nL (ok_t_nL (ok_t_lL (ev_lift (ok_aload_n dL_law_239 rfl))) (ok_t_lL (ev_lift (ok_inv (run_SW (y := 294) (n := 5) dL_law_240 cz_294 gdG cc_294 ci_294 w_1264 cm_294 cd_294 cl_294))))) (ok_t_nL (ok_t_lL (ev_lift (ok_istore dL_law_243))) (ok_t_nL (ok_t_lL (ev_lift (ok_aload_n dL_law_245 rfl))) (ok_t_lL (ev_lift (ok_aload_n dL_law_246 rfl)))))) (ok_t_nL (ok_t_nL (ok_t_lL (ev_lift (ok_iload dL_law_247))) (ok_t_lL (ev_lift (ok_iconst dL_law_249 rfl)))) (ok_t_nL (ok_t_lL (ev_lift (ok_iadd dL_law_250))) (ok_t_nL (ok_t_lL (ok_sld dL_law_251)) (ok_t_lL (ev_lift (ok_aload_n dL_law_252 rfl)))))))))
def lawt_253 (xs : Nat → Int32) (L : Nat) : Nat → EA := (t_n 287 (t_n 267 (t_n 259 (t_n 256 (t_n 255 (t_l 253 (a_iload 2 4)) (t_l 255 (a_push 1 (.int 2)))) (t_n 257 (t_l 256 (a_ii 1 (fun x y => x + y))) (t_n 258 (t_l 257 (a_sld xs L)) (t_l 258 (a_aload 1 0))))) (t_n 262 (t_n 261 (t_l 259 (a_iload 2 4)) (t_l 261 (a_push 1 (.int 3)))) (t_n 263 (t_l 262 (a_ii 1 (fun x y => x + y))) (t_n 264 (t_l 263 (a_sld xs L)) (t_l 264 (a_if 271 (fun x => decide (x = 0)))))))) (t_n 277 (t_n 271 (t_n 268 (t_l 267 (a_push 1 (.int 1))) (t_l 268 (a_goto 272))) (t_n 272 (t_l 271 (a_push 1 (.int 0))) (t_n 275 (t_l 272 (a_inv true 237 4 (some 13))) (t_l 275 (a_istore 9 2 6))))) (t_n 281 (t_n 278 (t_l 277 (a_aload 1 2)) (t_l 278 (a_inv true 228 1 (some 13)))) (t_n 283 (t_l 281 (a_iload 2 5)) (t_n 286 (t_l 283 (a_ic 288 (fun x y => decide (x = y)))) (t_l 286 (a_push 1 (.int 0)))))))) (t_n 303 (t_n 295 (t_n 290 (t_n 288 (t_l 287 a_iret) (t_l 288 (a_iload 2 5))) (t_n 293 (t_l 290 (a_if 305 (fun x => !decide (x = 0)))) (t_n 294 (t_l 293 (a_aload 1 3)) (t_l 294 (a_push 1 (.int 0)))))) (t_n 298 (t_n 296 (t_l 295 a_lld) (t_l 296 (a_iload 2 6))) (t_n 299 (t_l 298 (a_i (fun x => .long x.toInt64))) (t_n 300 (t_l 299 (a_ll (fun x y => .int (lg_cmp x y)))) (t_l 300 (a_if 305 (fun x => decide (x = 0)))))))) (t_n 310 (t_n 305 (t_n 304 (t_l 303 (a_push 1 (.int 0))) (t_l 304 a_iret)) (t_n 308 (t_l 305 (a_goto 2116)) (t_n 309 (t_l 308 (a_aload 1 1)) (t_l 309 (a_aload 1 0))))) (t_n 313 (t_n 312 (t_l 310 (a_iload 2 4)) (t_l 312 (a_push 1 (.int 1)))) (t_n 314 (t_l 313 (a_ii 1 (fun x y => x + y))) (t_n 315 (t_l 314 (a_sld xs L)) (t_l 315 (a_aload 1 0))))))))
set_option maxRecDepth 100000 in
theorem lawt_253_ok (hh : List (Nat × Nat × Nat × Nat)) (b L d : Nat) (xs : Nat → Int32) : ∀ pc, ev_OkL (ev_OX b L xs) code 9 hh RL lw_g lw_n lw_q vwCl false (ev_CO mt lw_g lw_n lw_q vwCl d) pc (lawt_253 xs L pc) := (ok_t_nL (ok_t_nL (ok_t_nL (ok_t_nL (ok_t_nL (ok_t_lL (ev_lift (ok_iload dL_law_253))) (ok_t_lL (ev_lift (ok_iconst dL_law_255 rfl)))) (ok_t_nL (ok_t_lL (ev_lift (ok_iadd dL_law_256))) (ok_t_nL (ok_t_lL (ok_sld dL_law_257)) (ok_t_lL (ev_lift (ok_aload_n dL_law_258 rfl)))))) (ok_t_nL (ok_t_nL (ok_t_lL (ev_lift (ok_iload dL_law_259))) (ok_t_lL (ev_lift (ok_iconst dL_law_261 rfl)))) (ok_t_nL (ok_t_lL (ev_lift (ok_iadd dL_law_262))) (ok_t_nL (ok_t_lL (ok_sld dL_law_263)) (ok_t_lL (ev_lift (ok_if_eq dL_law_264 rfl))))))) (ok_t_nL (ok_t_nL (ok_t_nL (ok_t_lL (ev_lift (ok_iconst dL_law_267 rfl))) (ok_t_lL (ev_lift (ok_goto dL_law_268 rfl)))) (ok_t_nL (ok_t_lL (ev_lift (ok_iconst dL_law_271 rfl))) (ok_t_nL (ok_t_lL (ev_lift (ok_inv (run_V (y := 237) (n := 3) (ci := 13) dL_law_272 cz_237 gdG cc_237 ci_237 w_1676 cm_237 cs_237 cd_237 cl_237 rfl rfl)))) (ok_t_lL (ev_lift (ok_istore dL_law_275)))))) (ok_t_nL (ok_t_nL (ok_t_lL (ev_lift (ok_aload_n dL_law_277 rfl))) (ok_t_lL (ev_lift (ok_inv (run_V (y := 228) (n := 0) (ci := 13) dL_law_278 cz_228 gdG cc_228 ci_228 w_1664 cm_228 cs_228 cd_228 cl_228 rfl rfl))))) (ok_t_nL (ok_t_lL (ev_lift (ok_iload dL_law_281))) (ok_t_nL (ok_t_lL (ev_lift (ok_icmp_eq dL_law_283 rfl))) (ok_t_lL (ev_lift (ok_iconst dL_law_286 rfl)))))))) (ok_t_nL (ok_t_nL (ok_t_nL (ok_t_nL (ok_t_lL (ev_lift (ok_ireturn dL_law_287))) (ok_t_lL (ev_lift (ok_iload dL_law_288)))) (ok_t_nL (ok_t_lL (ev_lift (ok_if_ne dL_law_290 rfl))) (ok_t_nL (ok_t_lL (ev_lift (ok_aload_n dL_law_293 rfl))) (ok_t_lL (ev_lift (ok_iconst dL_law_294 rfl)))))) (ok_t_nL (ok_t_nL (ok_t_lL (ev_lift (ok_laload dL_law_295))) (ok_t_lL (ev_lift (ok_iload dL_law_296)))) (ok_t_nL (ok_t_lL (ev_lift (ok_i2l dL_law_298))) (ok_t_nL (ok_t_lL (ev_lift (ok_lcmp dL_law_299))) (ok_t_lL (ev_lift (ok_if_eq dL_law_300 rfl))))))) (ok_t_nL (ok_t_nL (ok_t_nL (ok_t_lL (ev_lift (ok_iconst dL_law_303 rfl))) (ok_t_lL (ev_lift (ok_ireturn dL_law_304)))) (ok_t_nL (ok_t_lL (ev_lift (ok_goto dL_law_305 rfl))) (ok_t_nL (ok_t_lL (ev_lift (ok_aload_n dL_law_308 rfl))) (ok_t_lL (ev_lift (ok_aload_n dL_law_309 rfl)))))) (ok_t_nL (ok_t_nL (ok_t_lL (ev_lift (ok_iload dL_law_310))) (ok_t_lL (ev_lift (ok_iconst dL_law_312 rfl)))) (ok_t_nL (ok_t_lL (ev_lift (ok_iadd dL_law_313))) (ok_t_nL (ok_t_lL (ok_sld dL_law_314)) (ok_t_lL (ev_lift (ok_aload_n dL_law_315 rfl)))))))))
def lawt_316 (xs : Nat → Int32) (L : Nat) : Nat → EA := (t_n 345 (t_n 331 (t_n 322 (t_n 319 (t_n 318 (t_l 316 (a_iload 2 4)) (t_l 318 (a_push 1 (.int 2)))) (t_n 320 (t_l 319 (a_ii 1 (fun x y => x + y))) (t_n 321 (t_l 320 (a_sld xs L)) (t_l 321 (a_aload 1 3))))) (t_n 327 (t_n 325 (t_l 322 (a_inv false 295 4 none)) (t_l 325 (a_istore 9 2 5))) (t_n 328 (t_l 327 (a_aload 1 2)) (t_n 329 (t_l 328 (a_aload 1 0)) (t_l 329 (a_iload 2 4)))))) (t_n 337 (t_n 333 (t_n 332 (t_l 331 (a_push 1 (.int 1))) (t_l 332 (a_ii 1 (fun x y => x + y)))) (t_n 334 (t_l 333 (a_sld xs L)) (t_n 335 (t_l 334 (a_aload 1 0)) (t_l 335 (a_iload 2 4))))) (t_n 339 (t_n 338 (t_l 337 (a_push 1 (.int 2))) (t_l 338 (a_ii 1 (fun x y => x + y)))) (t_n 340 (t_l 339 (a_sld xs L)) (t_n 343 (t_l 340 (a_inv true 239 3 (some 13))) (t_l 343 (a_istore 9 2 6))))))) (t_n 363 (t_n 355 (t_n 349 (t_n 346 (t_l 345 (a_aload 1 2)) (t_l 346 (a_inv true 228 1 (some 13)))) (t_n 351 (t_l 349 (a_iload 2 5)) (t_n 354 (t_l 351 (a_ic 356 (fun x y => decide (x = y)))) (t_l 354 (a_push 1 (.int 0)))))) (t_n 358 (t_n 356 (t_l 355 a_iret) (t_l 356 (a_iload 2 5))) (t_n 361 (t_l 358 (a_if 373 (fun x => !decide (x = 0)))) (t_n 362 (t_l 361 (a_aload 1 3)) (t_l 362 (a_push 1 (.int 0))))))) (t_n 371 (t_n 366 (t_n 364 (t_l 363 a_lld) (t_l 364 (a_iload 2 6))) (t_n 367 (t_l 366 (a_i (fun x => .long x.toInt64))) (t_n 368 (t_l 367 (a_ll (fun x y => .int (lg_cmp x y)))) (t_l 368 (a_if 373 (fun x => decide (x = 0))))))) (t_n 376 (t_n 372 (t_l 371 (a_push 1 (.int 0))) (t_n 373 (t_l 372 a_iret) (t_l 373 (a_goto 2116)))) (t_n 377 (t_l 376 (a_aload 1 1)) (t_n 378 (t_l 377 (a_aload 1 0)) (t_l 378 (a_iload 2 4))))))))
set_option maxRecDepth 100000 in
theorem lawt_316_ok (hh : List (Nat × Nat × Nat × Nat)) (b L d : Nat) (xs : Nat → Int32) : ∀ pc, ev_OkL (ev_OX b L xs) code 9 hh RL lw_g lw_n lw_q vwCl false (ev_CO mt lw_g lw_n lw_q vwCl d) pc (lawt_316 xs L pc) := (ok_t_nL (ok_t_nL (ok_t_nL (ok_t_nL (ok_t_nL (ok_t_lL (ev_lift (ok_iload dL_law_316))) (ok_t_lL (ev_lift (ok_iconst dL_law_318 rfl)))) (ok_t_nL (ok_t_lL (ev_lift (ok_iadd dL_law_319))) (ok_t_nL (ok_t_lL (ok_sld dL_law_320)) (ok_t_lL (ev_lift (ok_aload_n dL_law_321 rfl)))))) (ok_t_nL (ok_t_nL (ok_t_lL (ev_lift (ok_inv (run_SW (y := 295) (n := 4) dL_law_322 cz_295 gdG cc_295 ci_295 w_1287 cm_295 cd_295 cl_295)))) (ok_t_lL (ev_lift (ok_istore dL_law_325)))) (ok_t_nL (ok_t_lL (ev_lift (ok_aload_n dL_law_327 rfl))) (ok_t_nL (ok_t_lL (ev_lift (ok_aload_n dL_law_328 rfl))) (ok_t_lL (ev_lift (ok_iload dL_law_329))))))) (ok_t_nL (ok_t_nL (ok_t_nL (ok_t_lL (ev_lift (ok_iconst dL_law_331 rfl))) (ok_t_lL (ev_lift (ok_iadd dL_law_332)))) (ok_t_nL (ok_t_lL (ok_sld dL_law_333)) (ok_t_nL (ok_t_lL (ev_lift (ok_aload_n dL_law_334 rfl))) (ok_t_lL (ev_lift (ok_iload dL_law_335)))))) (ok_t_nL (ok_t_nL (ok_t_lL (ev_lift (ok_iconst dL_law_337 rfl))) (ok_t_lL (ev_lift (ok_iadd dL_law_338)))) (ok_t_nL (ok_t_lL (ok_sld dL_law_339)) (ok_t_nL (ok_t_lL (ev_lift (ok_inv (run_V (y := 239) (n := 2) (ci := 13) dL_law_340 cz_239 gdG cc_239 ci_239 w_1690 cm_239 cs_239 cd_239 cl_239 rfl rfl)))) (ok_t_lL (ev_lift (ok_istore dL_law_343)))))))) (ok_t_nL (ok_t_nL (ok_t_nL (ok_t_nL (ok_t_lL (ev_lift (ok_aload_n dL_law_345 rfl))) (ok_t_lL (ev_lift (ok_inv (run_V (y := 228) (n := 0) (ci := 13) dL_law_346 cz_228 gdG cc_228 ci_228 w_1664 cm_228 cs_228 cd_228 cl_228 rfl rfl))))) (ok_t_nL (ok_t_lL (ev_lift (ok_iload dL_law_349))) (ok_t_nL (ok_t_lL (ev_lift (ok_icmp_eq dL_law_351 rfl))) (ok_t_lL (ev_lift (ok_iconst dL_law_354 rfl)))))) (ok_t_nL (ok_t_nL (ok_t_lL (ev_lift (ok_ireturn dL_law_355))) (ok_t_lL (ev_lift (ok_iload dL_law_356)))) (ok_t_nL (ok_t_lL (ev_lift (ok_if_ne dL_law_358 rfl))) (ok_t_nL (ok_t_lL (ev_lift (ok_aload_n dL_law_361 rfl))) (ok_t_lL (ev_lift (ok_iconst dL_law_362 rfl))))))) (ok_t_nL (ok_t_nL (ok_t_nL (ok_t_lL (ev_lift (ok_laload dL_law_363))) (ok_t_lL (ev_lift (ok_iload dL_law_364)))) (ok_t_nL (ok_t_lL (ev_lift (ok_i2l dL_law_366))) (ok_t_nL (ok_t_lL (ev_lift (ok_lcmp dL_law_367))) (ok_t_lL (ev_lift (ok_if_eq dL_law_368 rfl)))))) (ok_t_nL (ok_t_nL (ok_t_lL (ev_lift (ok_iconst dL_law_371 rfl))) (ok_t_nL (ok_t_lL (ev_lift (ok_ireturn dL_law_372))) (ok_t_lL (ev_lift (ok_goto dL_law_373 rfl))))) (ok_t_nL (ok_t_lL (ev_lift (ok_aload_n dL_law_376 rfl))) (ok_t_nL (ok_t_lL (ev_lift (ok_aload_n dL_law_377 rfl))) (ok_t_lL (ev_lift (ok_iload dL_law_378)))))))))
def lawt_380 (xs : Nat → Int32) (L : Nat) : Nat → EA := (t_n 405 (t_n 392 (t_n 386 (t_n 382 (t_n 381 (t_l 380 (a_push 1 (.int 1))) (t_l 381 (a_ii 1 (fun x y => x + y)))) (t_n 383 (t_l 382 (a_sld xs L)) (t_n 384 (t_l 383 (a_aload 1 0)) (t_l 384 (a_iload 2 4))))) (t_n 388 (t_n 387 (t_l 386 (a_push 1 (.int 2))) (t_l 387 (a_ii 1 (fun x y => x + y)))) (t_n 389 (t_l 388 (a_sld xs L)) (t_n 390 (t_l 389 (a_aload 1 0)) (t_l 390 (a_iload 2 4)))))) (t_n 398 (t_n 394 (t_n 393 (t_l 392 (a_push 1 (.int 3))) (t_l 393 (a_ii 1 (fun x y => x + y)))) (t_n 395 (t_l 394 (a_sld xs L)) (t_n 396 (t_l 395 (a_aload 1 0)) (t_l 396 (a_iload 2 4))))) (t_n 400 (t_n 399 (t_l 398 (a_push 1 (.int 4))) (t_l 399 (a_ii 1 (fun x y => x + y)))) (t_n 401 (t_l 400 (a_sld xs L)) (t_n 404 (t_l 401 (a_if 408 (fun x => decide (x = 0)))) (t_l 404 (a_push 1 (.int 1)))))))) (t_n 421 (t_n 415 (t_n 409 (t_n 408 (t_l 405 (a_goto 409)) (t_l 408 (a_push 1 (.int 0)))) (t_n 410 (t_l 409 (a_aload 1 3)) (t_n 413 (t_l 410 (a_inv false 296 6 none)) (t_l 413 (a_istore 9 2 5))))) (t_n 417 (t_n 416 (t_l 415 (a_aload 1 2)) (t_l 416 (a_aload 1 0))) (t_n 419 (t_l 417 (a_iload 2 4)) (t_n 420 (t_l 419 (a_push 1 (.int 1))) (t_l 420 (a_ii 1 (fun x y => x + y))))))) (t_n 427 (t_n 423 (t_n 422 (t_l 421 (a_sld xs L)) (t_l 422 (a_aload 1 0))) (t_n 425 (t_l 423 (a_iload 2 4)) (t_n 426 (t_l 425 (a_push 1 (.int 2))) (t_l 426 (a_ii 1 (fun x y => x + y)))))) (t_n 429 (t_n 428 (t_l 427 (a_sld xs L)) (t_l 428 (a_aload 1 0))) (t_n 431 (t_l 429 (a_iload 2 4)) (t_n 432 (t_l 431 (a_push 1 (.int 3))) (t_l 432 (a_ii 1 (fun x y => x + y)))))))))
set_option maxRecDepth 100000 in
theorem lawt_380_ok (hh : List (Nat × Nat × Nat × Nat)) (b L d : Nat) (xs : Nat → Int32) : ∀ pc, ev_OkL (ev_OX b L xs) code 9 hh RL lw_g lw_n lw_q vwCl false (ev_CO mt lw_g lw_n lw_q vwCl d) pc (lawt_380 xs L pc) := (ok_t_nL (ok_t_nL (ok_t_nL (ok_t_nL (ok_t_nL (ok_t_lL (ev_lift (ok_iconst dL_law_380 rfl))) (ok_t_lL (ev_lift (ok_iadd dL_law_381)))) (ok_t_nL (ok_t_lL (ok_sld dL_law_382)) (ok_t_nL (ok_t_lL (ev_lift (ok_aload_n dL_law_383 rfl))) (ok_t_lL (ev_lift (ok_iload dL_law_384)))))) (ok_t_nL (ok_t_nL (ok_t_lL (ev_lift (ok_iconst dL_law_386 rfl))) (ok_t_lL (ev_lift (ok_iadd dL_law_387)))) (ok_t_nL (ok_t_lL (ok_sld dL_law_388)) (ok_t_nL (ok_t_lL (ev_lift (ok_aload_n dL_law_389 rfl))) (ok_t_lL (ev_lift (ok_iload dL_law_390))))))) (ok_t_nL (ok_t_nL (ok_t_nL (ok_t_lL (ev_lift (ok_iconst dL_law_392 rfl))) (ok_t_lL (ev_lift (ok_iadd dL_law_393)))) (ok_t_nL (ok_t_lL (ok_sld dL_law_394)) (ok_t_nL (ok_t_lL (ev_lift (ok_aload_n dL_law_395 rfl))) (ok_t_lL (ev_lift (ok_iload dL_law_396)))))) (ok_t_nL (ok_t_nL (ok_t_lL (ev_lift (ok_iconst dL_law_398 rfl))) (ok_t_lL (ev_lift (ok_iadd dL_law_399)))) (ok_t_nL (ok_t_lL (ok_sld dL_law_400)) (ok_t_nL (ok_t_lL (ev_lift (ok_if_eq dL_law_401 rfl))) (ok_t_lL (ev_lift (ok_iconst dL_law_404 rfl)))))))) (ok_t_nL (ok_t_nL (ok_t_nL (ok_t_nL (ok_t_lL (ev_lift (ok_goto dL_law_405 rfl))) (ok_t_lL (ev_lift (ok_iconst dL_law_408 rfl)))) (ok_t_nL (ok_t_lL (ev_lift (ok_aload_n dL_law_409 rfl))) (ok_t_nL (ok_t_lL (ev_lift (ok_inv (run_SW (y := 296) (n := 6) dL_law_410 cz_296 gdG cc_296 ci_296 w_1306 cm_296 cd_296 cl_296)))) (ok_t_lL (ev_lift (ok_istore dL_law_413)))))) (ok_t_nL (ok_t_nL (ok_t_lL (ev_lift (ok_aload_n dL_law_415 rfl))) (ok_t_lL (ev_lift (ok_aload_n dL_law_416 rfl)))) (ok_t_nL (ok_t_lL (ev_lift (ok_iload dL_law_417))) (ok_t_nL (ok_t_lL (ev_lift (ok_iconst dL_law_419 rfl))) (ok_t_lL (ev_lift (ok_iadd dL_law_420))))))) (ok_t_nL (ok_t_nL (ok_t_nL (ok_t_lL (ok_sld dL_law_421)) (ok_t_lL (ev_lift (ok_aload_n dL_law_422 rfl)))) (ok_t_nL (ok_t_lL (ev_lift (ok_iload dL_law_423))) (ok_t_nL (ok_t_lL (ev_lift (ok_iconst dL_law_425 rfl))) (ok_t_lL (ev_lift (ok_iadd dL_law_426)))))) (ok_t_nL (ok_t_nL (ok_t_lL (ok_sld dL_law_427)) (ok_t_lL (ev_lift (ok_aload_n dL_law_428 rfl)))) (ok_t_nL (ok_t_lL (ev_lift (ok_iload dL_law_429))) (ok_t_nL (ok_t_lL (ev_lift (ok_iconst dL_law_431 rfl))) (ok_t_lL (ev_lift (ok_iadd dL_law_432)))))))))
def lawt_433 (xs : Nat → Int32) (L : Nat) : Nat → EA := (t_n 469 (t_n 448 (t_n 439 (t_n 435 (t_n 434 (t_l 433 (a_sld xs L)) (t_l 434 (a_aload 1 0))) (t_n 437 (t_l 435 (a_iload 2 4)) (t_n 438 (t_l 437 (a_push 1 (.int 4))) (t_l 438 (a_ii 1 (fun x y => x + y)))))) (t_n 443 (t_n 440 (t_l 439 (a_sld xs L)) (t_l 440 (a_if 447 (fun x => decide (x = 0))))) (t_n 444 (t_l 443 (a_push 1 (.int 1))) (t_n 447 (t_l 444 (a_goto 448)) (t_l 447 (a_push 1 (.int 0))))))) (t_n 459 (t_n 453 (t_n 451 (t_l 448 (a_inv true 240 5 (some 13))) (t_l 451 (a_istore 9 2 6))) (t_n 454 (t_l 453 (a_aload 1 2)) (t_n 457 (t_l 454 (a_inv true 228 1 (some 13))) (t_l 457 (a_iload 2 5))))) (t_n 463 (t_n 462 (t_l 459 (a_ic 464 (fun x y => decide (x = y)))) (t_l 462 (a_push 1 (.int 0)))) (t_n 464 (t_l 463 a_iret) (t_n 466 (t_l 464 (a_iload 2 5)) (t_l 466 (a_if 481 (fun x => !decide (x = 0))))))))) (t_n 484 (t_n 475 (t_n 471 (t_n 470 (t_l 469 (a_aload 1 3)) (t_l 470 (a_push 1 (.int 0)))) (t_n 472 (t_l 471 a_lld) (t_n 474 (t_l 472 (a_iload 2 6)) (t_l 474 (a_i (fun x => .long x.toInt64)))))) (t_n 479 (t_n 476 (t_l 475 (a_ll (fun x y => .int (lg_cmp x y)))) (t_l 476 (a_if 481 (fun x => decide (x = 0))))) (t_n 480 (t_l 479 (a_push 1 (.int 0))) (t_n 481 (t_l 480 a_iret) (t_l 481 (a_goto 2116)))))) (t_n 490 (t_n 486 (t_n 485 (t_l 484 (a_aload 1 1)) (t_l 485 (a_aload 1 0))) (t_n 488 (t_l 486 (a_iload 2 4)) (t_n 489 (t_l 488 (a_push 1 (.int 1))) (t_l 489 (a_ii 1 (fun x y => x + y)))))) (t_n 492 (t_n 491 (t_l 490 (a_sld xs L)) (t_l 491 (a_aload 1 0))) (t_n 494 (t_l 492 (a_iload 2 4)) (t_n 495 (t_l 494 (a_push 1 (.int 2))) (t_l 495 (a_ii 1 (fun x y => x + y)))))))))
set_option maxRecDepth 100000 in
theorem lawt_433_ok (hh : List (Nat × Nat × Nat × Nat)) (b L d : Nat) (xs : Nat → Int32) : ∀ pc, ev_OkL (ev_OX b L xs) code 9 hh RL lw_g lw_n lw_q vwCl false (ev_CO mt lw_g lw_n lw_q vwCl d) pc (lawt_433 xs L pc) := (ok_t_nL (ok_t_nL (ok_t_nL (ok_t_nL (ok_t_nL (ok_t_lL (ok_sld dL_law_433)) (ok_t_lL (ev_lift (ok_aload_n dL_law_434 rfl)))) (ok_t_nL (ok_t_lL (ev_lift (ok_iload dL_law_435))) (ok_t_nL (ok_t_lL (ev_lift (ok_iconst dL_law_437 rfl))) (ok_t_lL (ev_lift (ok_iadd dL_law_438)))))) (ok_t_nL (ok_t_nL (ok_t_lL (ok_sld dL_law_439)) (ok_t_lL (ev_lift (ok_if_eq dL_law_440 rfl)))) (ok_t_nL (ok_t_lL (ev_lift (ok_iconst dL_law_443 rfl))) (ok_t_nL (ok_t_lL (ev_lift (ok_goto dL_law_444 rfl))) (ok_t_lL (ev_lift (ok_iconst dL_law_447 rfl))))))) (ok_t_nL (ok_t_nL (ok_t_nL (ok_t_lL (ev_lift (ok_inv (run_V (y := 240) (n := 4) (ci := 13) dL_law_448 cz_240 gdG cc_240 ci_240 w_1702 cm_240 cs_240 cd_240 cl_240 rfl rfl)))) (ok_t_lL (ev_lift (ok_istore dL_law_451)))) (ok_t_nL (ok_t_lL (ev_lift (ok_aload_n dL_law_453 rfl))) (ok_t_nL (ok_t_lL (ev_lift (ok_inv (run_V (y := 228) (n := 0) (ci := 13) dL_law_454 cz_228 gdG cc_228 ci_228 w_1664 cm_228 cs_228 cd_228 cl_228 rfl rfl)))) (ok_t_lL (ev_lift (ok_iload dL_law_457)))))) (ok_t_nL (ok_t_nL (ok_t_lL (ev_lift (ok_icmp_eq dL_law_459 rfl))) (ok_t_lL (ev_lift (ok_iconst dL_law_462 rfl)))) (ok_t_nL (ok_t_lL (ev_lift (ok_ireturn dL_law_463))) (ok_t_nL (ok_t_lL (ev_lift (ok_iload dL_law_464))) (ok_t_lL (ev_lift (ok_if_ne dL_law_466 rfl)))))))) (ok_t_nL (ok_t_nL (ok_t_nL (ok_t_nL (ok_t_lL (ev_lift (ok_aload_n dL_law_469 rfl))) (ok_t_lL (ev_lift (ok_iconst dL_law_470 rfl)))) (ok_t_nL (ok_t_lL (ev_lift (ok_laload dL_law_471))) (ok_t_nL (ok_t_lL (ev_lift (ok_iload dL_law_472))) (ok_t_lL (ev_lift (ok_i2l dL_law_474)))))) (ok_t_nL (ok_t_nL (ok_t_lL (ev_lift (ok_lcmp dL_law_475))) (ok_t_lL (ev_lift (ok_if_eq dL_law_476 rfl)))) (ok_t_nL (ok_t_lL (ev_lift (ok_iconst dL_law_479 rfl))) (ok_t_nL (ok_t_lL (ev_lift (ok_ireturn dL_law_480))) (ok_t_lL (ev_lift (ok_goto dL_law_481 rfl))))))) (ok_t_nL (ok_t_nL (ok_t_nL (ok_t_lL (ev_lift (ok_aload_n dL_law_484 rfl))) (ok_t_lL (ev_lift (ok_aload_n dL_law_485 rfl)))) (ok_t_nL (ok_t_lL (ev_lift (ok_iload dL_law_486))) (ok_t_nL (ok_t_lL (ev_lift (ok_iconst dL_law_488 rfl))) (ok_t_lL (ev_lift (ok_iadd dL_law_489)))))) (ok_t_nL (ok_t_nL (ok_t_lL (ok_sld dL_law_490)) (ok_t_lL (ev_lift (ok_aload_n dL_law_491 rfl)))) (ok_t_nL (ok_t_lL (ev_lift (ok_iload dL_law_492))) (ok_t_nL (ok_t_lL (ev_lift (ok_iconst dL_law_494 rfl))) (ok_t_lL (ev_lift (ok_iadd dL_law_495)))))))))
def lawt_496 (xs : Nat → Int32) (L : Nat) : Nat → EA := (t_n 525 (t_n 511 (t_n 502 (t_n 498 (t_n 497 (t_l 496 (a_sld xs L)) (t_l 497 (a_aload 1 0))) (t_n 500 (t_l 498 (a_iload 2 4)) (t_n 501 (t_l 500 (a_push 1 (.int 3))) (t_l 501 (a_ii 1 (fun x y => x + y)))))) (t_n 506 (t_n 503 (t_l 502 (a_sld xs L)) (t_l 503 (a_if 510 (fun x => decide (x = 0))))) (t_n 507 (t_l 506 (a_push 1 (.int 1))) (t_n 510 (t_l 507 (a_goto 511)) (t_l 510 (a_push 1 (.int 0))))))) (t_n 519 (t_n 515 (t_n 512 (t_l 511 (a_aload 1 3)) (t_l 512 (a_inv false 297 5 none))) (t_n 517 (t_l 515 (a_istore 9 2 5)) (t_n 518 (t_l 517 (a_aload 1 2)) (t_l 518 (a_aload 1 0))))) (t_n 522 (t_n 521 (t_l 519 (a_iload 2 4)) (t_l 521 (a_push 1 (.int 1)))) (t_n 523 (t_l 522 (a_ii 1 (fun x y => x + y))) (t_n 524 (t_l 523 (a_sld xs L)) (t_l 524 (a_aload 1 0))))))) (t_n 539 (t_n 531 (t_n 528 (t_n 527 (t_l 525 (a_iload 2 4)) (t_l 527 (a_push 1 (.int 2)))) (t_n 529 (t_l 528 (a_ii 1 (fun x y => x + y))) (t_n 530 (t_l 529 (a_sld xs L)) (t_l 530 (a_aload 1 0))))) (t_n 534 (t_n 533 (t_l 531 (a_iload 2 4)) (t_l 533 (a_push 1 (.int 3)))) (t_n 535 (t_l 534 (a_ii 1 (fun x y => x + y))) (t_n 536 (t_l 535 (a_sld xs L)) (t_l 536 (a_if 543 (fun x => decide (x = 0)))))))) (t_n 549 (t_n 543 (t_n 540 (t_l 539 (a_push 1 (.int 1))) (t_l 540 (a_goto 544))) (t_n 544 (t_l 543 (a_push 1 (.int 0))) (t_n 547 (t_l 544 (a_inv true 241 4 (some 13))) (t_l 547 (a_istore 9 2 6))))) (t_n 553 (t_n 550 (t_l 549 (a_aload 1 2)) (t_l 550 (a_inv true 228 1 (some 13)))) (t_n 555 (t_l 553 (a_iload 2 5)) (t_n 558 (t_l 555 (a_ic 560 (fun x y => decide (x = y)))) (t_l 558 (a_push 1 (.int 0)))))))))
set_option maxRecDepth 100000 in
theorem lawt_496_ok (hh : List (Nat × Nat × Nat × Nat)) (b L d : Nat) (xs : Nat → Int32) : ∀ pc, ev_OkL (ev_OX b L xs) code 9 hh RL lw_g lw_n lw_q vwCl false (ev_CO mt lw_g lw_n lw_q vwCl d) pc (lawt_496 xs L pc) := (ok_t_nL (ok_t_nL (ok_t_nL (ok_t_nL (ok_t_nL (ok_t_lL (ok_sld dL_law_496)) (ok_t_lL (ev_lift (ok_aload_n dL_law_497 rfl)))) (ok_t_nL (ok_t_lL (ev_lift (ok_iload dL_law_498))) (ok_t_nL (ok_t_lL (ev_lift (ok_iconst dL_law_500 rfl))) (ok_t_lL (ev_lift (ok_iadd dL_law_501)))))) (ok_t_nL (ok_t_nL (ok_t_lL (ok_sld dL_law_502)) (ok_t_lL (ev_lift (ok_if_eq dL_law_503 rfl)))) (ok_t_nL (ok_t_lL (ev_lift (ok_iconst dL_law_506 rfl))) (ok_t_nL (ok_t_lL (ev_lift (ok_goto dL_law_507 rfl))) (ok_t_lL (ev_lift (ok_iconst dL_law_510 rfl))))))) (ok_t_nL (ok_t_nL (ok_t_nL (ok_t_lL (ev_lift (ok_aload_n dL_law_511 rfl))) (ok_t_lL (ev_lift (ok_inv (run_SW (y := 297) (n := 5) dL_law_512 cz_297 gdG cc_297 ci_297 w_1322 cm_297 cd_297 cl_297))))) (ok_t_nL (ok_t_lL (ev_lift (ok_istore dL_law_515))) (ok_t_nL (ok_t_lL (ev_lift (ok_aload_n dL_law_517 rfl))) (ok_t_lL (ev_lift (ok_aload_n dL_law_518 rfl)))))) (ok_t_nL (ok_t_nL (ok_t_lL (ev_lift (ok_iload dL_law_519))) (ok_t_lL (ev_lift (ok_iconst dL_law_521 rfl)))) (ok_t_nL (ok_t_lL (ev_lift (ok_iadd dL_law_522))) (ok_t_nL (ok_t_lL (ok_sld dL_law_523)) (ok_t_lL (ev_lift (ok_aload_n dL_law_524 rfl)))))))) (ok_t_nL (ok_t_nL (ok_t_nL (ok_t_nL (ok_t_lL (ev_lift (ok_iload dL_law_525))) (ok_t_lL (ev_lift (ok_iconst dL_law_527 rfl)))) (ok_t_nL (ok_t_lL (ev_lift (ok_iadd dL_law_528))) (ok_t_nL (ok_t_lL (ok_sld dL_law_529)) (ok_t_lL (ev_lift (ok_aload_n dL_law_530 rfl)))))) (ok_t_nL (ok_t_nL (ok_t_lL (ev_lift (ok_iload dL_law_531))) (ok_t_lL (ev_lift (ok_iconst dL_law_533 rfl)))) (ok_t_nL (ok_t_lL (ev_lift (ok_iadd dL_law_534))) (ok_t_nL (ok_t_lL (ok_sld dL_law_535)) (ok_t_lL (ev_lift (ok_if_eq dL_law_536 rfl))))))) (ok_t_nL (ok_t_nL (ok_t_nL (ok_t_lL (ev_lift (ok_iconst dL_law_539 rfl))) (ok_t_lL (ev_lift (ok_goto dL_law_540 rfl)))) (ok_t_nL (ok_t_lL (ev_lift (ok_iconst dL_law_543 rfl))) (ok_t_nL (ok_t_lL (ev_lift (ok_inv (run_V (y := 241) (n := 3) (ci := 13) dL_law_544 cz_241 gdG cc_241 ci_241 w_1709 cm_241 cs_241 cd_241 cl_241 rfl rfl)))) (ok_t_lL (ev_lift (ok_istore dL_law_547)))))) (ok_t_nL (ok_t_nL (ok_t_lL (ev_lift (ok_aload_n dL_law_549 rfl))) (ok_t_lL (ev_lift (ok_inv (run_V (y := 228) (n := 0) (ci := 13) dL_law_550 cz_228 gdG cc_228 ci_228 w_1664 cm_228 cs_228 cd_228 cl_228 rfl rfl))))) (ok_t_nL (ok_t_lL (ev_lift (ok_iload dL_law_553))) (ok_t_nL (ok_t_lL (ev_lift (ok_icmp_eq dL_law_555 rfl))) (ok_t_lL (ev_lift (ok_iconst dL_law_558 rfl)))))))))
def lawt_559 (xs : Nat → Int32) (L : Nat) : Nat → EA := (t_n 588 (t_n 575 (t_n 567 (t_n 562 (t_n 560 (t_l 559 a_iret) (t_l 560 (a_iload 2 5))) (t_n 565 (t_l 562 (a_if 577 (fun x => !decide (x = 0)))) (t_n 566 (t_l 565 (a_aload 1 3)) (t_l 566 (a_push 1 (.int 0)))))) (t_n 570 (t_n 568 (t_l 567 a_lld) (t_l 568 (a_iload 2 6))) (t_n 571 (t_l 570 (a_i (fun x => .long x.toInt64))) (t_n 572 (t_l 571 (a_ll (fun x y => .int (lg_cmp x y)))) (t_l 572 (a_if 577 (fun x => decide (x = 0)))))))) (t_n 582 (t_n 577 (t_n 576 (t_l 575 (a_push 1 (.int 0))) (t_l 576 a_iret)) (t_n 580 (t_l 577 (a_goto 2116)) (t_n 581 (t_l 580 (a_aload 1 1)) (t_l 581 (a_aload 1 0))))) (t_n 585 (t_n 584 (t_l 582 (a_iload 2 4)) (t_l 584 (a_push 1 (.int 1)))) (t_n 586 (t_l 585 (a_ii 1 (fun x y => x + y))) (t_n 587 (t_l 586 (a_sld xs L)) (t_l 587 (a_aload 1 0))))))) (t_n 602 (t_n 594 (t_n 591 (t_n 590 (t_l 588 (a_iload 2 4)) (t_l 590 (a_push 1 (.int 2)))) (t_n 592 (t_l 591 (a_ii 1 (fun x y => x + y))) (t_n 593 (t_l 592 (a_sld xs L)) (t_l 593 (a_aload 1 0))))) (t_n 597 (t_n 596 (t_l 594 (a_iload 2 4)) (t_l 596 (a_push 1 (.int 3)))) (t_n 598 (t_l 597 (a_ii 1 (fun x y => x + y))) (t_n 599 (t_l 598 (a_sld xs L)) (t_l 599 (a_if 606 (fun x => decide (x = 0)))))))) (t_n 610 (t_n 606 (t_n 603 (t_l 602 (a_push 1 (.int 1))) (t_l 603 (a_goto 607))) (t_n 607 (t_l 606 (a_push 1 (.int 0))) (t_n 608 (t_l 607 (a_aload 1 0)) (t_l 608 (a_iload 2 4))))) (t_n 613 (t_n 611 (t_l 610 (a_push 1 (.int 4))) (t_n 612 (t_l 611 (a_ii 1 (fun x y => x + y))) (t_l 612 (a_sld xs L)))) (t_n 616 (t_l 613 (a_if 620 (fun x => decide (x = 0)))) (t_n 617 (t_l 616 (a_push 1 (.int 1))) (t_l 617 (a_goto 621))))))))
set_option maxRecDepth 100000 in
theorem lawt_559_ok (hh : List (Nat × Nat × Nat × Nat)) (b L d : Nat) (xs : Nat → Int32) : ∀ pc, ev_OkL (ev_OX b L xs) code 9 hh RL lw_g lw_n lw_q vwCl false (ev_CO mt lw_g lw_n lw_q vwCl d) pc (lawt_559 xs L pc) := (ok_t_nL (ok_t_nL (ok_t_nL (ok_t_nL (ok_t_nL (ok_t_lL (ev_lift (ok_ireturn dL_law_559))) (ok_t_lL (ev_lift (ok_iload dL_law_560)))) (ok_t_nL (ok_t_lL (ev_lift (ok_if_ne dL_law_562 rfl))) (ok_t_nL (ok_t_lL (ev_lift (ok_aload_n dL_law_565 rfl))) (ok_t_lL (ev_lift (ok_iconst dL_law_566 rfl)))))) (ok_t_nL (ok_t_nL (ok_t_lL (ev_lift (ok_laload dL_law_567))) (ok_t_lL (ev_lift (ok_iload dL_law_568)))) (ok_t_nL (ok_t_lL (ev_lift (ok_i2l dL_law_570))) (ok_t_nL (ok_t_lL (ev_lift (ok_lcmp dL_law_571))) (ok_t_lL (ev_lift (ok_if_eq dL_law_572 rfl))))))) (ok_t_nL (ok_t_nL (ok_t_nL (ok_t_lL (ev_lift (ok_iconst dL_law_575 rfl))) (ok_t_lL (ev_lift (ok_ireturn dL_law_576)))) (ok_t_nL (ok_t_lL (ev_lift (ok_goto dL_law_577 rfl))) (ok_t_nL (ok_t_lL (ev_lift (ok_aload_n dL_law_580 rfl))) (ok_t_lL (ev_lift (ok_aload_n dL_law_581 rfl)))))) (ok_t_nL (ok_t_nL (ok_t_lL (ev_lift (ok_iload dL_law_582))) (ok_t_lL (ev_lift (ok_iconst dL_law_584 rfl)))) (ok_t_nL (ok_t_lL (ev_lift (ok_iadd dL_law_585))) (ok_t_nL (ok_t_lL (ok_sld dL_law_586)) (ok_t_lL (ev_lift (ok_aload_n dL_law_587 rfl)))))))) (ok_t_nL (ok_t_nL (ok_t_nL (ok_t_nL (ok_t_lL (ev_lift (ok_iload dL_law_588))) (ok_t_lL (ev_lift (ok_iconst dL_law_590 rfl)))) (ok_t_nL (ok_t_lL (ev_lift (ok_iadd dL_law_591))) (ok_t_nL (ok_t_lL (ok_sld dL_law_592)) (ok_t_lL (ev_lift (ok_aload_n dL_law_593 rfl)))))) (ok_t_nL (ok_t_nL (ok_t_lL (ev_lift (ok_iload dL_law_594))) (ok_t_lL (ev_lift (ok_iconst dL_law_596 rfl)))) (ok_t_nL (ok_t_lL (ev_lift (ok_iadd dL_law_597))) (ok_t_nL (ok_t_lL (ok_sld dL_law_598)) (ok_t_lL (ev_lift (ok_if_eq dL_law_599 rfl))))))) (ok_t_nL (ok_t_nL (ok_t_nL (ok_t_lL (ev_lift (ok_iconst dL_law_602 rfl))) (ok_t_lL (ev_lift (ok_goto dL_law_603 rfl)))) (ok_t_nL (ok_t_lL (ev_lift (ok_iconst dL_law_606 rfl))) (ok_t_nL (ok_t_lL (ev_lift (ok_aload_n dL_law_607 rfl))) (ok_t_lL (ev_lift (ok_iload dL_law_608)))))) (ok_t_nL (ok_t_nL (ok_t_lL (ev_lift (ok_iconst dL_law_610 rfl))) (ok_t_nL (ok_t_lL (ev_lift (ok_iadd dL_law_611))) (ok_t_lL (ok_sld dL_law_612)))) (ok_t_nL (ok_t_lL (ev_lift (ok_if_eq dL_law_613 rfl))) (ok_t_nL (ok_t_lL (ev_lift (ok_iconst dL_law_616 rfl))) (ok_t_lL (ev_lift (ok_goto dL_law_617 rfl)))))))))
def lawt_620 (xs : Nat → Int32) (L : Nat) : Nat → EA := (t_n 646 (t_n 634 (t_n 628 (t_n 622 (t_n 621 (t_l 620 (a_push 1 (.int 0))) (t_l 621 (a_aload 1 3))) (t_n 625 (t_l 622 (a_inv false 298 6 none)) (t_n 627 (t_l 625 (a_istore 9 2 5)) (t_l 627 (a_aload 1 2))))) (t_n 631 (t_n 629 (t_l 628 (a_aload 1 0)) (t_l 629 (a_iload 2 4))) (t_n 632 (t_l 631 (a_push 1 (.int 1))) (t_n 633 (t_l 632 (a_ii 1 (fun x y => x + y))) (t_l 633 (a_sld xs L)))))) (t_n 640 (t_n 637 (t_n 635 (t_l 634 (a_aload 1 0)) (t_l 635 (a_iload 2 4))) (t_n 638 (t_l 637 (a_push 1 (.int 2))) (t_n 639 (t_l 638 (a_ii 1 (fun x y => x + y))) (t_l 639 (a_sld xs L))))) (t_n 643 (t_n 641 (t_l 640 (a_aload 1 0)) (t_l 641 (a_iload 2 4))) (t_n 644 (t_l 643 (a_push 1 (.int 3))) (t_n 645 (t_l 644 (a_ii 1 (fun x y => x + y))) (t_l 645 (a_sld xs L))))))) (t_n 663 (t_n 655 (t_n 650 (t_n 649 (t_l 646 (a_if 653 (fun x => decide (x = 0)))) (t_l 649 (a_push 1 (.int 1)))) (t_n 653 (t_l 650 (a_goto 654)) (t_n 654 (t_l 653 (a_push 1 (.int 0))) (t_l 654 (a_aload 1 0))))) (t_n 658 (t_n 657 (t_l 655 (a_iload 2 4)) (t_l 657 (a_push 1 (.int 4)))) (t_n 659 (t_l 658 (a_ii 1 (fun x y => x + y))) (t_n 660 (t_l 659 (a_sld xs L)) (t_l 660 (a_if 667 (fun x => decide (x = 0)))))))) (t_n 673 (t_n 667 (t_n 664 (t_l 663 (a_push 1 (.int 1))) (t_l 664 (a_goto 668))) (t_n 668 (t_l 667 (a_push 1 (.int 0))) (t_n 671 (t_l 668 (a_inv true 243 5 (some 13))) (t_l 671 (a_istore 9 2 6))))) (t_n 677 (t_n 674 (t_l 673 (a_aload 1 2)) (t_l 674 (a_inv true 228 1 (some 13)))) (t_n 679 (t_l 677 (a_iload 2 5)) (t_n 682 (t_l 679 (a_ic 684 (fun x y => decide (x = y)))) (t_l 682 (a_push 1 (.int 0)))))))))
set_option maxRecDepth 100000 in
theorem lawt_620_ok (hh : List (Nat × Nat × Nat × Nat)) (b L d : Nat) (xs : Nat → Int32) : ∀ pc, ev_OkL (ev_OX b L xs) code 9 hh RL lw_g lw_n lw_q vwCl false (ev_CO mt lw_g lw_n lw_q vwCl d) pc (lawt_620 xs L pc) := (ok_t_nL (ok_t_nL (ok_t_nL (ok_t_nL (ok_t_nL (ok_t_lL (ev_lift (ok_iconst dL_law_620 rfl))) (ok_t_lL (ev_lift (ok_aload_n dL_law_621 rfl)))) (ok_t_nL (ok_t_lL (ev_lift (ok_inv (run_SW (y := 298) (n := 6) dL_law_622 cz_298 gdG cc_298 ci_298 w_1329 cm_298 cd_298 cl_298)))) (ok_t_nL (ok_t_lL (ev_lift (ok_istore dL_law_625))) (ok_t_lL (ev_lift (ok_aload_n dL_law_627 rfl)))))) (ok_t_nL (ok_t_nL (ok_t_lL (ev_lift (ok_aload_n dL_law_628 rfl))) (ok_t_lL (ev_lift (ok_iload dL_law_629)))) (ok_t_nL (ok_t_lL (ev_lift (ok_iconst dL_law_631 rfl))) (ok_t_nL (ok_t_lL (ev_lift (ok_iadd dL_law_632))) (ok_t_lL (ok_sld dL_law_633)))))) (ok_t_nL (ok_t_nL (ok_t_nL (ok_t_lL (ev_lift (ok_aload_n dL_law_634 rfl))) (ok_t_lL (ev_lift (ok_iload dL_law_635)))) (ok_t_nL (ok_t_lL (ev_lift (ok_iconst dL_law_637 rfl))) (ok_t_nL (ok_t_lL (ev_lift (ok_iadd dL_law_638))) (ok_t_lL (ok_sld dL_law_639))))) (ok_t_nL (ok_t_nL (ok_t_lL (ev_lift (ok_aload_n dL_law_640 rfl))) (ok_t_lL (ev_lift (ok_iload dL_law_641)))) (ok_t_nL (ok_t_lL (ev_lift (ok_iconst dL_law_643 rfl))) (ok_t_nL (ok_t_lL (ev_lift (ok_iadd dL_law_644))) (ok_t_lL (ok_sld dL_law_645))))))) (ok_t_nL (ok_t_nL (ok_t_nL (ok_t_nL (ok_t_lL (ev_lift (ok_if_eq dL_law_646 rfl))) (ok_t_lL (ev_lift (ok_iconst dL_law_649 rfl)))) (ok_t_nL (ok_t_lL (ev_lift (ok_goto dL_law_650 rfl))) (ok_t_nL (ok_t_lL (ev_lift (ok_iconst dL_law_653 rfl))) (ok_t_lL (ev_lift (ok_aload_n dL_law_654 rfl)))))) (ok_t_nL (ok_t_nL (ok_t_lL (ev_lift (ok_iload dL_law_655))) (ok_t_lL (ev_lift (ok_iconst dL_law_657 rfl)))) (ok_t_nL (ok_t_lL (ev_lift (ok_iadd dL_law_658))) (ok_t_nL (ok_t_lL (ok_sld dL_law_659)) (ok_t_lL (ev_lift (ok_if_eq dL_law_660 rfl))))))) (ok_t_nL (ok_t_nL (ok_t_nL (ok_t_lL (ev_lift (ok_iconst dL_law_663 rfl))) (ok_t_lL (ev_lift (ok_goto dL_law_664 rfl)))) (ok_t_nL (ok_t_lL (ev_lift (ok_iconst dL_law_667 rfl))) (ok_t_nL (ok_t_lL (ev_lift (ok_inv (run_V (y := 243) (n := 4) (ci := 13) dL_law_668 cz_243 gdG cc_243 ci_243 w_1713 cm_243 cs_243 cd_243 cl_243 rfl rfl)))) (ok_t_lL (ev_lift (ok_istore dL_law_671)))))) (ok_t_nL (ok_t_nL (ok_t_lL (ev_lift (ok_aload_n dL_law_673 rfl))) (ok_t_lL (ev_lift (ok_inv (run_V (y := 228) (n := 0) (ci := 13) dL_law_674 cz_228 gdG cc_228 ci_228 w_1664 cm_228 cs_228 cd_228 cl_228 rfl rfl))))) (ok_t_nL (ok_t_lL (ev_lift (ok_iload dL_law_677))) (ok_t_nL (ok_t_lL (ev_lift (ok_icmp_eq dL_law_679 rfl))) (ok_t_lL (ev_lift (ok_iconst dL_law_682 rfl)))))))))
def lawt_683 (xs : Nat → Int32) (L : Nat) : Nat → EA := (t_n 712 (t_n 699 (t_n 691 (t_n 686 (t_n 684 (t_l 683 a_iret) (t_l 684 (a_iload 2 5))) (t_n 689 (t_l 686 (a_if 701 (fun x => !decide (x = 0)))) (t_n 690 (t_l 689 (a_aload 1 3)) (t_l 690 (a_push 1 (.int 0)))))) (t_n 694 (t_n 692 (t_l 691 a_lld) (t_l 692 (a_iload 2 6))) (t_n 695 (t_l 694 (a_i (fun x => .long x.toInt64))) (t_n 696 (t_l 695 (a_ll (fun x y => .int (lg_cmp x y)))) (t_l 696 (a_if 701 (fun x => decide (x = 0)))))))) (t_n 706 (t_n 701 (t_n 700 (t_l 699 (a_push 1 (.int 0))) (t_l 700 a_iret)) (t_n 704 (t_l 701 (a_goto 2116)) (t_n 705 (t_l 704 (a_aload 1 1)) (t_l 705 (a_aload 1 0))))) (t_n 709 (t_n 708 (t_l 706 (a_iload 2 4)) (t_l 708 (a_push 1 (.int 1)))) (t_n 710 (t_l 709 (a_ii 1 (fun x y => x + y))) (t_n 711 (t_l 710 (a_sld xs L)) (t_l 711 (a_aload 1 0))))))) (t_n 724 (t_n 718 (t_n 715 (t_n 714 (t_l 712 (a_iload 2 4)) (t_l 714 (a_push 1 (.int 2)))) (t_n 716 (t_l 715 (a_ii 1 (fun x y => x + y))) (t_n 717 (t_l 716 (a_sld xs L)) (t_l 717 (a_aload 1 0))))) (t_n 721 (t_n 720 (t_l 718 (a_iload 2 4)) (t_l 720 (a_push 1 (.int 3)))) (t_n 722 (t_l 721 (a_ii 1 (fun x y => x + y))) (t_n 723 (t_l 722 (a_sld xs L)) (t_l 723 (a_aload 1 0)))))) (t_n 730 (t_n 727 (t_n 726 (t_l 724 (a_iload 2 4)) (t_l 726 (a_push 1 (.int 4)))) (t_n 728 (t_l 727 (a_ii 1 (fun x y => x + y))) (t_n 729 (t_l 728 (a_sld xs L)) (t_l 729 (a_aload 1 3))))) (t_n 735 (t_n 733 (t_l 730 (a_inv false 299 6 none)) (t_l 733 (a_istore 9 2 5))) (t_n 736 (t_l 735 (a_aload 1 2)) (t_n 737 (t_l 736 (a_aload 1 0)) (t_l 737 (a_iload 2 4))))))))
set_option maxRecDepth 100000 in
theorem lawt_683_ok (hh : List (Nat × Nat × Nat × Nat)) (b L d : Nat) (xs : Nat → Int32) : ∀ pc, ev_OkL (ev_OX b L xs) code 9 hh RL lw_g lw_n lw_q vwCl false (ev_CO mt lw_g lw_n lw_q vwCl d) pc (lawt_683 xs L pc) := (ok_t_nL (ok_t_nL (ok_t_nL (ok_t_nL (ok_t_nL (ok_t_lL (ev_lift (ok_ireturn dL_law_683))) (ok_t_lL (ev_lift (ok_iload dL_law_684)))) (ok_t_nL (ok_t_lL (ev_lift (ok_if_ne dL_law_686 rfl))) (ok_t_nL (ok_t_lL (ev_lift (ok_aload_n dL_law_689 rfl))) (ok_t_lL (ev_lift (ok_iconst dL_law_690 rfl)))))) (ok_t_nL (ok_t_nL (ok_t_lL (ev_lift (ok_laload dL_law_691))) (ok_t_lL (ev_lift (ok_iload dL_law_692)))) (ok_t_nL (ok_t_lL (ev_lift (ok_i2l dL_law_694))) (ok_t_nL (ok_t_lL (ev_lift (ok_lcmp dL_law_695))) (ok_t_lL (ev_lift (ok_if_eq dL_law_696 rfl))))))) (ok_t_nL (ok_t_nL (ok_t_nL (ok_t_lL (ev_lift (ok_iconst dL_law_699 rfl))) (ok_t_lL (ev_lift (ok_ireturn dL_law_700)))) (ok_t_nL (ok_t_lL (ev_lift (ok_goto dL_law_701 rfl))) (ok_t_nL (ok_t_lL (ev_lift (ok_aload_n dL_law_704 rfl))) (ok_t_lL (ev_lift (ok_aload_n dL_law_705 rfl)))))) (ok_t_nL (ok_t_nL (ok_t_lL (ev_lift (ok_iload dL_law_706))) (ok_t_lL (ev_lift (ok_iconst dL_law_708 rfl)))) (ok_t_nL (ok_t_lL (ev_lift (ok_iadd dL_law_709))) (ok_t_nL (ok_t_lL (ok_sld dL_law_710)) (ok_t_lL (ev_lift (ok_aload_n dL_law_711 rfl)))))))) (ok_t_nL (ok_t_nL (ok_t_nL (ok_t_nL (ok_t_lL (ev_lift (ok_iload dL_law_712))) (ok_t_lL (ev_lift (ok_iconst dL_law_714 rfl)))) (ok_t_nL (ok_t_lL (ev_lift (ok_iadd dL_law_715))) (ok_t_nL (ok_t_lL (ok_sld dL_law_716)) (ok_t_lL (ev_lift (ok_aload_n dL_law_717 rfl)))))) (ok_t_nL (ok_t_nL (ok_t_lL (ev_lift (ok_iload dL_law_718))) (ok_t_lL (ev_lift (ok_iconst dL_law_720 rfl)))) (ok_t_nL (ok_t_lL (ev_lift (ok_iadd dL_law_721))) (ok_t_nL (ok_t_lL (ok_sld dL_law_722)) (ok_t_lL (ev_lift (ok_aload_n dL_law_723 rfl))))))) (ok_t_nL (ok_t_nL (ok_t_nL (ok_t_lL (ev_lift (ok_iload dL_law_724))) (ok_t_lL (ev_lift (ok_iconst dL_law_726 rfl)))) (ok_t_nL (ok_t_lL (ev_lift (ok_iadd dL_law_727))) (ok_t_nL (ok_t_lL (ok_sld dL_law_728)) (ok_t_lL (ev_lift (ok_aload_n dL_law_729 rfl)))))) (ok_t_nL (ok_t_nL (ok_t_lL (ev_lift (ok_inv (run_SW (y := 299) (n := 6) dL_law_730 cz_299 gdG cc_299 ci_299 w_1346 cm_299 cd_299 cl_299)))) (ok_t_lL (ev_lift (ok_istore dL_law_733)))) (ok_t_nL (ok_t_lL (ev_lift (ok_aload_n dL_law_735 rfl))) (ok_t_nL (ok_t_lL (ev_lift (ok_aload_n dL_law_736 rfl))) (ok_t_lL (ev_lift (ok_iload dL_law_737)))))))))
def lawt_739 (xs : Nat → Int32) (L : Nat) : Nat → EA := (t_n 765 (t_n 751 (t_n 745 (t_n 741 (t_n 740 (t_l 739 (a_push 1 (.int 1))) (t_l 740 (a_ii 1 (fun x y => x + y)))) (t_n 742 (t_l 741 (a_sld xs L)) (t_n 743 (t_l 742 (a_aload 1 0)) (t_l 743 (a_iload 2 4))))) (t_n 747 (t_n 746 (t_l 745 (a_push 1 (.int 2))) (t_l 746 (a_ii 1 (fun x y => x + y)))) (t_n 748 (t_l 747 (a_sld xs L)) (t_n 749 (t_l 748 (a_aload 1 0)) (t_l 749 (a_iload 2 4)))))) (t_n 757 (t_n 753 (t_n 752 (t_l 751 (a_push 1 (.int 3))) (t_l 752 (a_ii 1 (fun x y => x + y)))) (t_n 754 (t_l 753 (a_sld xs L)) (t_n 755 (t_l 754 (a_aload 1 0)) (t_l 755 (a_iload 2 4))))) (t_n 759 (t_n 758 (t_l 757 (a_push 1 (.int 4))) (t_l 758 (a_ii 1 (fun x y => x + y)))) (t_n 760 (t_l 759 (a_sld xs L)) (t_n 763 (t_l 760 (a_inv true 245 5 (some 13))) (t_l 763 (a_istore 9 2 6))))))) (t_n 783 (t_n 775 (t_n 769 (t_n 766 (t_l 765 (a_aload 1 2)) (t_l 766 (a_inv true 228 1 (some 13)))) (t_n 771 (t_l 769 (a_iload 2 5)) (t_n 774 (t_l 771 (a_ic 776 (fun x y => decide (x = y)))) (t_l 774 (a_push 1 (.int 0)))))) (t_n 778 (t_n 776 (t_l 775 a_iret) (t_l 776 (a_iload 2 5))) (t_n 781 (t_l 778 (a_if 793 (fun x => !decide (x = 0)))) (t_n 782 (t_l 781 (a_aload 1 3)) (t_l 782 (a_push 1 (.int 0))))))) (t_n 791 (t_n 786 (t_n 784 (t_l 783 a_lld) (t_l 784 (a_iload 2 6))) (t_n 787 (t_l 786 (a_i (fun x => .long x.toInt64))) (t_n 788 (t_l 787 (a_ll (fun x y => .int (lg_cmp x y)))) (t_l 788 (a_if 793 (fun x => decide (x = 0))))))) (t_n 793 (t_n 792 (t_l 791 (a_push 1 (.int 0))) (t_l 792 a_iret)) (t_n 796 (t_l 793 (a_goto 2116)) (t_n 797 (t_l 796 (a_aload 1 1)) (t_l 797 (a_aload 1 0))))))))
set_option maxRecDepth 100000 in
theorem lawt_739_ok (hh : List (Nat × Nat × Nat × Nat)) (b L d : Nat) (xs : Nat → Int32) : ∀ pc, ev_OkL (ev_OX b L xs) code 9 hh RL lw_g lw_n lw_q vwCl false (ev_CO mt lw_g lw_n lw_q vwCl d) pc (lawt_739 xs L pc) := (ok_t_nL (ok_t_nL (ok_t_nL (ok_t_nL (ok_t_nL (ok_t_lL (ev_lift (ok_iconst dL_law_739 rfl))) (ok_t_lL (ev_lift (ok_iadd dL_law_740)))) (ok_t_nL (ok_t_lL (ok_sld dL_law_741)) (ok_t_nL (ok_t_lL (ev_lift (ok_aload_n dL_law_742 rfl))) (ok_t_lL (ev_lift (ok_iload dL_law_743)))))) (ok_t_nL (ok_t_nL (ok_t_lL (ev_lift (ok_iconst dL_law_745 rfl))) (ok_t_lL (ev_lift (ok_iadd dL_law_746)))) (ok_t_nL (ok_t_lL (ok_sld dL_law_747)) (ok_t_nL (ok_t_lL (ev_lift (ok_aload_n dL_law_748 rfl))) (ok_t_lL (ev_lift (ok_iload dL_law_749))))))) (ok_t_nL (ok_t_nL (ok_t_nL (ok_t_lL (ev_lift (ok_iconst dL_law_751 rfl))) (ok_t_lL (ev_lift (ok_iadd dL_law_752)))) (ok_t_nL (ok_t_lL (ok_sld dL_law_753)) (ok_t_nL (ok_t_lL (ev_lift (ok_aload_n dL_law_754 rfl))) (ok_t_lL (ev_lift (ok_iload dL_law_755)))))) (ok_t_nL (ok_t_nL (ok_t_lL (ev_lift (ok_iconst dL_law_757 rfl))) (ok_t_lL (ev_lift (ok_iadd dL_law_758)))) (ok_t_nL (ok_t_lL (ok_sld dL_law_759)) (ok_t_nL (ok_t_lL (ev_lift (ok_inv (run_V (y := 245) (n := 4) (ci := 13) dL_law_760 cz_245 gdG cc_245 ci_245 w_1721 cm_245 cs_245 cd_245 cl_245 rfl rfl)))) (ok_t_lL (ev_lift (ok_istore dL_law_763)))))))) (ok_t_nL (ok_t_nL (ok_t_nL (ok_t_nL (ok_t_lL (ev_lift (ok_aload_n dL_law_765 rfl))) (ok_t_lL (ev_lift (ok_inv (run_V (y := 228) (n := 0) (ci := 13) dL_law_766 cz_228 gdG cc_228 ci_228 w_1664 cm_228 cs_228 cd_228 cl_228 rfl rfl))))) (ok_t_nL (ok_t_lL (ev_lift (ok_iload dL_law_769))) (ok_t_nL (ok_t_lL (ev_lift (ok_icmp_eq dL_law_771 rfl))) (ok_t_lL (ev_lift (ok_iconst dL_law_774 rfl)))))) (ok_t_nL (ok_t_nL (ok_t_lL (ev_lift (ok_ireturn dL_law_775))) (ok_t_lL (ev_lift (ok_iload dL_law_776)))) (ok_t_nL (ok_t_lL (ev_lift (ok_if_ne dL_law_778 rfl))) (ok_t_nL (ok_t_lL (ev_lift (ok_aload_n dL_law_781 rfl))) (ok_t_lL (ev_lift (ok_iconst dL_law_782 rfl))))))) (ok_t_nL (ok_t_nL (ok_t_nL (ok_t_lL (ev_lift (ok_laload dL_law_783))) (ok_t_lL (ev_lift (ok_iload dL_law_784)))) (ok_t_nL (ok_t_lL (ev_lift (ok_i2l dL_law_786))) (ok_t_nL (ok_t_lL (ev_lift (ok_lcmp dL_law_787))) (ok_t_lL (ev_lift (ok_if_eq dL_law_788 rfl)))))) (ok_t_nL (ok_t_nL (ok_t_lL (ev_lift (ok_iconst dL_law_791 rfl))) (ok_t_lL (ev_lift (ok_ireturn dL_law_792)))) (ok_t_nL (ok_t_lL (ev_lift (ok_goto dL_law_793 rfl))) (ok_t_nL (ok_t_lL (ev_lift (ok_aload_n dL_law_796 rfl))) (ok_t_lL (ev_lift (ok_aload_n dL_law_797 rfl)))))))))
def lawt_798 (xs : Nat → Int32) (L : Nat) : Nat → EA := (t_n 825 (t_n 810 (t_n 804 (t_n 801 (t_n 800 (t_l 798 (a_iload 2 4)) (t_l 800 (a_push 1 (.int 1)))) (t_n 802 (t_l 801 (a_ii 1 (fun x y => x + y))) (t_n 803 (t_l 802 (a_sld xs L)) (t_l 803 (a_aload 1 0))))) (t_n 807 (t_n 806 (t_l 804 (a_iload 2 4)) (t_l 806 (a_push 1 (.int 2)))) (t_n 808 (t_l 807 (a_ii 1 (fun x y => x + y))) (t_n 809 (t_l 808 (a_sld xs L)) (t_l 809 (a_aload 1 3)))))) (t_n 819 (t_n 815 (t_n 813 (t_l 810 (a_inv false 300 4 none)) (t_l 813 (a_istore 9 2 5))) (t_n 816 (t_l 815 (a_aload 1 2)) (t_n 817 (t_l 816 (a_aload 1 0)) (t_l 817 (a_iload 2 4))))) (t_n 821 (t_n 820 (t_l 819 (a_push 1 (.int 1))) (t_l 820 (a_ii 1 (fun x y => x + y)))) (t_n 822 (t_l 821 (a_sld xs L)) (t_n 823 (t_l 822 (a_aload 1 0)) (t_l 823 (a_iload 2 4))))))) (t_n 843 (t_n 833 (t_n 827 (t_n 826 (t_l 825 (a_push 1 (.int 2))) (t_l 826 (a_ii 1 (fun x y => x + y)))) (t_n 828 (t_l 827 (a_sld xs L)) (t_n 831 (t_l 828 (a_inv true 247 3 (some 13))) (t_l 831 (a_istore 9 2 6))))) (t_n 837 (t_n 834 (t_l 833 (a_aload 1 2)) (t_l 834 (a_inv true 228 1 (some 13)))) (t_n 839 (t_l 837 (a_iload 2 5)) (t_n 842 (t_l 839 (a_ic 844 (fun x y => decide (x = y)))) (t_l 842 (a_push 1 (.int 0))))))) (t_n 851 (t_n 846 (t_n 844 (t_l 843 a_iret) (t_l 844 (a_iload 2 5))) (t_n 849 (t_l 846 (a_if 861 (fun x => !decide (x = 0)))) (t_n 850 (t_l 849 (a_aload 1 3)) (t_l 850 (a_push 1 (.int 0)))))) (t_n 855 (t_n 852 (t_l 851 a_lld) (t_n 854 (t_l 852 (a_iload 2 6)) (t_l 854 (a_i (fun x => .long x.toInt64))))) (t_n 856 (t_l 855 (a_ll (fun x y => .int (lg_cmp x y)))) (t_n 859 (t_l 856 (a_if 861 (fun x => decide (x = 0)))) (t_l 859 (a_push 1 (.int 0)))))))))
set_option maxRecDepth 100000 in
theorem lawt_798_ok (hh : List (Nat × Nat × Nat × Nat)) (b L d : Nat) (xs : Nat → Int32) : ∀ pc, ev_OkL (ev_OX b L xs) code 9 hh RL lw_g lw_n lw_q vwCl false (ev_CO mt lw_g lw_n lw_q vwCl d) pc (lawt_798 xs L pc) := (ok_t_nL (ok_t_nL (ok_t_nL (ok_t_nL (ok_t_nL (ok_t_lL (ev_lift (ok_iload dL_law_798))) (ok_t_lL (ev_lift (ok_iconst dL_law_800 rfl)))) (ok_t_nL (ok_t_lL (ev_lift (ok_iadd dL_law_801))) (ok_t_nL (ok_t_lL (ok_sld dL_law_802)) (ok_t_lL (ev_lift (ok_aload_n dL_law_803 rfl)))))) (ok_t_nL (ok_t_nL (ok_t_lL (ev_lift (ok_iload dL_law_804))) (ok_t_lL (ev_lift (ok_iconst dL_law_806 rfl)))) (ok_t_nL (ok_t_lL (ev_lift (ok_iadd dL_law_807))) (ok_t_nL (ok_t_lL (ok_sld dL_law_808)) (ok_t_lL (ev_lift (ok_aload_n dL_law_809 rfl))))))) (ok_t_nL (ok_t_nL (ok_t_nL (ok_t_lL (ev_lift (ok_inv (run_SW (y := 300) (n := 4) dL_law_810 cz_300 gdG cc_300 ci_300 w_1359 cm_300 cd_300 cl_300)))) (ok_t_lL (ev_lift (ok_istore dL_law_813)))) (ok_t_nL (ok_t_lL (ev_lift (ok_aload_n dL_law_815 rfl))) (ok_t_nL (ok_t_lL (ev_lift (ok_aload_n dL_law_816 rfl))) (ok_t_lL (ev_lift (ok_iload dL_law_817)))))) (ok_t_nL (ok_t_nL (ok_t_lL (ev_lift (ok_iconst dL_law_819 rfl))) (ok_t_lL (ev_lift (ok_iadd dL_law_820)))) (ok_t_nL (ok_t_lL (ok_sld dL_law_821)) (ok_t_nL (ok_t_lL (ev_lift (ok_aload_n dL_law_822 rfl))) (ok_t_lL (ev_lift (ok_iload dL_law_823)))))))) (ok_t_nL (ok_t_nL (ok_t_nL (ok_t_nL (ok_t_lL (ev_lift (ok_iconst dL_law_825 rfl))) (ok_t_lL (ev_lift (ok_iadd dL_law_826)))) (ok_t_nL (ok_t_lL (ok_sld dL_law_827)) (ok_t_nL (ok_t_lL (ev_lift (ok_inv (run_V (y := 247) (n := 2) (ci := 13) dL_law_828 cz_247 gdG cc_247 ci_247 w_1729 cm_247 cs_247 cd_247 cl_247 rfl rfl)))) (ok_t_lL (ev_lift (ok_istore dL_law_831)))))) (ok_t_nL (ok_t_nL (ok_t_lL (ev_lift (ok_aload_n dL_law_833 rfl))) (ok_t_lL (ev_lift (ok_inv (run_V (y := 228) (n := 0) (ci := 13) dL_law_834 cz_228 gdG cc_228 ci_228 w_1664 cm_228 cs_228 cd_228 cl_228 rfl rfl))))) (ok_t_nL (ok_t_lL (ev_lift (ok_iload dL_law_837))) (ok_t_nL (ok_t_lL (ev_lift (ok_icmp_eq dL_law_839 rfl))) (ok_t_lL (ev_lift (ok_iconst dL_law_842 rfl))))))) (ok_t_nL (ok_t_nL (ok_t_nL (ok_t_lL (ev_lift (ok_ireturn dL_law_843))) (ok_t_lL (ev_lift (ok_iload dL_law_844)))) (ok_t_nL (ok_t_lL (ev_lift (ok_if_ne dL_law_846 rfl))) (ok_t_nL (ok_t_lL (ev_lift (ok_aload_n dL_law_849 rfl))) (ok_t_lL (ev_lift (ok_iconst dL_law_850 rfl)))))) (ok_t_nL (ok_t_nL (ok_t_lL (ev_lift (ok_laload dL_law_851))) (ok_t_nL (ok_t_lL (ev_lift (ok_iload dL_law_852))) (ok_t_lL (ev_lift (ok_i2l dL_law_854))))) (ok_t_nL (ok_t_lL (ev_lift (ok_lcmp dL_law_855))) (ok_t_nL (ok_t_lL (ev_lift (ok_if_eq dL_law_856 rfl))) (ok_t_lL (ev_lift (ok_iconst dL_law_859 rfl)))))))))
def lawt_860 (xs : Nat → Int32) (L : Nat) : Nat → EA := (t_n 890 (t_n 878 (t_n 869 (t_n 864 (t_n 861 (t_l 860 a_iret) (t_l 861 (a_goto 2116))) (t_n 865 (t_l 864 (a_aload 1 1)) (t_n 868 (t_l 865 (a_inv true 169 1 (some 11))) (t_l 868 (a_aload 1 2))))) (t_n 875 (t_n 872 (t_l 869 (a_inv true 248 1 (some 13))) (t_l 872 (a_ic 2116 (fun x y => decide (x = y))))) (t_n 876 (t_l 875 (a_push 1 (.int 0))) (t_n 877 (t_l 876 a_iret) (t_l 877 (a_aload 1 1)))))) (t_n 884 (t_n 881 (t_n 879 (t_l 878 (a_aload 1 0)) (t_l 879 (a_iload 2 4))) (t_n 882 (t_l 881 (a_push 1 (.int 1))) (t_n 883 (t_l 882 (a_ii 1 (fun x y => x + y))) (t_l 883 (a_sld xs L))))) (t_n 887 (t_n 885 (t_l 884 (a_aload 1 0)) (t_l 885 (a_iload 2 4))) (t_n 888 (t_l 887 (a_push 1 (.int 2))) (t_n 889 (t_l 888 (a_ii 1 (fun x y => x + y))) (t_l 889 (a_sld xs L))))))) (t_n 904 (t_n 898 (t_n 894 (t_n 891 (t_l 890 (a_aload 1 3)) (t_l 891 (a_inv false 301 4 none))) (t_n 896 (t_l 894 (a_istore 9 2 5)) (t_n 897 (t_l 896 (a_aload 1 2)) (t_l 897 (a_aload 1 0))))) (t_n 901 (t_n 900 (t_l 898 (a_iload 2 4)) (t_l 900 (a_push 1 (.int 1)))) (t_n 902 (t_l 901 (a_ii 1 (fun x y => x + y))) (t_n 903 (t_l 902 (a_sld xs L)) (t_l 903 (a_aload 1 0)))))) (t_n 912 (t_n 907 (t_n 906 (t_l 904 (a_iload 2 4)) (t_l 906 (a_push 1 (.int 2)))) (t_n 908 (t_l 907 (a_ii 1 (fun x y => x + y))) (t_n 909 (t_l 908 (a_sld xs L)) (t_l 909 (a_inv true 251 3 (some 13)))))) (t_n 915 (t_n 914 (t_l 912 (a_istore 9 2 6)) (t_l 914 (a_aload 1 2))) (t_n 918 (t_l 915 (a_inv true 228 1 (some 13))) (t_n 920 (t_l 918 (a_iload 2 5)) (t_l 920 (a_ic 925 (fun x y => decide (x = y))))))))))
set_option maxRecDepth 100000 in
theorem lawt_860_ok (hh : List (Nat × Nat × Nat × Nat)) (b L d : Nat) (xs : Nat → Int32) : ∀ pc, ev_OkL (ev_OX b L xs) code 9 hh RL lw_g lw_n lw_q vwCl false (ev_CO mt lw_g lw_n lw_q vwCl d) pc (lawt_860 xs L pc) := (ok_t_nL (ok_t_nL (ok_t_nL (ok_t_nL (ok_t_nL (ok_t_lL (ev_lift (ok_ireturn dL_law_860))) (ok_t_lL (ev_lift (ok_goto dL_law_861 rfl)))) (ok_t_nL (ok_t_lL (ev_lift (ok_aload_n dL_law_864 rfl))) (ok_t_nL (ok_t_lL (ev_lift (ok_inv (run_V (y := 169) (n := 0) (ci := 11) dL_law_865 cz_169 gdG cc_169 ci_169 w_501 cm_169 cs_169 cd_169 cl_169 rfl rfl)))) (ok_t_lL (ev_lift (ok_aload_n dL_law_868 rfl)))))) (ok_t_nL (ok_t_nL (ok_t_lL (ev_lift (ok_inv (run_V (y := 248) (n := 0) (ci := 13) dL_law_869 cz_248 gdG cc_248 ci_248 w_1733 cm_248 cs_248 cd_248 cl_248 rfl rfl)))) (ok_t_lL (ev_lift (ok_icmp_eq dL_law_872 rfl)))) (ok_t_nL (ok_t_lL (ev_lift (ok_iconst dL_law_875 rfl))) (ok_t_nL (ok_t_lL (ev_lift (ok_ireturn dL_law_876))) (ok_t_lL (ev_lift (ok_aload_n dL_law_877 rfl))))))) (ok_t_nL (ok_t_nL (ok_t_nL (ok_t_lL (ev_lift (ok_aload_n dL_law_878 rfl))) (ok_t_lL (ev_lift (ok_iload dL_law_879)))) (ok_t_nL (ok_t_lL (ev_lift (ok_iconst dL_law_881 rfl))) (ok_t_nL (ok_t_lL (ev_lift (ok_iadd dL_law_882))) (ok_t_lL (ok_sld dL_law_883))))) (ok_t_nL (ok_t_nL (ok_t_lL (ev_lift (ok_aload_n dL_law_884 rfl))) (ok_t_lL (ev_lift (ok_iload dL_law_885)))) (ok_t_nL (ok_t_lL (ev_lift (ok_iconst dL_law_887 rfl))) (ok_t_nL (ok_t_lL (ev_lift (ok_iadd dL_law_888))) (ok_t_lL (ok_sld dL_law_889))))))) (ok_t_nL (ok_t_nL (ok_t_nL (ok_t_nL (ok_t_lL (ev_lift (ok_aload_n dL_law_890 rfl))) (ok_t_lL (ev_lift (ok_inv (run_SW (y := 301) (n := 4) dL_law_891 cz_301 gdG cc_301 ci_301 w_1385 cm_301 cd_301 cl_301))))) (ok_t_nL (ok_t_lL (ev_lift (ok_istore dL_law_894))) (ok_t_nL (ok_t_lL (ev_lift (ok_aload_n dL_law_896 rfl))) (ok_t_lL (ev_lift (ok_aload_n dL_law_897 rfl)))))) (ok_t_nL (ok_t_nL (ok_t_lL (ev_lift (ok_iload dL_law_898))) (ok_t_lL (ev_lift (ok_iconst dL_law_900 rfl)))) (ok_t_nL (ok_t_lL (ev_lift (ok_iadd dL_law_901))) (ok_t_nL (ok_t_lL (ok_sld dL_law_902)) (ok_t_lL (ev_lift (ok_aload_n dL_law_903 rfl))))))) (ok_t_nL (ok_t_nL (ok_t_nL (ok_t_lL (ev_lift (ok_iload dL_law_904))) (ok_t_lL (ev_lift (ok_iconst dL_law_906 rfl)))) (ok_t_nL (ok_t_lL (ev_lift (ok_iadd dL_law_907))) (ok_t_nL (ok_t_lL (ok_sld dL_law_908)) (ok_t_lL (ev_lift (ok_inv (run_V (y := 251) (n := 2) (ci := 13) dL_law_909 cz_251 gdG cc_251 ci_251 w_1737 cm_251 cs_251 cd_251 cl_251 rfl rfl))))))) (ok_t_nL (ok_t_nL (ok_t_lL (ev_lift (ok_istore dL_law_912))) (ok_t_lL (ev_lift (ok_aload_n dL_law_914 rfl)))) (ok_t_nL (ok_t_lL (ev_lift (ok_inv (run_V (y := 228) (n := 0) (ci := 13) dL_law_915 cz_228 gdG cc_228 ci_228 w_1664 cm_228 cs_228 cd_228 cl_228 rfl rfl)))) (ok_t_nL (ok_t_lL (ev_lift (ok_iload dL_law_918))) (ok_t_lL (ev_lift (ok_icmp_eq dL_law_920 rfl)))))))))
def lawt_923 (xs : Nat → Int32) (L : Nat) : Nat → EA := (t_n 952 (t_n 937 (t_n 931 (t_n 925 (t_n 924 (t_l 923 (a_push 1 (.int 0))) (t_l 924 a_iret)) (t_n 927 (t_l 925 (a_iload 2 5)) (t_n 930 (t_l 927 (a_if 942 (fun x => !decide (x = 0)))) (t_l 930 (a_aload 1 3))))) (t_n 933 (t_n 932 (t_l 931 (a_push 1 (.int 0))) (t_l 932 a_lld)) (t_n 935 (t_l 933 (a_iload 2 6)) (t_n 936 (t_l 935 (a_i (fun x => .long x.toInt64))) (t_l 936 (a_ll (fun x y => .int (lg_cmp x y)))))))) (t_n 946 (t_n 941 (t_n 940 (t_l 937 (a_if 942 (fun x => decide (x = 0)))) (t_l 940 (a_push 1 (.int 0)))) (t_n 942 (t_l 941 a_iret) (t_n 945 (t_l 942 (a_goto 2116)) (t_l 945 (a_aload 1 1))))) (t_n 949 (t_n 947 (t_l 946 (a_aload 1 0)) (t_l 947 (a_iload 2 4))) (t_n 950 (t_l 949 (a_push 1 (.int 1))) (t_n 951 (t_l 950 (a_ii 1 (fun x y => x + y))) (t_l 951 (a_sld xs L))))))) (t_n 966 (t_n 958 (t_n 955 (t_n 953 (t_l 952 (a_aload 1 0)) (t_l 953 (a_iload 2 4))) (t_n 956 (t_l 955 (a_push 1 (.int 2))) (t_n 957 (t_l 956 (a_ii 1 (fun x y => x + y))) (t_l 957 (a_sld xs L))))) (t_n 962 (t_n 959 (t_l 958 (a_aload 1 3)) (t_l 959 (a_inv false 302 4 none))) (t_n 964 (t_l 962 (a_istore 9 2 5)) (t_n 965 (t_l 964 (a_aload 1 2)) (t_l 965 (a_aload 1 0)))))) (t_n 972 (t_n 969 (t_n 968 (t_l 966 (a_iload 2 4)) (t_l 968 (a_push 1 (.int 1)))) (t_n 970 (t_l 969 (a_ii 1 (fun x y => x + y))) (t_n 971 (t_l 970 (a_sld xs L)) (t_l 971 (a_aload 1 0))))) (t_n 976 (t_n 974 (t_l 972 (a_iload 2 4)) (t_n 975 (t_l 974 (a_push 1 (.int 2))) (t_l 975 (a_ii 1 (fun x y => x + y))))) (t_n 977 (t_l 976 (a_sld xs L)) (t_n 980 (t_l 977 (a_inv true 252 3 (some 13))) (t_l 980 (a_istore 9 2 6))))))))
set_option maxRecDepth 100000 in
theorem lawt_923_ok (hh : List (Nat × Nat × Nat × Nat)) (b L d : Nat) (xs : Nat → Int32) : ∀ pc, ev_OkL (ev_OX b L xs) code 9 hh RL lw_g lw_n lw_q vwCl false (ev_CO mt lw_g lw_n lw_q vwCl d) pc (lawt_923 xs L pc) := (ok_t_nL (ok_t_nL (ok_t_nL (ok_t_nL (ok_t_nL (ok_t_lL (ev_lift (ok_iconst dL_law_923 rfl))) (ok_t_lL (ev_lift (ok_ireturn dL_law_924)))) (ok_t_nL (ok_t_lL (ev_lift (ok_iload dL_law_925))) (ok_t_nL (ok_t_lL (ev_lift (ok_if_ne dL_law_927 rfl))) (ok_t_lL (ev_lift (ok_aload_n dL_law_930 rfl)))))) (ok_t_nL (ok_t_nL (ok_t_lL (ev_lift (ok_iconst dL_law_931 rfl))) (ok_t_lL (ev_lift (ok_laload dL_law_932)))) (ok_t_nL (ok_t_lL (ev_lift (ok_iload dL_law_933))) (ok_t_nL (ok_t_lL (ev_lift (ok_i2l dL_law_935))) (ok_t_lL (ev_lift (ok_lcmp dL_law_936))))))) (ok_t_nL (ok_t_nL (ok_t_nL (ok_t_lL (ev_lift (ok_if_eq dL_law_937 rfl))) (ok_t_lL (ev_lift (ok_iconst dL_law_940 rfl)))) (ok_t_nL (ok_t_lL (ev_lift (ok_ireturn dL_law_941))) (ok_t_nL (ok_t_lL (ev_lift (ok_goto dL_law_942 rfl))) (ok_t_lL (ev_lift (ok_aload_n dL_law_945 rfl)))))) (ok_t_nL (ok_t_nL (ok_t_lL (ev_lift (ok_aload_n dL_law_946 rfl))) (ok_t_lL (ev_lift (ok_iload dL_law_947)))) (ok_t_nL (ok_t_lL (ev_lift (ok_iconst dL_law_949 rfl))) (ok_t_nL (ok_t_lL (ev_lift (ok_iadd dL_law_950))) (ok_t_lL (ok_sld dL_law_951))))))) (ok_t_nL (ok_t_nL (ok_t_nL (ok_t_nL (ok_t_lL (ev_lift (ok_aload_n dL_law_952 rfl))) (ok_t_lL (ev_lift (ok_iload dL_law_953)))) (ok_t_nL (ok_t_lL (ev_lift (ok_iconst dL_law_955 rfl))) (ok_t_nL (ok_t_lL (ev_lift (ok_iadd dL_law_956))) (ok_t_lL (ok_sld dL_law_957))))) (ok_t_nL (ok_t_nL (ok_t_lL (ev_lift (ok_aload_n dL_law_958 rfl))) (ok_t_lL (ev_lift (ok_inv (run_SW (y := 302) (n := 4) dL_law_959 cz_302 gdG cc_302 ci_302 w_1389 cm_302 cd_302 cl_302))))) (ok_t_nL (ok_t_lL (ev_lift (ok_istore dL_law_962))) (ok_t_nL (ok_t_lL (ev_lift (ok_aload_n dL_law_964 rfl))) (ok_t_lL (ev_lift (ok_aload_n dL_law_965 rfl))))))) (ok_t_nL (ok_t_nL (ok_t_nL (ok_t_lL (ev_lift (ok_iload dL_law_966))) (ok_t_lL (ev_lift (ok_iconst dL_law_968 rfl)))) (ok_t_nL (ok_t_lL (ev_lift (ok_iadd dL_law_969))) (ok_t_nL (ok_t_lL (ok_sld dL_law_970)) (ok_t_lL (ev_lift (ok_aload_n dL_law_971 rfl)))))) (ok_t_nL (ok_t_nL (ok_t_lL (ev_lift (ok_iload dL_law_972))) (ok_t_nL (ok_t_lL (ev_lift (ok_iconst dL_law_974 rfl))) (ok_t_lL (ev_lift (ok_iadd dL_law_975))))) (ok_t_nL (ok_t_lL (ok_sld dL_law_976)) (ok_t_nL (ok_t_lL (ev_lift (ok_inv (run_V (y := 252) (n := 2) (ci := 13) dL_law_977 cz_252 gdG cc_252 ci_252 w_1756 cm_252 cs_252 cd_252 cl_252 rfl rfl)))) (ok_t_lL (ev_lift (ok_istore dL_law_980)))))))))
def lawt_982 (xs : Nat → Int32) (L : Nat) : Nat → EA := (t_n 1015 (t_n 1000 (t_n 992 (t_n 986 (t_n 983 (t_l 982 (a_aload 1 2)) (t_l 983 (a_inv true 228 1 (some 13)))) (t_n 988 (t_l 986 (a_iload 2 5)) (t_n 991 (t_l 988 (a_ic 993 (fun x y => decide (x = y)))) (t_l 991 (a_push 1 (.int 0)))))) (t_n 995 (t_n 993 (t_l 992 a_iret) (t_l 993 (a_iload 2 5))) (t_n 998 (t_l 995 (a_if 1010 (fun x => !decide (x = 0)))) (t_n 999 (t_l 998 (a_aload 1 3)) (t_l 999 (a_push 1 (.int 0))))))) (t_n 1008 (t_n 1003 (t_n 1001 (t_l 1000 a_lld) (t_l 1001 (a_iload 2 6))) (t_n 1004 (t_l 1003 (a_i (fun x => .long x.toInt64))) (t_n 1005 (t_l 1004 (a_ll (fun x y => .int (lg_cmp x y)))) (t_l 1005 (a_if 1010 (fun x => decide (x = 0))))))) (t_n 1010 (t_n 1009 (t_l 1008 (a_push 1 (.int 0))) (t_l 1009 a_iret)) (t_n 1013 (t_l 1010 (a_goto 2116)) (t_n 1014 (t_l 1013 (a_aload 1 1)) (t_l 1014 (a_aload 1 0))))))) (t_n 1029 (t_n 1021 (t_n 1018 (t_n 1017 (t_l 1015 (a_iload 2 4)) (t_l 1017 (a_push 1 (.int 1)))) (t_n 1019 (t_l 1018 (a_ii 1 (fun x y => x + y))) (t_n 1020 (t_l 1019 (a_sld xs L)) (t_l 1020 (a_aload 1 0))))) (t_n 1024 (t_n 1023 (t_l 1021 (a_iload 2 4)) (t_l 1023 (a_push 1 (.int 2)))) (t_n 1025 (t_l 1024 (a_ii 1 (fun x y => x + y))) (t_n 1026 (t_l 1025 (a_sld xs L)) (t_l 1026 (a_if 1033 (fun x => decide (x = 0)))))))) (t_n 1038 (t_n 1033 (t_n 1030 (t_l 1029 (a_push 1 (.int 1))) (t_l 1030 (a_goto 1034))) (t_n 1034 (t_l 1033 (a_push 1 (.int 0))) (t_n 1035 (t_l 1034 (a_aload 1 3)) (t_l 1035 (a_inv false 303 4 none))))) (t_n 1041 (t_n 1040 (t_l 1038 (a_istore 9 2 5)) (t_l 1040 (a_aload 1 2))) (t_n 1042 (t_l 1041 (a_aload 1 0)) (t_n 1044 (t_l 1042 (a_iload 2 4)) (t_l 1044 (a_push 1 (.int 1)))))))))
set_option maxRecDepth 100000 in
theorem lawt_982_ok (hh : List (Nat × Nat × Nat × Nat)) (b L d : Nat) (xs : Nat → Int32) : ∀ pc, ev_OkL (ev_OX b L xs) code 9 hh RL lw_g lw_n lw_q vwCl false (ev_CO mt lw_g lw_n lw_q vwCl d) pc (lawt_982 xs L pc) := (ok_t_nL (ok_t_nL (ok_t_nL (ok_t_nL (ok_t_nL (ok_t_lL (ev_lift (ok_aload_n dL_law_982 rfl))) (ok_t_lL (ev_lift (ok_inv (run_V (y := 228) (n := 0) (ci := 13) dL_law_983 cz_228 gdG cc_228 ci_228 w_1664 cm_228 cs_228 cd_228 cl_228 rfl rfl))))) (ok_t_nL (ok_t_lL (ev_lift (ok_iload dL_law_986))) (ok_t_nL (ok_t_lL (ev_lift (ok_icmp_eq dL_law_988 rfl))) (ok_t_lL (ev_lift (ok_iconst dL_law_991 rfl)))))) (ok_t_nL (ok_t_nL (ok_t_lL (ev_lift (ok_ireturn dL_law_992))) (ok_t_lL (ev_lift (ok_iload dL_law_993)))) (ok_t_nL (ok_t_lL (ev_lift (ok_if_ne dL_law_995 rfl))) (ok_t_nL (ok_t_lL (ev_lift (ok_aload_n dL_law_998 rfl))) (ok_t_lL (ev_lift (ok_iconst dL_law_999 rfl))))))) (ok_t_nL (ok_t_nL (ok_t_nL (ok_t_lL (ev_lift (ok_laload dL_law_1000))) (ok_t_lL (ev_lift (ok_iload dL_law_1001)))) (ok_t_nL (ok_t_lL (ev_lift (ok_i2l dL_law_1003))) (ok_t_nL (ok_t_lL (ev_lift (ok_lcmp dL_law_1004))) (ok_t_lL (ev_lift (ok_if_eq dL_law_1005 rfl)))))) (ok_t_nL (ok_t_nL (ok_t_lL (ev_lift (ok_iconst dL_law_1008 rfl))) (ok_t_lL (ev_lift (ok_ireturn dL_law_1009)))) (ok_t_nL (ok_t_lL (ev_lift (ok_goto dL_law_1010 rfl))) (ok_t_nL (ok_t_lL (ev_lift (ok_aload_n dL_law_1013 rfl))) (ok_t_lL (ev_lift (ok_aload_n dL_law_1014 rfl)))))))) (ok_t_nL (ok_t_nL (ok_t_nL (ok_t_nL (ok_t_lL (ev_lift (ok_iload dL_law_1015))) (ok_t_lL (ev_lift (ok_iconst dL_law_1017 rfl)))) (ok_t_nL (ok_t_lL (ev_lift (ok_iadd dL_law_1018))) (ok_t_nL (ok_t_lL (ok_sld dL_law_1019)) (ok_t_lL (ev_lift (ok_aload_n dL_law_1020 rfl)))))) (ok_t_nL (ok_t_nL (ok_t_lL (ev_lift (ok_iload dL_law_1021))) (ok_t_lL (ev_lift (ok_iconst dL_law_1023 rfl)))) (ok_t_nL (ok_t_lL (ev_lift (ok_iadd dL_law_1024))) (ok_t_nL (ok_t_lL (ok_sld dL_law_1025)) (ok_t_lL (ev_lift (ok_if_eq dL_law_1026 rfl))))))) (ok_t_nL (ok_t_nL (ok_t_nL (ok_t_lL (ev_lift (ok_iconst dL_law_1029 rfl))) (ok_t_lL (ev_lift (ok_goto dL_law_1030 rfl)))) (ok_t_nL (ok_t_lL (ev_lift (ok_iconst dL_law_1033 rfl))) (ok_t_nL (ok_t_lL (ev_lift (ok_aload_n dL_law_1034 rfl))) (ok_t_lL (ev_lift (ok_inv (run_SW (y := 303) (n := 4) dL_law_1035 cz_303 gdG cc_303 ci_303 w_1397 cm_303 cd_303 cl_303))))))) (ok_t_nL (ok_t_nL (ok_t_lL (ev_lift (ok_istore dL_law_1038))) (ok_t_lL (ev_lift (ok_aload_n dL_law_1040 rfl)))) (ok_t_nL (ok_t_lL (ev_lift (ok_aload_n dL_law_1041 rfl))) (ok_t_nL (ok_t_lL (ev_lift (ok_iload dL_law_1042))) (ok_t_lL (ev_lift (ok_iconst dL_law_1044 rfl)))))))))
def lawt_1045 (xs : Nat → Int32) (L : Nat) : Nat → EA := (t_n 1079 (t_n 1060 (t_n 1051 (t_n 1047 (t_n 1046 (t_l 1045 (a_ii 1 (fun x y => x + y))) (t_l 1046 (a_sld xs L))) (t_n 1048 (t_l 1047 (a_aload 1 0)) (t_n 1050 (t_l 1048 (a_iload 2 4)) (t_l 1050 (a_push 1 (.int 2)))))) (t_n 1053 (t_n 1052 (t_l 1051 (a_ii 1 (fun x y => x + y))) (t_l 1052 (a_sld xs L))) (t_n 1056 (t_l 1053 (a_if 1060 (fun x => decide (x = 0)))) (t_n 1057 (t_l 1056 (a_push 1 (.int 1))) (t_l 1057 (a_goto 1061)))))) (t_n 1070 (t_n 1064 (t_n 1061 (t_l 1060 (a_push 1 (.int 0))) (t_l 1061 (a_inv true 253 3 (some 13)))) (t_n 1066 (t_l 1064 (a_istore 9 2 6)) (t_n 1067 (t_l 1066 (a_aload 1 2)) (t_l 1067 (a_inv true 228 1 (some 13)))))) (t_n 1075 (t_n 1072 (t_l 1070 (a_iload 2 5)) (t_l 1072 (a_ic 1077 (fun x y => decide (x = y))))) (t_n 1076 (t_l 1075 (a_push 1 (.int 0))) (t_n 1077 (t_l 1076 a_iret) (t_l 1077 (a_iload 2 5))))))) (t_n 1094 (t_n 1087 (t_n 1083 (t_n 1082 (t_l 1079 (a_if 1094 (fun x => !decide (x = 0)))) (t_l 1082 (a_aload 1 3))) (t_n 1084 (t_l 1083 (a_push 1 (.int 0))) (t_n 1085 (t_l 1084 a_lld) (t_l 1085 (a_iload 2 6))))) (t_n 1089 (t_n 1088 (t_l 1087 (a_i (fun x => .long x.toInt64))) (t_l 1088 (a_ll (fun x y => .int (lg_cmp x y))))) (t_n 1092 (t_l 1089 (a_if 1094 (fun x => decide (x = 0)))) (t_n 1093 (t_l 1092 (a_push 1 (.int 0))) (t_l 1093 a_iret))))) (t_n 1102 (t_n 1098 (t_n 1097 (t_l 1094 (a_goto 2116)) (t_l 1097 (a_aload 1 1))) (t_n 1099 (t_l 1098 (a_aload 1 0)) (t_n 1101 (t_l 1099 (a_iload 2 4)) (t_l 1101 (a_push 1 (.int 1)))))) (t_n 1105 (t_n 1103 (t_l 1102 (a_ii 1 (fun x y => x + y))) (t_n 1104 (t_l 1103 (a_sld xs L)) (t_l 1104 (a_aload 1 0)))) (t_n 1107 (t_l 1105 (a_iload 2 4)) (t_n 1108 (t_l 1107 (a_push 1 (.int 2))) (t_l 1108 (a_ii 1 (fun x y => x + y)))))))))
set_option maxRecDepth 100000 in
theorem lawt_1045_ok (hh : List (Nat × Nat × Nat × Nat)) (b L d : Nat) (xs : Nat → Int32) : ∀ pc, ev_OkL (ev_OX b L xs) code 9 hh RL lw_g lw_n lw_q vwCl false (ev_CO mt lw_g lw_n lw_q vwCl d) pc (lawt_1045 xs L pc) := (ok_t_nL (ok_t_nL (ok_t_nL (ok_t_nL (ok_t_nL (ok_t_lL (ev_lift (ok_iadd dL_law_1045))) (ok_t_lL (ok_sld dL_law_1046))) (ok_t_nL (ok_t_lL (ev_lift (ok_aload_n dL_law_1047 rfl))) (ok_t_nL (ok_t_lL (ev_lift (ok_iload dL_law_1048))) (ok_t_lL (ev_lift (ok_iconst dL_law_1050 rfl)))))) (ok_t_nL (ok_t_nL (ok_t_lL (ev_lift (ok_iadd dL_law_1051))) (ok_t_lL (ok_sld dL_law_1052))) (ok_t_nL (ok_t_lL (ev_lift (ok_if_eq dL_law_1053 rfl))) (ok_t_nL (ok_t_lL (ev_lift (ok_iconst dL_law_1056 rfl))) (ok_t_lL (ev_lift (ok_goto dL_law_1057 rfl))))))) (ok_t_nL (ok_t_nL (ok_t_nL (ok_t_lL (ev_lift (ok_iconst dL_law_1060 rfl))) (ok_t_lL (ev_lift (ok_inv (run_V (y := 253) (n := 2) (ci := 13) dL_law_1061 cz_253 gdG cc_253 ci_253 w_1760 cm_253 cs_253 cd_253 cl_253 rfl rfl))))) (ok_t_nL (ok_t_lL (ev_lift (ok_istore dL_law_1064))) (ok_t_nL (ok_t_lL (ev_lift (ok_aload_n dL_law_1066 rfl))) (ok_t_lL (ev_lift (ok_inv (run_V (y := 228) (n := 0) (ci := 13) dL_law_1067 cz_228 gdG cc_228 ci_228 w_1664 cm_228 cs_228 cd_228 cl_228 rfl rfl))))))) (ok_t_nL (ok_t_nL (ok_t_lL (ev_lift (ok_iload dL_law_1070))) (ok_t_lL (ev_lift (ok_icmp_eq dL_law_1072 rfl)))) (ok_t_nL (ok_t_lL (ev_lift (ok_iconst dL_law_1075 rfl))) (ok_t_nL (ok_t_lL (ev_lift (ok_ireturn dL_law_1076))) (ok_t_lL (ev_lift (ok_iload dL_law_1077)))))))) (ok_t_nL (ok_t_nL (ok_t_nL (ok_t_nL (ok_t_lL (ev_lift (ok_if_ne dL_law_1079 rfl))) (ok_t_lL (ev_lift (ok_aload_n dL_law_1082 rfl)))) (ok_t_nL (ok_t_lL (ev_lift (ok_iconst dL_law_1083 rfl))) (ok_t_nL (ok_t_lL (ev_lift (ok_laload dL_law_1084))) (ok_t_lL (ev_lift (ok_iload dL_law_1085)))))) (ok_t_nL (ok_t_nL (ok_t_lL (ev_lift (ok_i2l dL_law_1087))) (ok_t_lL (ev_lift (ok_lcmp dL_law_1088)))) (ok_t_nL (ok_t_lL (ev_lift (ok_if_eq dL_law_1089 rfl))) (ok_t_nL (ok_t_lL (ev_lift (ok_iconst dL_law_1092 rfl))) (ok_t_lL (ev_lift (ok_ireturn dL_law_1093))))))) (ok_t_nL (ok_t_nL (ok_t_nL (ok_t_lL (ev_lift (ok_goto dL_law_1094 rfl))) (ok_t_lL (ev_lift (ok_aload_n dL_law_1097 rfl)))) (ok_t_nL (ok_t_lL (ev_lift (ok_aload_n dL_law_1098 rfl))) (ok_t_nL (ok_t_lL (ev_lift (ok_iload dL_law_1099))) (ok_t_lL (ev_lift (ok_iconst dL_law_1101 rfl)))))) (ok_t_nL (ok_t_nL (ok_t_lL (ev_lift (ok_iadd dL_law_1102))) (ok_t_nL (ok_t_lL (ok_sld dL_law_1103)) (ok_t_lL (ev_lift (ok_aload_n dL_law_1104 rfl))))) (ok_t_nL (ok_t_lL (ev_lift (ok_iload dL_law_1105))) (ok_t_nL (ok_t_lL (ev_lift (ok_iconst dL_law_1107 rfl))) (ok_t_lL (ev_lift (ok_iadd dL_law_1108)))))))))
def lawt_1109 (xs : Nat → Int32) (L : Nat) : Nat → EA := (t_n 1140 (t_n 1123 (t_n 1117 (t_n 1111 (t_n 1110 (t_l 1109 (a_sld xs L)) (t_l 1110 (a_aload 1 3))) (t_n 1114 (t_l 1111 (a_inv false 304 4 none)) (t_n 1116 (t_l 1114 (a_istore 9 2 5)) (t_l 1116 (a_aload 1 2))))) (t_n 1120 (t_n 1118 (t_l 1117 (a_aload 1 0)) (t_l 1118 (a_iload 2 4))) (t_n 1121 (t_l 1120 (a_push 1 (.int 1))) (t_n 1122 (t_l 1121 (a_ii 1 (fun x y => x + y))) (t_l 1122 (a_sld xs L)))))) (t_n 1129 (t_n 1126 (t_n 1124 (t_l 1123 (a_aload 1 0)) (t_l 1124 (a_iload 2 4))) (t_n 1127 (t_l 1126 (a_push 1 (.int 2))) (t_n 1128 (t_l 1127 (a_ii 1 (fun x y => x + y))) (t_l 1128 (a_sld xs L))))) (t_n 1134 (t_n 1132 (t_l 1129 (a_inv true 255 3 (some 13))) (t_l 1132 (a_istore 9 2 6))) (t_n 1135 (t_l 1134 (a_aload 1 2)) (t_n 1138 (t_l 1135 (a_inv true 228 1 (some 13))) (t_l 1138 (a_iload 2 5))))))) (t_n 1156 (t_n 1150 (t_n 1144 (t_n 1143 (t_l 1140 (a_ic 1145 (fun x y => decide (x = y)))) (t_l 1143 (a_push 1 (.int 0)))) (t_n 1145 (t_l 1144 a_iret) (t_n 1147 (t_l 1145 (a_iload 2 5)) (t_l 1147 (a_if 1162 (fun x => !decide (x = 0))))))) (t_n 1152 (t_n 1151 (t_l 1150 (a_aload 1 3)) (t_l 1151 (a_push 1 (.int 0)))) (t_n 1153 (t_l 1152 a_lld) (t_n 1155 (t_l 1153 (a_iload 2 6)) (t_l 1155 (a_i (fun x => .long x.toInt64))))))) (t_n 1165 (t_n 1160 (t_n 1157 (t_l 1156 (a_ll (fun x y => .int (lg_cmp x y)))) (t_l 1157 (a_if 1162 (fun x => decide (x = 0))))) (t_n 1161 (t_l 1160 (a_push 1 (.int 0))) (t_n 1162 (t_l 1161 a_iret) (t_l 1162 (a_goto 2116))))) (t_n 1167 (t_n 1166 (t_l 1165 (a_aload 1 1)) (t_l 1166 (a_aload 1 0))) (t_n 1169 (t_l 1167 (a_iload 2 4)) (t_n 1170 (t_l 1169 (a_push 1 (.int 1))) (t_l 1170 (a_ii 1 (fun x y => x + y)))))))))
set_option maxRecDepth 100000 in
theorem lawt_1109_ok (hh : List (Nat × Nat × Nat × Nat)) (b L d : Nat) (xs : Nat → Int32) : ∀ pc, ev_OkL (ev_OX b L xs) code 9 hh RL lw_g lw_n lw_q vwCl false (ev_CO mt lw_g lw_n lw_q vwCl d) pc (lawt_1109 xs L pc) := (ok_t_nL (ok_t_nL (ok_t_nL (ok_t_nL (ok_t_nL (ok_t_lL (ok_sld dL_law_1109)) (ok_t_lL (ev_lift (ok_aload_n dL_law_1110 rfl)))) (ok_t_nL (ok_t_lL (ev_lift (ok_inv (run_SW (y := 304) (n := 4) dL_law_1111 cz_304 gdG cc_304 ci_304 w_1424 cm_304 cd_304 cl_304)))) (ok_t_nL (ok_t_lL (ev_lift (ok_istore dL_law_1114))) (ok_t_lL (ev_lift (ok_aload_n dL_law_1116 rfl)))))) (ok_t_nL (ok_t_nL (ok_t_lL (ev_lift (ok_aload_n dL_law_1117 rfl))) (ok_t_lL (ev_lift (ok_iload dL_law_1118)))) (ok_t_nL (ok_t_lL (ev_lift (ok_iconst dL_law_1120 rfl))) (ok_t_nL (ok_t_lL (ev_lift (ok_iadd dL_law_1121))) (ok_t_lL (ok_sld dL_law_1122)))))) (ok_t_nL (ok_t_nL (ok_t_nL (ok_t_lL (ev_lift (ok_aload_n dL_law_1123 rfl))) (ok_t_lL (ev_lift (ok_iload dL_law_1124)))) (ok_t_nL (ok_t_lL (ev_lift (ok_iconst dL_law_1126 rfl))) (ok_t_nL (ok_t_lL (ev_lift (ok_iadd dL_law_1127))) (ok_t_lL (ok_sld dL_law_1128))))) (ok_t_nL (ok_t_nL (ok_t_lL (ev_lift (ok_inv (run_V (y := 255) (n := 2) (ci := 13) dL_law_1129 cz_255 gdG cc_255 ci_255 w_1947 cm_255 cs_255 cd_255 cl_255 rfl rfl)))) (ok_t_lL (ev_lift (ok_istore dL_law_1132)))) (ok_t_nL (ok_t_lL (ev_lift (ok_aload_n dL_law_1134 rfl))) (ok_t_nL (ok_t_lL (ev_lift (ok_inv (run_V (y := 228) (n := 0) (ci := 13) dL_law_1135 cz_228 gdG cc_228 ci_228 w_1664 cm_228 cs_228 cd_228 cl_228 rfl rfl)))) (ok_t_lL (ev_lift (ok_iload dL_law_1138)))))))) (ok_t_nL (ok_t_nL (ok_t_nL (ok_t_nL (ok_t_lL (ev_lift (ok_icmp_eq dL_law_1140 rfl))) (ok_t_lL (ev_lift (ok_iconst dL_law_1143 rfl)))) (ok_t_nL (ok_t_lL (ev_lift (ok_ireturn dL_law_1144))) (ok_t_nL (ok_t_lL (ev_lift (ok_iload dL_law_1145))) (ok_t_lL (ev_lift (ok_if_ne dL_law_1147 rfl)))))) (ok_t_nL (ok_t_nL (ok_t_lL (ev_lift (ok_aload_n dL_law_1150 rfl))) (ok_t_lL (ev_lift (ok_iconst dL_law_1151 rfl)))) (ok_t_nL (ok_t_lL (ev_lift (ok_laload dL_law_1152))) (ok_t_nL (ok_t_lL (ev_lift (ok_iload dL_law_1153))) (ok_t_lL (ev_lift (ok_i2l dL_law_1155))))))) (ok_t_nL (ok_t_nL (ok_t_nL (ok_t_lL (ev_lift (ok_lcmp dL_law_1156))) (ok_t_lL (ev_lift (ok_if_eq dL_law_1157 rfl)))) (ok_t_nL (ok_t_lL (ev_lift (ok_iconst dL_law_1160 rfl))) (ok_t_nL (ok_t_lL (ev_lift (ok_ireturn dL_law_1161))) (ok_t_lL (ev_lift (ok_goto dL_law_1162 rfl)))))) (ok_t_nL (ok_t_nL (ok_t_lL (ev_lift (ok_aload_n dL_law_1165 rfl))) (ok_t_lL (ev_lift (ok_aload_n dL_law_1166 rfl)))) (ok_t_nL (ok_t_lL (ev_lift (ok_iload dL_law_1167))) (ok_t_nL (ok_t_lL (ev_lift (ok_iconst dL_law_1169 rfl))) (ok_t_lL (ev_lift (ok_iadd dL_law_1170)))))))))
def lawt_1171 (xs : Nat → Int32) (L : Nat) : Nat → EA := (t_n 1197 (t_n 1185 (t_n 1177 (t_n 1173 (t_n 1172 (t_l 1171 (a_sld xs L)) (t_l 1172 (a_aload 1 0))) (t_n 1175 (t_l 1173 (a_iload 2 4)) (t_n 1176 (t_l 1175 (a_push 1 (.int 2))) (t_l 1176 (a_ii 1 (fun x y => x + y)))))) (t_n 1179 (t_n 1178 (t_l 1177 (a_sld xs L)) (t_l 1178 (a_aload 1 3))) (t_n 1182 (t_l 1179 (a_inv false 305 4 none)) (t_n 1184 (t_l 1182 (a_istore 9 2 5)) (t_l 1184 (a_aload 1 2)))))) (t_n 1191 (t_n 1188 (t_n 1186 (t_l 1185 (a_aload 1 0)) (t_l 1186 (a_iload 2 4))) (t_n 1189 (t_l 1188 (a_push 1 (.int 1))) (t_n 1190 (t_l 1189 (a_ii 1 (fun x y => x + y))) (t_l 1190 (a_sld xs L))))) (t_n 1194 (t_n 1192 (t_l 1191 (a_aload 1 0)) (t_l 1192 (a_iload 2 4))) (t_n 1195 (t_l 1194 (a_push 1 (.int 2))) (t_n 1196 (t_l 1195 (a_ii 1 (fun x y => x + y))) (t_l 1196 (a_sld xs L))))))) (t_n 1218 (t_n 1208 (t_n 1202 (t_n 1200 (t_l 1197 (a_inv true 257 3 (some 13))) (t_l 1200 (a_istore 9 2 6))) (t_n 1203 (t_l 1202 (a_aload 1 2)) (t_n 1206 (t_l 1203 (a_inv true 228 1 (some 13))) (t_l 1206 (a_iload 2 5))))) (t_n 1212 (t_n 1211 (t_l 1208 (a_ic 1213 (fun x y => decide (x = y)))) (t_l 1211 (a_push 1 (.int 0)))) (t_n 1213 (t_l 1212 a_iret) (t_n 1215 (t_l 1213 (a_iload 2 5)) (t_l 1215 (a_if 1230 (fun x => !decide (x = 0)))))))) (t_n 1224 (t_n 1220 (t_n 1219 (t_l 1218 (a_aload 1 3)) (t_l 1219 (a_push 1 (.int 0)))) (t_n 1221 (t_l 1220 a_lld) (t_n 1223 (t_l 1221 (a_iload 2 6)) (t_l 1223 (a_i (fun x => .long x.toInt64)))))) (t_n 1228 (t_n 1225 (t_l 1224 (a_ll (fun x y => .int (lg_cmp x y)))) (t_l 1225 (a_if 1230 (fun x => decide (x = 0))))) (t_n 1229 (t_l 1228 (a_push 1 (.int 0))) (t_n 1230 (t_l 1229 a_iret) (t_l 1230 (a_goto 2116))))))))
set_option maxRecDepth 100000 in
theorem lawt_1171_ok (hh : List (Nat × Nat × Nat × Nat)) (b L d : Nat) (xs : Nat → Int32) : ∀ pc, ev_OkL (ev_OX b L xs) code 9 hh RL lw_g lw_n lw_q vwCl false (ev_CO mt lw_g lw_n lw_q vwCl d) pc (lawt_1171 xs L pc) := (ok_t_nL (ok_t_nL (ok_t_nL (ok_t_nL (ok_t_nL (ok_t_lL (ok_sld dL_law_1171)) (ok_t_lL (ev_lift (ok_aload_n dL_law_1172 rfl)))) (ok_t_nL (ok_t_lL (ev_lift (ok_iload dL_law_1173))) (ok_t_nL (ok_t_lL (ev_lift (ok_iconst dL_law_1175 rfl))) (ok_t_lL (ev_lift (ok_iadd dL_law_1176)))))) (ok_t_nL (ok_t_nL (ok_t_lL (ok_sld dL_law_1177)) (ok_t_lL (ev_lift (ok_aload_n dL_law_1178 rfl)))) (ok_t_nL (ok_t_lL (ev_lift (ok_inv (run_SW (y := 305) (n := 4) dL_law_1179 cz_305 gdG cc_305 ci_305 w_1428 cm_305 cd_305 cl_305)))) (ok_t_nL (ok_t_lL (ev_lift (ok_istore dL_law_1182))) (ok_t_lL (ev_lift (ok_aload_n dL_law_1184 rfl))))))) (ok_t_nL (ok_t_nL (ok_t_nL (ok_t_lL (ev_lift (ok_aload_n dL_law_1185 rfl))) (ok_t_lL (ev_lift (ok_iload dL_law_1186)))) (ok_t_nL (ok_t_lL (ev_lift (ok_iconst dL_law_1188 rfl))) (ok_t_nL (ok_t_lL (ev_lift (ok_iadd dL_law_1189))) (ok_t_lL (ok_sld dL_law_1190))))) (ok_t_nL (ok_t_nL (ok_t_lL (ev_lift (ok_aload_n dL_law_1191 rfl))) (ok_t_lL (ev_lift (ok_iload dL_law_1192)))) (ok_t_nL (ok_t_lL (ev_lift (ok_iconst dL_law_1194 rfl))) (ok_t_nL (ok_t_lL (ev_lift (ok_iadd dL_law_1195))) (ok_t_lL (ok_sld dL_law_1196))))))) (ok_t_nL (ok_t_nL (ok_t_nL (ok_t_nL (ok_t_lL (ev_lift (ok_inv (run_V (y := 257) (n := 2) (ci := 13) dL_law_1197 cz_257 gdG cc_257 ci_257 w_1955 cm_257 cs_257 cd_257 cl_257 rfl rfl)))) (ok_t_lL (ev_lift (ok_istore dL_law_1200)))) (ok_t_nL (ok_t_lL (ev_lift (ok_aload_n dL_law_1202 rfl))) (ok_t_nL (ok_t_lL (ev_lift (ok_inv (run_V (y := 228) (n := 0) (ci := 13) dL_law_1203 cz_228 gdG cc_228 ci_228 w_1664 cm_228 cs_228 cd_228 cl_228 rfl rfl)))) (ok_t_lL (ev_lift (ok_iload dL_law_1206)))))) (ok_t_nL (ok_t_nL (ok_t_lL (ev_lift (ok_icmp_eq dL_law_1208 rfl))) (ok_t_lL (ev_lift (ok_iconst dL_law_1211 rfl)))) (ok_t_nL (ok_t_lL (ev_lift (ok_ireturn dL_law_1212))) (ok_t_nL (ok_t_lL (ev_lift (ok_iload dL_law_1213))) (ok_t_lL (ev_lift (ok_if_ne dL_law_1215 rfl))))))) (ok_t_nL (ok_t_nL (ok_t_nL (ok_t_lL (ev_lift (ok_aload_n dL_law_1218 rfl))) (ok_t_lL (ev_lift (ok_iconst dL_law_1219 rfl)))) (ok_t_nL (ok_t_lL (ev_lift (ok_laload dL_law_1220))) (ok_t_nL (ok_t_lL (ev_lift (ok_iload dL_law_1221))) (ok_t_lL (ev_lift (ok_i2l dL_law_1223)))))) (ok_t_nL (ok_t_nL (ok_t_lL (ev_lift (ok_lcmp dL_law_1224))) (ok_t_lL (ev_lift (ok_if_eq dL_law_1225 rfl)))) (ok_t_nL (ok_t_lL (ev_lift (ok_iconst dL_law_1228 rfl))) (ok_t_nL (ok_t_lL (ev_lift (ok_ireturn dL_law_1229))) (ok_t_lL (ev_lift (ok_goto dL_law_1230 rfl)))))))))
def lawt_1233 (xs : Nat → Int32) (L : Nat) : Nat → EA := (t_n 1259 (t_n 1245 (t_n 1239 (t_n 1235 (t_n 1234 (t_l 1233 (a_aload 1 1)) (t_l 1234 (a_aload 1 0))) (t_n 1237 (t_l 1235 (a_iload 2 4)) (t_n 1238 (t_l 1237 (a_push 1 (.int 1))) (t_l 1238 (a_ii 1 (fun x y => x + y)))))) (t_n 1241 (t_n 1240 (t_l 1239 (a_sld xs L)) (t_l 1240 (a_aload 1 0))) (t_n 1243 (t_l 1241 (a_iload 2 4)) (t_n 1244 (t_l 1243 (a_push 1 (.int 2))) (t_l 1244 (a_ii 1 (fun x y => x + y))))))) (t_n 1253 (t_n 1247 (t_n 1246 (t_l 1245 (a_sld xs L)) (t_l 1246 (a_aload 1 3))) (t_n 1250 (t_l 1247 (a_inv false 306 4 none)) (t_n 1252 (t_l 1250 (a_istore 9 2 5)) (t_l 1252 (a_aload 1 2))))) (t_n 1256 (t_n 1254 (t_l 1253 (a_aload 1 0)) (t_l 1254 (a_iload 2 4))) (t_n 1257 (t_l 1256 (a_push 1 (.int 1))) (t_n 1258 (t_l 1257 (a_ii 1 (fun x y => x + y))) (t_l 1258 (a_sld xs L))))))) (t_n 1276 (t_n 1265 (t_n 1262 (t_n 1260 (t_l 1259 (a_aload 1 0)) (t_l 1260 (a_iload 2 4))) (t_n 1263 (t_l 1262 (a_push 1 (.int 2))) (t_n 1264 (t_l 1263 (a_ii 1 (fun x y => x + y))) (t_l 1264 (a_sld xs L))))) (t_n 1270 (t_n 1268 (t_l 1265 (a_inv true 258 3 (some 13))) (t_l 1268 (a_istore 9 2 6))) (t_n 1271 (t_l 1270 (a_aload 1 2)) (t_n 1274 (t_l 1271 (a_inv true 228 1 (some 13))) (t_l 1274 (a_iload 2 5)))))) (t_n 1286 (t_n 1280 (t_n 1279 (t_l 1276 (a_ic 1281 (fun x y => decide (x = y)))) (t_l 1279 (a_push 1 (.int 0)))) (t_n 1281 (t_l 1280 a_iret) (t_n 1283 (t_l 1281 (a_iload 2 5)) (t_l 1283 (a_if 1298 (fun x => !decide (x = 0))))))) (t_n 1288 (t_n 1287 (t_l 1286 (a_aload 1 3)) (t_l 1287 (a_push 1 (.int 0)))) (t_n 1289 (t_l 1288 a_lld) (t_n 1291 (t_l 1289 (a_iload 2 6)) (t_l 1291 (a_i (fun x => .long x.toInt64)))))))))
set_option maxRecDepth 100000 in
theorem lawt_1233_ok (hh : List (Nat × Nat × Nat × Nat)) (b L d : Nat) (xs : Nat → Int32) : ∀ pc, ev_OkL (ev_OX b L xs) code 9 hh RL lw_g lw_n lw_q vwCl false (ev_CO mt lw_g lw_n lw_q vwCl d) pc (lawt_1233 xs L pc) := (ok_t_nL (ok_t_nL (ok_t_nL (ok_t_nL (ok_t_nL (ok_t_lL (ev_lift (ok_aload_n dL_law_1233 rfl))) (ok_t_lL (ev_lift (ok_aload_n dL_law_1234 rfl)))) (ok_t_nL (ok_t_lL (ev_lift (ok_iload dL_law_1235))) (ok_t_nL (ok_t_lL (ev_lift (ok_iconst dL_law_1237 rfl))) (ok_t_lL (ev_lift (ok_iadd dL_law_1238)))))) (ok_t_nL (ok_t_nL (ok_t_lL (ok_sld dL_law_1239)) (ok_t_lL (ev_lift (ok_aload_n dL_law_1240 rfl)))) (ok_t_nL (ok_t_lL (ev_lift (ok_iload dL_law_1241))) (ok_t_nL (ok_t_lL (ev_lift (ok_iconst dL_law_1243 rfl))) (ok_t_lL (ev_lift (ok_iadd dL_law_1244))))))) (ok_t_nL (ok_t_nL (ok_t_nL (ok_t_lL (ok_sld dL_law_1245)) (ok_t_lL (ev_lift (ok_aload_n dL_law_1246 rfl)))) (ok_t_nL (ok_t_lL (ev_lift (ok_inv (run_SW (y := 306) (n := 4) dL_law_1247 cz_306 gdG cc_306 ci_306 w_1432 cm_306 cd_306 cl_306)))) (ok_t_nL (ok_t_lL (ev_lift (ok_istore dL_law_1250))) (ok_t_lL (ev_lift (ok_aload_n dL_law_1252 rfl)))))) (ok_t_nL (ok_t_nL (ok_t_lL (ev_lift (ok_aload_n dL_law_1253 rfl))) (ok_t_lL (ev_lift (ok_iload dL_law_1254)))) (ok_t_nL (ok_t_lL (ev_lift (ok_iconst dL_law_1256 rfl))) (ok_t_nL (ok_t_lL (ev_lift (ok_iadd dL_law_1257))) (ok_t_lL (ok_sld dL_law_1258))))))) (ok_t_nL (ok_t_nL (ok_t_nL (ok_t_nL (ok_t_lL (ev_lift (ok_aload_n dL_law_1259 rfl))) (ok_t_lL (ev_lift (ok_iload dL_law_1260)))) (ok_t_nL (ok_t_lL (ev_lift (ok_iconst dL_law_1262 rfl))) (ok_t_nL (ok_t_lL (ev_lift (ok_iadd dL_law_1263))) (ok_t_lL (ok_sld dL_law_1264))))) (ok_t_nL (ok_t_nL (ok_t_lL (ev_lift (ok_inv (run_V (y := 258) (n := 2) (ci := 13) dL_law_1265 cz_258 gdG cc_258 ci_258 w_1967 cm_258 cs_258 cd_258 cl_258 rfl rfl)))) (ok_t_lL (ev_lift (ok_istore dL_law_1268)))) (ok_t_nL (ok_t_lL (ev_lift (ok_aload_n dL_law_1270 rfl))) (ok_t_nL (ok_t_lL (ev_lift (ok_inv (run_V (y := 228) (n := 0) (ci := 13) dL_law_1271 cz_228 gdG cc_228 ci_228 w_1664 cm_228 cs_228 cd_228 cl_228 rfl rfl)))) (ok_t_lL (ev_lift (ok_iload dL_law_1274))))))) (ok_t_nL (ok_t_nL (ok_t_nL (ok_t_lL (ev_lift (ok_icmp_eq dL_law_1276 rfl))) (ok_t_lL (ev_lift (ok_iconst dL_law_1279 rfl)))) (ok_t_nL (ok_t_lL (ev_lift (ok_ireturn dL_law_1280))) (ok_t_nL (ok_t_lL (ev_lift (ok_iload dL_law_1281))) (ok_t_lL (ev_lift (ok_if_ne dL_law_1283 rfl)))))) (ok_t_nL (ok_t_nL (ok_t_lL (ev_lift (ok_aload_n dL_law_1286 rfl))) (ok_t_lL (ev_lift (ok_iconst dL_law_1287 rfl)))) (ok_t_nL (ok_t_lL (ev_lift (ok_laload dL_law_1288))) (ok_t_nL (ok_t_lL (ev_lift (ok_iload dL_law_1289))) (ok_t_lL (ev_lift (ok_i2l dL_law_1291)))))))))
def lawt_1292 (xs : Nat → Int32) (L : Nat) : Nat → EA := (t_n 1321 (t_n 1307 (t_n 1301 (t_n 1296 (t_n 1293 (t_l 1292 (a_ll (fun x y => .int (lg_cmp x y)))) (t_l 1293 (a_if 1298 (fun x => decide (x = 0))))) (t_n 1297 (t_l 1296 (a_push 1 (.int 0))) (t_n 1298 (t_l 1297 a_iret) (t_l 1298 (a_goto 2116))))) (t_n 1303 (t_n 1302 (t_l 1301 (a_aload 1 1)) (t_l 1302 (a_aload 1 0))) (t_n 1305 (t_l 1303 (a_iload 2 4)) (t_n 1306 (t_l 1305 (a_push 1 (.int 1))) (t_l 1306 (a_ii 1 (fun x y => x + y))))))) (t_n 1315 (t_n 1309 (t_n 1308 (t_l 1307 (a_sld xs L)) (t_l 1308 (a_aload 1 3))) (t_n 1312 (t_l 1309 (a_inv false 307 3 none)) (t_n 1314 (t_l 1312 (a_istore 9 2 5)) (t_l 1314 (a_aload 1 2))))) (t_n 1318 (t_n 1316 (t_l 1315 (a_aload 1 0)) (t_l 1316 (a_iload 2 4))) (t_n 1319 (t_l 1318 (a_push 1 (.int 1))) (t_n 1320 (t_l 1319 (a_ii 1 (fun x y => x + y))) (t_l 1320 (a_sld xs L))))))) (t_n 1342 (t_n 1332 (t_n 1326 (t_n 1324 (t_l 1321 (a_inv true 259 2 (some 13))) (t_l 1324 (a_istore 9 2 6))) (t_n 1327 (t_l 1326 (a_aload 1 2)) (t_n 1330 (t_l 1327 (a_inv true 228 1 (some 13))) (t_l 1330 (a_iload 2 5))))) (t_n 1336 (t_n 1335 (t_l 1332 (a_ic 1337 (fun x y => decide (x = y)))) (t_l 1335 (a_push 1 (.int 0)))) (t_n 1337 (t_l 1336 a_iret) (t_n 1339 (t_l 1337 (a_iload 2 5)) (t_l 1339 (a_if 1354 (fun x => !decide (x = 0)))))))) (t_n 1348 (t_n 1344 (t_n 1343 (t_l 1342 (a_aload 1 3)) (t_l 1343 (a_push 1 (.int 0)))) (t_n 1345 (t_l 1344 a_lld) (t_n 1347 (t_l 1345 (a_iload 2 6)) (t_l 1347 (a_i (fun x => .long x.toInt64)))))) (t_n 1353 (t_n 1349 (t_l 1348 (a_ll (fun x y => .int (lg_cmp x y)))) (t_n 1352 (t_l 1349 (a_if 1354 (fun x => decide (x = 0)))) (t_l 1352 (a_push 1 (.int 0))))) (t_n 1354 (t_l 1353 a_iret) (t_n 1357 (t_l 1354 (a_goto 2116)) (t_l 1357 (a_aload 1 1))))))))
set_option maxRecDepth 100000 in
theorem lawt_1292_ok (hh : List (Nat × Nat × Nat × Nat)) (b L d : Nat) (xs : Nat → Int32) : ∀ pc, ev_OkL (ev_OX b L xs) code 9 hh RL lw_g lw_n lw_q vwCl false (ev_CO mt lw_g lw_n lw_q vwCl d) pc (lawt_1292 xs L pc) := (ok_t_nL (ok_t_nL (ok_t_nL (ok_t_nL (ok_t_nL (ok_t_lL (ev_lift (ok_lcmp dL_law_1292))) (ok_t_lL (ev_lift (ok_if_eq dL_law_1293 rfl)))) (ok_t_nL (ok_t_lL (ev_lift (ok_iconst dL_law_1296 rfl))) (ok_t_nL (ok_t_lL (ev_lift (ok_ireturn dL_law_1297))) (ok_t_lL (ev_lift (ok_goto dL_law_1298 rfl)))))) (ok_t_nL (ok_t_nL (ok_t_lL (ev_lift (ok_aload_n dL_law_1301 rfl))) (ok_t_lL (ev_lift (ok_aload_n dL_law_1302 rfl)))) (ok_t_nL (ok_t_lL (ev_lift (ok_iload dL_law_1303))) (ok_t_nL (ok_t_lL (ev_lift (ok_iconst dL_law_1305 rfl))) (ok_t_lL (ev_lift (ok_iadd dL_law_1306))))))) (ok_t_nL (ok_t_nL (ok_t_nL (ok_t_lL (ok_sld dL_law_1307)) (ok_t_lL (ev_lift (ok_aload_n dL_law_1308 rfl)))) (ok_t_nL (ok_t_lL (ev_lift (ok_inv (run_SW (y := 307) (n := 3) dL_law_1309 cz_307 gdG cc_307 ci_307 w_1436 cm_307 cd_307 cl_307)))) (ok_t_nL (ok_t_lL (ev_lift (ok_istore dL_law_1312))) (ok_t_lL (ev_lift (ok_aload_n dL_law_1314 rfl)))))) (ok_t_nL (ok_t_nL (ok_t_lL (ev_lift (ok_aload_n dL_law_1315 rfl))) (ok_t_lL (ev_lift (ok_iload dL_law_1316)))) (ok_t_nL (ok_t_lL (ev_lift (ok_iconst dL_law_1318 rfl))) (ok_t_nL (ok_t_lL (ev_lift (ok_iadd dL_law_1319))) (ok_t_lL (ok_sld dL_law_1320))))))) (ok_t_nL (ok_t_nL (ok_t_nL (ok_t_nL (ok_t_lL (ev_lift (ok_inv (run_V (y := 259) (n := 1) (ci := 13) dL_law_1321 cz_259 gdG cc_259 ci_259 w_1971 cm_259 cs_259 cd_259 cl_259 rfl rfl)))) (ok_t_lL (ev_lift (ok_istore dL_law_1324)))) (ok_t_nL (ok_t_lL (ev_lift (ok_aload_n dL_law_1326 rfl))) (ok_t_nL (ok_t_lL (ev_lift (ok_inv (run_V (y := 228) (n := 0) (ci := 13) dL_law_1327 cz_228 gdG cc_228 ci_228 w_1664 cm_228 cs_228 cd_228 cl_228 rfl rfl)))) (ok_t_lL (ev_lift (ok_iload dL_law_1330)))))) (ok_t_nL (ok_t_nL (ok_t_lL (ev_lift (ok_icmp_eq dL_law_1332 rfl))) (ok_t_lL (ev_lift (ok_iconst dL_law_1335 rfl)))) (ok_t_nL (ok_t_lL (ev_lift (ok_ireturn dL_law_1336))) (ok_t_nL (ok_t_lL (ev_lift (ok_iload dL_law_1337))) (ok_t_lL (ev_lift (ok_if_ne dL_law_1339 rfl))))))) (ok_t_nL (ok_t_nL (ok_t_nL (ok_t_lL (ev_lift (ok_aload_n dL_law_1342 rfl))) (ok_t_lL (ev_lift (ok_iconst dL_law_1343 rfl)))) (ok_t_nL (ok_t_lL (ev_lift (ok_laload dL_law_1344))) (ok_t_nL (ok_t_lL (ev_lift (ok_iload dL_law_1345))) (ok_t_lL (ev_lift (ok_i2l dL_law_1347)))))) (ok_t_nL (ok_t_nL (ok_t_lL (ev_lift (ok_lcmp dL_law_1348))) (ok_t_nL (ok_t_lL (ev_lift (ok_if_eq dL_law_1349 rfl))) (ok_t_lL (ev_lift (ok_iconst dL_law_1352 rfl))))) (ok_t_nL (ok_t_lL (ev_lift (ok_ireturn dL_law_1353))) (ok_t_nL (ok_t_lL (ev_lift (ok_goto dL_law_1354 rfl))) (ok_t_lL (ev_lift (ok_aload_n dL_law_1357 rfl)))))))))
def lawt_1358 (xs : Nat → Int32) (L : Nat) : Nat → EA := (t_n 1391 (t_n 1372 (t_n 1364 (t_n 1361 (t_n 1359 (t_l 1358 (a_aload 1 0)) (t_l 1359 (a_iload 2 4))) (t_n 1362 (t_l 1361 (a_push 1 (.int 1))) (t_n 1363 (t_l 1362 (a_ii 1 (fun x y => x + y))) (t_l 1363 (a_sld xs L))))) (t_n 1368 (t_n 1365 (t_l 1364 (a_aload 1 3)) (t_l 1365 (a_inv false 308 3 none))) (t_n 1370 (t_l 1368 (a_istore 9 2 5)) (t_n 1371 (t_l 1370 (a_aload 1 2)) (t_l 1371 (a_aload 1 0)))))) (t_n 1380 (t_n 1375 (t_n 1374 (t_l 1372 (a_iload 2 4)) (t_l 1374 (a_push 1 (.int 1)))) (t_n 1376 (t_l 1375 (a_ii 1 (fun x y => x + y))) (t_n 1377 (t_l 1376 (a_sld xs L)) (t_l 1377 (a_inv true 262 2 (some 13)))))) (t_n 1383 (t_n 1382 (t_l 1380 (a_istore 9 2 6)) (t_l 1382 (a_aload 1 2))) (t_n 1386 (t_l 1383 (a_inv true 228 1 (some 13))) (t_n 1388 (t_l 1386 (a_iload 2 5)) (t_l 1388 (a_ic 1393 (fun x y => decide (x = y))))))))) (t_n 1405 (t_n 1399 (t_n 1393 (t_n 1392 (t_l 1391 (a_push 1 (.int 0))) (t_l 1392 a_iret)) (t_n 1395 (t_l 1393 (a_iload 2 5)) (t_n 1398 (t_l 1395 (a_if 1410 (fun x => !decide (x = 0)))) (t_l 1398 (a_aload 1 3))))) (t_n 1401 (t_n 1400 (t_l 1399 (a_push 1 (.int 0))) (t_l 1400 a_lld)) (t_n 1403 (t_l 1401 (a_iload 2 6)) (t_n 1404 (t_l 1403 (a_i (fun x => .long x.toInt64))) (t_l 1404 (a_ll (fun x y => .int (lg_cmp x y)))))))) (t_n 1414 (t_n 1409 (t_n 1408 (t_l 1405 (a_if 1410 (fun x => decide (x = 0)))) (t_l 1408 (a_push 1 (.int 0)))) (t_n 1410 (t_l 1409 a_iret) (t_n 1413 (t_l 1410 (a_goto 2116)) (t_l 1413 (a_aload 1 1))))) (t_n 1417 (t_n 1415 (t_l 1414 (a_aload 1 0)) (t_l 1415 (a_iload 2 4))) (t_n 1418 (t_l 1417 (a_push 1 (.int 1))) (t_n 1419 (t_l 1418 (a_ii 1 (fun x y => x + y))) (t_l 1419 (a_sld xs L))))))))
set_option maxRecDepth 100000 in
theorem lawt_1358_ok (hh : List (Nat × Nat × Nat × Nat)) (b L d : Nat) (xs : Nat → Int32) : ∀ pc, ev_OkL (ev_OX b L xs) code 9 hh RL lw_g lw_n lw_q vwCl false (ev_CO mt lw_g lw_n lw_q vwCl d) pc (lawt_1358 xs L pc) := (ok_t_nL (ok_t_nL (ok_t_nL (ok_t_nL (ok_t_nL (ok_t_lL (ev_lift (ok_aload_n dL_law_1358 rfl))) (ok_t_lL (ev_lift (ok_iload dL_law_1359)))) (ok_t_nL (ok_t_lL (ev_lift (ok_iconst dL_law_1361 rfl))) (ok_t_nL (ok_t_lL (ev_lift (ok_iadd dL_law_1362))) (ok_t_lL (ok_sld dL_law_1363))))) (ok_t_nL (ok_t_nL (ok_t_lL (ev_lift (ok_aload_n dL_law_1364 rfl))) (ok_t_lL (ev_lift (ok_inv (run_SW (y := 308) (n := 3) dL_law_1365 cz_308 gdG cc_308 ci_308 w_1440 cm_308 cd_308 cl_308))))) (ok_t_nL (ok_t_lL (ev_lift (ok_istore dL_law_1368))) (ok_t_nL (ok_t_lL (ev_lift (ok_aload_n dL_law_1370 rfl))) (ok_t_lL (ev_lift (ok_aload_n dL_law_1371 rfl))))))) (ok_t_nL (ok_t_nL (ok_t_nL (ok_t_lL (ev_lift (ok_iload dL_law_1372))) (ok_t_lL (ev_lift (ok_iconst dL_law_1374 rfl)))) (ok_t_nL (ok_t_lL (ev_lift (ok_iadd dL_law_1375))) (ok_t_nL (ok_t_lL (ok_sld dL_law_1376)) (ok_t_lL (ev_lift (ok_inv (run_V (y := 262) (n := 1) (ci := 13) dL_law_1377 cz_262 gdG cc_262 ci_262 w_1975 cm_262 cs_262 cd_262 cl_262 rfl rfl))))))) (ok_t_nL (ok_t_nL (ok_t_lL (ev_lift (ok_istore dL_law_1380))) (ok_t_lL (ev_lift (ok_aload_n dL_law_1382 rfl)))) (ok_t_nL (ok_t_lL (ev_lift (ok_inv (run_V (y := 228) (n := 0) (ci := 13) dL_law_1383 cz_228 gdG cc_228 ci_228 w_1664 cm_228 cs_228 cd_228 cl_228 rfl rfl)))) (ok_t_nL (ok_t_lL (ev_lift (ok_iload dL_law_1386))) (ok_t_lL (ev_lift (ok_icmp_eq dL_law_1388 rfl)))))))) (ok_t_nL (ok_t_nL (ok_t_nL (ok_t_nL (ok_t_lL (ev_lift (ok_iconst dL_law_1391 rfl))) (ok_t_lL (ev_lift (ok_ireturn dL_law_1392)))) (ok_t_nL (ok_t_lL (ev_lift (ok_iload dL_law_1393))) (ok_t_nL (ok_t_lL (ev_lift (ok_if_ne dL_law_1395 rfl))) (ok_t_lL (ev_lift (ok_aload_n dL_law_1398 rfl)))))) (ok_t_nL (ok_t_nL (ok_t_lL (ev_lift (ok_iconst dL_law_1399 rfl))) (ok_t_lL (ev_lift (ok_laload dL_law_1400)))) (ok_t_nL (ok_t_lL (ev_lift (ok_iload dL_law_1401))) (ok_t_nL (ok_t_lL (ev_lift (ok_i2l dL_law_1403))) (ok_t_lL (ev_lift (ok_lcmp dL_law_1404))))))) (ok_t_nL (ok_t_nL (ok_t_nL (ok_t_lL (ev_lift (ok_if_eq dL_law_1405 rfl))) (ok_t_lL (ev_lift (ok_iconst dL_law_1408 rfl)))) (ok_t_nL (ok_t_lL (ev_lift (ok_ireturn dL_law_1409))) (ok_t_nL (ok_t_lL (ev_lift (ok_goto dL_law_1410 rfl))) (ok_t_lL (ev_lift (ok_aload_n dL_law_1413 rfl)))))) (ok_t_nL (ok_t_nL (ok_t_lL (ev_lift (ok_aload_n dL_law_1414 rfl))) (ok_t_lL (ev_lift (ok_iload dL_law_1415)))) (ok_t_nL (ok_t_lL (ev_lift (ok_iconst dL_law_1417 rfl))) (ok_t_nL (ok_t_lL (ev_lift (ok_iadd dL_law_1418))) (ok_t_lL (ok_sld dL_law_1419))))))))
def lawt_1420 (xs : Nat → Int32) (L : Nat) : Nat → EA := (t_n 1450 (t_n 1435 (t_n 1426 (t_n 1423 (t_n 1421 (t_l 1420 (a_aload 1 0)) (t_l 1421 (a_iload 2 4))) (t_n 1424 (t_l 1423 (a_push 1 (.int 2))) (t_n 1425 (t_l 1424 (a_ii 1 (fun x y => x + y))) (t_l 1425 (a_sld xs L))))) (t_n 1430 (t_n 1429 (t_l 1426 (a_if 1433 (fun x => decide (x = 0)))) (t_l 1429 (a_push 1 (.int 1)))) (t_n 1433 (t_l 1430 (a_goto 1434)) (t_n 1434 (t_l 1433 (a_push 1 (.int 0))) (t_l 1434 (a_aload 1 3)))))) (t_n 1444 (t_n 1440 (t_n 1438 (t_l 1435 (a_inv false 309 4 none)) (t_l 1438 (a_istore 9 2 5))) (t_n 1441 (t_l 1440 (a_aload 1 2)) (t_n 1442 (t_l 1441 (a_aload 1 0)) (t_l 1442 (a_iload 2 4))))) (t_n 1446 (t_n 1445 (t_l 1444 (a_push 1 (.int 1))) (t_l 1445 (a_ii 1 (fun x y => x + y)))) (t_n 1447 (t_l 1446 (a_sld xs L)) (t_n 1448 (t_l 1447 (a_aload 1 0)) (t_l 1448 (a_iload 2 4))))))) (t_n 1467 (t_n 1457 (t_n 1452 (t_n 1451 (t_l 1450 (a_push 1 (.int 2))) (t_l 1451 (a_ii 1 (fun x y => x + y)))) (t_n 1453 (t_l 1452 (a_sld xs L)) (t_n 1456 (t_l 1453 (a_if 1460 (fun x => decide (x = 0)))) (t_l 1456 (a_push 1 (.int 1)))))) (t_n 1461 (t_n 1460 (t_l 1457 (a_goto 1461)) (t_l 1460 (a_push 1 (.int 0)))) (t_n 1464 (t_l 1461 (a_inv true 269 3 (some 13))) (t_n 1466 (t_l 1464 (a_istore 9 2 6)) (t_l 1466 (a_aload 1 2)))))) (t_n 1477 (t_n 1472 (t_n 1470 (t_l 1467 (a_inv true 228 1 (some 13))) (t_l 1470 (a_iload 2 5))) (t_n 1475 (t_l 1472 (a_ic 1477 (fun x y => decide (x = y)))) (t_n 1476 (t_l 1475 (a_push 1 (.int 0))) (t_l 1476 a_iret)))) (t_n 1483 (t_n 1479 (t_l 1477 (a_iload 2 5)) (t_n 1482 (t_l 1479 (a_if 1494 (fun x => !decide (x = 0)))) (t_l 1482 (a_aload 1 3)))) (t_n 1484 (t_l 1483 (a_push 1 (.int 0))) (t_n 1485 (t_l 1484 a_lld) (t_l 1485 (a_iload 2 6))))))))
set_option maxRecDepth 100000 in
theorem lawt_1420_ok (hh : List (Nat × Nat × Nat × Nat)) (b L d : Nat) (xs : Nat → Int32) : ∀ pc, ev_OkL (ev_OX b L xs) code 9 hh RL lw_g lw_n lw_q vwCl false (ev_CO mt lw_g lw_n lw_q vwCl d) pc (lawt_1420 xs L pc) := (ok_t_nL (ok_t_nL (ok_t_nL (ok_t_nL (ok_t_nL (ok_t_lL (ev_lift (ok_aload_n dL_law_1420 rfl))) (ok_t_lL (ev_lift (ok_iload dL_law_1421)))) (ok_t_nL (ok_t_lL (ev_lift (ok_iconst dL_law_1423 rfl))) (ok_t_nL (ok_t_lL (ev_lift (ok_iadd dL_law_1424))) (ok_t_lL (ok_sld dL_law_1425))))) (ok_t_nL (ok_t_nL (ok_t_lL (ev_lift (ok_if_eq dL_law_1426 rfl))) (ok_t_lL (ev_lift (ok_iconst dL_law_1429 rfl)))) (ok_t_nL (ok_t_lL (ev_lift (ok_goto dL_law_1430 rfl))) (ok_t_nL (ok_t_lL (ev_lift (ok_iconst dL_law_1433 rfl))) (ok_t_lL (ev_lift (ok_aload_n dL_law_1434 rfl))))))) (ok_t_nL (ok_t_nL (ok_t_nL (ok_t_lL (ev_lift (ok_inv (run_SW (y := 309) (n := 4) dL_law_1435 cz_309 gdG cc_309 ci_309 w_1463 cm_309 cd_309 cl_309)))) (ok_t_lL (ev_lift (ok_istore dL_law_1438)))) (ok_t_nL (ok_t_lL (ev_lift (ok_aload_n dL_law_1440 rfl))) (ok_t_nL (ok_t_lL (ev_lift (ok_aload_n dL_law_1441 rfl))) (ok_t_lL (ev_lift (ok_iload dL_law_1442)))))) (ok_t_nL (ok_t_nL (ok_t_lL (ev_lift (ok_iconst dL_law_1444 rfl))) (ok_t_lL (ev_lift (ok_iadd dL_law_1445)))) (ok_t_nL (ok_t_lL (ok_sld dL_law_1446)) (ok_t_nL (ok_t_lL (ev_lift (ok_aload_n dL_law_1447 rfl))) (ok_t_lL (ev_lift (ok_iload dL_law_1448)))))))) (ok_t_nL (ok_t_nL (ok_t_nL (ok_t_nL (ok_t_lL (ev_lift (ok_iconst dL_law_1450 rfl))) (ok_t_lL (ev_lift (ok_iadd dL_law_1451)))) (ok_t_nL (ok_t_lL (ok_sld dL_law_1452)) (ok_t_nL (ok_t_lL (ev_lift (ok_if_eq dL_law_1453 rfl))) (ok_t_lL (ev_lift (ok_iconst dL_law_1456 rfl)))))) (ok_t_nL (ok_t_nL (ok_t_lL (ev_lift (ok_goto dL_law_1457 rfl))) (ok_t_lL (ev_lift (ok_iconst dL_law_1460 rfl)))) (ok_t_nL (ok_t_lL (ev_lift (ok_inv (run_V (y := 269) (n := 2) (ci := 13) dL_law_1461 cz_269 gdG cc_269 ci_269 w_1979 cm_269 cs_269 cd_269 cl_269 rfl rfl)))) (ok_t_nL (ok_t_lL (ev_lift (ok_istore dL_law_1464))) (ok_t_lL (ev_lift (ok_aload_n dL_law_1466 rfl))))))) (ok_t_nL (ok_t_nL (ok_t_nL (ok_t_lL (ev_lift (ok_inv (run_V (y := 228) (n := 0) (ci := 13) dL_law_1467 cz_228 gdG cc_228 ci_228 w_1664 cm_228 cs_228 cd_228 cl_228 rfl rfl)))) (ok_t_lL (ev_lift (ok_iload dL_law_1470)))) (ok_t_nL (ok_t_lL (ev_lift (ok_icmp_eq dL_law_1472 rfl))) (ok_t_nL (ok_t_lL (ev_lift (ok_iconst dL_law_1475 rfl))) (ok_t_lL (ev_lift (ok_ireturn dL_law_1476)))))) (ok_t_nL (ok_t_nL (ok_t_lL (ev_lift (ok_iload dL_law_1477))) (ok_t_nL (ok_t_lL (ev_lift (ok_if_ne dL_law_1479 rfl))) (ok_t_lL (ev_lift (ok_aload_n dL_law_1482 rfl))))) (ok_t_nL (ok_t_lL (ev_lift (ok_iconst dL_law_1483 rfl))) (ok_t_nL (ok_t_lL (ev_lift (ok_laload dL_law_1484))) (ok_t_lL (ev_lift (ok_iload dL_law_1485)))))))))
def lawt_1487 (xs : Nat → Int32) (L : Nat) : Nat → EA := (t_n 1516 (t_n 1502 (t_n 1494 (t_n 1489 (t_n 1488 (t_l 1487 (a_i (fun x => .long x.toInt64))) (t_l 1488 (a_ll (fun x y => .int (lg_cmp x y))))) (t_n 1492 (t_l 1489 (a_if 1494 (fun x => decide (x = 0)))) (t_n 1493 (t_l 1492 (a_push 1 (.int 0))) (t_l 1493 a_iret)))) (t_n 1498 (t_n 1497 (t_l 1494 (a_goto 2116)) (t_l 1497 (a_aload 1 1))) (t_n 1499 (t_l 1498 (a_aload 1 0)) (t_n 1501 (t_l 1499 (a_iload 2 4)) (t_l 1501 (a_push 1 (.int 1))))))) (t_n 1510 (t_n 1504 (t_n 1503 (t_l 1502 (a_ii 1 (fun x y => x + y))) (t_l 1503 (a_sld xs L))) (t_n 1505 (t_l 1504 (a_aload 1 3)) (t_n 1508 (t_l 1505 (a_inv false 310 3 none)) (t_l 1508 (a_istore 9 2 5))))) (t_n 1512 (t_n 1511 (t_l 1510 (a_aload 1 2)) (t_l 1511 (a_aload 1 0))) (t_n 1514 (t_l 1512 (a_iload 2 4)) (t_n 1515 (t_l 1514 (a_push 1 (.int 1))) (t_l 1515 (a_ii 1 (fun x y => x + y)))))))) (t_n 1535 (t_n 1526 (t_n 1520 (t_n 1517 (t_l 1516 (a_sld xs L)) (t_l 1517 (a_inv true 271 2 (some 13)))) (t_n 1522 (t_l 1520 (a_istore 9 2 6)) (t_n 1523 (t_l 1522 (a_aload 1 2)) (t_l 1523 (a_inv true 228 1 (some 13)))))) (t_n 1531 (t_n 1528 (t_l 1526 (a_iload 2 5)) (t_l 1528 (a_ic 1533 (fun x y => decide (x = y))))) (t_n 1532 (t_l 1531 (a_push 1 (.int 0))) (t_n 1533 (t_l 1532 a_iret) (t_l 1533 (a_iload 2 5)))))) (t_n 1543 (t_n 1539 (t_n 1538 (t_l 1535 (a_if 1550 (fun x => !decide (x = 0)))) (t_l 1538 (a_aload 1 3))) (t_n 1540 (t_l 1539 (a_push 1 (.int 0))) (t_n 1541 (t_l 1540 a_lld) (t_l 1541 (a_iload 2 6))))) (t_n 1545 (t_n 1544 (t_l 1543 (a_i (fun x => .long x.toInt64))) (t_l 1544 (a_ll (fun x y => .int (lg_cmp x y))))) (t_n 1548 (t_l 1545 (a_if 1550 (fun x => decide (x = 0)))) (t_n 1549 (t_l 1548 (a_push 1 (.int 0))) (t_l 1549 a_iret)))))))
set_option maxRecDepth 100000 in
theorem lawt_1487_ok (hh : List (Nat × Nat × Nat × Nat)) (b L d : Nat) (xs : Nat → Int32) : ∀ pc, ev_OkL (ev_OX b L xs) code 9 hh RL lw_g lw_n lw_q vwCl false (ev_CO mt lw_g lw_n lw_q vwCl d) pc (lawt_1487 xs L pc) := (ok_t_nL (ok_t_nL (ok_t_nL (ok_t_nL (ok_t_nL (ok_t_lL (ev_lift (ok_i2l dL_law_1487))) (ok_t_lL (ev_lift (ok_lcmp dL_law_1488)))) (ok_t_nL (ok_t_lL (ev_lift (ok_if_eq dL_law_1489 rfl))) (ok_t_nL (ok_t_lL (ev_lift (ok_iconst dL_law_1492 rfl))) (ok_t_lL (ev_lift (ok_ireturn dL_law_1493)))))) (ok_t_nL (ok_t_nL (ok_t_lL (ev_lift (ok_goto dL_law_1494 rfl))) (ok_t_lL (ev_lift (ok_aload_n dL_law_1497 rfl)))) (ok_t_nL (ok_t_lL (ev_lift (ok_aload_n dL_law_1498 rfl))) (ok_t_nL (ok_t_lL (ev_lift (ok_iload dL_law_1499))) (ok_t_lL (ev_lift (ok_iconst dL_law_1501 rfl))))))) (ok_t_nL (ok_t_nL (ok_t_nL (ok_t_lL (ev_lift (ok_iadd dL_law_1502))) (ok_t_lL (ok_sld dL_law_1503))) (ok_t_nL (ok_t_lL (ev_lift (ok_aload_n dL_law_1504 rfl))) (ok_t_nL (ok_t_lL (ev_lift (ok_inv (run_SW (y := 310) (n := 3) dL_law_1505 cz_310 gdG cc_310 ci_310 w_1492 cm_310 cd_310 cl_310)))) (ok_t_lL (ev_lift (ok_istore dL_law_1508)))))) (ok_t_nL (ok_t_nL (ok_t_lL (ev_lift (ok_aload_n dL_law_1510 rfl))) (ok_t_lL (ev_lift (ok_aload_n dL_law_1511 rfl)))) (ok_t_nL (ok_t_lL (ev_lift (ok_iload dL_law_1512))) (ok_t_nL (ok_t_lL (ev_lift (ok_iconst dL_law_1514 rfl))) (ok_t_lL (ev_lift (ok_iadd dL_law_1515)))))))) (ok_t_nL (ok_t_nL (ok_t_nL (ok_t_nL (ok_t_lL (ok_sld dL_law_1516)) (ok_t_lL (ev_lift (ok_inv (run_V (y := 271) (n := 1) (ci := 13) dL_law_1517 cz_271 gdG cc_271 ci_271 w_2010 cm_271 cs_271 cd_271 cl_271 rfl rfl))))) (ok_t_nL (ok_t_lL (ev_lift (ok_istore dL_law_1520))) (ok_t_nL (ok_t_lL (ev_lift (ok_aload_n dL_law_1522 rfl))) (ok_t_lL (ev_lift (ok_inv (run_V (y := 228) (n := 0) (ci := 13) dL_law_1523 cz_228 gdG cc_228 ci_228 w_1664 cm_228 cs_228 cd_228 cl_228 rfl rfl))))))) (ok_t_nL (ok_t_nL (ok_t_lL (ev_lift (ok_iload dL_law_1526))) (ok_t_lL (ev_lift (ok_icmp_eq dL_law_1528 rfl)))) (ok_t_nL (ok_t_lL (ev_lift (ok_iconst dL_law_1531 rfl))) (ok_t_nL (ok_t_lL (ev_lift (ok_ireturn dL_law_1532))) (ok_t_lL (ev_lift (ok_iload dL_law_1533))))))) (ok_t_nL (ok_t_nL (ok_t_nL (ok_t_lL (ev_lift (ok_if_ne dL_law_1535 rfl))) (ok_t_lL (ev_lift (ok_aload_n dL_law_1538 rfl)))) (ok_t_nL (ok_t_lL (ev_lift (ok_iconst dL_law_1539 rfl))) (ok_t_nL (ok_t_lL (ev_lift (ok_laload dL_law_1540))) (ok_t_lL (ev_lift (ok_iload dL_law_1541)))))) (ok_t_nL (ok_t_nL (ok_t_lL (ev_lift (ok_i2l dL_law_1543))) (ok_t_lL (ev_lift (ok_lcmp dL_law_1544)))) (ok_t_nL (ok_t_lL (ev_lift (ok_if_eq dL_law_1545 rfl))) (ok_t_nL (ok_t_lL (ev_lift (ok_iconst dL_law_1548 rfl))) (ok_t_lL (ev_lift (ok_ireturn dL_law_1549)))))))))
def lawt_1550 (xs : Nat → Int32) (L : Nat) : Nat → EA := (t_n 1578 (t_n 1564 (t_n 1558 (t_n 1554 (t_n 1553 (t_l 1550 (a_goto 2116)) (t_l 1553 (a_aload 1 1))) (t_n 1555 (t_l 1554 (a_aload 1 0)) (t_n 1557 (t_l 1555 (a_iload 2 4)) (t_l 1557 (a_push 1 (.int 1)))))) (t_n 1560 (t_n 1559 (t_l 1558 (a_ii 1 (fun x y => x + y))) (t_l 1559 (a_sld xs L))) (t_n 1561 (t_l 1560 (a_aload 1 0)) (t_n 1563 (t_l 1561 (a_iload 2 4)) (t_l 1563 (a_push 1 (.int 2))))))) (t_n 1572 (t_n 1566 (t_n 1565 (t_l 1564 (a_ii 1 (fun x y => x + y))) (t_l 1565 (a_sld xs L))) (t_n 1567 (t_l 1566 (a_aload 1 3)) (t_n 1570 (t_l 1567 (a_inv false 311 4 none)) (t_l 1570 (a_istore 9 2 5))))) (t_n 1574 (t_n 1573 (t_l 1572 (a_aload 1 2)) (t_l 1573 (a_aload 1 0))) (t_n 1576 (t_l 1574 (a_iload 2 4)) (t_n 1577 (t_l 1576 (a_push 1 (.int 1))) (t_l 1577 (a_ii 1 (fun x y => x + y)))))))) (t_n 1594 (t_n 1584 (t_n 1580 (t_n 1579 (t_l 1578 (a_sld xs L)) (t_l 1579 (a_aload 1 0))) (t_n 1582 (t_l 1580 (a_iload 2 4)) (t_n 1583 (t_l 1582 (a_push 1 (.int 2))) (t_l 1583 (a_ii 1 (fun x y => x + y)))))) (t_n 1588 (t_n 1585 (t_l 1584 (a_sld xs L)) (t_l 1585 (a_inv true 274 3 (some 13)))) (t_n 1590 (t_l 1588 (a_istore 9 2 6)) (t_n 1591 (t_l 1590 (a_aload 1 2)) (t_l 1591 (a_inv true 228 1 (some 13))))))) (t_n 1603 (t_n 1599 (t_n 1596 (t_l 1594 (a_iload 2 5)) (t_l 1596 (a_ic 1601 (fun x y => decide (x = y))))) (t_n 1600 (t_l 1599 (a_push 1 (.int 0))) (t_n 1601 (t_l 1600 a_iret) (t_l 1601 (a_iload 2 5))))) (t_n 1608 (t_n 1606 (t_l 1603 (a_if 1618 (fun x => !decide (x = 0)))) (t_n 1607 (t_l 1606 (a_aload 1 3)) (t_l 1607 (a_push 1 (.int 0))))) (t_n 1609 (t_l 1608 a_lld) (t_n 1611 (t_l 1609 (a_iload 2 6)) (t_l 1611 (a_i (fun x => .long x.toInt64)))))))))
set_option maxRecDepth 100000 in
theorem lawt_1550_ok (hh : List (Nat × Nat × Nat × Nat)) (b L d : Nat) (xs : Nat → Int32) : ∀ pc, ev_OkL (ev_OX b L xs) code 9 hh RL lw_g lw_n lw_q vwCl false (ev_CO mt lw_g lw_n lw_q vwCl d) pc (lawt_1550 xs L pc) := (ok_t_nL (ok_t_nL (ok_t_nL (ok_t_nL (ok_t_nL (ok_t_lL (ev_lift (ok_goto dL_law_1550 rfl))) (ok_t_lL (ev_lift (ok_aload_n dL_law_1553 rfl)))) (ok_t_nL (ok_t_lL (ev_lift (ok_aload_n dL_law_1554 rfl))) (ok_t_nL (ok_t_lL (ev_lift (ok_iload dL_law_1555))) (ok_t_lL (ev_lift (ok_iconst dL_law_1557 rfl)))))) (ok_t_nL (ok_t_nL (ok_t_lL (ev_lift (ok_iadd dL_law_1558))) (ok_t_lL (ok_sld dL_law_1559))) (ok_t_nL (ok_t_lL (ev_lift (ok_aload_n dL_law_1560 rfl))) (ok_t_nL (ok_t_lL (ev_lift (ok_iload dL_law_1561))) (ok_t_lL (ev_lift (ok_iconst dL_law_1563 rfl))))))) (ok_t_nL (ok_t_nL (ok_t_nL (ok_t_lL (ev_lift (ok_iadd dL_law_1564))) (ok_t_lL (ok_sld dL_law_1565))) (ok_t_nL (ok_t_lL (ev_lift (ok_aload_n dL_law_1566 rfl))) (ok_t_nL (ok_t_lL (ev_lift (ok_inv (run_SW (y := 311) (n := 4) dL_law_1567 cz_311 gdG cc_311 ci_311 w_1512 cm_311 cd_311 cl_311)))) (ok_t_lL (ev_lift (ok_istore dL_law_1570)))))) (ok_t_nL (ok_t_nL (ok_t_lL (ev_lift (ok_aload_n dL_law_1572 rfl))) (ok_t_lL (ev_lift (ok_aload_n dL_law_1573 rfl)))) (ok_t_nL (ok_t_lL (ev_lift (ok_iload dL_law_1574))) (ok_t_nL (ok_t_lL (ev_lift (ok_iconst dL_law_1576 rfl))) (ok_t_lL (ev_lift (ok_iadd dL_law_1577)))))))) (ok_t_nL (ok_t_nL (ok_t_nL (ok_t_nL (ok_t_lL (ok_sld dL_law_1578)) (ok_t_lL (ev_lift (ok_aload_n dL_law_1579 rfl)))) (ok_t_nL (ok_t_lL (ev_lift (ok_iload dL_law_1580))) (ok_t_nL (ok_t_lL (ev_lift (ok_iconst dL_law_1582 rfl))) (ok_t_lL (ev_lift (ok_iadd dL_law_1583)))))) (ok_t_nL (ok_t_nL (ok_t_lL (ok_sld dL_law_1584)) (ok_t_lL (ev_lift (ok_inv (run_V (y := 274) (n := 2) (ci := 13) dL_law_1585 cz_274 gdG cc_274 ci_274 w_2021 cm_274 cs_274 cd_274 cl_274 rfl rfl))))) (ok_t_nL (ok_t_lL (ev_lift (ok_istore dL_law_1588))) (ok_t_nL (ok_t_lL (ev_lift (ok_aload_n dL_law_1590 rfl))) (ok_t_lL (ev_lift (ok_inv (run_V (y := 228) (n := 0) (ci := 13) dL_law_1591 cz_228 gdG cc_228 ci_228 w_1664 cm_228 cs_228 cd_228 cl_228 rfl rfl)))))))) (ok_t_nL (ok_t_nL (ok_t_nL (ok_t_lL (ev_lift (ok_iload dL_law_1594))) (ok_t_lL (ev_lift (ok_icmp_eq dL_law_1596 rfl)))) (ok_t_nL (ok_t_lL (ev_lift (ok_iconst dL_law_1599 rfl))) (ok_t_nL (ok_t_lL (ev_lift (ok_ireturn dL_law_1600))) (ok_t_lL (ev_lift (ok_iload dL_law_1601)))))) (ok_t_nL (ok_t_nL (ok_t_lL (ev_lift (ok_if_ne dL_law_1603 rfl))) (ok_t_nL (ok_t_lL (ev_lift (ok_aload_n dL_law_1606 rfl))) (ok_t_lL (ev_lift (ok_iconst dL_law_1607 rfl))))) (ok_t_nL (ok_t_lL (ev_lift (ok_laload dL_law_1608))) (ok_t_nL (ok_t_lL (ev_lift (ok_iload dL_law_1609))) (ok_t_lL (ev_lift (ok_i2l dL_law_1611)))))))))
def lawt_1612 (xs : Nat → Int32) (L : Nat) : Nat → EA := (t_n 1639 (t_n 1627 (t_n 1621 (t_n 1616 (t_n 1613 (t_l 1612 (a_ll (fun x y => .int (lg_cmp x y)))) (t_l 1613 (a_if 1618 (fun x => decide (x = 0))))) (t_n 1617 (t_l 1616 (a_push 1 (.int 0))) (t_n 1618 (t_l 1617 a_iret) (t_l 1618 (a_goto 2116))))) (t_n 1623 (t_n 1622 (t_l 1621 (a_aload 1 1)) (t_l 1622 (a_aload 1 0))) (t_n 1625 (t_l 1623 (a_iload 2 4)) (t_n 1626 (t_l 1625 (a_push 1 (.int 1))) (t_l 1626 (a_ii 1 (fun x y => x + y))))))) (t_n 1633 (t_n 1629 (t_n 1628 (t_l 1627 (a_sld xs L)) (t_l 1628 (a_aload 1 0))) (t_n 1631 (t_l 1629 (a_iload 2 4)) (t_n 1632 (t_l 1631 (a_push 1 (.int 2))) (t_l 1632 (a_ii 1 (fun x y => x + y)))))) (t_n 1635 (t_n 1634 (t_l 1633 (a_sld xs L)) (t_l 1634 (a_aload 1 0))) (t_n 1637 (t_l 1635 (a_iload 2 4)) (t_n 1638 (t_l 1637 (a_push 1 (.int 3))) (t_l 1638 (a_ii 1 (fun x y => x + y)))))))) (t_n 1653 (t_n 1647 (t_n 1641 (t_n 1640 (t_l 1639 (a_sld xs L)) (t_l 1640 (a_aload 1 3))) (t_n 1644 (t_l 1641 (a_inv false 312 5 none)) (t_n 1646 (t_l 1644 (a_istore 9 2 5)) (t_l 1646 (a_aload 1 2))))) (t_n 1650 (t_n 1648 (t_l 1647 (a_aload 1 0)) (t_l 1648 (a_iload 2 4))) (t_n 1651 (t_l 1650 (a_push 1 (.int 1))) (t_n 1652 (t_l 1651 (a_ii 1 (fun x y => x + y))) (t_l 1652 (a_sld xs L)))))) (t_n 1659 (t_n 1656 (t_n 1654 (t_l 1653 (a_aload 1 0)) (t_l 1654 (a_iload 2 4))) (t_n 1657 (t_l 1656 (a_push 1 (.int 2))) (t_n 1658 (t_l 1657 (a_ii 1 (fun x y => x + y))) (t_l 1658 (a_sld xs L))))) (t_n 1662 (t_n 1660 (t_l 1659 (a_aload 1 0)) (t_l 1660 (a_iload 2 4))) (t_n 1663 (t_l 1662 (a_push 1 (.int 3))) (t_n 1664 (t_l 1663 (a_ii 1 (fun x y => x + y))) (t_l 1664 (a_sld xs L))))))))
set_option maxRecDepth 100000 in
theorem lawt_1612_ok (hh : List (Nat × Nat × Nat × Nat)) (b L d : Nat) (xs : Nat → Int32) : ∀ pc, ev_OkL (ev_OX b L xs) code 9 hh RL lw_g lw_n lw_q vwCl false (ev_CO mt lw_g lw_n lw_q vwCl d) pc (lawt_1612 xs L pc) := (ok_t_nL (ok_t_nL (ok_t_nL (ok_t_nL (ok_t_nL (ok_t_lL (ev_lift (ok_lcmp dL_law_1612))) (ok_t_lL (ev_lift (ok_if_eq dL_law_1613 rfl)))) (ok_t_nL (ok_t_lL (ev_lift (ok_iconst dL_law_1616 rfl))) (ok_t_nL (ok_t_lL (ev_lift (ok_ireturn dL_law_1617))) (ok_t_lL (ev_lift (ok_goto dL_law_1618 rfl)))))) (ok_t_nL (ok_t_nL (ok_t_lL (ev_lift (ok_aload_n dL_law_1621 rfl))) (ok_t_lL (ev_lift (ok_aload_n dL_law_1622 rfl)))) (ok_t_nL (ok_t_lL (ev_lift (ok_iload dL_law_1623))) (ok_t_nL (ok_t_lL (ev_lift (ok_iconst dL_law_1625 rfl))) (ok_t_lL (ev_lift (ok_iadd dL_law_1626))))))) (ok_t_nL (ok_t_nL (ok_t_nL (ok_t_lL (ok_sld dL_law_1627)) (ok_t_lL (ev_lift (ok_aload_n dL_law_1628 rfl)))) (ok_t_nL (ok_t_lL (ev_lift (ok_iload dL_law_1629))) (ok_t_nL (ok_t_lL (ev_lift (ok_iconst dL_law_1631 rfl))) (ok_t_lL (ev_lift (ok_iadd dL_law_1632)))))) (ok_t_nL (ok_t_nL (ok_t_lL (ok_sld dL_law_1633)) (ok_t_lL (ev_lift (ok_aload_n dL_law_1634 rfl)))) (ok_t_nL (ok_t_lL (ev_lift (ok_iload dL_law_1635))) (ok_t_nL (ok_t_lL (ev_lift (ok_iconst dL_law_1637 rfl))) (ok_t_lL (ev_lift (ok_iadd dL_law_1638)))))))) (ok_t_nL (ok_t_nL (ok_t_nL (ok_t_nL (ok_t_lL (ok_sld dL_law_1639)) (ok_t_lL (ev_lift (ok_aload_n dL_law_1640 rfl)))) (ok_t_nL (ok_t_lL (ev_lift (ok_inv (run_SW (y := 312) (n := 5) dL_law_1641 cz_312 gdG cc_312 ci_312 w_1525 cm_312 cd_312 cl_312)))) (ok_t_nL (ok_t_lL (ev_lift (ok_istore dL_law_1644))) (ok_t_lL (ev_lift (ok_aload_n dL_law_1646 rfl)))))) (ok_t_nL (ok_t_nL (ok_t_lL (ev_lift (ok_aload_n dL_law_1647 rfl))) (ok_t_lL (ev_lift (ok_iload dL_law_1648)))) (ok_t_nL (ok_t_lL (ev_lift (ok_iconst dL_law_1650 rfl))) (ok_t_nL (ok_t_lL (ev_lift (ok_iadd dL_law_1651))) (ok_t_lL (ok_sld dL_law_1652)))))) (ok_t_nL (ok_t_nL (ok_t_nL (ok_t_lL (ev_lift (ok_aload_n dL_law_1653 rfl))) (ok_t_lL (ev_lift (ok_iload dL_law_1654)))) (ok_t_nL (ok_t_lL (ev_lift (ok_iconst dL_law_1656 rfl))) (ok_t_nL (ok_t_lL (ev_lift (ok_iadd dL_law_1657))) (ok_t_lL (ok_sld dL_law_1658))))) (ok_t_nL (ok_t_nL (ok_t_lL (ev_lift (ok_aload_n dL_law_1659 rfl))) (ok_t_lL (ev_lift (ok_iload dL_law_1660)))) (ok_t_nL (ok_t_lL (ev_lift (ok_iconst dL_law_1662 rfl))) (ok_t_nL (ok_t_lL (ev_lift (ok_iadd dL_law_1663))) (ok_t_lL (ok_sld dL_law_1664))))))))
def lawt_1665 (xs : Nat → Int32) (L : Nat) : Nat → EA := (t_n 1701 (t_n 1686 (t_n 1676 (t_n 1670 (t_n 1668 (t_l 1665 (a_inv true 276 4 (some 13))) (t_l 1668 (a_istore 9 2 6))) (t_n 1671 (t_l 1670 (a_aload 1 2)) (t_n 1674 (t_l 1671 (a_inv true 228 1 (some 13))) (t_l 1674 (a_iload 2 5))))) (t_n 1680 (t_n 1679 (t_l 1676 (a_ic 1681 (fun x y => decide (x = y)))) (t_l 1679 (a_push 1 (.int 0)))) (t_n 1681 (t_l 1680 a_iret) (t_n 1683 (t_l 1681 (a_iload 2 5)) (t_l 1683 (a_if 1698 (fun x => !decide (x = 0)))))))) (t_n 1692 (t_n 1688 (t_n 1687 (t_l 1686 (a_aload 1 3)) (t_l 1687 (a_push 1 (.int 0)))) (t_n 1689 (t_l 1688 a_lld) (t_n 1691 (t_l 1689 (a_iload 2 6)) (t_l 1691 (a_i (fun x => .long x.toInt64)))))) (t_n 1696 (t_n 1693 (t_l 1692 (a_ll (fun x y => .int (lg_cmp x y)))) (t_l 1693 (a_if 1698 (fun x => decide (x = 0))))) (t_n 1697 (t_l 1696 (a_push 1 (.int 0))) (t_n 1698 (t_l 1697 a_iret) (t_l 1698 (a_goto 2116))))))) (t_n 1713 (t_n 1707 (t_n 1703 (t_n 1702 (t_l 1701 (a_aload 1 1)) (t_l 1702 (a_aload 1 0))) (t_n 1705 (t_l 1703 (a_iload 2 4)) (t_n 1706 (t_l 1705 (a_push 1 (.int 1))) (t_l 1706 (a_ii 1 (fun x y => x + y)))))) (t_n 1709 (t_n 1708 (t_l 1707 (a_sld xs L)) (t_l 1708 (a_aload 1 0))) (t_n 1711 (t_l 1709 (a_iload 2 4)) (t_n 1712 (t_l 1711 (a_push 1 (.int 2))) (t_l 1712 (a_ii 1 (fun x y => x + y))))))) (t_n 1721 (t_n 1715 (t_n 1714 (t_l 1713 (a_sld xs L)) (t_l 1714 (a_aload 1 3))) (t_n 1718 (t_l 1715 (a_inv false 313 4 none)) (t_n 1720 (t_l 1718 (a_istore 9 2 5)) (t_l 1720 (a_aload 1 2))))) (t_n 1724 (t_n 1722 (t_l 1721 (a_aload 1 0)) (t_l 1722 (a_iload 2 4))) (t_n 1725 (t_l 1724 (a_push 1 (.int 1))) (t_n 1726 (t_l 1725 (a_ii 1 (fun x y => x + y))) (t_l 1726 (a_sld xs L))))))))
set_option maxRecDepth 100000 in
theorem lawt_1665_ok (hh : List (Nat × Nat × Nat × Nat)) (b L d : Nat) (xs : Nat → Int32) : ∀ pc, ev_OkL (ev_OX b L xs) code 9 hh RL lw_g lw_n lw_q vwCl false (ev_CO mt lw_g lw_n lw_q vwCl d) pc (lawt_1665 xs L pc) := (ok_t_nL (ok_t_nL (ok_t_nL (ok_t_nL (ok_t_nL (ok_t_lL (ev_lift (ok_inv (run_V (y := 276) (n := 3) (ci := 13) dL_law_1665 cz_276 gdG cc_276 ci_276 w_2033 cm_276 cs_276 cd_276 cl_276 rfl rfl)))) (ok_t_lL (ev_lift (ok_istore dL_law_1668)))) (ok_t_nL (ok_t_lL (ev_lift (ok_aload_n dL_law_1670 rfl))) (ok_t_nL (ok_t_lL (ev_lift (ok_inv (run_V (y := 228) (n := 0) (ci := 13) dL_law_1671 cz_228 gdG cc_228 ci_228 w_1664 cm_228 cs_228 cd_228 cl_228 rfl rfl)))) (ok_t_lL (ev_lift (ok_iload dL_law_1674)))))) (ok_t_nL (ok_t_nL (ok_t_lL (ev_lift (ok_icmp_eq dL_law_1676 rfl))) (ok_t_lL (ev_lift (ok_iconst dL_law_1679 rfl)))) (ok_t_nL (ok_t_lL (ev_lift (ok_ireturn dL_law_1680))) (ok_t_nL (ok_t_lL (ev_lift (ok_iload dL_law_1681))) (ok_t_lL (ev_lift (ok_if_ne dL_law_1683 rfl))))))) (ok_t_nL (ok_t_nL (ok_t_nL (ok_t_lL (ev_lift (ok_aload_n dL_law_1686 rfl))) (ok_t_lL (ev_lift (ok_iconst dL_law_1687 rfl)))) (ok_t_nL (ok_t_lL (ev_lift (ok_laload dL_law_1688))) (ok_t_nL (ok_t_lL (ev_lift (ok_iload dL_law_1689))) (ok_t_lL (ev_lift (ok_i2l dL_law_1691)))))) (ok_t_nL (ok_t_nL (ok_t_lL (ev_lift (ok_lcmp dL_law_1692))) (ok_t_lL (ev_lift (ok_if_eq dL_law_1693 rfl)))) (ok_t_nL (ok_t_lL (ev_lift (ok_iconst dL_law_1696 rfl))) (ok_t_nL (ok_t_lL (ev_lift (ok_ireturn dL_law_1697))) (ok_t_lL (ev_lift (ok_goto dL_law_1698 rfl)))))))) (ok_t_nL (ok_t_nL (ok_t_nL (ok_t_nL (ok_t_lL (ev_lift (ok_aload_n dL_law_1701 rfl))) (ok_t_lL (ev_lift (ok_aload_n dL_law_1702 rfl)))) (ok_t_nL (ok_t_lL (ev_lift (ok_iload dL_law_1703))) (ok_t_nL (ok_t_lL (ev_lift (ok_iconst dL_law_1705 rfl))) (ok_t_lL (ev_lift (ok_iadd dL_law_1706)))))) (ok_t_nL (ok_t_nL (ok_t_lL (ok_sld dL_law_1707)) (ok_t_lL (ev_lift (ok_aload_n dL_law_1708 rfl)))) (ok_t_nL (ok_t_lL (ev_lift (ok_iload dL_law_1709))) (ok_t_nL (ok_t_lL (ev_lift (ok_iconst dL_law_1711 rfl))) (ok_t_lL (ev_lift (ok_iadd dL_law_1712))))))) (ok_t_nL (ok_t_nL (ok_t_nL (ok_t_lL (ok_sld dL_law_1713)) (ok_t_lL (ev_lift (ok_aload_n dL_law_1714 rfl)))) (ok_t_nL (ok_t_lL (ev_lift (ok_inv (run_SW (y := 313) (n := 4) dL_law_1715 cz_313 gdG cc_313 ci_313 w_1529 cm_313 cd_313 cl_313)))) (ok_t_nL (ok_t_lL (ev_lift (ok_istore dL_law_1718))) (ok_t_lL (ev_lift (ok_aload_n dL_law_1720 rfl)))))) (ok_t_nL (ok_t_nL (ok_t_lL (ev_lift (ok_aload_n dL_law_1721 rfl))) (ok_t_lL (ev_lift (ok_iload dL_law_1722)))) (ok_t_nL (ok_t_lL (ev_lift (ok_iconst dL_law_1724 rfl))) (ok_t_nL (ok_t_lL (ev_lift (ok_iadd dL_law_1725))) (ok_t_lL (ok_sld dL_law_1726))))))))
def lawt_1727 (xs : Nat → Int32) (L : Nat) : Nat → EA := (t_n 1760 (t_n 1744 (t_n 1733 (t_n 1730 (t_n 1728 (t_l 1727 (a_aload 1 0)) (t_l 1728 (a_iload 2 4))) (t_n 1731 (t_l 1730 (a_push 1 (.int 2))) (t_n 1732 (t_l 1731 (a_ii 1 (fun x y => x + y))) (t_l 1732 (a_sld xs L))))) (t_n 1738 (t_n 1736 (t_l 1733 (a_inv true 280 3 (some 13))) (t_l 1736 (a_istore 9 2 6))) (t_n 1739 (t_l 1738 (a_aload 1 2)) (t_n 1742 (t_l 1739 (a_inv true 228 1 (some 13))) (t_l 1742 (a_iload 2 5)))))) (t_n 1754 (t_n 1748 (t_n 1747 (t_l 1744 (a_ic 1749 (fun x y => decide (x = y)))) (t_l 1747 (a_push 1 (.int 0)))) (t_n 1749 (t_l 1748 a_iret) (t_n 1751 (t_l 1749 (a_iload 2 5)) (t_l 1751 (a_if 1766 (fun x => !decide (x = 0))))))) (t_n 1756 (t_n 1755 (t_l 1754 (a_aload 1 3)) (t_l 1755 (a_push 1 (.int 0)))) (t_n 1757 (t_l 1756 a_lld) (t_n 1759 (t_l 1757 (a_iload 2 6)) (t_l 1759 (a_i (fun x => .long x.toInt64)))))))) (t_n 1775 (t_n 1769 (t_n 1764 (t_n 1761 (t_l 1760 (a_ll (fun x y => .int (lg_cmp x y)))) (t_l 1761 (a_if 1766 (fun x => decide (x = 0))))) (t_n 1765 (t_l 1764 (a_push 1 (.int 0))) (t_n 1766 (t_l 1765 a_iret) (t_l 1766 (a_goto 2116))))) (t_n 1771 (t_n 1770 (t_l 1769 (a_aload 1 1)) (t_l 1770 (a_aload 1 0))) (t_n 1773 (t_l 1771 (a_iload 2 4)) (t_n 1774 (t_l 1773 (a_push 1 (.int 1))) (t_l 1774 (a_ii 1 (fun x y => x + y))))))) (t_n 1783 (t_n 1777 (t_n 1776 (t_l 1775 (a_sld xs L)) (t_l 1776 (a_aload 1 3))) (t_n 1780 (t_l 1777 (a_inv false 314 3 none)) (t_n 1782 (t_l 1780 (a_istore 9 2 5)) (t_l 1782 (a_aload 1 2))))) (t_n 1786 (t_n 1784 (t_l 1783 (a_aload 1 0)) (t_l 1784 (a_iload 2 4))) (t_n 1787 (t_l 1786 (a_push 1 (.int 1))) (t_n 1788 (t_l 1787 (a_ii 1 (fun x y => x + y))) (t_l 1788 (a_sld xs L))))))))
set_option maxRecDepth 100000 in
theorem lawt_1727_ok (hh : List (Nat × Nat × Nat × Nat)) (b L d : Nat) (xs : Nat → Int32) : ∀ pc, ev_OkL (ev_OX b L xs) code 9 hh RL lw_g lw_n lw_q vwCl false (ev_CO mt lw_g lw_n lw_q vwCl d) pc (lawt_1727 xs L pc) := (ok_t_nL (ok_t_nL (ok_t_nL (ok_t_nL (ok_t_nL (ok_t_lL (ev_lift (ok_aload_n dL_law_1727 rfl))) (ok_t_lL (ev_lift (ok_iload dL_law_1728)))) (ok_t_nL (ok_t_lL (ev_lift (ok_iconst dL_law_1730 rfl))) (ok_t_nL (ok_t_lL (ev_lift (ok_iadd dL_law_1731))) (ok_t_lL (ok_sld dL_law_1732))))) (ok_t_nL (ok_t_nL (ok_t_lL (ev_lift (ok_inv (run_V (y := 280) (n := 2) (ci := 13) dL_law_1733 cz_280 gdG cc_280 ci_280 w_2041 cm_280 cs_280 cd_280 cl_280 rfl rfl)))) (ok_t_lL (ev_lift (ok_istore dL_law_1736)))) (ok_t_nL (ok_t_lL (ev_lift (ok_aload_n dL_law_1738 rfl))) (ok_t_nL (ok_t_lL (ev_lift (ok_inv (run_V (y := 228) (n := 0) (ci := 13) dL_law_1739 cz_228 gdG cc_228 ci_228 w_1664 cm_228 cs_228 cd_228 cl_228 rfl rfl)))) (ok_t_lL (ev_lift (ok_iload dL_law_1742))))))) (ok_t_nL (ok_t_nL (ok_t_nL (ok_t_lL (ev_lift (ok_icmp_eq dL_law_1744 rfl))) (ok_t_lL (ev_lift (ok_iconst dL_law_1747 rfl)))) (ok_t_nL (ok_t_lL (ev_lift (ok_ireturn dL_law_1748))) (ok_t_nL (ok_t_lL (ev_lift (ok_iload dL_law_1749))) (ok_t_lL (ev_lift (ok_if_ne dL_law_1751 rfl)))))) (ok_t_nL (ok_t_nL (ok_t_lL (ev_lift (ok_aload_n dL_law_1754 rfl))) (ok_t_lL (ev_lift (ok_iconst dL_law_1755 rfl)))) (ok_t_nL (ok_t_lL (ev_lift (ok_laload dL_law_1756))) (ok_t_nL (ok_t_lL (ev_lift (ok_iload dL_law_1757))) (ok_t_lL (ev_lift (ok_i2l dL_law_1759)))))))) (ok_t_nL (ok_t_nL (ok_t_nL (ok_t_nL (ok_t_lL (ev_lift (ok_lcmp dL_law_1760))) (ok_t_lL (ev_lift (ok_if_eq dL_law_1761 rfl)))) (ok_t_nL (ok_t_lL (ev_lift (ok_iconst dL_law_1764 rfl))) (ok_t_nL (ok_t_lL (ev_lift (ok_ireturn dL_law_1765))) (ok_t_lL (ev_lift (ok_goto dL_law_1766 rfl)))))) (ok_t_nL (ok_t_nL (ok_t_lL (ev_lift (ok_aload_n dL_law_1769 rfl))) (ok_t_lL (ev_lift (ok_aload_n dL_law_1770 rfl)))) (ok_t_nL (ok_t_lL (ev_lift (ok_iload dL_law_1771))) (ok_t_nL (ok_t_lL (ev_lift (ok_iconst dL_law_1773 rfl))) (ok_t_lL (ev_lift (ok_iadd dL_law_1774))))))) (ok_t_nL (ok_t_nL (ok_t_nL (ok_t_lL (ok_sld dL_law_1775)) (ok_t_lL (ev_lift (ok_aload_n dL_law_1776 rfl)))) (ok_t_nL (ok_t_lL (ev_lift (ok_inv (run_SW (y := 314) (n := 3) dL_law_1777 cz_314 gdG cc_314 ci_314 w_1533 cm_314 cd_314 cl_314)))) (ok_t_nL (ok_t_lL (ev_lift (ok_istore dL_law_1780))) (ok_t_lL (ev_lift (ok_aload_n dL_law_1782 rfl)))))) (ok_t_nL (ok_t_nL (ok_t_lL (ev_lift (ok_aload_n dL_law_1783 rfl))) (ok_t_lL (ev_lift (ok_iload dL_law_1784)))) (ok_t_nL (ok_t_lL (ev_lift (ok_iconst dL_law_1786 rfl))) (ok_t_nL (ok_t_lL (ev_lift (ok_iadd dL_law_1787))) (ok_t_lL (ok_sld dL_law_1788))))))))
def lawt_1789 (xs : Nat → Int32) (L : Nat) : Nat → EA := (t_n 1825 (t_n 1810 (t_n 1800 (t_n 1794 (t_n 1792 (t_l 1789 (a_inv true 282 2 (some 13))) (t_l 1792 (a_istore 9 2 6))) (t_n 1795 (t_l 1794 (a_aload 1 2)) (t_n 1798 (t_l 1795 (a_inv true 228 1 (some 13))) (t_l 1798 (a_iload 2 5))))) (t_n 1804 (t_n 1803 (t_l 1800 (a_ic 1805 (fun x y => decide (x = y)))) (t_l 1803 (a_push 1 (.int 0)))) (t_n 1805 (t_l 1804 a_iret) (t_n 1807 (t_l 1805 (a_iload 2 5)) (t_l 1807 (a_if 1822 (fun x => !decide (x = 0)))))))) (t_n 1816 (t_n 1812 (t_n 1811 (t_l 1810 (a_aload 1 3)) (t_l 1811 (a_push 1 (.int 0)))) (t_n 1813 (t_l 1812 a_lld) (t_n 1815 (t_l 1813 (a_iload 2 6)) (t_l 1815 (a_i (fun x => .long x.toInt64)))))) (t_n 1820 (t_n 1817 (t_l 1816 (a_ll (fun x y => .int (lg_cmp x y)))) (t_l 1817 (a_if 1822 (fun x => decide (x = 0))))) (t_n 1821 (t_l 1820 (a_push 1 (.int 0))) (t_n 1822 (t_l 1821 a_iret) (t_l 1822 (a_goto 2116))))))) (t_n 1845 (t_n 1835 (t_n 1829 (t_n 1826 (t_l 1825 (a_aload 1 1)) (t_l 1826 (a_inv true 184 1 (some 11)))) (t_n 1831 (t_l 1829 (a_dstore 9 2 5)) (t_n 1832 (t_l 1831 (a_aload 1 2)) (t_l 1832 (a_inv true 283 1 (some 13)))))) (t_n 1839 (t_n 1837 (t_l 1835 (a_dstore 9 2 7)) (t_l 1837 (a_dload 2 5))) (t_n 1841 (t_l 1839 (a_dload 2 7)) (t_n 1842 (t_l 1841 (a_dcmp .l)) (t_l 1842 (a_if 1863 (fun x => decide (x = 0)))))))) (t_n 1855 (t_n 1849 (t_n 1847 (t_l 1845 (a_dload 2 5)) (t_l 1847 (a_dload 2 5))) (t_n 1850 (t_l 1849 (a_dcmp .l)) (t_n 1853 (t_l 1850 (a_if 1861 (fun x => decide (x = 0)))) (t_l 1853 (a_dload 2 7))))) (t_n 1861 (t_n 1857 (t_l 1855 (a_dload 2 7)) (t_n 1858 (t_l 1857 (a_dcmp .l)) (t_l 1858 (a_if 1863 (fun x => !decide (x = 0)))))) (t_n 1862 (t_l 1861 (a_push 1 (.int 0))) (t_n 1863 (t_l 1862 a_iret) (t_l 1863 (a_goto 2116))))))))
set_option maxRecDepth 100000 in
theorem lawt_1789_ok (hh : List (Nat × Nat × Nat × Nat)) (b L d : Nat) (xs : Nat → Int32) : ∀ pc, ev_OkL (ev_OX b L xs) code 9 hh RL lw_g lw_n lw_q vwCl false (ev_CO mt lw_g lw_n lw_q vwCl d) pc (lawt_1789 xs L pc) := (ok_t_nL (ok_t_nL (ok_t_nL (ok_t_nL (ok_t_nL (ok_t_lL (ev_lift (ok_inv (run_V (y := 282) (n := 1) (ci := 13) dL_law_1789 cz_282 gdG cc_282 ci_282 w_2056 cm_282 cs_282 cd_282 cl_282 rfl rfl)))) (ok_t_lL (ev_lift (ok_istore dL_law_1792)))) (ok_t_nL (ok_t_lL (ev_lift (ok_aload_n dL_law_1794 rfl))) (ok_t_nL (ok_t_lL (ev_lift (ok_inv (run_V (y := 228) (n := 0) (ci := 13) dL_law_1795 cz_228 gdG cc_228 ci_228 w_1664 cm_228 cs_228 cd_228 cl_228 rfl rfl)))) (ok_t_lL (ev_lift (ok_iload dL_law_1798)))))) (ok_t_nL (ok_t_nL (ok_t_lL (ev_lift (ok_icmp_eq dL_law_1800 rfl))) (ok_t_lL (ev_lift (ok_iconst dL_law_1803 rfl)))) (ok_t_nL (ok_t_lL (ev_lift (ok_ireturn dL_law_1804))) (ok_t_nL (ok_t_lL (ev_lift (ok_iload dL_law_1805))) (ok_t_lL (ev_lift (ok_if_ne dL_law_1807 rfl))))))) (ok_t_nL (ok_t_nL (ok_t_nL (ok_t_lL (ev_lift (ok_aload_n dL_law_1810 rfl))) (ok_t_lL (ev_lift (ok_iconst dL_law_1811 rfl)))) (ok_t_nL (ok_t_lL (ev_lift (ok_laload dL_law_1812))) (ok_t_nL (ok_t_lL (ev_lift (ok_iload dL_law_1813))) (ok_t_lL (ev_lift (ok_i2l dL_law_1815)))))) (ok_t_nL (ok_t_nL (ok_t_lL (ev_lift (ok_lcmp dL_law_1816))) (ok_t_lL (ev_lift (ok_if_eq dL_law_1817 rfl)))) (ok_t_nL (ok_t_lL (ev_lift (ok_iconst dL_law_1820 rfl))) (ok_t_nL (ok_t_lL (ev_lift (ok_ireturn dL_law_1821))) (ok_t_lL (ev_lift (ok_goto dL_law_1822 rfl)))))))) (ok_t_nL (ok_t_nL (ok_t_nL (ok_t_nL (ok_t_lL (ev_lift (ok_aload_n dL_law_1825 rfl))) (ok_t_lL (ev_lift (ok_inv (run_V (y := 184) (n := 0) (ci := 11) dL_law_1826 cz_184 gdG cc_184 ci_184 w_509 cm_184 cs_184 cd_184 cl_184 rfl rfl))))) (ok_t_nL (ok_t_lL (ev_lift (ok_dstore dL_law_1829))) (ok_t_nL (ok_t_lL (ev_lift (ok_aload_n dL_law_1831 rfl))) (ok_t_lL (ev_lift (ok_inv (run_V (y := 283) (n := 0) (ci := 13) dL_law_1832 cz_283 gdG cc_283 ci_283 w_2072 cm_283 cs_283 cd_283 cl_283 rfl rfl))))))) (ok_t_nL (ok_t_nL (ok_t_lL (ev_lift (ok_dstore dL_law_1835))) (ok_t_lL (ev_lift (ok_dload dL_law_1837)))) (ok_t_nL (ok_t_lL (ev_lift (ok_dload dL_law_1839))) (ok_t_nL (ok_t_lL (ev_lift (ok_dcmp dL_law_1841))) (ok_t_lL (ev_lift (ok_if_eq dL_law_1842 rfl))))))) (ok_t_nL (ok_t_nL (ok_t_nL (ok_t_lL (ev_lift (ok_dload dL_law_1845))) (ok_t_lL (ev_lift (ok_dload dL_law_1847)))) (ok_t_nL (ok_t_lL (ev_lift (ok_dcmp dL_law_1849))) (ok_t_nL (ok_t_lL (ev_lift (ok_if_eq dL_law_1850 rfl))) (ok_t_lL (ev_lift (ok_dload dL_law_1853)))))) (ok_t_nL (ok_t_nL (ok_t_lL (ev_lift (ok_dload dL_law_1855))) (ok_t_nL (ok_t_lL (ev_lift (ok_dcmp dL_law_1857))) (ok_t_lL (ev_lift (ok_if_ne dL_law_1858 rfl))))) (ok_t_nL (ok_t_lL (ev_lift (ok_iconst dL_law_1861 rfl))) (ok_t_nL (ok_t_lL (ev_lift (ok_ireturn dL_law_1862))) (ok_t_lL (ev_lift (ok_goto dL_law_1863 rfl)))))))))
def lawt_1866 (xs : Nat → Int32) (L : Nat) : Nat → EA := (t_n 1897 (t_n 1880 (t_n 1872 (t_n 1868 (t_n 1867 (t_l 1866 (a_aload 1 1)) (t_l 1867 (a_aload 1 0))) (t_n 1870 (t_l 1868 (a_iload 2 4)) (t_n 1871 (t_l 1870 (a_push 1 (.int 1))) (t_l 1871 (a_ii 1 (fun x y => x + y)))))) (t_n 1874 (t_n 1873 (t_l 1872 (a_sld xs L)) (t_l 1873 (a_aload 1 3))) (t_n 1877 (t_l 1874 (a_inv false 315 3 none)) (t_n 1879 (t_l 1877 (a_istore 9 2 5)) (t_l 1879 (a_aload 1 2)))))) (t_n 1886 (t_n 1883 (t_n 1881 (t_l 1880 (a_aload 1 0)) (t_l 1881 (a_iload 2 4))) (t_n 1884 (t_l 1883 (a_push 1 (.int 1))) (t_n 1885 (t_l 1884 (a_ii 1 (fun x y => x + y))) (t_l 1885 (a_sld xs L))))) (t_n 1891 (t_n 1889 (t_l 1886 (a_inv true 284 2 (some 13))) (t_l 1889 (a_istore 9 2 6))) (t_n 1892 (t_l 1891 (a_aload 1 2)) (t_n 1895 (t_l 1892 (a_inv true 228 1 (some 13))) (t_l 1895 (a_iload 2 5))))))) (t_n 1913 (t_n 1907 (t_n 1901 (t_n 1900 (t_l 1897 (a_ic 1902 (fun x y => decide (x = y)))) (t_l 1900 (a_push 1 (.int 0)))) (t_n 1902 (t_l 1901 a_iret) (t_n 1904 (t_l 1902 (a_iload 2 5)) (t_l 1904 (a_if 1919 (fun x => !decide (x = 0))))))) (t_n 1909 (t_n 1908 (t_l 1907 (a_aload 1 3)) (t_l 1908 (a_push 1 (.int 0)))) (t_n 1910 (t_l 1909 a_lld) (t_n 1912 (t_l 1910 (a_iload 2 6)) (t_l 1912 (a_i (fun x => .long x.toInt64))))))) (t_n 1922 (t_n 1917 (t_n 1914 (t_l 1913 (a_ll (fun x y => .int (lg_cmp x y)))) (t_l 1914 (a_if 1919 (fun x => decide (x = 0))))) (t_n 1918 (t_l 1917 (a_push 1 (.int 0))) (t_n 1919 (t_l 1918 a_iret) (t_l 1919 (a_goto 2116))))) (t_n 1924 (t_n 1923 (t_l 1922 (a_aload 1 1)) (t_l 1923 (a_aload 1 0))) (t_n 1926 (t_l 1924 (a_iload 2 4)) (t_n 1927 (t_l 1926 (a_push 1 (.int 1))) (t_l 1927 (a_ii 1 (fun x y => x + y)))))))))
set_option maxRecDepth 100000 in
theorem lawt_1866_ok (hh : List (Nat × Nat × Nat × Nat)) (b L d : Nat) (xs : Nat → Int32) : ∀ pc, ev_OkL (ev_OX b L xs) code 9 hh RL lw_g lw_n lw_q vwCl false (ev_CO mt lw_g lw_n lw_q vwCl d) pc (lawt_1866 xs L pc) := (ok_t_nL (ok_t_nL (ok_t_nL (ok_t_nL (ok_t_nL (ok_t_lL (ev_lift (ok_aload_n dL_law_1866 rfl))) (ok_t_lL (ev_lift (ok_aload_n dL_law_1867 rfl)))) (ok_t_nL (ok_t_lL (ev_lift (ok_iload dL_law_1868))) (ok_t_nL (ok_t_lL (ev_lift (ok_iconst dL_law_1870 rfl))) (ok_t_lL (ev_lift (ok_iadd dL_law_1871)))))) (ok_t_nL (ok_t_nL (ok_t_lL (ok_sld dL_law_1872)) (ok_t_lL (ev_lift (ok_aload_n dL_law_1873 rfl)))) (ok_t_nL (ok_t_lL (ev_lift (ok_inv (run_SW (y := 315) (n := 3) dL_law_1874 cz_315 gdG cc_315 ci_315 w_1537 cm_315 cd_315 cl_315)))) (ok_t_nL (ok_t_lL (ev_lift (ok_istore dL_law_1877))) (ok_t_lL (ev_lift (ok_aload_n dL_law_1879 rfl))))))) (ok_t_nL (ok_t_nL (ok_t_nL (ok_t_lL (ev_lift (ok_aload_n dL_law_1880 rfl))) (ok_t_lL (ev_lift (ok_iload dL_law_1881)))) (ok_t_nL (ok_t_lL (ev_lift (ok_iconst dL_law_1883 rfl))) (ok_t_nL (ok_t_lL (ev_lift (ok_iadd dL_law_1884))) (ok_t_lL (ok_sld dL_law_1885))))) (ok_t_nL (ok_t_nL (ok_t_lL (ev_lift (ok_inv (run_V (y := 284) (n := 1) (ci := 13) dL_law_1886 cz_284 gdG cc_284 ci_284 w_2076 cm_284 cs_284 cd_284 cl_284 rfl rfl)))) (ok_t_lL (ev_lift (ok_istore dL_law_1889)))) (ok_t_nL (ok_t_lL (ev_lift (ok_aload_n dL_law_1891 rfl))) (ok_t_nL (ok_t_lL (ev_lift (ok_inv (run_V (y := 228) (n := 0) (ci := 13) dL_law_1892 cz_228 gdG cc_228 ci_228 w_1664 cm_228 cs_228 cd_228 cl_228 rfl rfl)))) (ok_t_lL (ev_lift (ok_iload dL_law_1895)))))))) (ok_t_nL (ok_t_nL (ok_t_nL (ok_t_nL (ok_t_lL (ev_lift (ok_icmp_eq dL_law_1897 rfl))) (ok_t_lL (ev_lift (ok_iconst dL_law_1900 rfl)))) (ok_t_nL (ok_t_lL (ev_lift (ok_ireturn dL_law_1901))) (ok_t_nL (ok_t_lL (ev_lift (ok_iload dL_law_1902))) (ok_t_lL (ev_lift (ok_if_ne dL_law_1904 rfl)))))) (ok_t_nL (ok_t_nL (ok_t_lL (ev_lift (ok_aload_n dL_law_1907 rfl))) (ok_t_lL (ev_lift (ok_iconst dL_law_1908 rfl)))) (ok_t_nL (ok_t_lL (ev_lift (ok_laload dL_law_1909))) (ok_t_nL (ok_t_lL (ev_lift (ok_iload dL_law_1910))) (ok_t_lL (ev_lift (ok_i2l dL_law_1912))))))) (ok_t_nL (ok_t_nL (ok_t_nL (ok_t_lL (ev_lift (ok_lcmp dL_law_1913))) (ok_t_lL (ev_lift (ok_if_eq dL_law_1914 rfl)))) (ok_t_nL (ok_t_lL (ev_lift (ok_iconst dL_law_1917 rfl))) (ok_t_nL (ok_t_lL (ev_lift (ok_ireturn dL_law_1918))) (ok_t_lL (ev_lift (ok_goto dL_law_1919 rfl)))))) (ok_t_nL (ok_t_nL (ok_t_lL (ev_lift (ok_aload_n dL_law_1922 rfl))) (ok_t_lL (ev_lift (ok_aload_n dL_law_1923 rfl)))) (ok_t_nL (ok_t_lL (ev_lift (ok_iload dL_law_1924))) (ok_t_nL (ok_t_lL (ev_lift (ok_iconst dL_law_1926 rfl))) (ok_t_lL (ev_lift (ok_iadd dL_law_1927)))))))))
def lawt_1928 (xs : Nat → Int32) (L : Nat) : Nat → EA := (t_n 1963 (t_n 1942 (t_n 1936 (t_n 1930 (t_n 1929 (t_l 1928 (a_sld xs L)) (t_l 1929 (a_aload 1 3))) (t_n 1933 (t_l 1930 (a_inv false 316 3 none)) (t_n 1935 (t_l 1933 (a_istore 9 2 5)) (t_l 1935 (a_aload 1 2))))) (t_n 1939 (t_n 1937 (t_l 1936 (a_aload 1 0)) (t_l 1937 (a_iload 2 4))) (t_n 1940 (t_l 1939 (a_push 1 (.int 1))) (t_n 1941 (t_l 1940 (a_ii 1 (fun x y => x + y))) (t_l 1941 (a_sld xs L)))))) (t_n 1953 (t_n 1947 (t_n 1945 (t_l 1942 (a_inv true 285 2 (some 13))) (t_l 1945 (a_istore 9 2 6))) (t_n 1948 (t_l 1947 (a_aload 1 2)) (t_n 1951 (t_l 1948 (a_inv true 228 1 (some 13))) (t_l 1951 (a_iload 2 5))))) (t_n 1957 (t_n 1956 (t_l 1953 (a_ic 1958 (fun x y => decide (x = y)))) (t_l 1956 (a_push 1 (.int 0)))) (t_n 1958 (t_l 1957 a_iret) (t_n 1960 (t_l 1958 (a_iload 2 5)) (t_l 1960 (a_if 1975 (fun x => !decide (x = 0))))))))) (t_n 1978 (t_n 1969 (t_n 1965 (t_n 1964 (t_l 1963 (a_aload 1 3)) (t_l 1964 (a_push 1 (.int 0)))) (t_n 1966 (t_l 1965 a_lld) (t_n 1968 (t_l 1966 (a_iload 2 6)) (t_l 1968 (a_i (fun x => .long x.toInt64)))))) (t_n 1973 (t_n 1970 (t_l 1969 (a_ll (fun x y => .int (lg_cmp x y)))) (t_l 1970 (a_if 1975 (fun x => decide (x = 0))))) (t_n 1974 (t_l 1973 (a_push 1 (.int 0))) (t_n 1975 (t_l 1974 a_iret) (t_l 1975 (a_goto 2116)))))) (t_n 1984 (t_n 1980 (t_n 1979 (t_l 1978 (a_aload 1 1)) (t_l 1979 (a_aload 1 0))) (t_n 1982 (t_l 1980 (a_iload 2 4)) (t_n 1983 (t_l 1982 (a_push 1 (.int 1))) (t_l 1983 (a_ii 1 (fun x y => x + y)))))) (t_n 1989 (t_n 1985 (t_l 1984 (a_sld xs L)) (t_n 1986 (t_l 1985 (a_aload 1 3)) (t_l 1986 (a_inv false 317 3 none)))) (t_n 1991 (t_l 1989 (a_istore 9 2 5)) (t_n 1992 (t_l 1991 (a_aload 1 2)) (t_l 1992 (a_aload 1 0))))))))
set_option maxRecDepth 100000 in
theorem lawt_1928_ok (hh : List (Nat × Nat × Nat × Nat)) (b L d : Nat) (xs : Nat → Int32) : ∀ pc, ev_OkL (ev_OX b L xs) code 9 hh RL lw_g lw_n lw_q vwCl false (ev_CO mt lw_g lw_n lw_q vwCl d) pc (lawt_1928 xs L pc) := (ok_t_nL (ok_t_nL (ok_t_nL (ok_t_nL (ok_t_nL (ok_t_lL (ok_sld dL_law_1928)) (ok_t_lL (ev_lift (ok_aload_n dL_law_1929 rfl)))) (ok_t_nL (ok_t_lL (ev_lift (ok_inv (run_SW (y := 316) (n := 3) dL_law_1930 cz_316 gdG cc_316 ci_316 w_1541 cm_316 cd_316 cl_316)))) (ok_t_nL (ok_t_lL (ev_lift (ok_istore dL_law_1933))) (ok_t_lL (ev_lift (ok_aload_n dL_law_1935 rfl)))))) (ok_t_nL (ok_t_nL (ok_t_lL (ev_lift (ok_aload_n dL_law_1936 rfl))) (ok_t_lL (ev_lift (ok_iload dL_law_1937)))) (ok_t_nL (ok_t_lL (ev_lift (ok_iconst dL_law_1939 rfl))) (ok_t_nL (ok_t_lL (ev_lift (ok_iadd dL_law_1940))) (ok_t_lL (ok_sld dL_law_1941)))))) (ok_t_nL (ok_t_nL (ok_t_nL (ok_t_lL (ev_lift (ok_inv (run_V (y := 285) (n := 1) (ci := 13) dL_law_1942 cz_285 gdG cc_285 ci_285 w_2080 cm_285 cs_285 cd_285 cl_285 rfl rfl)))) (ok_t_lL (ev_lift (ok_istore dL_law_1945)))) (ok_t_nL (ok_t_lL (ev_lift (ok_aload_n dL_law_1947 rfl))) (ok_t_nL (ok_t_lL (ev_lift (ok_inv (run_V (y := 228) (n := 0) (ci := 13) dL_law_1948 cz_228 gdG cc_228 ci_228 w_1664 cm_228 cs_228 cd_228 cl_228 rfl rfl)))) (ok_t_lL (ev_lift (ok_iload dL_law_1951)))))) (ok_t_nL (ok_t_nL (ok_t_lL (ev_lift (ok_icmp_eq dL_law_1953 rfl))) (ok_t_lL (ev_lift (ok_iconst dL_law_1956 rfl)))) (ok_t_nL (ok_t_lL (ev_lift (ok_ireturn dL_law_1957))) (ok_t_nL (ok_t_lL (ev_lift (ok_iload dL_law_1958))) (ok_t_lL (ev_lift (ok_if_ne dL_law_1960 rfl)))))))) (ok_t_nL (ok_t_nL (ok_t_nL (ok_t_nL (ok_t_lL (ev_lift (ok_aload_n dL_law_1963 rfl))) (ok_t_lL (ev_lift (ok_iconst dL_law_1964 rfl)))) (ok_t_nL (ok_t_lL (ev_lift (ok_laload dL_law_1965))) (ok_t_nL (ok_t_lL (ev_lift (ok_iload dL_law_1966))) (ok_t_lL (ev_lift (ok_i2l dL_law_1968)))))) (ok_t_nL (ok_t_nL (ok_t_lL (ev_lift (ok_lcmp dL_law_1969))) (ok_t_lL (ev_lift (ok_if_eq dL_law_1970 rfl)))) (ok_t_nL (ok_t_lL (ev_lift (ok_iconst dL_law_1973 rfl))) (ok_t_nL (ok_t_lL (ev_lift (ok_ireturn dL_law_1974))) (ok_t_lL (ev_lift (ok_goto dL_law_1975 rfl))))))) (ok_t_nL (ok_t_nL (ok_t_nL (ok_t_lL (ev_lift (ok_aload_n dL_law_1978 rfl))) (ok_t_lL (ev_lift (ok_aload_n dL_law_1979 rfl)))) (ok_t_nL (ok_t_lL (ev_lift (ok_iload dL_law_1980))) (ok_t_nL (ok_t_lL (ev_lift (ok_iconst dL_law_1982 rfl))) (ok_t_lL (ev_lift (ok_iadd dL_law_1983)))))) (ok_t_nL (ok_t_nL (ok_t_lL (ok_sld dL_law_1984)) (ok_t_nL (ok_t_lL (ev_lift (ok_aload_n dL_law_1985 rfl))) (ok_t_lL (ev_lift (ok_inv (run_SW (y := 317) (n := 3) dL_law_1986 cz_317 gdG cc_317 ci_317 w_1545 cm_317 cd_317 cl_317)))))) (ok_t_nL (ok_t_lL (ev_lift (ok_istore dL_law_1989))) (ok_t_nL (ok_t_lL (ev_lift (ok_aload_n dL_law_1991 rfl))) (ok_t_lL (ev_lift (ok_aload_n dL_law_1992 rfl)))))))))
def lawt_1993 (xs : Nat → Int32) (L : Nat) : Nat → EA := (t_n 2026 (t_n 2012 (t_n 2001 (t_n 1996 (t_n 1995 (t_l 1993 (a_iload 2 4)) (t_l 1995 (a_push 1 (.int 1)))) (t_n 1997 (t_l 1996 (a_ii 1 (fun x y => x + y))) (t_n 1998 (t_l 1997 (a_sld xs L)) (t_l 1998 (a_inv true 286 2 (some 13)))))) (t_n 2004 (t_n 2003 (t_l 2001 (a_istore 9 2 6)) (t_l 2003 (a_aload 1 2))) (t_n 2007 (t_l 2004 (a_inv true 228 1 (some 13))) (t_n 2009 (t_l 2007 (a_iload 2 5)) (t_l 2009 (a_ic 2014 (fun x y => decide (x = y)))))))) (t_n 2020 (t_n 2014 (t_n 2013 (t_l 2012 (a_push 1 (.int 0))) (t_l 2013 a_iret)) (t_n 2016 (t_l 2014 (a_iload 2 5)) (t_n 2019 (t_l 2016 (a_if 2031 (fun x => !decide (x = 0)))) (t_l 2019 (a_aload 1 3))))) (t_n 2022 (t_n 2021 (t_l 2020 (a_push 1 (.int 0))) (t_l 2021 a_lld)) (t_n 2024 (t_l 2022 (a_iload 2 6)) (t_n 2025 (t_l 2024 (a_i (fun x => .long x.toInt64))) (t_l 2025 (a_ll (fun x y => .int (lg_cmp x y))))))))) (t_n 2041 (t_n 2035 (t_n 2030 (t_n 2029 (t_l 2026 (a_if 2031 (fun x => decide (x = 0)))) (t_l 2029 (a_push 1 (.int 0)))) (t_n 2031 (t_l 2030 a_iret) (t_n 2034 (t_l 2031 (a_goto 2116)) (t_l 2034 (a_aload 1 1))))) (t_n 2038 (t_n 2036 (t_l 2035 (a_aload 1 0)) (t_l 2036 (a_iload 2 4))) (t_n 2039 (t_l 2038 (a_push 1 (.int 1))) (t_n 2040 (t_l 2039 (a_ii 1 (fun x y => x + y))) (t_l 2040 (a_sld xs L)))))) (t_n 2047 (t_n 2044 (t_n 2042 (t_l 2041 (a_aload 1 0)) (t_l 2042 (a_iload 2 4))) (t_n 2045 (t_l 2044 (a_push 1 (.int 2))) (t_n 2046 (t_l 2045 (a_ii 1 (fun x y => x + y))) (t_l 2046 (a_sld xs L))))) (t_n 2051 (t_n 2048 (t_l 2047 (a_aload 1 3)) (t_l 2048 (a_inv false 318 4 none))) (t_n 2053 (t_l 2051 (a_istore 9 2 5)) (t_n 2054 (t_l 2053 (a_aload 1 2)) (t_l 2054 (a_aload 1 0))))))))
set_option maxRecDepth 100000 in
theorem lawt_1993_ok (hh : List (Nat × Nat × Nat × Nat)) (b L d : Nat) (xs : Nat → Int32) : ∀ pc, ev_OkL (ev_OX b L xs) code 9 hh RL lw_g lw_n lw_q vwCl false (ev_CO mt lw_g lw_n lw_q vwCl d) pc (lawt_1993 xs L pc) := (ok_t_nL (ok_t_nL (ok_t_nL (ok_t_nL (ok_t_nL (ok_t_lL (ev_lift (ok_iload dL_law_1993))) (ok_t_lL (ev_lift (ok_iconst dL_law_1995 rfl)))) (ok_t_nL (ok_t_lL (ev_lift (ok_iadd dL_law_1996))) (ok_t_nL (ok_t_lL (ok_sld dL_law_1997)) (ok_t_lL (ev_lift (ok_inv (run_V (y := 286) (n := 1) (ci := 13) dL_law_1998 cz_286 gdG cc_286 ci_286 w_2084 cm_286 cs_286 cd_286 cl_286 rfl rfl))))))) (ok_t_nL (ok_t_nL (ok_t_lL (ev_lift (ok_istore dL_law_2001))) (ok_t_lL (ev_lift (ok_aload_n dL_law_2003 rfl)))) (ok_t_nL (ok_t_lL (ev_lift (ok_inv (run_V (y := 228) (n := 0) (ci := 13) dL_law_2004 cz_228 gdG cc_228 ci_228 w_1664 cm_228 cs_228 cd_228 cl_228 rfl rfl)))) (ok_t_nL (ok_t_lL (ev_lift (ok_iload dL_law_2007))) (ok_t_lL (ev_lift (ok_icmp_eq dL_law_2009 rfl))))))) (ok_t_nL (ok_t_nL (ok_t_nL (ok_t_lL (ev_lift (ok_iconst dL_law_2012 rfl))) (ok_t_lL (ev_lift (ok_ireturn dL_law_2013)))) (ok_t_nL (ok_t_lL (ev_lift (ok_iload dL_law_2014))) (ok_t_nL (ok_t_lL (ev_lift (ok_if_ne dL_law_2016 rfl))) (ok_t_lL (ev_lift (ok_aload_n dL_law_2019 rfl)))))) (ok_t_nL (ok_t_nL (ok_t_lL (ev_lift (ok_iconst dL_law_2020 rfl))) (ok_t_lL (ev_lift (ok_laload dL_law_2021)))) (ok_t_nL (ok_t_lL (ev_lift (ok_iload dL_law_2022))) (ok_t_nL (ok_t_lL (ev_lift (ok_i2l dL_law_2024))) (ok_t_lL (ev_lift (ok_lcmp dL_law_2025)))))))) (ok_t_nL (ok_t_nL (ok_t_nL (ok_t_nL (ok_t_lL (ev_lift (ok_if_eq dL_law_2026 rfl))) (ok_t_lL (ev_lift (ok_iconst dL_law_2029 rfl)))) (ok_t_nL (ok_t_lL (ev_lift (ok_ireturn dL_law_2030))) (ok_t_nL (ok_t_lL (ev_lift (ok_goto dL_law_2031 rfl))) (ok_t_lL (ev_lift (ok_aload_n dL_law_2034 rfl)))))) (ok_t_nL (ok_t_nL (ok_t_lL (ev_lift (ok_aload_n dL_law_2035 rfl))) (ok_t_lL (ev_lift (ok_iload dL_law_2036)))) (ok_t_nL (ok_t_lL (ev_lift (ok_iconst dL_law_2038 rfl))) (ok_t_nL (ok_t_lL (ev_lift (ok_iadd dL_law_2039))) (ok_t_lL (ok_sld dL_law_2040)))))) (ok_t_nL (ok_t_nL (ok_t_nL (ok_t_lL (ev_lift (ok_aload_n dL_law_2041 rfl))) (ok_t_lL (ev_lift (ok_iload dL_law_2042)))) (ok_t_nL (ok_t_lL (ev_lift (ok_iconst dL_law_2044 rfl))) (ok_t_nL (ok_t_lL (ev_lift (ok_iadd dL_law_2045))) (ok_t_lL (ok_sld dL_law_2046))))) (ok_t_nL (ok_t_nL (ok_t_lL (ev_lift (ok_aload_n dL_law_2047 rfl))) (ok_t_lL (ev_lift (ok_inv (run_SW (y := 318) (n := 4) dL_law_2048 cz_318 gdG cc_318 ci_318 w_1549 cm_318 cd_318 cl_318))))) (ok_t_nL (ok_t_lL (ev_lift (ok_istore dL_law_2051))) (ok_t_nL (ok_t_lL (ev_lift (ok_aload_n dL_law_2053 rfl))) (ok_t_lL (ev_lift (ok_aload_n dL_law_2054 rfl)))))))))
def lawt_2055 (xs : Nat → Int32) (L : Nat) : Nat → EA := (t_n 2088 (t_n 2069 (t_n 2061 (t_n 2058 (t_n 2057 (t_l 2055 (a_iload 2 4)) (t_l 2057 (a_push 1 (.int 1)))) (t_n 2059 (t_l 2058 (a_ii 1 (fun x y => x + y))) (t_n 2060 (t_l 2059 (a_sld xs L)) (t_l 2060 (a_aload 1 0))))) (t_n 2064 (t_n 2063 (t_l 2061 (a_iload 2 4)) (t_l 2063 (a_push 1 (.int 2)))) (t_n 2065 (t_l 2064 (a_ii 1 (fun x y => x + y))) (t_n 2066 (t_l 2065 (a_sld xs L)) (t_l 2066 (a_inv true 288 3 (some 13))))))) (t_n 2080 (t_n 2072 (t_n 2071 (t_l 2069 (a_istore 9 2 6)) (t_l 2071 (a_aload 1 2))) (t_n 2075 (t_l 2072 (a_inv true 228 1 (some 13))) (t_n 2077 (t_l 2075 (a_iload 2 5)) (t_l 2077 (a_ic 2082 (fun x y => decide (x = y))))))) (t_n 2082 (t_n 2081 (t_l 2080 (a_push 1 (.int 0))) (t_l 2081 a_iret)) (t_n 2084 (t_l 2082 (a_iload 2 5)) (t_n 2087 (t_l 2084 (a_if 2099 (fun x => !decide (x = 0)))) (t_l 2087 (a_aload 1 3))))))) (t_n 2103 (t_n 2094 (t_n 2090 (t_n 2089 (t_l 2088 (a_push 1 (.int 0))) (t_l 2089 a_lld)) (t_n 2092 (t_l 2090 (a_iload 2 6)) (t_n 2093 (t_l 2092 (a_i (fun x => .long x.toInt64))) (t_l 2093 (a_ll (fun x y => .int (lg_cmp x y))))))) (t_n 2098 (t_n 2097 (t_l 2094 (a_if 2099 (fun x => decide (x = 0)))) (t_l 2097 (a_push 1 (.int 0)))) (t_n 2099 (t_l 2098 a_iret) (t_n 2102 (t_l 2099 (a_goto 2116)) (t_l 2102 (a_aload 1 1)))))) (t_n 2114 (t_n 2107 (t_n 2106 (t_l 2103 (a_inv true 189 1 (some 11))) (t_l 2106 (a_aload 1 2))) (t_n 2110 (t_l 2107 (a_inv true 289 1 (some 13))) (t_n 2111 (t_l 2110 (a_ll (fun x y => .int (lg_cmp x y)))) (t_l 2111 (a_if 2116 (fun x => decide (x = 0))))))) (t_n 2119 (t_n 2115 (t_l 2114 (a_push 1 (.int 0))) (t_n 2116 (t_l 2115 a_iret) (t_l 2116 (a_iinc 9 4 5)))) (t_n 2122 (t_l 2119 (a_goto 23)) (t_n 2123 (t_l 2122 (a_push 1 (.int 1))) (t_l 2123 a_iret)))))))
set_option maxRecDepth 100000 in
theorem lawt_2055_ok (hh : List (Nat × Nat × Nat × Nat)) (b L d : Nat) (xs : Nat → Int32) : ∀ pc, ev_OkL (ev_OX b L xs) code 9 hh RL lw_g lw_n lw_q vwCl false (ev_CO mt lw_g lw_n lw_q vwCl d) pc (lawt_2055 xs L pc) := (ok_t_nL (ok_t_nL (ok_t_nL (ok_t_nL (ok_t_nL (ok_t_lL (ev_lift (ok_iload dL_law_2055))) (ok_t_lL (ev_lift (ok_iconst dL_law_2057 rfl)))) (ok_t_nL (ok_t_lL (ev_lift (ok_iadd dL_law_2058))) (ok_t_nL (ok_t_lL (ok_sld dL_law_2059)) (ok_t_lL (ev_lift (ok_aload_n dL_law_2060 rfl)))))) (ok_t_nL (ok_t_nL (ok_t_lL (ev_lift (ok_iload dL_law_2061))) (ok_t_lL (ev_lift (ok_iconst dL_law_2063 rfl)))) (ok_t_nL (ok_t_lL (ev_lift (ok_iadd dL_law_2064))) (ok_t_nL (ok_t_lL (ok_sld dL_law_2065)) (ok_t_lL (ev_lift (ok_inv (run_V (y := 288) (n := 2) (ci := 13) dL_law_2066 cz_288 gdG cc_288 ci_288 w_2088 cm_288 cs_288 cd_288 cl_288 rfl rfl)))))))) (ok_t_nL (ok_t_nL (ok_t_nL (ok_t_lL (ev_lift (ok_istore dL_law_2069))) (ok_t_lL (ev_lift (ok_aload_n dL_law_2071 rfl)))) (ok_t_nL (ok_t_lL (ev_lift (ok_inv (run_V (y := 228) (n := 0) (ci := 13) dL_law_2072 cz_228 gdG cc_228 ci_228 w_1664 cm_228 cs_228 cd_228 cl_228 rfl rfl)))) (ok_t_nL (ok_t_lL (ev_lift (ok_iload dL_law_2075))) (ok_t_lL (ev_lift (ok_icmp_eq dL_law_2077 rfl)))))) (ok_t_nL (ok_t_nL (ok_t_lL (ev_lift (ok_iconst dL_law_2080 rfl))) (ok_t_lL (ev_lift (ok_ireturn dL_law_2081)))) (ok_t_nL (ok_t_lL (ev_lift (ok_iload dL_law_2082))) (ok_t_nL (ok_t_lL (ev_lift (ok_if_ne dL_law_2084 rfl))) (ok_t_lL (ev_lift (ok_aload_n dL_law_2087 rfl)))))))) (ok_t_nL (ok_t_nL (ok_t_nL (ok_t_nL (ok_t_lL (ev_lift (ok_iconst dL_law_2088 rfl))) (ok_t_lL (ev_lift (ok_laload dL_law_2089)))) (ok_t_nL (ok_t_lL (ev_lift (ok_iload dL_law_2090))) (ok_t_nL (ok_t_lL (ev_lift (ok_i2l dL_law_2092))) (ok_t_lL (ev_lift (ok_lcmp dL_law_2093)))))) (ok_t_nL (ok_t_nL (ok_t_lL (ev_lift (ok_if_eq dL_law_2094 rfl))) (ok_t_lL (ev_lift (ok_iconst dL_law_2097 rfl)))) (ok_t_nL (ok_t_lL (ev_lift (ok_ireturn dL_law_2098))) (ok_t_nL (ok_t_lL (ev_lift (ok_goto dL_law_2099 rfl))) (ok_t_lL (ev_lift (ok_aload_n dL_law_2102 rfl))))))) (ok_t_nL (ok_t_nL (ok_t_nL (ok_t_lL (ev_lift (ok_inv (run_V (y := 189) (n := 0) (ci := 11) dL_law_2103 cz_189 gdG cc_189 ci_189 w_521 cm_189 cs_189 cd_189 cl_189 rfl rfl)))) (ok_t_lL (ev_lift (ok_aload_n dL_law_2106 rfl)))) (ok_t_nL (ok_t_lL (ev_lift (ok_inv (run_V (y := 289) (n := 0) (ci := 13) dL_law_2107 cz_289 gdG cc_289 ci_289 w_2096 cm_289 cs_289 cd_289 cl_289 rfl rfl)))) (ok_t_nL (ok_t_lL (ev_lift (ok_lcmp dL_law_2110))) (ok_t_lL (ev_lift (ok_if_eq dL_law_2111 rfl)))))) (ok_t_nL (ok_t_nL (ok_t_lL (ev_lift (ok_iconst dL_law_2114 rfl))) (ok_t_nL (ok_t_lL (ev_lift (ok_ireturn dL_law_2115))) (ok_t_lL (ev_lift (ok_iinc dL_law_2116 rfl))))) (ok_t_nL (ok_t_lL (ev_lift (ok_goto dL_law_2119 rfl))) (ok_t_nL (ok_t_lL (ev_lift (ok_iconst dL_law_2122 rfl))) (ok_t_lL (ev_lift (ok_ireturn dL_law_2123)))))))))
def g_law (xs : Nat → Int32) (L : Nat) : Nat → EA := (t_n 1109 (t_n 620 (t_n 380 (t_n 253 (t_n 197 (lawt_0 xs L) (lawt_197 xs L)) (t_n 316 (lawt_253 xs L) (lawt_316 xs L))) (t_n 496 (t_n 433 (lawt_380 xs L) (lawt_433 xs L)) (t_n 559 (lawt_496 xs L) (lawt_559 xs L)))) (t_n 860 (t_n 739 (t_n 683 (lawt_620 xs L) (lawt_683 xs L)) (t_n 798 (lawt_739 xs L) (lawt_798 xs L))) (t_n 982 (t_n 923 (lawt_860 xs L) (lawt_923 xs L)) (t_n 1045 (lawt_982 xs L) (lawt_1045 xs L))))) (t_n 1612 (t_n 1358 (t_n 1233 (t_n 1171 (lawt_1109 xs L) (lawt_1171 xs L)) (t_n 1292 (lawt_1233 xs L) (lawt_1292 xs L))) (t_n 1487 (t_n 1420 (lawt_1358 xs L) (lawt_1420 xs L)) (t_n 1550 (lawt_1487 xs L) (lawt_1550 xs L)))) (t_n 1866 (t_n 1727 (t_n 1665 (lawt_1612 xs L) (lawt_1665 xs L)) (t_n 1789 (lawt_1727 xs L) (lawt_1789 xs L))) (t_n 1993 (t_n 1928 (lawt_1866 xs L) (lawt_1928 xs L)) (t_n 2055 (lawt_1993 xs L) (lawt_2055 xs L))))))
theorem k_law (hh : List (Nat × Nat × Nat × Nat)) (b L d : Nat) (xs : Nat → Int32) : ∀ pc, ev_OkL (ev_OX b L xs) code 9 hh RL lw_g lw_n lw_q vwCl false (ev_CO mt lw_g lw_n lw_q vwCl d) pc (g_law xs L pc) := (ok_t_nL (ok_t_nL (ok_t_nL (ok_t_nL (ok_t_nL (lawt_0_ok hh b L d xs) (lawt_197_ok hh b L d xs)) (ok_t_nL (lawt_253_ok hh b L d xs) (lawt_316_ok hh b L d xs))) (ok_t_nL (ok_t_nL (lawt_380_ok hh b L d xs) (lawt_433_ok hh b L d xs)) (ok_t_nL (lawt_496_ok hh b L d xs) (lawt_559_ok hh b L d xs)))) (ok_t_nL (ok_t_nL (ok_t_nL (lawt_620_ok hh b L d xs) (lawt_683_ok hh b L d xs)) (ok_t_nL (lawt_739_ok hh b L d xs) (lawt_798_ok hh b L d xs))) (ok_t_nL (ok_t_nL (lawt_860_ok hh b L d xs) (lawt_923_ok hh b L d xs)) (ok_t_nL (lawt_982_ok hh b L d xs) (lawt_1045_ok hh b L d xs))))) (ok_t_nL (ok_t_nL (ok_t_nL (ok_t_nL (lawt_1109_ok hh b L d xs) (lawt_1171_ok hh b L d xs)) (ok_t_nL (lawt_1233_ok hh b L d xs) (lawt_1292_ok hh b L d xs))) (ok_t_nL (ok_t_nL (lawt_1358_ok hh b L d xs) (lawt_1420_ok hh b L d xs)) (ok_t_nL (lawt_1487_ok hh b L d xs) (lawt_1550_ok hh b L d xs)))) (ok_t_nL (ok_t_nL (ok_t_nL (lawt_1612_ok hh b L d xs) (lawt_1665_ok hh b L d xs)) (ok_t_nL (lawt_1727_ok hh b L d xs) (lawt_1789_ok hh b L d xs))) (ok_t_nL (ok_t_nL (lawt_1866_ok hh b L d xs) (lawt_1928_ok hh b L d xs)) (ok_t_nL (lawt_1993_ok hh b L d xs) (lawt_2055_ok hh b L d xs))))))
