abbrev b_M_isArithmetic : ByteArray := prog_14_method_53_code
theorem d_M_isArithmetic_0 : decode b_M_isArithmetic 0 = .ok (.iload_n 1, 1) := by decide +kernel
theorem d_M_isArithmetic_1 : decode b_M_isArithmetic 1 = .ok (.sipush 165, 3) := by decide +kernel
theorem d_M_isArithmetic_4 : decode b_M_isArithmetic 4 = .ok (.if_icmp .ne 7, 3) := by decide +kernel
theorem d_M_isArithmetic_7 : decode b_M_isArithmetic 7 = .ok (.iconst 3, 1) := by decide +kernel
theorem d_M_isArithmetic_8 : decode b_M_isArithmetic 8 = .ok (.goto 15, 3) := by decide +kernel
theorem d_M_isArithmetic_11 : decode b_M_isArithmetic 11 = .ok (.iload_n 1, 1) := by decide +kernel
theorem d_M_isArithmetic_12 : decode b_M_isArithmetic 12 = .ok (.sipush 146, 3) := by decide +kernel
theorem d_M_isArithmetic_15 : decode b_M_isArithmetic 15 = .ok (.if_icmp .gt 7, 3) := by decide +kernel
theorem d_M_isArithmetic_18 : decode b_M_isArithmetic 18 = .ok (.iconst 1, 1) := by decide +kernel
theorem d_M_isArithmetic_19 : decode b_M_isArithmetic 19 = .ok (.goto 4, 3) := by decide +kernel
theorem d_M_isArithmetic_22 : decode b_M_isArithmetic 22 = .ok (.iconst 2, 1) := by decide +kernel
theorem d_M_isArithmetic_23 : decode b_M_isArithmetic 23 = .ok (.istore_n 2, 1) := by decide +kernel
theorem d_M_isArithmetic_24 : decode b_M_isArithmetic 24 = .ok (.iload_n 1, 1) := by decide +kernel
theorem d_M_isArithmetic_25 : decode b_M_isArithmetic 25 = .ok (.sipush 141, 3) := by decide +kernel
theorem d_M_isArithmetic_28 : decode b_M_isArithmetic 28 = .ok (.if_icmp .eq 32, 3) := by decide +kernel
theorem d_M_isArithmetic_31 : decode b_M_isArithmetic 31 = .ok (.iload_n 1, 1) := by decide +kernel
theorem d_M_isArithmetic_32 : decode b_M_isArithmetic 32 = .ok (.sipush 142, 3) := by decide +kernel
theorem d_M_isArithmetic_35 : decode b_M_isArithmetic 35 = .ok (.if_icmp .eq 25, 3) := by decide +kernel
theorem d_M_isArithmetic_38 : decode b_M_isArithmetic 38 = .ok (.iload_n 1, 1) := by decide +kernel
theorem d_M_isArithmetic_39 : decode b_M_isArithmetic 39 = .ok (.sipush 149, 3) := by decide +kernel
theorem d_M_isArithmetic_42 : decode b_M_isArithmetic 42 = .ok (.if_icmp .lt 10, 3) := by decide +kernel
theorem d_M_isArithmetic_45 : decode b_M_isArithmetic 45 = .ok (.iload_n 1, 1) := by decide +kernel
theorem d_M_isArithmetic_46 : decode b_M_isArithmetic 46 = .ok (.sipush 153, 3) := by decide +kernel
theorem d_M_isArithmetic_49 : decode b_M_isArithmetic 49 = .ok (.if_icmp .le 11, 3) := by decide +kernel
theorem d_M_isArithmetic_52 : decode b_M_isArithmetic 52 = .ok (.aload_n 0, 1) := by decide +kernel
theorem d_M_isArithmetic_53 : decode b_M_isArithmetic 53 = .ok (.iload_n 2, 1) := by decide +kernel
theorem d_M_isArithmetic_54 : decode b_M_isArithmetic 54 = .ok (.invokevirtual 468, 3) := by decide +kernel
theorem d_M_isArithmetic_57 : decode b_M_isArithmetic 57 = .ok (.ifCond .ne 5, 3) := by decide +kernel
theorem d_M_isArithmetic_60 : decode b_M_isArithmetic 60 = .ok (.iconst 0, 1) := by decide +kernel
theorem d_M_isArithmetic_61 : decode b_M_isArithmetic 61 = .ok (.ireturn, 1) := by decide +kernel
theorem d_M_isArithmetic_62 : decode b_M_isArithmetic 62 = .ok (.iconst 1, 1) := by decide +kernel
theorem d_M_isArithmetic_63 : decode b_M_isArithmetic 63 = .ok (.istore_n 3, 1) := by decide +kernel
theorem d_M_isArithmetic_64 : decode b_M_isArithmetic 64 = .ok (.iload_n 3, 1) := by decide +kernel
theorem d_M_isArithmetic_65 : decode b_M_isArithmetic 65 = .ok (.iload_n 2, 1) := by decide +kernel
theorem d_M_isArithmetic_66 : decode b_M_isArithmetic 66 = .ok (.if_icmp .gt 24, 3) := by decide +kernel
theorem d_M_isArithmetic_69 : decode b_M_isArithmetic 69 = .ok (.aload_n 0, 1) := by decide +kernel
theorem d_M_isArithmetic_70 : decode b_M_isArithmetic 70 = .ok (.aload_n 0, 1) := by decide +kernel
theorem d_M_isArithmetic_71 : decode b_M_isArithmetic 71 = .ok (.getfield 439, 3) := by decide +kernel
theorem d_M_isArithmetic_74 : decode b_M_isArithmetic 74 = .ok (.iload_n 3, 1) := by decide +kernel
theorem d_M_isArithmetic_75 : decode b_M_isArithmetic 75 = .ok (.isub, 1) := by decide +kernel
theorem d_M_isArithmetic_76 : decode b_M_isArithmetic 76 = .ok (.invokevirtual 485, 3) := by decide +kernel
theorem d_M_isArithmetic_79 : decode b_M_isArithmetic 79 = .ok (.ifCond .ne 5, 3) := by decide +kernel
theorem d_M_isArithmetic_82 : decode b_M_isArithmetic 82 = .ok (.iconst 0, 1) := by decide +kernel
theorem d_M_isArithmetic_83 : decode b_M_isArithmetic 83 = .ok (.ireturn, 1) := by decide +kernel
theorem d_M_isArithmetic_84 : decode b_M_isArithmetic 84 = .ok (.iinc 3 1, 3) := by decide +kernel
theorem d_M_isArithmetic_87 : decode b_M_isArithmetic 87 = .ok (.goto (-23), 3) := by decide +kernel
theorem d_M_isArithmetic_90 : decode b_M_isArithmetic 90 = .ok (.aload_n 0, 1) := by decide +kernel
theorem d_M_isArithmetic_91 : decode b_M_isArithmetic 91 = .ok (.aload_n 0, 1) := by decide +kernel
theorem d_M_isArithmetic_92 : decode b_M_isArithmetic 92 = .ok (.getfield 439, 3) := by decide +kernel
theorem d_M_isArithmetic_95 : decode b_M_isArithmetic 95 = .ok (.iload_n 2, 1) := by decide +kernel
theorem d_M_isArithmetic_96 : decode b_M_isArithmetic 96 = .ok (.isub, 1) := by decide +kernel
theorem d_M_isArithmetic_97 : decode b_M_isArithmetic 97 = .ok (.invokevirtual 488, 3) := by decide +kernel
theorem d_M_isArithmetic_100 : decode b_M_isArithmetic 100 = .ok (.lstore_n 3, 1) := by decide +kernel
theorem d_M_isArithmetic_101 : decode b_M_isArithmetic 101 = .ok (.iload_n 2, 1) := by decide +kernel
theorem d_M_isArithmetic_102 : decode b_M_isArithmetic 102 = .ok (.iconst 1, 1) := by decide +kernel
theorem d_M_isArithmetic_103 : decode b_M_isArithmetic 103 = .ok (.if_icmp .le 18, 3) := by decide +kernel
theorem d_M_isArithmetic_106 : decode b_M_isArithmetic 106 = .ok (.aload_n 0, 1) := by decide +kernel
theorem d_M_isArithmetic_107 : decode b_M_isArithmetic 107 = .ok (.aload_n 0, 1) := by decide +kernel
theorem d_M_isArithmetic_108 : decode b_M_isArithmetic 108 = .ok (.getfield 439, 3) := by decide +kernel
theorem d_M_isArithmetic_111 : decode b_M_isArithmetic 111 = .ok (.iload_n 2, 1) := by decide +kernel
theorem d_M_isArithmetic_112 : decode b_M_isArithmetic 112 = .ok (.isub, 1) := by decide +kernel
theorem d_M_isArithmetic_113 : decode b_M_isArithmetic 113 = .ok (.iconst 1, 1) := by decide +kernel
theorem d_M_isArithmetic_114 : decode b_M_isArithmetic 114 = .ok (.iadd, 1) := by decide +kernel
theorem d_M_isArithmetic_115 : decode b_M_isArithmetic 115 = .ok (.invokevirtual 488, 3) := by decide +kernel
theorem d_M_isArithmetic_118 : decode b_M_isArithmetic 118 = .ok (.goto 4, 3) := by decide +kernel
theorem d_M_isArithmetic_121 : decode b_M_isArithmetic 121 = .ok (.lconst 0, 1) := by decide +kernel
theorem d_M_isArithmetic_122 : decode b_M_isArithmetic 122 = .ok (.lstore 5, 2) := by decide +kernel
theorem d_M_isArithmetic_124 : decode b_M_isArithmetic 124 = .ok (.iload_n 2, 1) := by decide +kernel
theorem d_M_isArithmetic_125 : decode b_M_isArithmetic 125 = .ok (.iconst 2, 1) := by decide +kernel
theorem d_M_isArithmetic_126 : decode b_M_isArithmetic 126 = .ok (.if_icmp .le 16, 3) := by decide +kernel
theorem d_M_isArithmetic_129 : decode b_M_isArithmetic 129 = .ok (.aload_n 0, 1) := by decide +kernel
theorem d_M_isArithmetic_130 : decode b_M_isArithmetic 130 = .ok (.aload_n 0, 1) := by decide +kernel
theorem d_M_isArithmetic_131 : decode b_M_isArithmetic 131 = .ok (.getfield 439, 3) := by decide +kernel
theorem d_M_isArithmetic_134 : decode b_M_isArithmetic 134 = .ok (.iconst 1, 1) := by decide +kernel
theorem d_M_isArithmetic_135 : decode b_M_isArithmetic 135 = .ok (.isub, 1) := by decide +kernel
theorem d_M_isArithmetic_136 : decode b_M_isArithmetic 136 = .ok (.invokevirtual 488, 3) := by decide +kernel
theorem d_M_isArithmetic_139 : decode b_M_isArithmetic 139 = .ok (.goto 4, 3) := by decide +kernel
theorem d_M_isArithmetic_142 : decode b_M_isArithmetic 142 = .ok (.lconst 0, 1) := by decide +kernel
theorem d_M_isArithmetic_143 : decode b_M_isArithmetic 143 = .ok (.lstore 7, 2) := by decide +kernel
theorem d_M_isArithmetic_145 : decode b_M_isArithmetic 145 = .ok (.aload_n 0, 1) := by decide +kernel
theorem d_M_isArithmetic_146 : decode b_M_isArithmetic 146 = .ok (.dup, 1) := by decide +kernel
theorem d_M_isArithmetic_147 : decode b_M_isArithmetic 147 = .ok (.getfield 439, 3) := by decide +kernel
theorem d_M_isArithmetic_150 : decode b_M_isArithmetic 150 = .ok (.iload_n 2, 1) := by decide +kernel
theorem d_M_isArithmetic_151 : decode b_M_isArithmetic 151 = .ok (.isub, 1) := by decide +kernel
theorem d_M_isArithmetic_152 : decode b_M_isArithmetic 152 = .ok (.putfield 439, 3) := by decide +kernel
theorem d_M_isArithmetic_155 : decode b_M_isArithmetic 155 = .ok (.iload_n 1, 1) := by decide +kernel
theorem d_M_isArithmetic_156 : decode b_M_isArithmetic 156 = .ok (.tableswitch 407 139 164 #[120, 128, 407, 407, 136, 143, 160, 176, 192, 201, 407, 407, 407, 407, 407, 210, 233, 256, 273, 286, 303, 320, 337, 354, 371, 389], 120) := by decide +kernel
theorem d_M_isArithmetic_276 : decode b_M_isArithmetic 276 = .ok (.lload_n 3, 1) := by decide +kernel
theorem d_M_isArithmetic_277 : decode b_M_isArithmetic 277 = .ok (.lconst 1, 1) := by decide +kernel
theorem d_M_isArithmetic_278 : decode b_M_isArithmetic 278 = .ok (.ladd, 1) := by decide +kernel
theorem d_M_isArithmetic_279 : decode b_M_isArithmetic 279 = .ok (.lstore 9, 2) := by decide +kernel
theorem d_M_isArithmetic_281 : decode b_M_isArithmetic 281 = .ok (.goto 303, 3) := by decide +kernel
theorem d_M_isArithmetic_284 : decode b_M_isArithmetic 284 = .ok (.lload_n 3, 1) := by decide +kernel
theorem d_M_isArithmetic_285 : decode b_M_isArithmetic 285 = .ok (.lconst 1, 1) := by decide +kernel
theorem d_M_isArithmetic_286 : decode b_M_isArithmetic 286 = .ok (.lsub, 1) := by decide +kernel
theorem d_M_isArithmetic_287 : decode b_M_isArithmetic 287 = .ok (.lstore 9, 2) := by decide +kernel
theorem d_M_isArithmetic_289 : decode b_M_isArithmetic 289 = .ok (.goto 295, 3) := by decide +kernel
theorem d_M_isArithmetic_292 : decode b_M_isArithmetic 292 = .ok (.lload_n 3, 1) := by decide +kernel
theorem d_M_isArithmetic_293 : decode b_M_isArithmetic 293 = .ok (.lneg, 1) := by decide +kernel
theorem d_M_isArithmetic_294 : decode b_M_isArithmetic 294 = .ok (.lstore 9, 2) := by decide +kernel
theorem d_M_isArithmetic_296 : decode b_M_isArithmetic 296 = .ok (.goto 288, 3) := by decide +kernel
theorem d_M_isArithmetic_299 : decode b_M_isArithmetic 299 = .ok (.lload_n 3, 1) := by decide +kernel
theorem d_M_isArithmetic_300 : decode b_M_isArithmetic 300 = .ok (.lconst 0, 1) := by decide +kernel
theorem d_M_isArithmetic_301 : decode b_M_isArithmetic 301 = .ok (.lcmp, 1) := by decide +kernel
theorem d_M_isArithmetic_302 : decode b_M_isArithmetic 302 = .ok (.ifCond .ge 8, 3) := by decide +kernel
theorem d_M_isArithmetic_305 : decode b_M_isArithmetic 305 = .ok (.lload_n 3, 1) := by decide +kernel
theorem d_M_isArithmetic_306 : decode b_M_isArithmetic 306 = .ok (.lneg, 1) := by decide +kernel
theorem d_M_isArithmetic_307 : decode b_M_isArithmetic 307 = .ok (.goto 4, 3) := by decide +kernel
theorem d_M_isArithmetic_310 : decode b_M_isArithmetic 310 = .ok (.lload_n 3, 1) := by decide +kernel
theorem d_M_isArithmetic_311 : decode b_M_isArithmetic 311 = .ok (.lstore 9, 2) := by decide +kernel
theorem d_M_isArithmetic_313 : decode b_M_isArithmetic 313 = .ok (.goto 271, 3) := by decide +kernel
theorem d_M_isArithmetic_316 : decode b_M_isArithmetic 316 = .ok (.lload_n 3, 1) := by decide +kernel
theorem d_M_isArithmetic_317 : decode b_M_isArithmetic 317 = .ok (.lconst 0, 1) := by decide +kernel
theorem d_M_isArithmetic_318 : decode b_M_isArithmetic 318 = .ok (.lcmp, 1) := by decide +kernel
theorem d_M_isArithmetic_319 : decode b_M_isArithmetic 319 = .ok (.ifCond .ne 7, 3) := by decide +kernel
theorem d_M_isArithmetic_322 : decode b_M_isArithmetic 322 = .ok (.lconst 1, 1) := by decide +kernel
theorem d_M_isArithmetic_323 : decode b_M_isArithmetic 323 = .ok (.goto 4, 3) := by decide +kernel
theorem d_M_isArithmetic_326 : decode b_M_isArithmetic 326 = .ok (.lconst 0, 1) := by decide +kernel
theorem d_M_isArithmetic_327 : decode b_M_isArithmetic 327 = .ok (.lstore 9, 2) := by decide +kernel
theorem d_M_isArithmetic_329 : decode b_M_isArithmetic 329 = .ok (.goto 255, 3) := by decide +kernel
theorem d_M_isArithmetic_332 : decode b_M_isArithmetic 332 = .ok (.lload_n 3, 1) := by decide +kernel
theorem d_M_isArithmetic_333 : decode b_M_isArithmetic 333 = .ok (.lconst 0, 1) := by decide +kernel
theorem d_M_isArithmetic_334 : decode b_M_isArithmetic 334 = .ok (.lcmp, 1) := by decide +kernel
theorem d_M_isArithmetic_335 : decode b_M_isArithmetic 335 = .ok (.ifCond .ne 7, 3) := by decide +kernel
theorem d_M_isArithmetic_338 : decode b_M_isArithmetic 338 = .ok (.lconst 0, 1) := by decide +kernel
theorem d_M_isArithmetic_339 : decode b_M_isArithmetic 339 = .ok (.goto 4, 3) := by decide +kernel
theorem d_M_isArithmetic_342 : decode b_M_isArithmetic 342 = .ok (.lconst 1, 1) := by decide +kernel
theorem d_M_isArithmetic_343 : decode b_M_isArithmetic 343 = .ok (.lstore 9, 2) := by decide +kernel
theorem d_M_isArithmetic_345 : decode b_M_isArithmetic 345 = .ok (.goto 239, 3) := by decide +kernel
theorem d_M_isArithmetic_348 : decode b_M_isArithmetic 348 = .ok (.lload_n 3, 1) := by decide +kernel
theorem d_M_isArithmetic_349 : decode b_M_isArithmetic 349 = .ok (.lload 5, 2) := by decide +kernel
theorem d_M_isArithmetic_351 : decode b_M_isArithmetic 351 = .ok (.ladd, 1) := by decide +kernel
theorem d_M_isArithmetic_352 : decode b_M_isArithmetic 352 = .ok (.lstore 9, 2) := by decide +kernel
theorem d_M_isArithmetic_354 : decode b_M_isArithmetic 354 = .ok (.goto 230, 3) := by decide +kernel
theorem d_M_isArithmetic_357 : decode b_M_isArithmetic 357 = .ok (.lload_n 3, 1) := by decide +kernel
theorem d_M_isArithmetic_358 : decode b_M_isArithmetic 358 = .ok (.lload 5, 2) := by decide +kernel
theorem d_M_isArithmetic_360 : decode b_M_isArithmetic 360 = .ok (.lsub, 1) := by decide +kernel
theorem d_M_isArithmetic_361 : decode b_M_isArithmetic 361 = .ok (.lstore 9, 2) := by decide +kernel
theorem d_M_isArithmetic_363 : decode b_M_isArithmetic 363 = .ok (.goto 221, 3) := by decide +kernel
theorem d_M_isArithmetic_366 : decode b_M_isArithmetic 366 = .ok (.lload_n 3, 1) := by decide +kernel
theorem d_M_isArithmetic_367 : decode b_M_isArithmetic 367 = .ok (.lconst 0, 1) := by decide +kernel
theorem d_M_isArithmetic_368 : decode b_M_isArithmetic 368 = .ok (.lcmp, 1) := by decide +kernel
theorem d_M_isArithmetic_369 : decode b_M_isArithmetic 369 = .ok (.ifCond .eq 14, 3) := by decide +kernel
theorem d_M_isArithmetic_372 : decode b_M_isArithmetic 372 = .ok (.lload 5, 2) := by decide +kernel
theorem d_M_isArithmetic_374 : decode b_M_isArithmetic 374 = .ok (.lconst 0, 1) := by decide +kernel
theorem d_M_isArithmetic_375 : decode b_M_isArithmetic 375 = .ok (.lcmp, 1) := by decide +kernel
theorem d_M_isArithmetic_376 : decode b_M_isArithmetic 376 = .ok (.ifCond .eq 7, 3) := by decide +kernel
theorem d_M_isArithmetic_379 : decode b_M_isArithmetic 379 = .ok (.lconst 1, 1) := by decide +kernel
theorem d_M_isArithmetic_380 : decode b_M_isArithmetic 380 = .ok (.goto 4, 3) := by decide +kernel
theorem d_M_isArithmetic_383 : decode b_M_isArithmetic 383 = .ok (.lconst 0, 1) := by decide +kernel
theorem d_M_isArithmetic_384 : decode b_M_isArithmetic 384 = .ok (.lstore 9, 2) := by decide +kernel
theorem d_M_isArithmetic_386 : decode b_M_isArithmetic 386 = .ok (.goto 198, 3) := by decide +kernel
theorem d_M_isArithmetic_389 : decode b_M_isArithmetic 389 = .ok (.lload_n 3, 1) := by decide +kernel
theorem d_M_isArithmetic_390 : decode b_M_isArithmetic 390 = .ok (.lconst 0, 1) := by decide +kernel
theorem d_M_isArithmetic_391 : decode b_M_isArithmetic 391 = .ok (.lcmp, 1) := by decide +kernel
theorem d_M_isArithmetic_392 : decode b_M_isArithmetic 392 = .ok (.ifCond .ne 10, 3) := by decide +kernel
theorem d_M_isArithmetic_395 : decode b_M_isArithmetic 395 = .ok (.lload 5, 2) := by decide +kernel
theorem d_M_isArithmetic_397 : decode b_M_isArithmetic 397 = .ok (.lconst 0, 1) := by decide +kernel
theorem d_M_isArithmetic_398 : decode b_M_isArithmetic 398 = .ok (.lcmp, 1) := by decide +kernel
theorem d_M_isArithmetic_399 : decode b_M_isArithmetic 399 = .ok (.ifCond .eq 7, 3) := by decide +kernel
theorem d_M_isArithmetic_402 : decode b_M_isArithmetic 402 = .ok (.lconst 1, 1) := by decide +kernel
theorem d_M_isArithmetic_403 : decode b_M_isArithmetic 403 = .ok (.goto 4, 3) := by decide +kernel
theorem d_M_isArithmetic_406 : decode b_M_isArithmetic 406 = .ok (.lconst 0, 1) := by decide +kernel
theorem d_M_isArithmetic_407 : decode b_M_isArithmetic 407 = .ok (.lstore 9, 2) := by decide +kernel
theorem d_M_isArithmetic_409 : decode b_M_isArithmetic 409 = .ok (.goto 175, 3) := by decide +kernel
theorem d_M_isArithmetic_412 : decode b_M_isArithmetic 412 = .ok (.lload_n 3, 1) := by decide +kernel
theorem d_M_isArithmetic_413 : decode b_M_isArithmetic 413 = .ok (.lload 5, 2) := by decide +kernel
theorem d_M_isArithmetic_415 : decode b_M_isArithmetic 415 = .ok (.lcmp, 1) := by decide +kernel
theorem d_M_isArithmetic_416 : decode b_M_isArithmetic 416 = .ok (.ifCond .ne 7, 3) := by decide +kernel
theorem d_M_isArithmetic_419 : decode b_M_isArithmetic 419 = .ok (.lconst 1, 1) := by decide +kernel
theorem d_M_isArithmetic_420 : decode b_M_isArithmetic 420 = .ok (.goto 4, 3) := by decide +kernel
theorem d_M_isArithmetic_423 : decode b_M_isArithmetic 423 = .ok (.lconst 0, 1) := by decide +kernel
theorem d_M_isArithmetic_424 : decode b_M_isArithmetic 424 = .ok (.lstore 9, 2) := by decide +kernel
theorem d_M_isArithmetic_426 : decode b_M_isArithmetic 426 = .ok (.goto 158, 3) := by decide +kernel
theorem d_M_isArithmetic_429 : decode b_M_isArithmetic 429 = .ok (.lload_n 3, 1) := by decide +kernel
theorem d_M_isArithmetic_430 : decode b_M_isArithmetic 430 = .ok (.lload 5, 2) := by decide +kernel
theorem d_M_isArithmetic_432 : decode b_M_isArithmetic 432 = .ok (.lcmp, 1) := by decide +kernel
theorem d_M_isArithmetic_433 : decode b_M_isArithmetic 433 = .ok (.ifCond .ne 7, 3) := by decide +kernel
theorem d_M_isArithmetic_436 : decode b_M_isArithmetic 436 = .ok (.iconst 1, 1) := by decide +kernel
theorem d_M_isArithmetic_437 : decode b_M_isArithmetic 437 = .ok (.goto 4, 3) := by decide +kernel
theorem d_M_isArithmetic_440 : decode b_M_isArithmetic 440 = .ok (.iconst 0, 1) := by decide +kernel
theorem d_M_isArithmetic_441 : decode b_M_isArithmetic 441 = .ok (.ireturn, 1) := by decide +kernel
theorem d_M_isArithmetic_442 : decode b_M_isArithmetic 442 = .ok (.lload_n 3, 1) := by decide +kernel
theorem d_M_isArithmetic_443 : decode b_M_isArithmetic 443 = .ok (.lload 5, 2) := by decide +kernel
theorem d_M_isArithmetic_445 : decode b_M_isArithmetic 445 = .ok (.lcmp, 1) := by decide +kernel
theorem d_M_isArithmetic_446 : decode b_M_isArithmetic 446 = .ok (.ifCond .eq 7, 3) := by decide +kernel
theorem d_M_isArithmetic_449 : decode b_M_isArithmetic 449 = .ok (.lconst 1, 1) := by decide +kernel
theorem d_M_isArithmetic_450 : decode b_M_isArithmetic 450 = .ok (.goto 4, 3) := by decide +kernel
theorem d_M_isArithmetic_453 : decode b_M_isArithmetic 453 = .ok (.lconst 0, 1) := by decide +kernel
theorem d_M_isArithmetic_454 : decode b_M_isArithmetic 454 = .ok (.lstore 9, 2) := by decide +kernel
theorem d_M_isArithmetic_456 : decode b_M_isArithmetic 456 = .ok (.goto 128, 3) := by decide +kernel
theorem d_M_isArithmetic_459 : decode b_M_isArithmetic 459 = .ok (.lload_n 3, 1) := by decide +kernel
theorem d_M_isArithmetic_460 : decode b_M_isArithmetic 460 = .ok (.lload 5, 2) := by decide +kernel
theorem d_M_isArithmetic_462 : decode b_M_isArithmetic 462 = .ok (.lcmp, 1) := by decide +kernel
theorem d_M_isArithmetic_463 : decode b_M_isArithmetic 463 = .ok (.ifCond .ge 7, 3) := by decide +kernel
theorem d_M_isArithmetic_466 : decode b_M_isArithmetic 466 = .ok (.lconst 1, 1) := by decide +kernel
theorem d_M_isArithmetic_467 : decode b_M_isArithmetic 467 = .ok (.goto 4, 3) := by decide +kernel
theorem d_M_isArithmetic_470 : decode b_M_isArithmetic 470 = .ok (.lconst 0, 1) := by decide +kernel
theorem d_M_isArithmetic_471 : decode b_M_isArithmetic 471 = .ok (.lstore 9, 2) := by decide +kernel
theorem d_M_isArithmetic_473 : decode b_M_isArithmetic 473 = .ok (.goto 111, 3) := by decide +kernel
theorem d_M_isArithmetic_476 : decode b_M_isArithmetic 476 = .ok (.lload_n 3, 1) := by decide +kernel
theorem d_M_isArithmetic_477 : decode b_M_isArithmetic 477 = .ok (.lload 5, 2) := by decide +kernel
theorem d_M_isArithmetic_479 : decode b_M_isArithmetic 479 = .ok (.lcmp, 1) := by decide +kernel
theorem d_M_isArithmetic_480 : decode b_M_isArithmetic 480 = .ok (.ifCond .le 7, 3) := by decide +kernel
theorem d_M_isArithmetic_483 : decode b_M_isArithmetic 483 = .ok (.lconst 1, 1) := by decide +kernel
theorem d_M_isArithmetic_484 : decode b_M_isArithmetic 484 = .ok (.goto 4, 3) := by decide +kernel
theorem d_M_isArithmetic_487 : decode b_M_isArithmetic 487 = .ok (.lconst 0, 1) := by decide +kernel
theorem d_M_isArithmetic_488 : decode b_M_isArithmetic 488 = .ok (.lstore 9, 2) := by decide +kernel
theorem d_M_isArithmetic_490 : decode b_M_isArithmetic 490 = .ok (.goto 94, 3) := by decide +kernel
theorem d_M_isArithmetic_493 : decode b_M_isArithmetic 493 = .ok (.lload_n 3, 1) := by decide +kernel
theorem d_M_isArithmetic_494 : decode b_M_isArithmetic 494 = .ok (.lload 5, 2) := by decide +kernel
theorem d_M_isArithmetic_496 : decode b_M_isArithmetic 496 = .ok (.lcmp, 1) := by decide +kernel
theorem d_M_isArithmetic_497 : decode b_M_isArithmetic 497 = .ok (.ifCond .gt 7, 3) := by decide +kernel
theorem d_M_isArithmetic_500 : decode b_M_isArithmetic 500 = .ok (.lconst 1, 1) := by decide +kernel
theorem d_M_isArithmetic_501 : decode b_M_isArithmetic 501 = .ok (.goto 4, 3) := by decide +kernel
theorem d_M_isArithmetic_504 : decode b_M_isArithmetic 504 = .ok (.lconst 0, 1) := by decide +kernel
theorem d_M_isArithmetic_505 : decode b_M_isArithmetic 505 = .ok (.lstore 9, 2) := by decide +kernel
theorem d_M_isArithmetic_507 : decode b_M_isArithmetic 507 = .ok (.goto 77, 3) := by decide +kernel
theorem d_M_isArithmetic_510 : decode b_M_isArithmetic 510 = .ok (.lload_n 3, 1) := by decide +kernel
theorem d_M_isArithmetic_511 : decode b_M_isArithmetic 511 = .ok (.lload 5, 2) := by decide +kernel
theorem d_M_isArithmetic_513 : decode b_M_isArithmetic 513 = .ok (.lcmp, 1) := by decide +kernel
theorem d_M_isArithmetic_514 : decode b_M_isArithmetic 514 = .ok (.ifCond .lt 7, 3) := by decide +kernel
theorem d_M_isArithmetic_517 : decode b_M_isArithmetic 517 = .ok (.lconst 1, 1) := by decide +kernel
theorem d_M_isArithmetic_518 : decode b_M_isArithmetic 518 = .ok (.goto 4, 3) := by decide +kernel
theorem d_M_isArithmetic_521 : decode b_M_isArithmetic 521 = .ok (.lconst 0, 1) := by decide +kernel
theorem d_M_isArithmetic_522 : decode b_M_isArithmetic 522 = .ok (.lstore 9, 2) := by decide +kernel
theorem d_M_isArithmetic_524 : decode b_M_isArithmetic 524 = .ok (.goto 60, 3) := by decide +kernel
theorem d_M_isArithmetic_527 : decode b_M_isArithmetic 527 = .ok (.lload_n 3, 1) := by decide +kernel
theorem d_M_isArithmetic_528 : decode b_M_isArithmetic 528 = .ok (.lload 5, 2) := by decide +kernel
theorem d_M_isArithmetic_530 : decode b_M_isArithmetic 530 = .ok (.lcmp, 1) := by decide +kernel
theorem d_M_isArithmetic_531 : decode b_M_isArithmetic 531 = .ok (.ifCond .ge 7, 3) := by decide +kernel
theorem d_M_isArithmetic_534 : decode b_M_isArithmetic 534 = .ok (.lload_n 3, 1) := by decide +kernel
theorem d_M_isArithmetic_535 : decode b_M_isArithmetic 535 = .ok (.goto 5, 3) := by decide +kernel
theorem d_M_isArithmetic_538 : decode b_M_isArithmetic 538 = .ok (.lload 5, 2) := by decide +kernel
theorem d_M_isArithmetic_540 : decode b_M_isArithmetic 540 = .ok (.lstore 9, 2) := by decide +kernel
theorem d_M_isArithmetic_542 : decode b_M_isArithmetic 542 = .ok (.goto 42, 3) := by decide +kernel
theorem d_M_isArithmetic_545 : decode b_M_isArithmetic 545 = .ok (.lload_n 3, 1) := by decide +kernel
theorem d_M_isArithmetic_546 : decode b_M_isArithmetic 546 = .ok (.lload 5, 2) := by decide +kernel
theorem d_M_isArithmetic_548 : decode b_M_isArithmetic 548 = .ok (.lcmp, 1) := by decide +kernel
theorem d_M_isArithmetic_549 : decode b_M_isArithmetic 549 = .ok (.ifCond .le 7, 3) := by decide +kernel
theorem d_M_isArithmetic_552 : decode b_M_isArithmetic 552 = .ok (.lload_n 3, 1) := by decide +kernel
theorem d_M_isArithmetic_553 : decode b_M_isArithmetic 553 = .ok (.goto 5, 3) := by decide +kernel
theorem d_M_isArithmetic_556 : decode b_M_isArithmetic 556 = .ok (.lload 5, 2) := by decide +kernel
theorem d_M_isArithmetic_558 : decode b_M_isArithmetic 558 = .ok (.lstore 9, 2) := by decide +kernel
theorem d_M_isArithmetic_560 : decode b_M_isArithmetic 560 = .ok (.goto 24, 3) := by decide +kernel
theorem d_M_isArithmetic_563 : decode b_M_isArithmetic 563 = .ok (.lload_n 3, 1) := by decide +kernel
theorem d_M_isArithmetic_564 : decode b_M_isArithmetic 564 = .ok (.lload 5, 2) := by decide +kernel
theorem d_M_isArithmetic_566 : decode b_M_isArithmetic 566 = .ok (.lcmp, 1) := by decide +kernel
theorem d_M_isArithmetic_567 : decode b_M_isArithmetic 567 = .ok (.ifCond .lt 14, 3) := by decide +kernel
theorem d_M_isArithmetic_570 : decode b_M_isArithmetic 570 = .ok (.lload_n 3, 1) := by decide +kernel
theorem d_M_isArithmetic_571 : decode b_M_isArithmetic 571 = .ok (.lload 7, 2) := by decide +kernel
theorem d_M_isArithmetic_573 : decode b_M_isArithmetic 573 = .ok (.lcmp, 1) := by decide +kernel
theorem d_M_isArithmetic_574 : decode b_M_isArithmetic 574 = .ok (.ifCond .ge 7, 3) := by decide +kernel
theorem d_M_isArithmetic_577 : decode b_M_isArithmetic 577 = .ok (.lconst 1, 1) := by decide +kernel
theorem d_M_isArithmetic_578 : decode b_M_isArithmetic 578 = .ok (.goto 4, 3) := by decide +kernel
theorem d_M_isArithmetic_581 : decode b_M_isArithmetic 581 = .ok (.lconst 0, 1) := by decide +kernel
theorem d_M_isArithmetic_582 : decode b_M_isArithmetic 582 = .ok (.lstore 9, 2) := by decide +kernel
theorem d_M_isArithmetic_584 : decode b_M_isArithmetic 584 = .ok (.aload_n 0, 1) := by decide +kernel
theorem d_M_isArithmetic_585 : decode b_M_isArithmetic 585 = .ok (.lload 9, 2) := by decide +kernel
theorem d_M_isArithmetic_587 : decode b_M_isArithmetic 587 = .ok (.invokevirtual 442, 3) := by decide +kernel
theorem d_M_isArithmetic_590 : decode b_M_isArithmetic 590 = .ok (.iconst 1, 1) := by decide +kernel
theorem d_M_isArithmetic_591 : decode b_M_isArithmetic 591 = .ok (.ireturn, 1) := by decide +kernel
abbrev rm_M_isArithmetic : Room := { frames := 1, cells := 0, slots := 0, locals := 26 }
abbrev q_M_isArithmetic (D : va_G) (cy : Nat → ClassId) (A : Nat → Prop) (o : Nat) (q : Nat → Nat) (res : Int32 × (Nat → Int32) × (Nat → Int32) × (Nat → Int32)) : Array Value → State → Outcome → State → Prop := va_Qi (fun r' (_ : Unit) => r' = res.1) (fun _ t => Po D cy A [(o, .inr (12, mo q res.2.1)), ((q 68), .inl (cy 0, 104448, .inl res.2.2.1)), ((q 69), .inl (cy 1, 408, .inl res.2.2.2))] t) A
def I_M_isArithmetic_584 (p : Program) (l : Launch) (e : Env) (s : State) (m : MethodId) (args : Array Value) (below : List Frame) (meth : Method) (c : Code) (D : va_G) (cy : Nat → ClassId) (A : Nat → Prop) (ad : Nat → Nat) (o : Nat) (q : Nat → Nat) (k : Int64 → (Nat → Int32) → (Nat → Int32) → (Nat → Int32) → Option (Int32 × (Nat → Int32) × (Nat → Int32) × (Nat → Int32))) : Prop :=
  ∀ (x9 : Int64) (u0 : Nat → Int32) (u1 : Nat → Int32) (u2 : Nat → Int32) (res : Int32 × (Nat → Int32) × (Nat → Int32) × (Nat → Int32)), k x9 u0 u1 u2 = some res → ∀ (H : Heap) (locs : List Loc) (ls : Array Slot), va_P D classes [(o, .inr (12, mo q u0)), ((q 68), .inl (cy 0, 104448, .inl u1)), ((q 69), .inl (cy 1, 408, .inl u2))] H → va_D A [(o, .inr (12, mo q u0)), ((q 68), .inl (cy 0, 104448, .inl u1)), ((q 69), .inl (cy 1, 408, .inl u2))] → va_S A s.heap H locs → lv_has ls 11 [(0, .ref o), (9, .long x9)] → W p l e rm_M_isArithmetic s m args below meth c H locs 0 0 (MQ below (q_M_isArithmetic D cy A o q res) args s 0 0 A) (F0 m 584 ls [])
def I_M_isArithmetic_582 (p : Program) (l : Launch) (e : Env) (s : State) (m : MethodId) (args : Array Value) (below : List Frame) (meth : Method) (c : Code) (D : va_G) (cy : Nat → ClassId) (A : Nat → Prop) (ad : Nat → Nat) (o : Nat) (q : Nat → Nat) (k : Int64 → (Nat → Int32) → (Nat → Int32) → (Nat → Int32) → Option (Int32 × (Nat → Int32) × (Nat → Int32) × (Nat → Int32))) : Prop :=
  ∀ (y0 : Int64) (u0 : Nat → Int32) (u1 : Nat → Int32) (u2 : Nat → Int32) (res : Int32 × (Nat → Int32) × (Nat → Int32) × (Nat → Int32)), k y0 u0 u1 u2 = some res → ∀ (H : Heap) (locs : List Loc) (ls : Array Slot), va_P D classes [(o, .inr (12, mo q u0)), ((q 68), .inl (cy 0, 104448, .inl u1)), ((q 69), .inl (cy 1, 408, .inl u2))] H → va_D A [(o, .inr (12, mo q u0)), ((q 68), .inl (cy 0, 104448, .inl u1)), ((q 69), .inl (cy 1, 408, .inl u2))] → va_S A s.heap H locs → lv_has ls 11 [(0, .ref o)] → W p l e rm_M_isArithmetic s m args below meth c H locs 0 0 (MQ below (q_M_isArithmetic D cy A o q res) args s 0 0 A) (F0 m 582 ls [.long y0])
def I_M_isArithmetic_581 (p : Program) (l : Launch) (e : Env) (s : State) (m : MethodId) (args : Array Value) (below : List Frame) (meth : Method) (c : Code) (D : va_G) (cy : Nat → ClassId) (A : Nat → Prop) (ad : Nat → Nat) (o : Nat) (q : Nat → Nat) (k : (Nat → Int32) → (Nat → Int32) → (Nat → Int32) → Option (Int32 × (Nat → Int32) × (Nat → Int32) × (Nat → Int32))) : Prop :=
  ∀ (u0 : Nat → Int32) (u1 : Nat → Int32) (u2 : Nat → Int32) (res : Int32 × (Nat → Int32) × (Nat → Int32) × (Nat → Int32)), k u0 u1 u2 = some res → ∀ (H : Heap) (locs : List Loc) (ls : Array Slot), va_P D classes [(o, .inr (12, mo q u0)), ((q 68), .inl (cy 0, 104448, .inl u1)), ((q 69), .inl (cy 1, 408, .inl u2))] H → va_D A [(o, .inr (12, mo q u0)), ((q 68), .inl (cy 0, 104448, .inl u1)), ((q 69), .inl (cy 1, 408, .inl u2))] → va_S A s.heap H locs → lv_has ls 11 [(0, .ref o)] → W p l e rm_M_isArithmetic s m args below meth c H locs 0 0 (MQ below (q_M_isArithmetic D cy A o q res) args s 0 0 A) (F0 m 581 ls [])
def I_M_isArithmetic_563 (p : Program) (l : Launch) (e : Env) (s : State) (m : MethodId) (args : Array Value) (below : List Frame) (meth : Method) (c : Code) (D : va_G) (cy : Nat → ClassId) (A : Nat → Prop) (ad : Nat → Nat) (o : Nat) (q : Nat → Nat) (k : Int64 → Int64 → Int64 → (Nat → Int32) → (Nat → Int32) → (Nat → Int32) → Option (Int32 × (Nat → Int32) × (Nat → Int32) × (Nat → Int32))) : Prop :=
  ∀ (x3 : Int64) (x5 : Int64) (x7 : Int64) (u0 : Nat → Int32) (u1 : Nat → Int32) (u2 : Nat → Int32) (res : Int32 × (Nat → Int32) × (Nat → Int32) × (Nat → Int32)), k x3 x5 x7 u0 u1 u2 = some res → ∀ (H : Heap) (locs : List Loc) (ls : Array Slot), va_P D classes [(o, .inr (12, mo q u0)), ((q 68), .inl (cy 0, 104448, .inl u1)), ((q 69), .inl (cy 1, 408, .inl u2))] H → va_D A [(o, .inr (12, mo q u0)), ((q 68), .inl (cy 0, 104448, .inl u1)), ((q 69), .inl (cy 1, 408, .inl u2))] → va_S A s.heap H locs → lv_has ls 11 [(0, .ref o), (3, .long x3), (5, .long x5), (7, .long x7)] → W p l e rm_M_isArithmetic s m args below meth c H locs 0 0 (MQ below (q_M_isArithmetic D cy A o q res) args s 0 0 A) (F0 m 563 ls [])
def I_M_isArithmetic_311 (p : Program) (l : Launch) (e : Env) (s : State) (m : MethodId) (args : Array Value) (below : List Frame) (meth : Method) (c : Code) (D : va_G) (cy : Nat → ClassId) (A : Nat → Prop) (ad : Nat → Nat) (o : Nat) (q : Nat → Nat) (k : Int64 → (Nat → Int32) → (Nat → Int32) → (Nat → Int32) → Option (Int32 × (Nat → Int32) × (Nat → Int32) × (Nat → Int32))) : Prop :=
  ∀ (y0 : Int64) (u0 : Nat → Int32) (u1 : Nat → Int32) (u2 : Nat → Int32) (res : Int32 × (Nat → Int32) × (Nat → Int32) × (Nat → Int32)), k y0 u0 u1 u2 = some res → ∀ (H : Heap) (locs : List Loc) (ls : Array Slot), va_P D classes [(o, .inr (12, mo q u0)), ((q 68), .inl (cy 0, 104448, .inl u1)), ((q 69), .inl (cy 1, 408, .inl u2))] H → va_D A [(o, .inr (12, mo q u0)), ((q 68), .inl (cy 0, 104448, .inl u1)), ((q 69), .inl (cy 1, 408, .inl u2))] → va_S A s.heap H locs → lv_has ls 11 [(0, .ref o)] → W p l e rm_M_isArithmetic s m args below meth c H locs 0 0 (MQ below (q_M_isArithmetic D cy A o q res) args s 0 0 A) (F0 m 311 ls [.long y0])
def I_M_isArithmetic_327 (p : Program) (l : Launch) (e : Env) (s : State) (m : MethodId) (args : Array Value) (below : List Frame) (meth : Method) (c : Code) (D : va_G) (cy : Nat → ClassId) (A : Nat → Prop) (ad : Nat → Nat) (o : Nat) (q : Nat → Nat) (k : Int64 → (Nat → Int32) → (Nat → Int32) → (Nat → Int32) → Option (Int32 × (Nat → Int32) × (Nat → Int32) × (Nat → Int32))) : Prop :=
  ∀ (y0 : Int64) (u0 : Nat → Int32) (u1 : Nat → Int32) (u2 : Nat → Int32) (res : Int32 × (Nat → Int32) × (Nat → Int32) × (Nat → Int32)), k y0 u0 u1 u2 = some res → ∀ (H : Heap) (locs : List Loc) (ls : Array Slot), va_P D classes [(o, .inr (12, mo q u0)), ((q 68), .inl (cy 0, 104448, .inl u1)), ((q 69), .inl (cy 1, 408, .inl u2))] H → va_D A [(o, .inr (12, mo q u0)), ((q 68), .inl (cy 0, 104448, .inl u1)), ((q 69), .inl (cy 1, 408, .inl u2))] → va_S A s.heap H locs → lv_has ls 11 [(0, .ref o)] → W p l e rm_M_isArithmetic s m args below meth c H locs 0 0 (MQ below (q_M_isArithmetic D cy A o q res) args s 0 0 A) (F0 m 327 ls [.long y0])
def I_M_isArithmetic_343 (p : Program) (l : Launch) (e : Env) (s : State) (m : MethodId) (args : Array Value) (below : List Frame) (meth : Method) (c : Code) (D : va_G) (cy : Nat → ClassId) (A : Nat → Prop) (ad : Nat → Nat) (o : Nat) (q : Nat → Nat) (k : Int64 → (Nat → Int32) → (Nat → Int32) → (Nat → Int32) → Option (Int32 × (Nat → Int32) × (Nat → Int32) × (Nat → Int32))) : Prop :=
  ∀ (y0 : Int64) (u0 : Nat → Int32) (u1 : Nat → Int32) (u2 : Nat → Int32) (res : Int32 × (Nat → Int32) × (Nat → Int32) × (Nat → Int32)), k y0 u0 u1 u2 = some res → ∀ (H : Heap) (locs : List Loc) (ls : Array Slot), va_P D classes [(o, .inr (12, mo q u0)), ((q 68), .inl (cy 0, 104448, .inl u1)), ((q 69), .inl (cy 1, 408, .inl u2))] H → va_D A [(o, .inr (12, mo q u0)), ((q 68), .inl (cy 0, 104448, .inl u1)), ((q 69), .inl (cy 1, 408, .inl u2))] → va_S A s.heap H locs → lv_has ls 11 [(0, .ref o)] → W p l e rm_M_isArithmetic s m args below meth c H locs 0 0 (MQ below (q_M_isArithmetic D cy A o q res) args s 0 0 A) (F0 m 343 ls [.long y0])
def I_M_isArithmetic_384 (p : Program) (l : Launch) (e : Env) (s : State) (m : MethodId) (args : Array Value) (below : List Frame) (meth : Method) (c : Code) (D : va_G) (cy : Nat → ClassId) (A : Nat → Prop) (ad : Nat → Nat) (o : Nat) (q : Nat → Nat) (k : Int64 → (Nat → Int32) → (Nat → Int32) → (Nat → Int32) → Option (Int32 × (Nat → Int32) × (Nat → Int32) × (Nat → Int32))) : Prop :=
  ∀ (y0 : Int64) (u0 : Nat → Int32) (u1 : Nat → Int32) (u2 : Nat → Int32) (res : Int32 × (Nat → Int32) × (Nat → Int32) × (Nat → Int32)), k y0 u0 u1 u2 = some res → ∀ (H : Heap) (locs : List Loc) (ls : Array Slot), va_P D classes [(o, .inr (12, mo q u0)), ((q 68), .inl (cy 0, 104448, .inl u1)), ((q 69), .inl (cy 1, 408, .inl u2))] H → va_D A [(o, .inr (12, mo q u0)), ((q 68), .inl (cy 0, 104448, .inl u1)), ((q 69), .inl (cy 1, 408, .inl u2))] → va_S A s.heap H locs → lv_has ls 11 [(0, .ref o)] → W p l e rm_M_isArithmetic s m args below meth c H locs 0 0 (MQ below (q_M_isArithmetic D cy A o q res) args s 0 0 A) (F0 m 384 ls [.long y0])
def I_M_isArithmetic_383 (p : Program) (l : Launch) (e : Env) (s : State) (m : MethodId) (args : Array Value) (below : List Frame) (meth : Method) (c : Code) (D : va_G) (cy : Nat → ClassId) (A : Nat → Prop) (ad : Nat → Nat) (o : Nat) (q : Nat → Nat) (k : (Nat → Int32) → (Nat → Int32) → (Nat → Int32) → Option (Int32 × (Nat → Int32) × (Nat → Int32) × (Nat → Int32))) : Prop :=
  ∀ (u0 : Nat → Int32) (u1 : Nat → Int32) (u2 : Nat → Int32) (res : Int32 × (Nat → Int32) × (Nat → Int32) × (Nat → Int32)), k u0 u1 u2 = some res → ∀ (H : Heap) (locs : List Loc) (ls : Array Slot), va_P D classes [(o, .inr (12, mo q u0)), ((q 68), .inl (cy 0, 104448, .inl u1)), ((q 69), .inl (cy 1, 408, .inl u2))] H → va_D A [(o, .inr (12, mo q u0)), ((q 68), .inl (cy 0, 104448, .inl u1)), ((q 69), .inl (cy 1, 408, .inl u2))] → va_S A s.heap H locs → lv_has ls 11 [(0, .ref o)] → W p l e rm_M_isArithmetic s m args below meth c H locs 0 0 (MQ below (q_M_isArithmetic D cy A o q res) args s 0 0 A) (F0 m 383 ls [])
def I_M_isArithmetic_407 (p : Program) (l : Launch) (e : Env) (s : State) (m : MethodId) (args : Array Value) (below : List Frame) (meth : Method) (c : Code) (D : va_G) (cy : Nat → ClassId) (A : Nat → Prop) (ad : Nat → Nat) (o : Nat) (q : Nat → Nat) (k : Int64 → (Nat → Int32) → (Nat → Int32) → (Nat → Int32) → Option (Int32 × (Nat → Int32) × (Nat → Int32) × (Nat → Int32))) : Prop :=
  ∀ (y0 : Int64) (u0 : Nat → Int32) (u1 : Nat → Int32) (u2 : Nat → Int32) (res : Int32 × (Nat → Int32) × (Nat → Int32) × (Nat → Int32)), k y0 u0 u1 u2 = some res → ∀ (H : Heap) (locs : List Loc) (ls : Array Slot), va_P D classes [(o, .inr (12, mo q u0)), ((q 68), .inl (cy 0, 104448, .inl u1)), ((q 69), .inl (cy 1, 408, .inl u2))] H → va_D A [(o, .inr (12, mo q u0)), ((q 68), .inl (cy 0, 104448, .inl u1)), ((q 69), .inl (cy 1, 408, .inl u2))] → va_S A s.heap H locs → lv_has ls 11 [(0, .ref o)] → W p l e rm_M_isArithmetic s m args below meth c H locs 0 0 (MQ below (q_M_isArithmetic D cy A o q res) args s 0 0 A) (F0 m 407 ls [.long y0])
def I_M_isArithmetic_402 (p : Program) (l : Launch) (e : Env) (s : State) (m : MethodId) (args : Array Value) (below : List Frame) (meth : Method) (c : Code) (D : va_G) (cy : Nat → ClassId) (A : Nat → Prop) (ad : Nat → Nat) (o : Nat) (q : Nat → Nat) (k : (Nat → Int32) → (Nat → Int32) → (Nat → Int32) → Option (Int32 × (Nat → Int32) × (Nat → Int32) × (Nat → Int32))) : Prop :=
  ∀ (u0 : Nat → Int32) (u1 : Nat → Int32) (u2 : Nat → Int32) (res : Int32 × (Nat → Int32) × (Nat → Int32) × (Nat → Int32)), k u0 u1 u2 = some res → ∀ (H : Heap) (locs : List Loc) (ls : Array Slot), va_P D classes [(o, .inr (12, mo q u0)), ((q 68), .inl (cy 0, 104448, .inl u1)), ((q 69), .inl (cy 1, 408, .inl u2))] H → va_D A [(o, .inr (12, mo q u0)), ((q 68), .inl (cy 0, 104448, .inl u1)), ((q 69), .inl (cy 1, 408, .inl u2))] → va_S A s.heap H locs → lv_has ls 11 [(0, .ref o)] → W p l e rm_M_isArithmetic s m args below meth c H locs 0 0 (MQ below (q_M_isArithmetic D cy A o q res) args s 0 0 A) (F0 m 402 ls [])
def I_M_isArithmetic_424 (p : Program) (l : Launch) (e : Env) (s : State) (m : MethodId) (args : Array Value) (below : List Frame) (meth : Method) (c : Code) (D : va_G) (cy : Nat → ClassId) (A : Nat → Prop) (ad : Nat → Nat) (o : Nat) (q : Nat → Nat) (k : Int64 → (Nat → Int32) → (Nat → Int32) → (Nat → Int32) → Option (Int32 × (Nat → Int32) × (Nat → Int32) × (Nat → Int32))) : Prop :=
  ∀ (y0 : Int64) (u0 : Nat → Int32) (u1 : Nat → Int32) (u2 : Nat → Int32) (res : Int32 × (Nat → Int32) × (Nat → Int32) × (Nat → Int32)), k y0 u0 u1 u2 = some res → ∀ (H : Heap) (locs : List Loc) (ls : Array Slot), va_P D classes [(o, .inr (12, mo q u0)), ((q 68), .inl (cy 0, 104448, .inl u1)), ((q 69), .inl (cy 1, 408, .inl u2))] H → va_D A [(o, .inr (12, mo q u0)), ((q 68), .inl (cy 0, 104448, .inl u1)), ((q 69), .inl (cy 1, 408, .inl u2))] → va_S A s.heap H locs → lv_has ls 11 [(0, .ref o)] → W p l e rm_M_isArithmetic s m args below meth c H locs 0 0 (MQ below (q_M_isArithmetic D cy A o q res) args s 0 0 A) (F0 m 424 ls [.long y0])
def I_M_isArithmetic_454 (p : Program) (l : Launch) (e : Env) (s : State) (m : MethodId) (args : Array Value) (below : List Frame) (meth : Method) (c : Code) (D : va_G) (cy : Nat → ClassId) (A : Nat → Prop) (ad : Nat → Nat) (o : Nat) (q : Nat → Nat) (k : Int64 → (Nat → Int32) → (Nat → Int32) → (Nat → Int32) → Option (Int32 × (Nat → Int32) × (Nat → Int32) × (Nat → Int32))) : Prop :=
  ∀ (y0 : Int64) (u0 : Nat → Int32) (u1 : Nat → Int32) (u2 : Nat → Int32) (res : Int32 × (Nat → Int32) × (Nat → Int32) × (Nat → Int32)), k y0 u0 u1 u2 = some res → ∀ (H : Heap) (locs : List Loc) (ls : Array Slot), va_P D classes [(o, .inr (12, mo q u0)), ((q 68), .inl (cy 0, 104448, .inl u1)), ((q 69), .inl (cy 1, 408, .inl u2))] H → va_D A [(o, .inr (12, mo q u0)), ((q 68), .inl (cy 0, 104448, .inl u1)), ((q 69), .inl (cy 1, 408, .inl u2))] → va_S A s.heap H locs → lv_has ls 11 [(0, .ref o)] → W p l e rm_M_isArithmetic s m args below meth c H locs 0 0 (MQ below (q_M_isArithmetic D cy A o q res) args s 0 0 A) (F0 m 454 ls [.long y0])
def I_M_isArithmetic_471 (p : Program) (l : Launch) (e : Env) (s : State) (m : MethodId) (args : Array Value) (below : List Frame) (meth : Method) (c : Code) (D : va_G) (cy : Nat → ClassId) (A : Nat → Prop) (ad : Nat → Nat) (o : Nat) (q : Nat → Nat) (k : Int64 → (Nat → Int32) → (Nat → Int32) → (Nat → Int32) → Option (Int32 × (Nat → Int32) × (Nat → Int32) × (Nat → Int32))) : Prop :=
  ∀ (y0 : Int64) (u0 : Nat → Int32) (u1 : Nat → Int32) (u2 : Nat → Int32) (res : Int32 × (Nat → Int32) × (Nat → Int32) × (Nat → Int32)), k y0 u0 u1 u2 = some res → ∀ (H : Heap) (locs : List Loc) (ls : Array Slot), va_P D classes [(o, .inr (12, mo q u0)), ((q 68), .inl (cy 0, 104448, .inl u1)), ((q 69), .inl (cy 1, 408, .inl u2))] H → va_D A [(o, .inr (12, mo q u0)), ((q 68), .inl (cy 0, 104448, .inl u1)), ((q 69), .inl (cy 1, 408, .inl u2))] → va_S A s.heap H locs → lv_has ls 11 [(0, .ref o)] → W p l e rm_M_isArithmetic s m args below meth c H locs 0 0 (MQ below (q_M_isArithmetic D cy A o q res) args s 0 0 A) (F0 m 471 ls [.long y0])
def I_M_isArithmetic_488 (p : Program) (l : Launch) (e : Env) (s : State) (m : MethodId) (args : Array Value) (below : List Frame) (meth : Method) (c : Code) (D : va_G) (cy : Nat → ClassId) (A : Nat → Prop) (ad : Nat → Nat) (o : Nat) (q : Nat → Nat) (k : Int64 → (Nat → Int32) → (Nat → Int32) → (Nat → Int32) → Option (Int32 × (Nat → Int32) × (Nat → Int32) × (Nat → Int32))) : Prop :=
  ∀ (y0 : Int64) (u0 : Nat → Int32) (u1 : Nat → Int32) (u2 : Nat → Int32) (res : Int32 × (Nat → Int32) × (Nat → Int32) × (Nat → Int32)), k y0 u0 u1 u2 = some res → ∀ (H : Heap) (locs : List Loc) (ls : Array Slot), va_P D classes [(o, .inr (12, mo q u0)), ((q 68), .inl (cy 0, 104448, .inl u1)), ((q 69), .inl (cy 1, 408, .inl u2))] H → va_D A [(o, .inr (12, mo q u0)), ((q 68), .inl (cy 0, 104448, .inl u1)), ((q 69), .inl (cy 1, 408, .inl u2))] → va_S A s.heap H locs → lv_has ls 11 [(0, .ref o)] → W p l e rm_M_isArithmetic s m args below meth c H locs 0 0 (MQ below (q_M_isArithmetic D cy A o q res) args s 0 0 A) (F0 m 488 ls [.long y0])
def I_M_isArithmetic_505 (p : Program) (l : Launch) (e : Env) (s : State) (m : MethodId) (args : Array Value) (below : List Frame) (meth : Method) (c : Code) (D : va_G) (cy : Nat → ClassId) (A : Nat → Prop) (ad : Nat → Nat) (o : Nat) (q : Nat → Nat) (k : Int64 → (Nat → Int32) → (Nat → Int32) → (Nat → Int32) → Option (Int32 × (Nat → Int32) × (Nat → Int32) × (Nat → Int32))) : Prop :=
  ∀ (y0 : Int64) (u0 : Nat → Int32) (u1 : Nat → Int32) (u2 : Nat → Int32) (res : Int32 × (Nat → Int32) × (Nat → Int32) × (Nat → Int32)), k y0 u0 u1 u2 = some res → ∀ (H : Heap) (locs : List Loc) (ls : Array Slot), va_P D classes [(o, .inr (12, mo q u0)), ((q 68), .inl (cy 0, 104448, .inl u1)), ((q 69), .inl (cy 1, 408, .inl u2))] H → va_D A [(o, .inr (12, mo q u0)), ((q 68), .inl (cy 0, 104448, .inl u1)), ((q 69), .inl (cy 1, 408, .inl u2))] → va_S A s.heap H locs → lv_has ls 11 [(0, .ref o)] → W p l e rm_M_isArithmetic s m args below meth c H locs 0 0 (MQ below (q_M_isArithmetic D cy A o q res) args s 0 0 A) (F0 m 505 ls [.long y0])
def I_M_isArithmetic_522 (p : Program) (l : Launch) (e : Env) (s : State) (m : MethodId) (args : Array Value) (below : List Frame) (meth : Method) (c : Code) (D : va_G) (cy : Nat → ClassId) (A : Nat → Prop) (ad : Nat → Nat) (o : Nat) (q : Nat → Nat) (k : Int64 → (Nat → Int32) → (Nat → Int32) → (Nat → Int32) → Option (Int32 × (Nat → Int32) × (Nat → Int32) × (Nat → Int32))) : Prop :=
  ∀ (y0 : Int64) (u0 : Nat → Int32) (u1 : Nat → Int32) (u2 : Nat → Int32) (res : Int32 × (Nat → Int32) × (Nat → Int32) × (Nat → Int32)), k y0 u0 u1 u2 = some res → ∀ (H : Heap) (locs : List Loc) (ls : Array Slot), va_P D classes [(o, .inr (12, mo q u0)), ((q 68), .inl (cy 0, 104448, .inl u1)), ((q 69), .inl (cy 1, 408, .inl u2))] H → va_D A [(o, .inr (12, mo q u0)), ((q 68), .inl (cy 0, 104448, .inl u1)), ((q 69), .inl (cy 1, 408, .inl u2))] → va_S A s.heap H locs → lv_has ls 11 [(0, .ref o)] → W p l e rm_M_isArithmetic s m args below meth c H locs 0 0 (MQ below (q_M_isArithmetic D cy A o q res) args s 0 0 A) (F0 m 522 ls [.long y0])
def I_M_isArithmetic_540 (p : Program) (l : Launch) (e : Env) (s : State) (m : MethodId) (args : Array Value) (below : List Frame) (meth : Method) (c : Code) (D : va_G) (cy : Nat → ClassId) (A : Nat → Prop) (ad : Nat → Nat) (o : Nat) (q : Nat → Nat) (k : Int64 → (Nat → Int32) → (Nat → Int32) → (Nat → Int32) → Option (Int32 × (Nat → Int32) × (Nat → Int32) × (Nat → Int32))) : Prop :=
  ∀ (y0 : Int64) (u0 : Nat → Int32) (u1 : Nat → Int32) (u2 : Nat → Int32) (res : Int32 × (Nat → Int32) × (Nat → Int32) × (Nat → Int32)), k y0 u0 u1 u2 = some res → ∀ (H : Heap) (locs : List Loc) (ls : Array Slot), va_P D classes [(o, .inr (12, mo q u0)), ((q 68), .inl (cy 0, 104448, .inl u1)), ((q 69), .inl (cy 1, 408, .inl u2))] H → va_D A [(o, .inr (12, mo q u0)), ((q 68), .inl (cy 0, 104448, .inl u1)), ((q 69), .inl (cy 1, 408, .inl u2))] → va_S A s.heap H locs → lv_has ls 11 [(0, .ref o)] → W p l e rm_M_isArithmetic s m args below meth c H locs 0 0 (MQ below (q_M_isArithmetic D cy A o q res) args s 0 0 A) (F0 m 540 ls [.long y0])
def I_M_isArithmetic_558 (p : Program) (l : Launch) (e : Env) (s : State) (m : MethodId) (args : Array Value) (below : List Frame) (meth : Method) (c : Code) (D : va_G) (cy : Nat → ClassId) (A : Nat → Prop) (ad : Nat → Nat) (o : Nat) (q : Nat → Nat) (k : Int64 → (Nat → Int32) → (Nat → Int32) → (Nat → Int32) → Option (Int32 × (Nat → Int32) × (Nat → Int32) × (Nat → Int32))) : Prop :=
  ∀ (y0 : Int64) (u0 : Nat → Int32) (u1 : Nat → Int32) (u2 : Nat → Int32) (res : Int32 × (Nat → Int32) × (Nat → Int32) × (Nat → Int32)), k y0 u0 u1 u2 = some res → ∀ (H : Heap) (locs : List Loc) (ls : Array Slot), va_P D classes [(o, .inr (12, mo q u0)), ((q 68), .inl (cy 0, 104448, .inl u1)), ((q 69), .inl (cy 1, 408, .inl u2))] H → va_D A [(o, .inr (12, mo q u0)), ((q 68), .inl (cy 0, 104448, .inl u1)), ((q 69), .inl (cy 1, 408, .inl u2))] → va_S A s.heap H locs → lv_has ls 11 [(0, .ref o)] → W p l e rm_M_isArithmetic s m args below meth c H locs 0 0 (MQ below (q_M_isArithmetic D cy A o q res) args s 0 0 A) (F0 m 558 ls [.long y0])
def I_M_isArithmetic_143 (p : Program) (l : Launch) (e : Env) (s : State) (m : MethodId) (args : Array Value) (below : List Frame) (meth : Method) (c : Code) (D : va_G) (cy : Nat → ClassId) (A : Nat → Prop) (ad : Nat → Nat) (o : Nat) (q : Nat → Nat) (k : Int32 → Int32 → Int64 → Int64 → Int64 → (Nat → Int32) → (Nat → Int32) → (Nat → Int32) → Option (Int32 × (Nat → Int32) × (Nat → Int32) × (Nat → Int32))) : Prop :=
  ∀ (x1 : Int32) (x2 : Int32) (x3 : Int64) (x5 : Int64) (y0 : Int64) (u0 : Nat → Int32) (u1 : Nat → Int32) (u2 : Nat → Int32) (res : Int32 × (Nat → Int32) × (Nat → Int32) × (Nat → Int32)), k x1 x2 x3 x5 y0 u0 u1 u2 = some res → ∀ (H : Heap) (locs : List Loc) (ls : Array Slot), va_P D classes [(o, .inr (12, mo q u0)), ((q 68), .inl (cy 0, 104448, .inl u1)), ((q 69), .inl (cy 1, 408, .inl u2))] H → va_D A [(o, .inr (12, mo q u0)), ((q 68), .inl (cy 0, 104448, .inl u1)), ((q 69), .inl (cy 1, 408, .inl u2))] → va_S A s.heap H locs → lv_has ls 11 [(0, .ref o), (1, .int x1), (2, .int x2), (3, .long x3), (5, .long x5)] → W p l e rm_M_isArithmetic s m args below meth c H locs 0 0 (MQ below (q_M_isArithmetic D cy A o q res) args s 0 0 A) (F0 m 143 ls [.long y0])
def I_M_isArithmetic_122 (p : Program) (l : Launch) (e : Env) (s : State) (m : MethodId) (args : Array Value) (below : List Frame) (meth : Method) (c : Code) (D : va_G) (cy : Nat → ClassId) (A : Nat → Prop) (ad : Nat → Nat) (o : Nat) (q : Nat → Nat) (k : Int32 → Int32 → Int64 → Int64 → (Nat → Int32) → (Nat → Int32) → (Nat → Int32) → Option (Int32 × (Nat → Int32) × (Nat → Int32) × (Nat → Int32))) : Prop :=
  ∀ (x1 : Int32) (x2 : Int32) (x3 : Int64) (y0 : Int64) (u0 : Nat → Int32) (u1 : Nat → Int32) (u2 : Nat → Int32) (res : Int32 × (Nat → Int32) × (Nat → Int32) × (Nat → Int32)), k x1 x2 x3 y0 u0 u1 u2 = some res → ∀ (H : Heap) (locs : List Loc) (ls : Array Slot), va_P D classes [(o, .inr (12, mo q u0)), ((q 68), .inl (cy 0, 104448, .inl u1)), ((q 69), .inl (cy 1, 408, .inl u2))] H → va_D A [(o, .inr (12, mo q u0)), ((q 68), .inl (cy 0, 104448, .inl u1)), ((q 69), .inl (cy 1, 408, .inl u2))] → va_S A s.heap H locs → lv_has ls 11 [(0, .ref o), (1, .int x1), (2, .int x2), (3, .long x3)] → W p l e rm_M_isArithmetic s m args below meth c H locs 0 0 (MQ below (q_M_isArithmetic D cy A o q res) args s 0 0 A) (F0 m 122 ls [.long y0])
def I_M_isArithmetic_64 (p : Program) (l : Launch) (e : Env) (s : State) (m : MethodId) (args : Array Value) (below : List Frame) (meth : Method) (c : Code) (D : va_G) (cy : Nat → ClassId) (A : Nat → Prop) (ad : Nat → Nat) (o : Nat) (q : Nat → Nat) (k : Int32 → Int32 → Int32 → (Nat → Int32) → (Nat → Int32) → (Nat → Int32) → Option (Int32 × (Nat → Int32) × (Nat → Int32) × (Nat → Int32))) : Prop :=
  ∀ (x1 : Int32) (x2 : Int32) (x3 : Int32) (u0 : Nat → Int32) (u1 : Nat → Int32) (u2 : Nat → Int32) (res : Int32 × (Nat → Int32) × (Nat → Int32) × (Nat → Int32)), k x1 x2 x3 u0 u1 u2 = some res → ∀ (H : Heap) (locs : List Loc) (ls : Array Slot), va_P D classes [(o, .inr (12, mo q u0)), ((q 68), .inl (cy 0, 104448, .inl u1)), ((q 69), .inl (cy 1, 408, .inl u2))] H → va_D A [(o, .inr (12, mo q u0)), ((q 68), .inl (cy 0, 104448, .inl u1)), ((q 69), .inl (cy 1, 408, .inl u2))] → va_S A s.heap H locs → lv_has ls 11 [(0, .ref o), (1, .int x1), (2, .int x2), (3, .int x3)] → W p l e rm_M_isArithmetic s m args below meth c H locs 0 0 (MQ below (q_M_isArithmetic D cy A o q res) args s 0 0 A) (F0 m 64 ls [])
def I_M_isArithmetic_52 (p : Program) (l : Launch) (e : Env) (s : State) (m : MethodId) (args : Array Value) (below : List Frame) (meth : Method) (c : Code) (D : va_G) (cy : Nat → ClassId) (A : Nat → Prop) (ad : Nat → Nat) (o : Nat) (q : Nat → Nat) (k : Int32 → Int32 → (Nat → Int32) → (Nat → Int32) → (Nat → Int32) → Option (Int32 × (Nat → Int32) × (Nat → Int32) × (Nat → Int32))) : Prop :=
  ∀ (x1 : Int32) (x2 : Int32) (u0 : Nat → Int32) (u1 : Nat → Int32) (u2 : Nat → Int32) (res : Int32 × (Nat → Int32) × (Nat → Int32) × (Nat → Int32)), k x1 x2 u0 u1 u2 = some res → ∀ (H : Heap) (locs : List Loc) (ls : Array Slot), va_P D classes [(o, .inr (12, mo q u0)), ((q 68), .inl (cy 0, 104448, .inl u1)), ((q 69), .inl (cy 1, 408, .inl u2))] H → va_D A [(o, .inr (12, mo q u0)), ((q 68), .inl (cy 0, 104448, .inl u1)), ((q 69), .inl (cy 1, 408, .inl u2))] → va_S A s.heap H locs → lv_has ls 11 [(0, .ref o), (1, .int x1), (2, .int x2)] → W p l e rm_M_isArithmetic s m args below meth c H locs 0 0 (MQ below (q_M_isArithmetic D cy A o q res) args s 0 0 A) (F0 m 52 ls [])
def I_M_isArithmetic_23 (p : Program) (l : Launch) (e : Env) (s : State) (m : MethodId) (args : Array Value) (below : List Frame) (meth : Method) (c : Code) (D : va_G) (cy : Nat → ClassId) (A : Nat → Prop) (ad : Nat → Nat) (o : Nat) (q : Nat → Nat) (k : Int32 → Int32 → (Nat → Int32) → (Nat → Int32) → (Nat → Int32) → Option (Int32 × (Nat → Int32) × (Nat → Int32) × (Nat → Int32))) : Prop :=
  ∀ (x1 : Int32) (y0 : Int32) (u0 : Nat → Int32) (u1 : Nat → Int32) (u2 : Nat → Int32) (res : Int32 × (Nat → Int32) × (Nat → Int32) × (Nat → Int32)), k x1 y0 u0 u1 u2 = some res → ∀ (H : Heap) (locs : List Loc) (ls : Array Slot), va_P D classes [(o, .inr (12, mo q u0)), ((q 68), .inl (cy 0, 104448, .inl u1)), ((q 69), .inl (cy 1, 408, .inl u2))] H → va_D A [(o, .inr (12, mo q u0)), ((q 68), .inl (cy 0, 104448, .inl u1)), ((q 69), .inl (cy 1, 408, .inl u2))] → va_S A s.heap H locs → lv_has ls 11 [(0, .ref o), (1, .int x1)] → W p l e rm_M_isArithmetic s m args below meth c H locs 0 0 (MQ below (q_M_isArithmetic D cy A o q res) args s 0 0 A) (F0 m 23 ls [.int y0])
def I_M_isArithmetic_e (p : Program) (l : Launch) (e : Env) (s : State) (m : MethodId) (args : Array Value) (below : List Frame) (meth : Method) (c : Code) (D : va_G) (cy : Nat → ClassId) (A : Nat → Prop) (ad : Nat → Nat) (o : Nat) (q : Nat → Nat) (k : Int32 → (Nat → Int32) → (Nat → Int32) → (Nat → Int32) → Option (Int32 × (Nat → Int32) × (Nat → Int32) × (Nat → Int32))) : Prop :=
  ∀ (a1 : Int32) (u0 : Nat → Int32) (u1 : Nat → Int32) (u2 : Nat → Int32) (res : Int32 × (Nat → Int32) × (Nat → Int32) × (Nat → Int32)), k a1 u0 u1 u2 = some res → ∀ (H : Heap) (locs : List Loc) (ls : Array Slot), va_P D classes [(o, .inr (12, mo q u0)), ((q 68), .inl (cy 0, 104448, .inl u1)), ((q 69), .inl (cy 1, 408, .inl u2))] H → va_D A [(o, .inr (12, mo q u0)), ((q 68), .inl (cy 0, 104448, .inl u1)), ((q 69), .inl (cy 1, 408, .inl u2))] → va_S A s.heap H locs → lv_has ls 11 [(0, .ref o), (1, .int a1)] → W p l e rm_M_isArithmetic s m args below meth c H locs 0 0 (MQ below (q_M_isArithmetic D cy A o q res) args s 0 0 A) (F0 m 0 ls [])
theorem hdm_37 : ({ cls := "CoinKeeperModel", name := "pushNumber", desc := "(J)V" } : Jvm.MethodName).cls ≠ "java/lang/invoke/MethodHandle" ∧ ({ cls := "CoinKeeperModel", name := "pushNumber", desc := "(J)V" } : Jvm.MethodName).cls ≠ "java/lang/invoke/VarHandle" ∧ (parseMethodDescriptor ({ cls := "CoinKeeperModel", name := "pushNumber", desc := "(J)V" } : Jvm.MethodName).desc).map (fun d => d.parameters.length) = some 1 := by decide +kernel
set_option maxHeartbeats 8000000 in
set_option maxRecDepth 100000 in
theorem wb_M_isArithmetic_584 {p : Program} {l : Launch} {e : Env} {s : State} {m : MethodId} {args : Array Value} {below : List Frame} {meth : Method} {c : Code} {D : va_G} {cy : Nat → ClassId} {A : Nat → Prop} {ad : Nat → Nat} {o : Nat} {q : Nat → Nat} {fu : Nat} (F : Fx p s m args meth c b_M_isArithmetic 11 "CoinKeeperModel" "isArithmetic" (some .boolean) D cy ad A) : I_M_isArithmetic_584 p l e s m args below meth c D cy A ad o q (xb_M_isArithmetic_584 fu) := by
  obtain ⟨hx, hb, hr, hml, hown, hts, hlocks, hK, hA, hSt, hnm, hex⟩ := id F
  intro x9 u0 u1 u2 res hf H locs ls hP hD hS hl
  unfold xb_M_isArithmetic_584 at hf
  refine lv_aload_n hx hb d_M_isArithmetic_584 rfl (lv_at hl 0 rfl) ?_
  refine lv_lload hx hb d_M_isArithmetic_585 (lv_at hl 1 rfl) ?_
  obtain ⟨f1, f2, f3, hc, hf⟩ := bdp3 hf
  refine q_av (wr := []) (va_runV (C := "CoinKeeperModel") (As := [.long x9]) (rest := []) ⟨hx, hb, hml, hown, hts⟩ (c_M_pushNumber l D cy ad fu o q x9 u0 u1 u2 _ hc H.size) ⟨q_cB hts gw_1831 gw_18 gw_1828 hdm_37 ⟨by decide, by decide⟩, hts _ gw_1830, hts _ gs_83⟩ (q_preV (q_pre (hP.sub [0, 1, 2] rfl) (hD.sub [0, 1, 2] (by decide) rfl) hK hSt hS (va_free hD hS hA [0, 1, 2] rfl) _) (va_recv hK (hP.sub [0, 1, 2] rfl) (ci := 12) (q0 := 0) rfl rfl)) rfl rfl hl.1 rfl (lv_room (Nat.le_of_ble_eq_true rfl)) d_M_isArithmetic_587 ⟨Nat.le_of_ble_eq_true rfl, Nat.le_of_ble_eq_true rfl⟩) hP hD hS hA [0, 1, 2] [] rfl rfl (by decide) (by decide) (fun H locs hP hD hS => ?_)
  clear hc
  have hP : va_P D classes [(o, .inr (12, mo q f1)), ((q 68), .inl (cy 0, 104448, .inl f2)), ((q 69), .inl (cy 1, 408, .inl f3))] H := hP
  have hD : va_D A [(o, .inr (12, mo q f1)), ((q 68), .inl (cy 0, 104448, .inl f2)), ((q 69), .inl (cy 1, 408, .inl f3))] := hD
  refine lv_iconst (v := 1) hx hb d_M_isArithmetic_590 (by decide) ?_
  obtain rfl := Option.some.inj hf
  exact q_rz hx hb hr hlocks hK hP hD hS (isb_n (v := 1) (by decide)) d_M_isArithmetic_591
set_option maxHeartbeats 8000000 in
set_option maxRecDepth 100000 in
theorem wb_M_isArithmetic_582 {p : Program} {l : Launch} {e : Env} {s : State} {m : MethodId} {args : Array Value} {below : List Frame} {meth : Method} {c : Code} {D : va_G} {cy : Nat → ClassId} {A : Nat → Prop} {ad : Nat → Nat} {o : Nat} {q : Nat → Nat} {fu : Nat} (F : Fx p s m args meth c b_M_isArithmetic 11 "CoinKeeperModel" "isArithmetic" (some .boolean) D cy ad A) : I_M_isArithmetic_582 p l e s m args below meth c D cy A ad o q (xb_M_isArithmetic_582 fu) := by
  obtain ⟨hx, hb, hr, hml, hown, hts, hlocks, hK, hA, hSt, hnm, hex⟩ := id F
  intro y0 u0 u1 u2 res hf H locs ls hP hD hS hl
  unfold xb_M_isArithmetic_582 at hf
  refine lv_lstore (lv' := [(9, .long y0), (0, .ref o)]) hx hb d_M_isArithmetic_582 hl (by decide) rfl (fun ls hl => ?_)
  exact wb_M_isArithmetic_584 (fu := fu) F _ _ _ _ _ hf _ _ _ hP hD hS (lv_sub hl [1, 0] rfl)
set_option maxHeartbeats 8000000 in
set_option maxRecDepth 100000 in
theorem wb_M_isArithmetic_581 {p : Program} {l : Launch} {e : Env} {s : State} {m : MethodId} {args : Array Value} {below : List Frame} {meth : Method} {c : Code} {D : va_G} {cy : Nat → ClassId} {A : Nat → Prop} {ad : Nat → Nat} {o : Nat} {q : Nat → Nat} {fu : Nat} (F : Fx p s m args meth c b_M_isArithmetic 11 "CoinKeeperModel" "isArithmetic" (some .boolean) D cy ad A) : I_M_isArithmetic_581 p l e s m args below meth c D cy A ad o q (xb_M_isArithmetic_581 fu) := by
  obtain ⟨hx, hb, hr, hml, hown, hts, hlocks, hK, hA, hSt, hnm, hex⟩ := id F
  intro u0 u1 u2 res hf H locs ls hP hD hS hl
  unfold xb_M_isArithmetic_581 at hf
  refine lv_lconst (v := 0) hx hb d_M_isArithmetic_581 (by decide) ?_
  exact wb_M_isArithmetic_582 (fu := fu) F _ _ _ _ _ hf _ _ _ hP hD hS (lv_sub hl [0] rfl)
set_option maxHeartbeats 8000000 in
set_option maxRecDepth 100000 in
theorem wb_M_isArithmetic_563 {p : Program} {l : Launch} {e : Env} {s : State} {m : MethodId} {args : Array Value} {below : List Frame} {meth : Method} {c : Code} {D : va_G} {cy : Nat → ClassId} {A : Nat → Prop} {ad : Nat → Nat} {o : Nat} {q : Nat → Nat} {fu : Nat} (F : Fx p s m args meth c b_M_isArithmetic 11 "CoinKeeperModel" "isArithmetic" (some .boolean) D cy ad A) : I_M_isArithmetic_563 p l e s m args below meth c D cy A ad o q (xb_M_isArithmetic_563 fu) := by
  obtain ⟨hx, hb, hr, hml, hown, hts, hlocks, hK, hA, hSt, hnm, hex⟩ := id F
  intro x3 x5 x7 u0 u1 u2 res hf H locs ls hP hD hS hl
  unfold xb_M_isArithmetic_563 at hf
  refine lv_lload_n hx hb d_M_isArithmetic_563 rfl (lv_at hl 1 rfl) ?_
  refine lv_lload hx hb d_M_isArithmetic_564 (lv_at hl 2 rfl) ?_
  refine W.lcmp hx hb d_M_isArithmetic_566 ?_
  refine lv_if_lt (tgt := 581) hx hb d_M_isArithmetic_567 (by decide) (fun cx => ?_) (fun cx => ?_)
  · have hf := ifp cx hf
    exact wb_M_isArithmetic_581 (fu := fu) F _ _ _ _ hf _ _ _ hP hD hS (lv_sub hl [0] rfl)
  · have hf := ifn cx hf
    refine lv_lload_n hx hb d_M_isArithmetic_570 rfl (lv_at hl 1 rfl) ?_
    refine lv_lload hx hb d_M_isArithmetic_571 (lv_at hl 3 rfl) ?_
    refine W.lcmp hx hb d_M_isArithmetic_573 ?_
    refine lv_if_ge (tgt := 581) hx hb d_M_isArithmetic_574 (by decide) (fun cx => ?_) (fun cx => ?_)
    · have hf := ifp cx hf
      exact wb_M_isArithmetic_581 (fu := fu) F _ _ _ _ hf _ _ _ hP hD hS (lv_sub hl [0] rfl)
    · have hf := ifn cx hf
      refine lv_lconst (v := 1) hx hb d_M_isArithmetic_577 (by decide) ?_
      refine lv_goto (tgt := 582) hx hb d_M_isArithmetic_578 (by decide) ?_
      exact wb_M_isArithmetic_582 (fu := fu) F _ _ _ _ _ hf _ _ _ hP hD hS (lv_sub hl [0] rfl)
set_option maxHeartbeats 8000000 in
set_option maxRecDepth 100000 in
theorem wb_M_isArithmetic_311 {p : Program} {l : Launch} {e : Env} {s : State} {m : MethodId} {args : Array Value} {below : List Frame} {meth : Method} {c : Code} {D : va_G} {cy : Nat → ClassId} {A : Nat → Prop} {ad : Nat → Nat} {o : Nat} {q : Nat → Nat} {fu : Nat} (F : Fx p s m args meth c b_M_isArithmetic 11 "CoinKeeperModel" "isArithmetic" (some .boolean) D cy ad A) : I_M_isArithmetic_311 p l e s m args below meth c D cy A ad o q (xb_M_isArithmetic_311 fu) := by
  obtain ⟨hx, hb, hr, hml, hown, hts, hlocks, hK, hA, hSt, hnm, hex⟩ := id F
  intro y0 u0 u1 u2 res hf H locs ls hP hD hS hl
  unfold xb_M_isArithmetic_311 at hf
  refine lv_lstore (lv' := [(9, .long y0), (0, .ref o)]) hx hb d_M_isArithmetic_311 hl (by decide) rfl (fun ls hl => ?_)
  refine lv_goto (tgt := 584) hx hb d_M_isArithmetic_313 (by decide) ?_
  exact wb_M_isArithmetic_584 (fu := fu) F _ _ _ _ _ hf _ _ _ hP hD hS (lv_sub hl [1, 0] rfl)
set_option maxHeartbeats 8000000 in
set_option maxRecDepth 100000 in
theorem wb_M_isArithmetic_327 {p : Program} {l : Launch} {e : Env} {s : State} {m : MethodId} {args : Array Value} {below : List Frame} {meth : Method} {c : Code} {D : va_G} {cy : Nat → ClassId} {A : Nat → Prop} {ad : Nat → Nat} {o : Nat} {q : Nat → Nat} {fu : Nat} (F : Fx p s m args meth c b_M_isArithmetic 11 "CoinKeeperModel" "isArithmetic" (some .boolean) D cy ad A) : I_M_isArithmetic_327 p l e s m args below meth c D cy A ad o q (xb_M_isArithmetic_327 fu) := by
  obtain ⟨hx, hb, hr, hml, hown, hts, hlocks, hK, hA, hSt, hnm, hex⟩ := id F
  intro y0 u0 u1 u2 res hf H locs ls hP hD hS hl
  unfold xb_M_isArithmetic_327 at hf
  refine lv_lstore (lv' := [(9, .long y0), (0, .ref o)]) hx hb d_M_isArithmetic_327 hl (by decide) rfl (fun ls hl => ?_)
  refine lv_goto (tgt := 584) hx hb d_M_isArithmetic_329 (by decide) ?_
  exact wb_M_isArithmetic_584 (fu := fu) F _ _ _ _ _ hf _ _ _ hP hD hS (lv_sub hl [1, 0] rfl)
set_option maxHeartbeats 8000000 in
set_option maxRecDepth 100000 in
theorem wb_M_isArithmetic_343 {p : Program} {l : Launch} {e : Env} {s : State} {m : MethodId} {args : Array Value} {below : List Frame} {meth : Method} {c : Code} {D : va_G} {cy : Nat → ClassId} {A : Nat → Prop} {ad : Nat → Nat} {o : Nat} {q : Nat → Nat} {fu : Nat} (F : Fx p s m args meth c b_M_isArithmetic 11 "CoinKeeperModel" "isArithmetic" (some .boolean) D cy ad A) : I_M_isArithmetic_343 p l e s m args below meth c D cy A ad o q (xb_M_isArithmetic_343 fu) := by
  obtain ⟨hx, hb, hr, hml, hown, hts, hlocks, hK, hA, hSt, hnm, hex⟩ := id F
  intro y0 u0 u1 u2 res hf H locs ls hP hD hS hl
  unfold xb_M_isArithmetic_343 at hf
  refine lv_lstore (lv' := [(9, .long y0), (0, .ref o)]) hx hb d_M_isArithmetic_343 hl (by decide) rfl (fun ls hl => ?_)
  refine lv_goto (tgt := 584) hx hb d_M_isArithmetic_345 (by decide) ?_
  exact wb_M_isArithmetic_584 (fu := fu) F _ _ _ _ _ hf _ _ _ hP hD hS (lv_sub hl [1, 0] rfl)
set_option maxHeartbeats 8000000 in
set_option maxRecDepth 100000 in
theorem wb_M_isArithmetic_384 {p : Program} {l : Launch} {e : Env} {s : State} {m : MethodId} {args : Array Value} {below : List Frame} {meth : Method} {c : Code} {D : va_G} {cy : Nat → ClassId} {A : Nat → Prop} {ad : Nat → Nat} {o : Nat} {q : Nat → Nat} {fu : Nat} (F : Fx p s m args meth c b_M_isArithmetic 11 "CoinKeeperModel" "isArithmetic" (some .boolean) D cy ad A) : I_M_isArithmetic_384 p l e s m args below meth c D cy A ad o q (xb_M_isArithmetic_384 fu) := by
  obtain ⟨hx, hb, hr, hml, hown, hts, hlocks, hK, hA, hSt, hnm, hex⟩ := id F
  intro y0 u0 u1 u2 res hf H locs ls hP hD hS hl
  unfold xb_M_isArithmetic_384 at hf
  refine lv_lstore (lv' := [(9, .long y0), (0, .ref o)]) hx hb d_M_isArithmetic_384 hl (by decide) rfl (fun ls hl => ?_)
  refine lv_goto (tgt := 584) hx hb d_M_isArithmetic_386 (by decide) ?_
  exact wb_M_isArithmetic_584 (fu := fu) F _ _ _ _ _ hf _ _ _ hP hD hS (lv_sub hl [1, 0] rfl)
set_option maxHeartbeats 8000000 in
set_option maxRecDepth 100000 in
theorem wb_M_isArithmetic_383 {p : Program} {l : Launch} {e : Env} {s : State} {m : MethodId} {args : Array Value} {below : List Frame} {meth : Method} {c : Code} {D : va_G} {cy : Nat → ClassId} {A : Nat → Prop} {ad : Nat → Nat} {o : Nat} {q : Nat → Nat} {fu : Nat} (F : Fx p s m args meth c b_M_isArithmetic 11 "CoinKeeperModel" "isArithmetic" (some .boolean) D cy ad A) : I_M_isArithmetic_383 p l e s m args below meth c D cy A ad o q (xb_M_isArithmetic_383 fu) := by
  obtain ⟨hx, hb, hr, hml, hown, hts, hlocks, hK, hA, hSt, hnm, hex⟩ := id F
  intro u0 u1 u2 res hf H locs ls hP hD hS hl
  unfold xb_M_isArithmetic_383 at hf
  refine lv_lconst (v := 0) hx hb d_M_isArithmetic_383 (by decide) ?_
  exact wb_M_isArithmetic_384 (fu := fu) F _ _ _ _ _ hf _ _ _ hP hD hS (lv_sub hl [0] rfl)
set_option maxHeartbeats 8000000 in
set_option maxRecDepth 100000 in
theorem wb_M_isArithmetic_407 {p : Program} {l : Launch} {e : Env} {s : State} {m : MethodId} {args : Array Value} {below : List Frame} {meth : Method} {c : Code} {D : va_G} {cy : Nat → ClassId} {A : Nat → Prop} {ad : Nat → Nat} {o : Nat} {q : Nat → Nat} {fu : Nat} (F : Fx p s m args meth c b_M_isArithmetic 11 "CoinKeeperModel" "isArithmetic" (some .boolean) D cy ad A) : I_M_isArithmetic_407 p l e s m args below meth c D cy A ad o q (xb_M_isArithmetic_407 fu) := by
  obtain ⟨hx, hb, hr, hml, hown, hts, hlocks, hK, hA, hSt, hnm, hex⟩ := id F
  intro y0 u0 u1 u2 res hf H locs ls hP hD hS hl
  unfold xb_M_isArithmetic_407 at hf
  refine lv_lstore (lv' := [(9, .long y0), (0, .ref o)]) hx hb d_M_isArithmetic_407 hl (by decide) rfl (fun ls hl => ?_)
  refine lv_goto (tgt := 584) hx hb d_M_isArithmetic_409 (by decide) ?_
  exact wb_M_isArithmetic_584 (fu := fu) F _ _ _ _ _ hf _ _ _ hP hD hS (lv_sub hl [1, 0] rfl)
set_option maxHeartbeats 8000000 in
set_option maxRecDepth 100000 in
theorem wb_M_isArithmetic_402 {p : Program} {l : Launch} {e : Env} {s : State} {m : MethodId} {args : Array Value} {below : List Frame} {meth : Method} {c : Code} {D : va_G} {cy : Nat → ClassId} {A : Nat → Prop} {ad : Nat → Nat} {o : Nat} {q : Nat → Nat} {fu : Nat} (F : Fx p s m args meth c b_M_isArithmetic 11 "CoinKeeperModel" "isArithmetic" (some .boolean) D cy ad A) : I_M_isArithmetic_402 p l e s m args below meth c D cy A ad o q (xb_M_isArithmetic_402 fu) := by
  obtain ⟨hx, hb, hr, hml, hown, hts, hlocks, hK, hA, hSt, hnm, hex⟩ := id F
  intro u0 u1 u2 res hf H locs ls hP hD hS hl
  unfold xb_M_isArithmetic_402 at hf
  refine lv_lconst (v := 1) hx hb d_M_isArithmetic_402 (by decide) ?_
  refine lv_goto (tgt := 407) hx hb d_M_isArithmetic_403 (by decide) ?_
  exact wb_M_isArithmetic_407 (fu := fu) F _ _ _ _ _ hf _ _ _ hP hD hS (lv_sub hl [0] rfl)
set_option maxHeartbeats 8000000 in
set_option maxRecDepth 100000 in
theorem wb_M_isArithmetic_424 {p : Program} {l : Launch} {e : Env} {s : State} {m : MethodId} {args : Array Value} {below : List Frame} {meth : Method} {c : Code} {D : va_G} {cy : Nat → ClassId} {A : Nat → Prop} {ad : Nat → Nat} {o : Nat} {q : Nat → Nat} {fu : Nat} (F : Fx p s m args meth c b_M_isArithmetic 11 "CoinKeeperModel" "isArithmetic" (some .boolean) D cy ad A) : I_M_isArithmetic_424 p l e s m args below meth c D cy A ad o q (xb_M_isArithmetic_424 fu) := by
  obtain ⟨hx, hb, hr, hml, hown, hts, hlocks, hK, hA, hSt, hnm, hex⟩ := id F
  intro y0 u0 u1 u2 res hf H locs ls hP hD hS hl
  unfold xb_M_isArithmetic_424 at hf
  refine lv_lstore (lv' := [(9, .long y0), (0, .ref o)]) hx hb d_M_isArithmetic_424 hl (by decide) rfl (fun ls hl => ?_)
  refine lv_goto (tgt := 584) hx hb d_M_isArithmetic_426 (by decide) ?_
  exact wb_M_isArithmetic_584 (fu := fu) F _ _ _ _ _ hf _ _ _ hP hD hS (lv_sub hl [1, 0] rfl)
set_option maxHeartbeats 8000000 in
set_option maxRecDepth 100000 in
theorem wb_M_isArithmetic_454 {p : Program} {l : Launch} {e : Env} {s : State} {m : MethodId} {args : Array Value} {below : List Frame} {meth : Method} {c : Code} {D : va_G} {cy : Nat → ClassId} {A : Nat → Prop} {ad : Nat → Nat} {o : Nat} {q : Nat → Nat} {fu : Nat} (F : Fx p s m args meth c b_M_isArithmetic 11 "CoinKeeperModel" "isArithmetic" (some .boolean) D cy ad A) : I_M_isArithmetic_454 p l e s m args below meth c D cy A ad o q (xb_M_isArithmetic_454 fu) := by
  obtain ⟨hx, hb, hr, hml, hown, hts, hlocks, hK, hA, hSt, hnm, hex⟩ := id F
  intro y0 u0 u1 u2 res hf H locs ls hP hD hS hl
  unfold xb_M_isArithmetic_454 at hf
  refine lv_lstore (lv' := [(9, .long y0), (0, .ref o)]) hx hb d_M_isArithmetic_454 hl (by decide) rfl (fun ls hl => ?_)
  refine lv_goto (tgt := 584) hx hb d_M_isArithmetic_456 (by decide) ?_
  exact wb_M_isArithmetic_584 (fu := fu) F _ _ _ _ _ hf _ _ _ hP hD hS (lv_sub hl [1, 0] rfl)
set_option maxHeartbeats 8000000 in
set_option maxRecDepth 100000 in
theorem wb_M_isArithmetic_471 {p : Program} {l : Launch} {e : Env} {s : State} {m : MethodId} {args : Array Value} {below : List Frame} {meth : Method} {c : Code} {D : va_G} {cy : Nat → ClassId} {A : Nat → Prop} {ad : Nat → Nat} {o : Nat} {q : Nat → Nat} {fu : Nat} (F : Fx p s m args meth c b_M_isArithmetic 11 "CoinKeeperModel" "isArithmetic" (some .boolean) D cy ad A) : I_M_isArithmetic_471 p l e s m args below meth c D cy A ad o q (xb_M_isArithmetic_471 fu) := by
  obtain ⟨hx, hb, hr, hml, hown, hts, hlocks, hK, hA, hSt, hnm, hex⟩ := id F
  intro y0 u0 u1 u2 res hf H locs ls hP hD hS hl
  unfold xb_M_isArithmetic_471 at hf
  refine lv_lstore (lv' := [(9, .long y0), (0, .ref o)]) hx hb d_M_isArithmetic_471 hl (by decide) rfl (fun ls hl => ?_)
  refine lv_goto (tgt := 584) hx hb d_M_isArithmetic_473 (by decide) ?_
  exact wb_M_isArithmetic_584 (fu := fu) F _ _ _ _ _ hf _ _ _ hP hD hS (lv_sub hl [1, 0] rfl)
set_option maxHeartbeats 8000000 in
set_option maxRecDepth 100000 in
theorem wb_M_isArithmetic_488 {p : Program} {l : Launch} {e : Env} {s : State} {m : MethodId} {args : Array Value} {below : List Frame} {meth : Method} {c : Code} {D : va_G} {cy : Nat → ClassId} {A : Nat → Prop} {ad : Nat → Nat} {o : Nat} {q : Nat → Nat} {fu : Nat} (F : Fx p s m args meth c b_M_isArithmetic 11 "CoinKeeperModel" "isArithmetic" (some .boolean) D cy ad A) : I_M_isArithmetic_488 p l e s m args below meth c D cy A ad o q (xb_M_isArithmetic_488 fu) := by
  obtain ⟨hx, hb, hr, hml, hown, hts, hlocks, hK, hA, hSt, hnm, hex⟩ := id F
  intro y0 u0 u1 u2 res hf H locs ls hP hD hS hl
  unfold xb_M_isArithmetic_488 at hf
  refine lv_lstore (lv' := [(9, .long y0), (0, .ref o)]) hx hb d_M_isArithmetic_488 hl (by decide) rfl (fun ls hl => ?_)
  refine lv_goto (tgt := 584) hx hb d_M_isArithmetic_490 (by decide) ?_
  exact wb_M_isArithmetic_584 (fu := fu) F _ _ _ _ _ hf _ _ _ hP hD hS (lv_sub hl [1, 0] rfl)
set_option maxHeartbeats 8000000 in
set_option maxRecDepth 100000 in
theorem wb_M_isArithmetic_505 {p : Program} {l : Launch} {e : Env} {s : State} {m : MethodId} {args : Array Value} {below : List Frame} {meth : Method} {c : Code} {D : va_G} {cy : Nat → ClassId} {A : Nat → Prop} {ad : Nat → Nat} {o : Nat} {q : Nat → Nat} {fu : Nat} (F : Fx p s m args meth c b_M_isArithmetic 11 "CoinKeeperModel" "isArithmetic" (some .boolean) D cy ad A) : I_M_isArithmetic_505 p l e s m args below meth c D cy A ad o q (xb_M_isArithmetic_505 fu) := by
  obtain ⟨hx, hb, hr, hml, hown, hts, hlocks, hK, hA, hSt, hnm, hex⟩ := id F
  intro y0 u0 u1 u2 res hf H locs ls hP hD hS hl
  unfold xb_M_isArithmetic_505 at hf
  refine lv_lstore (lv' := [(9, .long y0), (0, .ref o)]) hx hb d_M_isArithmetic_505 hl (by decide) rfl (fun ls hl => ?_)
  refine lv_goto (tgt := 584) hx hb d_M_isArithmetic_507 (by decide) ?_
  exact wb_M_isArithmetic_584 (fu := fu) F _ _ _ _ _ hf _ _ _ hP hD hS (lv_sub hl [1, 0] rfl)
set_option maxHeartbeats 8000000 in
set_option maxRecDepth 100000 in
theorem wb_M_isArithmetic_522 {p : Program} {l : Launch} {e : Env} {s : State} {m : MethodId} {args : Array Value} {below : List Frame} {meth : Method} {c : Code} {D : va_G} {cy : Nat → ClassId} {A : Nat → Prop} {ad : Nat → Nat} {o : Nat} {q : Nat → Nat} {fu : Nat} (F : Fx p s m args meth c b_M_isArithmetic 11 "CoinKeeperModel" "isArithmetic" (some .boolean) D cy ad A) : I_M_isArithmetic_522 p l e s m args below meth c D cy A ad o q (xb_M_isArithmetic_522 fu) := by
  obtain ⟨hx, hb, hr, hml, hown, hts, hlocks, hK, hA, hSt, hnm, hex⟩ := id F
  intro y0 u0 u1 u2 res hf H locs ls hP hD hS hl
  unfold xb_M_isArithmetic_522 at hf
  refine lv_lstore (lv' := [(9, .long y0), (0, .ref o)]) hx hb d_M_isArithmetic_522 hl (by decide) rfl (fun ls hl => ?_)
  refine lv_goto (tgt := 584) hx hb d_M_isArithmetic_524 (by decide) ?_
  exact wb_M_isArithmetic_584 (fu := fu) F _ _ _ _ _ hf _ _ _ hP hD hS (lv_sub hl [1, 0] rfl)
set_option maxHeartbeats 8000000 in
set_option maxRecDepth 100000 in
theorem wb_M_isArithmetic_540 {p : Program} {l : Launch} {e : Env} {s : State} {m : MethodId} {args : Array Value} {below : List Frame} {meth : Method} {c : Code} {D : va_G} {cy : Nat → ClassId} {A : Nat → Prop} {ad : Nat → Nat} {o : Nat} {q : Nat → Nat} {fu : Nat} (F : Fx p s m args meth c b_M_isArithmetic 11 "CoinKeeperModel" "isArithmetic" (some .boolean) D cy ad A) : I_M_isArithmetic_540 p l e s m args below meth c D cy A ad o q (xb_M_isArithmetic_540 fu) := by
  obtain ⟨hx, hb, hr, hml, hown, hts, hlocks, hK, hA, hSt, hnm, hex⟩ := id F
  intro y0 u0 u1 u2 res hf H locs ls hP hD hS hl
  unfold xb_M_isArithmetic_540 at hf
  refine lv_lstore (lv' := [(9, .long y0), (0, .ref o)]) hx hb d_M_isArithmetic_540 hl (by decide) rfl (fun ls hl => ?_)
  refine lv_goto (tgt := 584) hx hb d_M_isArithmetic_542 (by decide) ?_
  exact wb_M_isArithmetic_584 (fu := fu) F _ _ _ _ _ hf _ _ _ hP hD hS (lv_sub hl [1, 0] rfl)
set_option maxHeartbeats 8000000 in
set_option maxRecDepth 100000 in
theorem wb_M_isArithmetic_558 {p : Program} {l : Launch} {e : Env} {s : State} {m : MethodId} {args : Array Value} {below : List Frame} {meth : Method} {c : Code} {D : va_G} {cy : Nat → ClassId} {A : Nat → Prop} {ad : Nat → Nat} {o : Nat} {q : Nat → Nat} {fu : Nat} (F : Fx p s m args meth c b_M_isArithmetic 11 "CoinKeeperModel" "isArithmetic" (some .boolean) D cy ad A) : I_M_isArithmetic_558 p l e s m args below meth c D cy A ad o q (xb_M_isArithmetic_558 fu) := by
  obtain ⟨hx, hb, hr, hml, hown, hts, hlocks, hK, hA, hSt, hnm, hex⟩ := id F
  intro y0 u0 u1 u2 res hf H locs ls hP hD hS hl
  unfold xb_M_isArithmetic_558 at hf
  refine lv_lstore (lv' := [(9, .long y0), (0, .ref o)]) hx hb d_M_isArithmetic_558 hl (by decide) rfl (fun ls hl => ?_)
  refine lv_goto (tgt := 584) hx hb d_M_isArithmetic_560 (by decide) ?_
  exact wb_M_isArithmetic_584 (fu := fu) F _ _ _ _ _ hf _ _ _ hP hD hS (lv_sub hl [1, 0] rfl)
set_option maxHeartbeats 8000000 in
set_option maxRecDepth 100000 in
theorem wb_M_isArithmetic_143 {p : Program} {l : Launch} {e : Env} {s : State} {m : MethodId} {args : Array Value} {below : List Frame} {meth : Method} {c : Code} {D : va_G} {cy : Nat → ClassId} {A : Nat → Prop} {ad : Nat → Nat} {o : Nat} {q : Nat → Nat} {fu : Nat} (F : Fx p s m args meth c b_M_isArithmetic 11 "CoinKeeperModel" "isArithmetic" (some .boolean) D cy ad A) : I_M_isArithmetic_143 p l e s m args below meth c D cy A ad o q (xb_M_isArithmetic_143 fu) := by
  obtain ⟨hx, hb, hr, hml, hown, hts, hlocks, hK, hA, hSt, hnm, hex⟩ := id F
  intro x1 x2 x3 x5 y0 u0 u1 u2 res hf H locs ls hP hD hS hl
  unfold xb_M_isArithmetic_143 at hf
  refine lv_lstore (lv' := [(7, .long y0), (0, .ref o), (1, .int x1), (2, .int x2), (3, .long x3), (5, .long x5)]) hx hb d_M_isArithmetic_143 hl (by decide) rfl (fun ls hl => ?_)
  refine lv_aload_n hx hb d_M_isArithmetic_145 rfl (lv_at hl 1 rfl) ?_
  refine lv_dup hx hb d_M_isArithmetic_146 rfl ?_
  refine va_get (D := D) (ci := 12) (v := .int (u0 9)) (C := "CoinKeeperModel") (T := F_12) (N := 98) hx hb hts i_12 hown hK hP 0 rfl rfl 79 (by decide) (hts _ gw_1498) (fun _ h9 => h9) rfl d_M_isArithmetic_147 ?_
  refine lv_iload_n hx hb d_M_isArithmetic_150 rfl (lv_at hl 3 rfl) ?_
  refine lv_isub hx hb d_M_isArithmetic_151 ?_
  refine lv_topi (fun v1 ev => ?_)
  have hf := bn ev hf
  clear ev
  refine va_put (D := D) (ci := 12) (v := .int v1) (ty := .int) (C := "CoinKeeperModel") (T := F_12) (N := 98) hx hb hts i_12 t_12 t_12_ok n_12 hown hK hP hD hS 0 rfl rfl 79 (by decide) (hts _ gw_1498) (fun _ h9 => h9) rfl (by decide +kernel) rfl rfl (Nat.le_of_ble_eq_true rfl) d_M_isArithmetic_152 (fun H locs hP hD hS => ?_)
  obtain ⟨z2, ev, hf⟩ := bne hf
  have hP : va_P D classes [(o, .inr (12, mo q z2)), ((q 68), .inl (cy 0, 104448, .inl u1)), ((q 69), .inl (cy 1, 408, .inl u2))] H := by rw [ev]; exact hP
  have hD : va_D A [(o, .inr (12, mo q z2)), ((q 68), .inl (cy 0, 104448, .inl u1)), ((q 69), .inl (cy 1, 408, .inl u2))] := by rw [ev]; exact hD
  clear ev
  refine lv_iload_n hx hb d_M_isArithmetic_155 rfl (lv_at hl 2 rfl) ?_
  by_cases cx : x1 = 139
  · have hf := ifp cx hf
    refine lv_tableIn (tgt := 276) (off := 120) hx hb d_M_isArithmetic_156 (by rw [cx]; decide) (by rw [cx]; decide) (by rw [cx]; decide +kernel) (by decide) ?_
    refine lv_lload_n hx hb d_M_isArithmetic_276 rfl (lv_at hl 4 rfl) ?_
    refine lv_lconst (v := 1) hx hb d_M_isArithmetic_277 (by decide) ?_
    refine lv_ladd hx hb d_M_isArithmetic_278 ?_
    refine lv_topl (fun v3 ev => ?_)
    have hf := bn ev hf
    clear ev
    refine lv_lstore (lv' := [(9, .long v3), (7, .long y0), (0, .ref o), (1, .int x1), (2, .int x2), (3, .long x3), (5, .long x5)]) hx hb d_M_isArithmetic_279 hl (by decide) rfl (fun ls hl => ?_)
    refine lv_goto (tgt := 584) hx hb d_M_isArithmetic_281 (by decide) ?_
    exact wb_M_isArithmetic_584 (fu := fu) F _ _ _ _ _ hf _ _ _ hP hD hS (lv_sub hl [2, 0] rfl)
  · have hf := ifn cx hf
    have cn_0 := lv_neT (a := 139) cx (by decide)
    clear cx
    by_cases cx : x1 = 140
    · have hf := ifp cx hf
      refine lv_tableIn (tgt := 284) (off := 128) hx hb d_M_isArithmetic_156 (by rw [cx]; decide) (by rw [cx]; decide) (by rw [cx]; decide +kernel) (by decide) ?_
      refine lv_lload_n hx hb d_M_isArithmetic_284 rfl (lv_at hl 4 rfl) ?_
      refine lv_lconst (v := 1) hx hb d_M_isArithmetic_285 (by decide) ?_
      refine lv_lsub hx hb d_M_isArithmetic_286 ?_
      refine lv_topl (fun v4 ev => ?_)
      have hf := bn ev hf
      clear ev
      refine lv_lstore (lv' := [(9, .long v4), (7, .long y0), (0, .ref o), (1, .int x1), (2, .int x2), (3, .long x3), (5, .long x5)]) hx hb d_M_isArithmetic_287 hl (by decide) rfl (fun ls hl => ?_)
      refine lv_goto (tgt := 584) hx hb d_M_isArithmetic_289 (by decide) ?_
      exact wb_M_isArithmetic_584 (fu := fu) F _ _ _ _ _ hf _ _ _ hP hD hS (lv_sub hl [2, 0] rfl)
    · have hf := ifn cx hf
      have cn_1 := lv_neT (a := 140) cx (by decide)
      clear cx
      by_cases cx : x1 = 141
      · have hf := ifp cx hf
        refine lv_tableIn (tgt := 563) (off := 407) hx hb d_M_isArithmetic_156 (by rw [cx]; decide) (by rw [cx]; decide) (by rw [cx]; decide +kernel) (by decide) ?_
        exact wb_M_isArithmetic_563 (fu := fu) F _ _ _ _ _ _ _ hf _ _ _ hP hD hS (lv_sub hl [1, 4, 5, 0] rfl)
      · have hf := ifn cx hf
        have cn_2 := lv_neT (a := 141) cx (by decide)
        clear cx
        by_cases cx : x1 = 142
        · have hf := ifp cx hf
          refine lv_tableIn (tgt := 563) (off := 407) hx hb d_M_isArithmetic_156 (by rw [cx]; decide) (by rw [cx]; decide) (by rw [cx]; decide +kernel) (by decide) ?_
          exact wb_M_isArithmetic_563 (fu := fu) F _ _ _ _ _ _ _ hf _ _ _ hP hD hS (lv_sub hl [1, 4, 5, 0] rfl)
        · have hf := ifn cx hf
          have cn_3 := lv_neT (a := 142) cx (by decide)
          clear cx
          by_cases cx : x1 = 143
          · have hf := ifp cx hf
            refine lv_tableIn (tgt := 292) (off := 136) hx hb d_M_isArithmetic_156 (by rw [cx]; decide) (by rw [cx]; decide) (by rw [cx]; decide +kernel) (by decide) ?_
            refine lv_lload_n hx hb d_M_isArithmetic_292 rfl (lv_at hl 4 rfl) ?_
            refine lv_lneg hx hb d_M_isArithmetic_293 ?_
            refine lv_topl (fun v5 ev => ?_)
            have hf := bn ev hf
            clear ev
            refine lv_lstore (lv' := [(9, .long v5), (7, .long y0), (0, .ref o), (1, .int x1), (2, .int x2), (3, .long x3), (5, .long x5)]) hx hb d_M_isArithmetic_294 hl (by decide) rfl (fun ls hl => ?_)
            refine lv_goto (tgt := 584) hx hb d_M_isArithmetic_296 (by decide) ?_
            exact wb_M_isArithmetic_584 (fu := fu) F _ _ _ _ _ hf _ _ _ hP hD hS (lv_sub hl [2, 0] rfl)
          · have hf := ifn cx hf
            have cn_4 := lv_neT (a := 143) cx (by decide)
            clear cx
            by_cases cx : x1 = 144
            · have hf := ifp cx hf
              refine lv_tableIn (tgt := 299) (off := 143) hx hb d_M_isArithmetic_156 (by rw [cx]; decide) (by rw [cx]; decide) (by rw [cx]; decide +kernel) (by decide) ?_
              refine lv_lload_n hx hb d_M_isArithmetic_299 rfl (lv_at hl 4 rfl) ?_
              refine lv_lconst (v := 0) hx hb d_M_isArithmetic_300 (by decide) ?_
              refine W.lcmp hx hb d_M_isArithmetic_301 ?_
              refine lv_if_ge (tgt := 310) hx hb d_M_isArithmetic_302 (by decide) (fun cx => ?_) (fun cx => ?_)
              · have hf := ifp cx hf
                refine lv_lload_n hx hb d_M_isArithmetic_310 rfl (lv_at hl 4 rfl) ?_
                exact wb_M_isArithmetic_311 (fu := fu) F _ _ _ _ _ hf _ _ _ hP hD hS (lv_sub hl [1] rfl)
              · have hf := ifn cx hf
                refine lv_lload_n hx hb d_M_isArithmetic_305 rfl (lv_at hl 4 rfl) ?_
                refine lv_lneg hx hb d_M_isArithmetic_306 ?_
                refine lv_goto (tgt := 311) hx hb d_M_isArithmetic_307 (by decide) ?_
                exact wb_M_isArithmetic_311 (fu := fu) F _ _ _ _ _ hf _ _ _ hP hD hS (lv_sub hl [1] rfl)
            · have hf := ifn cx hf
              have cn_5 := lv_neT (a := 144) cx (by decide)
              clear cx
              by_cases cx : x1 = 145
              · have hf := ifp cx hf
                refine lv_tableIn (tgt := 316) (off := 160) hx hb d_M_isArithmetic_156 (by rw [cx]; decide) (by rw [cx]; decide) (by rw [cx]; decide +kernel) (by decide) ?_
                refine lv_lload_n hx hb d_M_isArithmetic_316 rfl (lv_at hl 4 rfl) ?_
                refine lv_lconst (v := 0) hx hb d_M_isArithmetic_317 (by decide) ?_
                refine W.lcmp hx hb d_M_isArithmetic_318 ?_
                refine lv_if_ne (tgt := 326) hx hb d_M_isArithmetic_319 (by decide) (fun cx => ?_) (fun cx => ?_)
                · have hf := ifn cx hf
                  refine lv_lconst (v := 0) hx hb d_M_isArithmetic_326 (by decide) ?_
                  exact wb_M_isArithmetic_327 (fu := fu) F _ _ _ _ _ hf _ _ _ hP hD hS (lv_sub hl [1] rfl)
                · have hf := ifp cx hf
                  refine lv_lconst (v := 1) hx hb d_M_isArithmetic_322 (by decide) ?_
                  refine lv_goto (tgt := 327) hx hb d_M_isArithmetic_323 (by decide) ?_
                  exact wb_M_isArithmetic_327 (fu := fu) F _ _ _ _ _ hf _ _ _ hP hD hS (lv_sub hl [1] rfl)
              · have hf := ifn cx hf
                have cn_6 := lv_neT (a := 145) cx (by decide)
                clear cx
                by_cases cx : x1 = 146
                · have hf := ifp cx hf
                  refine lv_tableIn (tgt := 332) (off := 176) hx hb d_M_isArithmetic_156 (by rw [cx]; decide) (by rw [cx]; decide) (by rw [cx]; decide +kernel) (by decide) ?_
                  refine lv_lload_n hx hb d_M_isArithmetic_332 rfl (lv_at hl 4 rfl) ?_
                  refine lv_lconst (v := 0) hx hb d_M_isArithmetic_333 (by decide) ?_
                  refine W.lcmp hx hb d_M_isArithmetic_334 ?_
                  refine lv_if_ne (tgt := 342) hx hb d_M_isArithmetic_335 (by decide) (fun cx => ?_) (fun cx => ?_)
                  · have hf := ifn cx hf
                    refine lv_lconst (v := 1) hx hb d_M_isArithmetic_342 (by decide) ?_
                    exact wb_M_isArithmetic_343 (fu := fu) F _ _ _ _ _ hf _ _ _ hP hD hS (lv_sub hl [1] rfl)
                  · have hf := ifp cx hf
                    refine lv_lconst (v := 0) hx hb d_M_isArithmetic_338 (by decide) ?_
                    refine lv_goto (tgt := 343) hx hb d_M_isArithmetic_339 (by decide) ?_
                    exact wb_M_isArithmetic_343 (fu := fu) F _ _ _ _ _ hf _ _ _ hP hD hS (lv_sub hl [1] rfl)
                · have hf := ifn cx hf
                  have cn_7 := lv_neT (a := 146) cx (by decide)
                  clear cx
                  by_cases cx : x1 = 147
                  · have hf := ifp cx hf
                    refine lv_tableIn (tgt := 348) (off := 192) hx hb d_M_isArithmetic_156 (by rw [cx]; decide) (by rw [cx]; decide) (by rw [cx]; decide +kernel) (by decide) ?_
                    refine lv_lload_n hx hb d_M_isArithmetic_348 rfl (lv_at hl 4 rfl) ?_
                    refine lv_lload hx hb d_M_isArithmetic_349 (lv_at hl 5 rfl) ?_
                    refine lv_ladd hx hb d_M_isArithmetic_351 ?_
                    refine lv_topl (fun v6 ev => ?_)
                    have hf := bn ev hf
                    clear ev
                    refine lv_lstore (lv' := [(9, .long v6), (7, .long y0), (0, .ref o), (1, .int x1), (2, .int x2), (3, .long x3), (5, .long x5)]) hx hb d_M_isArithmetic_352 hl (by decide) rfl (fun ls hl => ?_)
                    refine lv_goto (tgt := 584) hx hb d_M_isArithmetic_354 (by decide) ?_
                    exact wb_M_isArithmetic_584 (fu := fu) F _ _ _ _ _ hf _ _ _ hP hD hS (lv_sub hl [2, 0] rfl)
                  · have hf := ifn cx hf
                    have cn_8 := lv_neT (a := 147) cx (by decide)
                    clear cx
                    by_cases cx : x1 = 148
                    · have hf := ifp cx hf
                      refine lv_tableIn (tgt := 357) (off := 201) hx hb d_M_isArithmetic_156 (by rw [cx]; decide) (by rw [cx]; decide) (by rw [cx]; decide +kernel) (by decide) ?_
                      refine lv_lload_n hx hb d_M_isArithmetic_357 rfl (lv_at hl 4 rfl) ?_
                      refine lv_lload hx hb d_M_isArithmetic_358 (lv_at hl 5 rfl) ?_
                      refine lv_lsub hx hb d_M_isArithmetic_360 ?_
                      refine lv_topl (fun v7 ev => ?_)
                      have hf := bn ev hf
                      clear ev
                      refine lv_lstore (lv' := [(9, .long v7), (7, .long y0), (0, .ref o), (1, .int x1), (2, .int x2), (3, .long x3), (5, .long x5)]) hx hb d_M_isArithmetic_361 hl (by decide) rfl (fun ls hl => ?_)
                      refine lv_goto (tgt := 584) hx hb d_M_isArithmetic_363 (by decide) ?_
                      exact wb_M_isArithmetic_584 (fu := fu) F _ _ _ _ _ hf _ _ _ hP hD hS (lv_sub hl [2, 0] rfl)
                    · have hf := ifn cx hf
                      have cn_9 := lv_neT (a := 148) cx (by decide)
                      clear cx
                      by_cases cx : x1 = 149
                      · have hf := ifp cx hf
                        refine lv_tableIn (tgt := 563) (off := 407) hx hb d_M_isArithmetic_156 (by rw [cx]; decide) (by rw [cx]; decide) (by rw [cx]; decide +kernel) (by decide) ?_
                        exact wb_M_isArithmetic_563 (fu := fu) F _ _ _ _ _ _ _ hf _ _ _ hP hD hS (lv_sub hl [1, 4, 5, 0] rfl)
                      · have hf := ifn cx hf
                        have cn_10 := lv_neT (a := 149) cx (by decide)
                        clear cx
                        by_cases cx : x1 = 150
                        · have hf := ifp cx hf
                          refine lv_tableIn (tgt := 563) (off := 407) hx hb d_M_isArithmetic_156 (by rw [cx]; decide) (by rw [cx]; decide) (by rw [cx]; decide +kernel) (by decide) ?_
                          exact wb_M_isArithmetic_563 (fu := fu) F _ _ _ _ _ _ _ hf _ _ _ hP hD hS (lv_sub hl [1, 4, 5, 0] rfl)
                        · have hf := ifn cx hf
                          have cn_11 := lv_neT (a := 150) cx (by decide)
                          clear cx
                          by_cases cx : x1 = 151
                          · have hf := ifp cx hf
                            refine lv_tableIn (tgt := 563) (off := 407) hx hb d_M_isArithmetic_156 (by rw [cx]; decide) (by rw [cx]; decide) (by rw [cx]; decide +kernel) (by decide) ?_
                            exact wb_M_isArithmetic_563 (fu := fu) F _ _ _ _ _ _ _ hf _ _ _ hP hD hS (lv_sub hl [1, 4, 5, 0] rfl)
                          · have hf := ifn cx hf
                            have cn_12 := lv_neT (a := 151) cx (by decide)
                            clear cx
                            by_cases cx : x1 = 152
                            · have hf := ifp cx hf
                              refine lv_tableIn (tgt := 563) (off := 407) hx hb d_M_isArithmetic_156 (by rw [cx]; decide) (by rw [cx]; decide) (by rw [cx]; decide +kernel) (by decide) ?_
                              exact wb_M_isArithmetic_563 (fu := fu) F _ _ _ _ _ _ _ hf _ _ _ hP hD hS (lv_sub hl [1, 4, 5, 0] rfl)
                            · have hf := ifn cx hf
                              have cn_13 := lv_neT (a := 152) cx (by decide)
                              clear cx
                              by_cases cx : x1 = 153
                              · have hf := ifp cx hf
                                refine lv_tableIn (tgt := 563) (off := 407) hx hb d_M_isArithmetic_156 (by rw [cx]; decide) (by rw [cx]; decide) (by rw [cx]; decide +kernel) (by decide) ?_
                                exact wb_M_isArithmetic_563 (fu := fu) F _ _ _ _ _ _ _ hf _ _ _ hP hD hS (lv_sub hl [1, 4, 5, 0] rfl)
                              · have hf := ifn cx hf
                                have cn_14 := lv_neT (a := 153) cx (by decide)
                                clear cx
                                by_cases cx : x1 = 154
                                · have hf := ifp cx hf
                                  refine lv_tableIn (tgt := 366) (off := 210) hx hb d_M_isArithmetic_156 (by rw [cx]; decide) (by rw [cx]; decide) (by rw [cx]; decide +kernel) (by decide) ?_
                                  refine lv_lload_n hx hb d_M_isArithmetic_366 rfl (lv_at hl 4 rfl) ?_
                                  refine lv_lconst (v := 0) hx hb d_M_isArithmetic_367 (by decide) ?_
                                  refine W.lcmp hx hb d_M_isArithmetic_368 ?_
                                  refine lv_if_eq (tgt := 383) hx hb d_M_isArithmetic_369 (by decide) (fun cx => ?_) (fun cx => ?_)
                                  · have hf := ifp cx hf
                                    exact wb_M_isArithmetic_383 (fu := fu) F _ _ _ _ hf _ _ _ hP hD hS (lv_sub hl [1] rfl)
                                  · have hf := ifn cx hf
                                    refine lv_lload hx hb d_M_isArithmetic_372 (lv_at hl 5 rfl) ?_
                                    refine lv_lconst (v := 0) hx hb d_M_isArithmetic_374 (by decide) ?_
                                    refine W.lcmp hx hb d_M_isArithmetic_375 ?_
                                    refine lv_if_eq (tgt := 383) hx hb d_M_isArithmetic_376 (by decide) (fun cx => ?_) (fun cx => ?_)
                                    · have hf := ifp cx hf
                                      exact wb_M_isArithmetic_383 (fu := fu) F _ _ _ _ hf _ _ _ hP hD hS (lv_sub hl [1] rfl)
                                    · have hf := ifn cx hf
                                      refine lv_lconst (v := 1) hx hb d_M_isArithmetic_379 (by decide) ?_
                                      refine lv_goto (tgt := 384) hx hb d_M_isArithmetic_380 (by decide) ?_
                                      exact wb_M_isArithmetic_384 (fu := fu) F _ _ _ _ _ hf _ _ _ hP hD hS (lv_sub hl [1] rfl)
                                · have hf := ifn cx hf
                                  have cn_15 := lv_neT (a := 154) cx (by decide)
                                  clear cx
                                  by_cases cx : x1 = 155
                                  · have hf := ifp cx hf
                                    refine lv_tableIn (tgt := 389) (off := 233) hx hb d_M_isArithmetic_156 (by rw [cx]; decide) (by rw [cx]; decide) (by rw [cx]; decide +kernel) (by decide) ?_
                                    refine lv_lload_n hx hb d_M_isArithmetic_389 rfl (lv_at hl 4 rfl) ?_
                                    refine lv_lconst (v := 0) hx hb d_M_isArithmetic_390 (by decide) ?_
                                    refine W.lcmp hx hb d_M_isArithmetic_391 ?_
                                    refine lv_if_ne (tgt := 402) hx hb d_M_isArithmetic_392 (by decide) (fun cx => ?_) (fun cx => ?_)
                                    · have hf := ifn cx hf
                                      exact wb_M_isArithmetic_402 (fu := fu) F _ _ _ _ hf _ _ _ hP hD hS (lv_sub hl [1] rfl)
                                    · have hf := ifp cx hf
                                      refine lv_lload hx hb d_M_isArithmetic_395 (lv_at hl 5 rfl) ?_
                                      refine lv_lconst (v := 0) hx hb d_M_isArithmetic_397 (by decide) ?_
                                      refine W.lcmp hx hb d_M_isArithmetic_398 ?_
                                      refine lv_if_eq (tgt := 406) hx hb d_M_isArithmetic_399 (by decide) (fun cx => ?_) (fun cx => ?_)
                                      · have hf := ifp cx hf
                                        refine lv_lconst (v := 0) hx hb d_M_isArithmetic_406 (by decide) ?_
                                        exact wb_M_isArithmetic_407 (fu := fu) F _ _ _ _ _ hf _ _ _ hP hD hS (lv_sub hl [1] rfl)
                                      · have hf := ifn cx hf
                                        exact wb_M_isArithmetic_402 (fu := fu) F _ _ _ _ hf _ _ _ hP hD hS (lv_sub hl [1] rfl)
                                  · have hf := ifn cx hf
                                    have cn_16 := lv_neT (a := 155) cx (by decide)
                                    clear cx
                                    by_cases cx : x1 = 156
                                    · have hf := ifp cx hf
                                      refine lv_tableIn (tgt := 412) (off := 256) hx hb d_M_isArithmetic_156 (by rw [cx]; decide) (by rw [cx]; decide) (by rw [cx]; decide +kernel) (by decide) ?_
                                      refine lv_lload_n hx hb d_M_isArithmetic_412 rfl (lv_at hl 4 rfl) ?_
                                      refine lv_lload hx hb d_M_isArithmetic_413 (lv_at hl 5 rfl) ?_
                                      refine W.lcmp hx hb d_M_isArithmetic_415 ?_
                                      refine lv_if_ne (tgt := 423) hx hb d_M_isArithmetic_416 (by decide) (fun cx => ?_) (fun cx => ?_)
                                      · have hf := ifn cx hf
                                        refine lv_lconst (v := 0) hx hb d_M_isArithmetic_423 (by decide) ?_
                                        exact wb_M_isArithmetic_424 (fu := fu) F _ _ _ _ _ hf _ _ _ hP hD hS (lv_sub hl [1] rfl)
                                      · have hf := ifp cx hf
                                        refine lv_lconst (v := 1) hx hb d_M_isArithmetic_419 (by decide) ?_
                                        refine lv_goto (tgt := 424) hx hb d_M_isArithmetic_420 (by decide) ?_
                                        exact wb_M_isArithmetic_424 (fu := fu) F _ _ _ _ _ hf _ _ _ hP hD hS (lv_sub hl [1] rfl)
                                    · have hf := ifn cx hf
                                      have cn_17 := lv_neT (a := 156) cx (by decide)
                                      clear cx
                                      by_cases cx : x1 = 157
                                      · have hf := ifp cx hf
                                        refine lv_tableIn (tgt := 429) (off := 273) hx hb d_M_isArithmetic_156 (by rw [cx]; decide) (by rw [cx]; decide) (by rw [cx]; decide +kernel) (by decide) ?_
                                        refine lv_lload_n hx hb d_M_isArithmetic_429 rfl (lv_at hl 4 rfl) ?_
                                        refine lv_lload hx hb d_M_isArithmetic_430 (lv_at hl 5 rfl) ?_
                                        refine W.lcmp hx hb d_M_isArithmetic_432 ?_
                                        refine lv_if_ne (tgt := 440) hx hb d_M_isArithmetic_433 (by decide) (fun cx => ?_) (fun cx => ?_)
                                        · have hf := ifn cx hf
                                          refine lv_iconst (v := 0) hx hb d_M_isArithmetic_440 (by decide) ?_
                                          obtain rfl := Option.some.inj hf
                                          exact q_rz hx hb hr hlocks hK hP hD hS (isb_n (v := 0) (by decide)) d_M_isArithmetic_441
                                        · have hf := ifp cx hf
                                          refine lv_iconst (v := 1) hx hb d_M_isArithmetic_436 (by decide) ?_
                                          refine lv_goto (tgt := 441) hx hb d_M_isArithmetic_437 (by decide) ?_
                                          obtain rfl := Option.some.inj hf
                                          exact q_rz hx hb hr hlocks hK hP hD hS (isb_n (v := 1) (by decide)) d_M_isArithmetic_441
                                      · have hf := ifn cx hf
                                        have cn_18 := lv_neT (a := 157) cx (by decide)
                                        clear cx
                                        by_cases cx : x1 = 158
                                        · have hf := ifp cx hf
                                          refine lv_tableIn (tgt := 442) (off := 286) hx hb d_M_isArithmetic_156 (by rw [cx]; decide) (by rw [cx]; decide) (by rw [cx]; decide +kernel) (by decide) ?_
                                          refine lv_lload_n hx hb d_M_isArithmetic_442 rfl (lv_at hl 4 rfl) ?_
                                          refine lv_lload hx hb d_M_isArithmetic_443 (lv_at hl 5 rfl) ?_
                                          refine W.lcmp hx hb d_M_isArithmetic_445 ?_
                                          refine lv_if_eq (tgt := 453) hx hb d_M_isArithmetic_446 (by decide) (fun cx => ?_) (fun cx => ?_)
                                          · have hf := ifp cx hf
                                            refine lv_lconst (v := 0) hx hb d_M_isArithmetic_453 (by decide) ?_
                                            exact wb_M_isArithmetic_454 (fu := fu) F _ _ _ _ _ hf _ _ _ hP hD hS (lv_sub hl [1] rfl)
                                          · have hf := ifn cx hf
                                            refine lv_lconst (v := 1) hx hb d_M_isArithmetic_449 (by decide) ?_
                                            refine lv_goto (tgt := 454) hx hb d_M_isArithmetic_450 (by decide) ?_
                                            exact wb_M_isArithmetic_454 (fu := fu) F _ _ _ _ _ hf _ _ _ hP hD hS (lv_sub hl [1] rfl)
                                        · have hf := ifn cx hf
                                          have cn_19 := lv_neT (a := 158) cx (by decide)
                                          clear cx
                                          by_cases cx : x1 = 159
                                          · have hf := ifp cx hf
                                            refine lv_tableIn (tgt := 459) (off := 303) hx hb d_M_isArithmetic_156 (by rw [cx]; decide) (by rw [cx]; decide) (by rw [cx]; decide +kernel) (by decide) ?_
                                            refine lv_lload_n hx hb d_M_isArithmetic_459 rfl (lv_at hl 4 rfl) ?_
                                            refine lv_lload hx hb d_M_isArithmetic_460 (lv_at hl 5 rfl) ?_
                                            refine W.lcmp hx hb d_M_isArithmetic_462 ?_
                                            refine lv_if_ge (tgt := 470) hx hb d_M_isArithmetic_463 (by decide) (fun cx => ?_) (fun cx => ?_)
                                            · have hf := ifp cx hf
                                              refine lv_lconst (v := 0) hx hb d_M_isArithmetic_470 (by decide) ?_
                                              exact wb_M_isArithmetic_471 (fu := fu) F _ _ _ _ _ hf _ _ _ hP hD hS (lv_sub hl [1] rfl)
                                            · have hf := ifn cx hf
                                              refine lv_lconst (v := 1) hx hb d_M_isArithmetic_466 (by decide) ?_
                                              refine lv_goto (tgt := 471) hx hb d_M_isArithmetic_467 (by decide) ?_
                                              exact wb_M_isArithmetic_471 (fu := fu) F _ _ _ _ _ hf _ _ _ hP hD hS (lv_sub hl [1] rfl)
                                          · have hf := ifn cx hf
                                            have cn_20 := lv_neT (a := 159) cx (by decide)
                                            clear cx
                                            by_cases cx : x1 = 160
                                            · have hf := ifp cx hf
                                              refine lv_tableIn (tgt := 476) (off := 320) hx hb d_M_isArithmetic_156 (by rw [cx]; decide) (by rw [cx]; decide) (by rw [cx]; decide +kernel) (by decide) ?_
                                              refine lv_lload_n hx hb d_M_isArithmetic_476 rfl (lv_at hl 4 rfl) ?_
                                              refine lv_lload hx hb d_M_isArithmetic_477 (lv_at hl 5 rfl) ?_
                                              refine W.lcmp hx hb d_M_isArithmetic_479 ?_
                                              refine lv_if_le (tgt := 487) hx hb d_M_isArithmetic_480 (by decide) (fun cx => ?_) (fun cx => ?_)
                                              · have hf := ifp cx hf
                                                refine lv_lconst (v := 0) hx hb d_M_isArithmetic_487 (by decide) ?_
                                                exact wb_M_isArithmetic_488 (fu := fu) F _ _ _ _ _ hf _ _ _ hP hD hS (lv_sub hl [1] rfl)
                                              · have hf := ifn cx hf
                                                refine lv_lconst (v := 1) hx hb d_M_isArithmetic_483 (by decide) ?_
                                                refine lv_goto (tgt := 488) hx hb d_M_isArithmetic_484 (by decide) ?_
                                                exact wb_M_isArithmetic_488 (fu := fu) F _ _ _ _ _ hf _ _ _ hP hD hS (lv_sub hl [1] rfl)
                                            · have hf := ifn cx hf
                                              have cn_21 := lv_neT (a := 160) cx (by decide)
                                              clear cx
                                              by_cases cx : x1 = 161
                                              · have hf := ifp cx hf
                                                refine lv_tableIn (tgt := 493) (off := 337) hx hb d_M_isArithmetic_156 (by rw [cx]; decide) (by rw [cx]; decide) (by rw [cx]; decide +kernel) (by decide) ?_
                                                refine lv_lload_n hx hb d_M_isArithmetic_493 rfl (lv_at hl 4 rfl) ?_
                                                refine lv_lload hx hb d_M_isArithmetic_494 (lv_at hl 5 rfl) ?_
                                                refine W.lcmp hx hb d_M_isArithmetic_496 ?_
                                                refine lv_if_gt (tgt := 504) hx hb d_M_isArithmetic_497 (by decide) (fun cx => ?_) (fun cx => ?_)
                                                · have hf := ifp cx hf
                                                  refine lv_lconst (v := 0) hx hb d_M_isArithmetic_504 (by decide) ?_
                                                  exact wb_M_isArithmetic_505 (fu := fu) F _ _ _ _ _ hf _ _ _ hP hD hS (lv_sub hl [1] rfl)
                                                · have hf := ifn cx hf
                                                  refine lv_lconst (v := 1) hx hb d_M_isArithmetic_500 (by decide) ?_
                                                  refine lv_goto (tgt := 505) hx hb d_M_isArithmetic_501 (by decide) ?_
                                                  exact wb_M_isArithmetic_505 (fu := fu) F _ _ _ _ _ hf _ _ _ hP hD hS (lv_sub hl [1] rfl)
                                              · have hf := ifn cx hf
                                                have cn_22 := lv_neT (a := 161) cx (by decide)
                                                clear cx
                                                by_cases cx : x1 = 162
                                                · have hf := ifp cx hf
                                                  refine lv_tableIn (tgt := 510) (off := 354) hx hb d_M_isArithmetic_156 (by rw [cx]; decide) (by rw [cx]; decide) (by rw [cx]; decide +kernel) (by decide) ?_
                                                  refine lv_lload_n hx hb d_M_isArithmetic_510 rfl (lv_at hl 4 rfl) ?_
                                                  refine lv_lload hx hb d_M_isArithmetic_511 (lv_at hl 5 rfl) ?_
                                                  refine W.lcmp hx hb d_M_isArithmetic_513 ?_
                                                  refine lv_if_lt (tgt := 521) hx hb d_M_isArithmetic_514 (by decide) (fun cx => ?_) (fun cx => ?_)
                                                  · have hf := ifp cx hf
                                                    refine lv_lconst (v := 0) hx hb d_M_isArithmetic_521 (by decide) ?_
                                                    exact wb_M_isArithmetic_522 (fu := fu) F _ _ _ _ _ hf _ _ _ hP hD hS (lv_sub hl [1] rfl)
                                                  · have hf := ifn cx hf
                                                    refine lv_lconst (v := 1) hx hb d_M_isArithmetic_517 (by decide) ?_
                                                    refine lv_goto (tgt := 522) hx hb d_M_isArithmetic_518 (by decide) ?_
                                                    exact wb_M_isArithmetic_522 (fu := fu) F _ _ _ _ _ hf _ _ _ hP hD hS (lv_sub hl [1] rfl)
                                                · have hf := ifn cx hf
                                                  have cn_23 := lv_neT (a := 162) cx (by decide)
                                                  clear cx
                                                  by_cases cx : x1 = 163
                                                  · have hf := ifp cx hf
                                                    refine lv_tableIn (tgt := 527) (off := 371) hx hb d_M_isArithmetic_156 (by rw [cx]; decide) (by rw [cx]; decide) (by rw [cx]; decide +kernel) (by decide) ?_
                                                    refine lv_lload_n hx hb d_M_isArithmetic_527 rfl (lv_at hl 4 rfl) ?_
                                                    refine lv_lload hx hb d_M_isArithmetic_528 (lv_at hl 5 rfl) ?_
                                                    refine W.lcmp hx hb d_M_isArithmetic_530 ?_
                                                    refine lv_if_ge (tgt := 538) hx hb d_M_isArithmetic_531 (by decide) (fun cx => ?_) (fun cx => ?_)
                                                    · have hf := ifp cx hf
                                                      refine lv_lload hx hb d_M_isArithmetic_538 (lv_at hl 5 rfl) ?_
                                                      exact wb_M_isArithmetic_540 (fu := fu) F _ _ _ _ _ hf _ _ _ hP hD hS (lv_sub hl [1] rfl)
                                                    · have hf := ifn cx hf
                                                      refine lv_lload_n hx hb d_M_isArithmetic_534 rfl (lv_at hl 4 rfl) ?_
                                                      refine lv_goto (tgt := 540) hx hb d_M_isArithmetic_535 (by decide) ?_
                                                      exact wb_M_isArithmetic_540 (fu := fu) F _ _ _ _ _ hf _ _ _ hP hD hS (lv_sub hl [1] rfl)
                                                  · have hf := ifn cx hf
                                                    have cn_24 := lv_neT (a := 163) cx (by decide)
                                                    clear cx
                                                    by_cases cx : x1 = 164
                                                    · have hf := ifp cx hf
                                                      refine lv_tableIn (tgt := 545) (off := 389) hx hb d_M_isArithmetic_156 (by rw [cx]; decide) (by rw [cx]; decide) (by rw [cx]; decide +kernel) (by decide) ?_
                                                      refine lv_lload_n hx hb d_M_isArithmetic_545 rfl (lv_at hl 4 rfl) ?_
                                                      refine lv_lload hx hb d_M_isArithmetic_546 (lv_at hl 5 rfl) ?_
                                                      refine W.lcmp hx hb d_M_isArithmetic_548 ?_
                                                      refine lv_if_le (tgt := 556) hx hb d_M_isArithmetic_549 (by decide) (fun cx => ?_) (fun cx => ?_)
                                                      · have hf := ifp cx hf
                                                        refine lv_lload hx hb d_M_isArithmetic_556 (lv_at hl 5 rfl) ?_
                                                        exact wb_M_isArithmetic_558 (fu := fu) F _ _ _ _ _ hf _ _ _ hP hD hS (lv_sub hl [1] rfl)
                                                      · have hf := ifn cx hf
                                                        refine lv_lload_n hx hb d_M_isArithmetic_552 rfl (lv_at hl 4 rfl) ?_
                                                        refine lv_goto (tgt := 558) hx hb d_M_isArithmetic_553 (by decide) ?_
                                                        exact wb_M_isArithmetic_558 (fu := fu) F _ _ _ _ _ hf _ _ _ hP hD hS (lv_sub hl [1] rfl)
                                                    · have hf := ifn cx hf
                                                      have cn_25 := lv_neT (a := 164) cx (by decide)
                                                      clear cx
                                                      refine lv_tableOut (tgt := 563) hx hb d_M_isArithmetic_156 (by omega) (by decide) ?_
                                                      clear cn_0 cn_1 cn_2 cn_3 cn_4 cn_5 cn_6 cn_7 cn_8 cn_9 cn_10 cn_11 cn_12 cn_13 cn_14 cn_15 cn_16 cn_17 cn_18 cn_19 cn_20 cn_21 cn_22 cn_23 cn_24 cn_25
                                                      exact wb_M_isArithmetic_563 (fu := fu) F _ _ _ _ _ _ _ hf _ _ _ hP hD hS (lv_sub hl [1, 4, 5, 0] rfl)
theorem hdm_38 : ({ cls := "CoinKeeperModel", name := "numberAt", desc := "(I)J" } : Jvm.MethodName).cls ≠ "java/lang/invoke/MethodHandle" ∧ ({ cls := "CoinKeeperModel", name := "numberAt", desc := "(I)J" } : Jvm.MethodName).cls ≠ "java/lang/invoke/VarHandle" ∧ (parseMethodDescriptor ({ cls := "CoinKeeperModel", name := "numberAt", desc := "(I)J" } : Jvm.MethodName).desc).map (fun d => d.parameters.length) = some 1 := by decide +kernel
set_option maxHeartbeats 8000000 in
set_option maxRecDepth 100000 in
theorem wb_M_isArithmetic_122 {p : Program} {l : Launch} {e : Env} {s : State} {m : MethodId} {args : Array Value} {below : List Frame} {meth : Method} {c : Code} {D : va_G} {cy : Nat → ClassId} {A : Nat → Prop} {ad : Nat → Nat} {o : Nat} {q : Nat → Nat} {fu : Nat} (F : Fx p s m args meth c b_M_isArithmetic 11 "CoinKeeperModel" "isArithmetic" (some .boolean) D cy ad A) : I_M_isArithmetic_122 p l e s m args below meth c D cy A ad o q (xb_M_isArithmetic_122 fu) := by
  obtain ⟨hx, hb, hr, hml, hown, hts, hlocks, hK, hA, hSt, hnm, hex⟩ := id F
  intro x1 x2 x3 y0 u0 u1 u2 res hf H locs ls hP hD hS hl
  unfold xb_M_isArithmetic_122 at hf
  refine lv_lstore (lv' := [(5, .long y0), (0, .ref o), (1, .int x1), (2, .int x2), (3, .long x3)]) hx hb d_M_isArithmetic_122 hl (by decide) rfl (fun ls hl => ?_)
  refine lv_iload_n hx hb d_M_isArithmetic_124 rfl (lv_at hl 3 rfl) ?_
  refine lv_iconst (v := 2) hx hb d_M_isArithmetic_125 (by decide) ?_
  refine lv_icmp_le (tgt := 142) hx hb d_M_isArithmetic_126 (by decide) (fun cx => ?_) (fun cx => ?_)
  · have hf := ifp cx hf
    refine lv_lconst (v := 0) hx hb d_M_isArithmetic_142 (by decide) ?_
    exact wb_M_isArithmetic_143 (fu := fu) F _ _ _ _ _ _ _ _ _ hf _ _ _ hP hD hS (lv_sub hl [1, 2, 3, 4, 0] rfl)
  · have hf := ifn cx hf
    refine lv_aload_n hx hb d_M_isArithmetic_129 rfl (lv_at hl 1 rfl) ?_
    refine lv_aload_n hx hb d_M_isArithmetic_130 rfl (lv_at hl 1 rfl) ?_
    refine va_get (D := D) (ci := 12) (v := .int (u0 9)) (C := "CoinKeeperModel") (T := F_12) (N := 98) hx hb hts i_12 hown hK hP 0 rfl rfl 79 (by decide) (hts _ gw_1498) (fun _ h9 => h9) rfl d_M_isArithmetic_131 ?_
    refine lv_iconst (v := 1) hx hb d_M_isArithmetic_134 (by decide) ?_
    refine lv_isub hx hb d_M_isArithmetic_135 ?_
    refine lv_topi (fun v1 ev => ?_)
    have hf := bn ev hf
    clear ev
    obtain ⟨v2, hc, hf⟩ := bdp1 hf
    refine q_al (wr := []) (va_runV (C := "CoinKeeperModel") (As := [.int v1]) (rest := []) ⟨hx, hb, hml, hown, hts⟩ (c_M_numberAt l D cy ad fu o q u0 u1 u2 v1 _ hc H.size) ⟨q_cB hts gw_1897 gw_18 gw_1894 hdm_38 ⟨by decide, by decide⟩, hts _ gw_1896, hts _ gs_99⟩ (q_preV (q_pre (hP.sub [0, 1, 2] rfl) (hD.sub [0, 1, 2] (by decide) rfl) hK hSt hS (va_free hD hS hA [0, 1, 2] rfl) _) (va_recv hK (hP.sub [0, 1, 2] rfl) (ci := 12) (q0 := 0) rfl rfl)) rfl rfl hl.1 rfl (lv_room (Nat.le_of_ble_eq_true rfl)) d_M_isArithmetic_136 ⟨Nat.le_of_ble_eq_true rfl, Nat.le_of_ble_eq_true rfl⟩) hP hD hS hA [0, 1, 2] [] rfl rfl (by decide) (by decide) (fun H locs hP hD hS => ?_)
    clear hc
    have hP : va_P D classes [(o, .inr (12, mo q u0)), ((q 68), .inl (cy 0, 104448, .inl u1)), ((q 69), .inl (cy 1, 408, .inl u2))] H := hP
    have hD : va_D A [(o, .inr (12, mo q u0)), ((q 68), .inl (cy 0, 104448, .inl u1)), ((q 69), .inl (cy 1, 408, .inl u2))] := hD
    refine lv_goto (tgt := 143) hx hb d_M_isArithmetic_139 (by decide) ?_
    exact wb_M_isArithmetic_143 (fu := fu) F _ _ _ _ _ _ _ _ _ hf _ _ _ hP hD hS (lv_sub hl [1, 2, 3, 4, 0] rfl)
theorem hdm_39 : ({ cls := "CoinKeeperModel", name := "isNumber", desc := "(I)Z" } : Jvm.MethodName).cls ≠ "java/lang/invoke/MethodHandle" ∧ ({ cls := "CoinKeeperModel", name := "isNumber", desc := "(I)Z" } : Jvm.MethodName).cls ≠ "java/lang/invoke/VarHandle" ∧ (parseMethodDescriptor ({ cls := "CoinKeeperModel", name := "isNumber", desc := "(I)Z" } : Jvm.MethodName).desc).map (fun d => d.parameters.length) = some 1 := by decide +kernel
set_option maxHeartbeats 8000000 in
set_option maxRecDepth 100000 in
theorem wb_M_isArithmetic_64 {p : Program} {l : Launch} {e : Env} {s : State} {m : MethodId} {args : Array Value} {below : List Frame} {meth : Method} {c : Code} {D : va_G} {cy : Nat → ClassId} {A : Nat → Prop} {ad : Nat → Nat} {o : Nat} {q : Nat → Nat} {fu : Nat} {k_64 : Int32 → Int32 → Int32 → (Nat → Int32) → (Nat → Int32) → (Nat → Int32) → Option (Int32 × (Nat → Int32) × (Nat → Int32) × (Nat → Int32))} (F : Fx p s m args meth c b_M_isArithmetic 11 "CoinKeeperModel" "isArithmetic" (some .boolean) D cy ad A) (hk_64 : I_M_isArithmetic_64 p l e s m args below meth c D cy A ad o q k_64) : I_M_isArithmetic_64 p l e s m args below meth c D cy A ad o q (xb_M_isArithmetic_64 fu k_64) := by
  obtain ⟨hx, hb, hr, hml, hown, hts, hlocks, hK, hA, hSt, hnm, hex⟩ := id F
  intro x1 x2 x3 u0 u1 u2 res hf H locs ls hP hD hS hl
  unfold xb_M_isArithmetic_64 at hf
  refine lv_iload_n hx hb d_M_isArithmetic_64 rfl (lv_at hl 3 rfl) ?_
  refine lv_iload_n hx hb d_M_isArithmetic_65 rfl (lv_at hl 2 rfl) ?_
  refine lv_icmp_gt (tgt := 90) hx hb d_M_isArithmetic_66 (by decide) (fun cx => ?_) (fun cx => ?_)
  · have hf := ifp cx hf
    refine lv_aload_n hx hb d_M_isArithmetic_90 rfl (lv_at hl 0 rfl) ?_
    refine lv_aload_n hx hb d_M_isArithmetic_91 rfl (lv_at hl 0 rfl) ?_
    refine va_get (D := D) (ci := 12) (v := .int (u0 9)) (C := "CoinKeeperModel") (T := F_12) (N := 98) hx hb hts i_12 hown hK hP 0 rfl rfl 79 (by decide) (hts _ gw_1498) (fun _ h9 => h9) rfl d_M_isArithmetic_92 ?_
    refine lv_iload_n hx hb d_M_isArithmetic_95 rfl (lv_at hl 2 rfl) ?_
    refine lv_isub hx hb d_M_isArithmetic_96 ?_
    refine lv_topi (fun v1 ev => ?_)
    have hf := bn ev hf
    clear ev
    obtain ⟨v2, hc, hf⟩ := bdp1 hf
    refine q_al (wr := []) (va_runV (C := "CoinKeeperModel") (As := [.int v1]) (rest := []) ⟨hx, hb, hml, hown, hts⟩ (c_M_numberAt l D cy ad fu o q u0 u1 u2 v1 _ hc H.size) ⟨q_cB hts gw_1897 gw_18 gw_1894 hdm_38 ⟨by decide, by decide⟩, hts _ gw_1896, hts _ gs_99⟩ (q_preV (q_pre (hP.sub [0, 1, 2] rfl) (hD.sub [0, 1, 2] (by decide) rfl) hK hSt hS (va_free hD hS hA [0, 1, 2] rfl) _) (va_recv hK (hP.sub [0, 1, 2] rfl) (ci := 12) (q0 := 0) rfl rfl)) rfl rfl hl.1 rfl (lv_room (Nat.le_of_ble_eq_true rfl)) d_M_isArithmetic_97 ⟨Nat.le_of_ble_eq_true rfl, Nat.le_of_ble_eq_true rfl⟩) hP hD hS hA [0, 1, 2] [] rfl rfl (by decide) (by decide) (fun H locs hP hD hS => ?_)
    clear hc
    have hP : va_P D classes [(o, .inr (12, mo q u0)), ((q 68), .inl (cy 0, 104448, .inl u1)), ((q 69), .inl (cy 1, 408, .inl u2))] H := hP
    have hD : va_D A [(o, .inr (12, mo q u0)), ((q 68), .inl (cy 0, 104448, .inl u1)), ((q 69), .inl (cy 1, 408, .inl u2))] := hD
    refine lv_lstore_n (lv' := [(3, .long v2), (0, .ref o), (1, .int x1), (2, .int x2)]) hx hb d_M_isArithmetic_100 rfl hl (by decide) rfl (fun ls hl => ?_)
    refine lv_iload_n hx hb d_M_isArithmetic_101 rfl (lv_at hl 3 rfl) ?_
    refine lv_iconst (v := 1) hx hb d_M_isArithmetic_102 (by decide) ?_
    refine lv_icmp_le (tgt := 121) hx hb d_M_isArithmetic_103 (by decide) (fun cx => ?_) (fun cx => ?_)
    · have hf := ifp cx hf
      refine lv_lconst (v := 0) hx hb d_M_isArithmetic_121 (by decide) ?_
      exact wb_M_isArithmetic_122 (fu := fu) F _ _ _ _ _ _ _ _ hf _ _ _ hP hD hS (lv_sub hl [1, 2, 3, 0] rfl)
    · have hf := ifn cx hf
      refine lv_aload_n hx hb d_M_isArithmetic_106 rfl (lv_at hl 1 rfl) ?_
      refine lv_aload_n hx hb d_M_isArithmetic_107 rfl (lv_at hl 1 rfl) ?_
      refine va_get (D := D) (ci := 12) (v := .int (u0 9)) (C := "CoinKeeperModel") (T := F_12) (N := 98) hx hb hts i_12 hown hK hP 0 rfl rfl 79 (by decide) (hts _ gw_1498) (fun _ h9 => h9) rfl d_M_isArithmetic_108 ?_
      refine lv_iload_n hx hb d_M_isArithmetic_111 rfl (lv_at hl 3 rfl) ?_
      refine lv_isub hx hb d_M_isArithmetic_112 ?_
      refine lv_topi (fun v3 ev => ?_)
      have hf := bn ev hf
      clear ev
      refine lv_iconst (v := 1) hx hb d_M_isArithmetic_113 (by decide) ?_
      refine lv_iadd hx hb d_M_isArithmetic_114 ?_
      refine lv_topi (fun v4 ev => ?_)
      have hf := bn ev hf
      clear ev
      obtain ⟨v5, hc, hf⟩ := bdp1 hf
      refine q_al (wr := []) (va_runV (C := "CoinKeeperModel") (As := [.int v4]) (rest := []) ⟨hx, hb, hml, hown, hts⟩ (c_M_numberAt l D cy ad fu o q u0 u1 u2 v4 _ hc H.size) ⟨q_cB hts gw_1897 gw_18 gw_1894 hdm_38 ⟨by decide, by decide⟩, hts _ gw_1896, hts _ gs_99⟩ (q_preV (q_pre (hP.sub [0, 1, 2] rfl) (hD.sub [0, 1, 2] (by decide) rfl) hK hSt hS (va_free hD hS hA [0, 1, 2] rfl) _) (va_recv hK (hP.sub [0, 1, 2] rfl) (ci := 12) (q0 := 0) rfl rfl)) rfl rfl hl.1 rfl (lv_room (Nat.le_of_ble_eq_true rfl)) d_M_isArithmetic_115 ⟨Nat.le_of_ble_eq_true rfl, Nat.le_of_ble_eq_true rfl⟩) hP hD hS hA [0, 1, 2] [] rfl rfl (by decide) (by decide) (fun H locs hP hD hS => ?_)
      clear hc
      have hP : va_P D classes [(o, .inr (12, mo q u0)), ((q 68), .inl (cy 0, 104448, .inl u1)), ((q 69), .inl (cy 1, 408, .inl u2))] H := hP
      have hD : va_D A [(o, .inr (12, mo q u0)), ((q 68), .inl (cy 0, 104448, .inl u1)), ((q 69), .inl (cy 1, 408, .inl u2))] := hD
      refine lv_goto (tgt := 122) hx hb d_M_isArithmetic_118 (by decide) ?_
      exact wb_M_isArithmetic_122 (fu := fu) F _ _ _ _ _ _ _ _ hf _ _ _ hP hD hS (lv_sub hl [1, 2, 3, 0] rfl)
  · have hf := ifn cx hf
    refine lv_aload_n hx hb d_M_isArithmetic_69 rfl (lv_at hl 0 rfl) ?_
    refine lv_aload_n hx hb d_M_isArithmetic_70 rfl (lv_at hl 0 rfl) ?_
    refine va_get (D := D) (ci := 12) (v := .int (u0 9)) (C := "CoinKeeperModel") (T := F_12) (N := 98) hx hb hts i_12 hown hK hP 0 rfl rfl 79 (by decide) (hts _ gw_1498) (fun _ h9 => h9) rfl d_M_isArithmetic_71 ?_
    refine lv_iload_n hx hb d_M_isArithmetic_74 rfl (lv_at hl 3 rfl) ?_
    refine lv_isub hx hb d_M_isArithmetic_75 ?_
    refine lv_topi (fun v6 ev => ?_)
    have hf := bn ev hf
    clear ev
    obtain ⟨v7, hc, hf⟩ := bdp1 hf
    refine q_ai (wr := [((q 68), .inl (cy 0, 104448, .inl u1))]) (va_runV (C := "CoinKeeperModel") (As := [.int v6]) (rest := []) ⟨hx, hb, hml, hown, hts⟩ (c_M_isNumber l D cy ad fu o q u0 u2 v6 _ hc H.size) ⟨q_cB hts gw_1893 gw_18 gw_1890 hdm_39 ⟨by decide, by decide⟩, hts _ gw_1892, hts _ gs_98⟩ (q_preV (q_pre (hP.sub [0, 2] rfl) (hD.sub [0, 2] (by decide) rfl) hK hSt hS (va_free hD hS hA [0, 2] rfl) _) (va_recv hK (hP.sub [0, 2] rfl) (ci := 12) (q0 := 0) rfl rfl)) rfl rfl hl.1 rfl (lv_room (Nat.le_of_ble_eq_true rfl)) d_M_isArithmetic_76 ⟨Nat.le_of_ble_eq_true rfl, Nat.le_of_ble_eq_true rfl⟩) hP hD hS hA [0, 2] [1] rfl rfl (by decide) (by decide) (fun H locs hP hD hS => ?_)
    clear hc
    have hP : va_P D classes [((q 68), .inl (cy 0, 104448, .inl u1)), (o, .inr (12, mo q u0)), ((q 69), .inl (cy 1, 408, .inl u2))] H := hP
    have hD : va_D A [((q 68), .inl (cy 0, 104448, .inl u1)), (o, .inr (12, mo q u0)), ((q 69), .inl (cy 1, 408, .inl u2))] := hD
    refine lv_if_ne (tgt := 84) hx hb d_M_isArithmetic_79 (by decide) (fun cx => ?_) (fun cx => ?_)
    · have hf := ifn cx hf
      obtain ⟨v8, ev, hf⟩ := bne hf
      refine lv_iinc (v := v8) (lv' := [(3, .int v8), (0, .ref o), (1, .int x1), (2, .int x2)]) hx hb d_M_isArithmetic_84 hl (k := 3) rfl (by rw [ev]; rfl) (by decide) rfl (fun ls hl => ?_)
      clear ev
      refine lv_goto (tgt := 64) hx hb d_M_isArithmetic_87 (by decide) ?_
      exact hk_64 _ _ _ _ _ _ _ hf _ _ _ (hP.sub (ws' := [(o, .inr (12, mo q u0)), ((q 68), .inl (cy 0, 104448, .inl u1)), ((q 69), .inl (cy 1, 408, .inl u2))]) [1, 0, 2] rfl) (hD.sub (ws' := [(o, .inr (12, mo q u0)), ((q 68), .inl (cy 0, 104448, .inl u1)), ((q 69), .inl (cy 1, 408, .inl u2))]) [1, 0, 2] (by decide) rfl) hS (lv_sub hl [1, 2, 3, 0] rfl)
    · have hf := ifp cx hf
      refine lv_iconst (v := 0) hx hb d_M_isArithmetic_82 (by decide) ?_
      obtain rfl := Option.some.inj hf
      exact q_rz hx hb hr hlocks hK (hP.sub [1, 0, 2] rfl) (hD.sub [1, 0, 2] (by decide) rfl) hS (isb_n (v := 0) (by decide)) d_M_isArithmetic_83
theorem w_M_isArithmetic_64 {p : Program} {l : Launch} {e : Env} {s : State} {m : MethodId} {args : Array Value} {below : List Frame} {meth : Method} {c : Code} {D : va_G} {cy : Nat → ClassId} {A : Nat → Prop} {ad : Nat → Nat} {o : Nat} {q : Nat → Nat} {fu : Nat} (F : Fx p s m args meth c b_M_isArithmetic 11 "CoinKeeperModel" "isArithmetic" (some .boolean) D cy ad A) : ∀ n : Nat, I_M_isArithmetic_64 p l e s m args below meth c D cy A ad o q (x_M_isArithmetic_64 fu n)
  | 0 => fun _ _ _ _ _ _ _ hf => nomatch (show (none : Option (Int32 × (Nat → Int32) × (Nat → Int32) × (Nat → Int32))) = some _ from hf)
  | n + 1 => wb_M_isArithmetic_64 F (w_M_isArithmetic_64 F n)
theorem hdm_40 : ({ cls := "CoinKeeperModel", name := "has", desc := "(I)Z" } : Jvm.MethodName).cls ≠ "java/lang/invoke/MethodHandle" ∧ ({ cls := "CoinKeeperModel", name := "has", desc := "(I)Z" } : Jvm.MethodName).cls ≠ "java/lang/invoke/VarHandle" ∧ (parseMethodDescriptor ({ cls := "CoinKeeperModel", name := "has", desc := "(I)Z" } : Jvm.MethodName).desc).map (fun d => d.parameters.length) = some 1 := by decide +kernel
set_option maxHeartbeats 8000000 in
set_option maxRecDepth 100000 in
theorem wb_M_isArithmetic_52 {p : Program} {l : Launch} {e : Env} {s : State} {m : MethodId} {args : Array Value} {below : List Frame} {meth : Method} {c : Code} {D : va_G} {cy : Nat → ClassId} {A : Nat → Prop} {ad : Nat → Nat} {o : Nat} {q : Nat → Nat} {fu : Nat} (F : Fx p s m args meth c b_M_isArithmetic 11 "CoinKeeperModel" "isArithmetic" (some .boolean) D cy ad A) : I_M_isArithmetic_52 p l e s m args below meth c D cy A ad o q (xb_M_isArithmetic_52 fu) := by
  obtain ⟨hx, hb, hr, hml, hown, hts, hlocks, hK, hA, hSt, hnm, hex⟩ := id F
  intro x1 x2 u0 u1 u2 res hf H locs ls hP hD hS hl
  unfold xb_M_isArithmetic_52 at hf
  refine lv_aload_n hx hb d_M_isArithmetic_52 rfl (lv_at hl 0 rfl) ?_
  refine lv_iload_n hx hb d_M_isArithmetic_53 rfl (lv_at hl 2 rfl) ?_
  obtain ⟨v1, hc, hf⟩ := bdp1 hf
  refine q_ai (wr := [((q 68), .inl (cy 0, 104448, .inl u1)), ((q 69), .inl (cy 1, 408, .inl u2))]) (va_runV (C := "CoinKeeperModel") (As := [.int x2]) (rest := []) ⟨hx, hb, hml, hown, hts⟩ (c_M_has l D cy ad fu o q u0 x2 _ hc H.size) ⟨q_cB hts gw_1889 gw_18 gw_1886 hdm_40 ⟨by decide, by decide⟩, hts _ gw_1888, hts _ gs_97⟩ (q_preV (q_pre (hP.sub [0] rfl) (hD.sub [0] (by decide) rfl) hK hSt hS (va_free hD hS hA [0] rfl) _) (va_recv hK (hP.sub [0] rfl) (ci := 12) (q0 := 0) rfl rfl)) rfl rfl hl.1 rfl (lv_room (Nat.le_of_ble_eq_true rfl)) d_M_isArithmetic_54 ⟨Nat.le_of_ble_eq_true rfl, Nat.le_of_ble_eq_true rfl⟩) hP hD hS hA [0] [1, 2] rfl rfl (by decide) (by decide) (fun H locs hP hD hS => ?_)
  clear hc
  have hP : va_P D classes [((q 68), .inl (cy 0, 104448, .inl u1)), ((q 69), .inl (cy 1, 408, .inl u2)), (o, .inr (12, mo q u0))] H := hP
  have hD : va_D A [((q 68), .inl (cy 0, 104448, .inl u1)), ((q 69), .inl (cy 1, 408, .inl u2)), (o, .inr (12, mo q u0))] := hD
  refine lv_if_ne (tgt := 62) hx hb d_M_isArithmetic_57 (by decide) (fun cx => ?_) (fun cx => ?_)
  · have hf := ifn cx hf
    refine lv_iconst (v := 1) hx hb d_M_isArithmetic_62 (by decide) ?_
    refine lv_istore_n (lv' := [(3, .int (1 : Int32)), (0, .ref o), (1, .int x1), (2, .int x2)]) hx hb d_M_isArithmetic_63 rfl hl (by decide) rfl (fun ls hl => ?_)
    exact w_M_isArithmetic_64 F fu _ _ _ _ _ _ _ hf _ _ _ (hP.sub (ws' := [(o, .inr (12, mo q u0)), ((q 68), .inl (cy 0, 104448, .inl u1)), ((q 69), .inl (cy 1, 408, .inl u2))]) [2, 0, 1] rfl) (hD.sub (ws' := [(o, .inr (12, mo q u0)), ((q 68), .inl (cy 0, 104448, .inl u1)), ((q 69), .inl (cy 1, 408, .inl u2))]) [2, 0, 1] (by decide) rfl) hS (lv_sub hl [1, 2, 3, 0] rfl)
  · have hf := ifp cx hf
    refine lv_iconst (v := 0) hx hb d_M_isArithmetic_60 (by decide) ?_
    obtain rfl := Option.some.inj hf
    exact q_rz hx hb hr hlocks hK (hP.sub [2, 0, 1] rfl) (hD.sub [2, 0, 1] (by decide) rfl) hS (isb_n (v := 0) (by decide)) d_M_isArithmetic_61
set_option maxHeartbeats 8000000 in
set_option maxRecDepth 100000 in
theorem wb_M_isArithmetic_23 {p : Program} {l : Launch} {e : Env} {s : State} {m : MethodId} {args : Array Value} {below : List Frame} {meth : Method} {c : Code} {D : va_G} {cy : Nat → ClassId} {A : Nat → Prop} {ad : Nat → Nat} {o : Nat} {q : Nat → Nat} {fu : Nat} (F : Fx p s m args meth c b_M_isArithmetic 11 "CoinKeeperModel" "isArithmetic" (some .boolean) D cy ad A) : I_M_isArithmetic_23 p l e s m args below meth c D cy A ad o q (xb_M_isArithmetic_23 fu) := by
  obtain ⟨hx, hb, hr, hml, hown, hts, hlocks, hK, hA, hSt, hnm, hex⟩ := id F
  intro x1 y0 u0 u1 u2 res hf H locs ls hP hD hS hl
  unfold xb_M_isArithmetic_23 at hf
  refine lv_istore_n (lv' := [(2, .int y0), (0, .ref o), (1, .int x1)]) hx hb d_M_isArithmetic_23 rfl hl (by decide) rfl (fun ls hl => ?_)
  refine lv_iload_n hx hb d_M_isArithmetic_24 rfl (lv_at hl 2 rfl) ?_
  refine lv_sipush (v := 141) hx hb d_M_isArithmetic_25 (by decide) ?_
  refine lv_icmp_eq (tgt := 60) hx hb d_M_isArithmetic_28 (by decide) (fun cx => ?_) (fun cx => ?_)
  · have hf := ifp cx hf
    refine lv_iconst (v := 0) hx hb d_M_isArithmetic_60 (by decide) ?_
    obtain rfl := Option.some.inj hf
    exact q_rz hx hb hr hlocks hK hP hD hS (isb_n (v := 0) (by decide)) d_M_isArithmetic_61
  · have hf := ifn cx hf
    refine lv_iload_n hx hb d_M_isArithmetic_31 rfl (lv_at hl 2 rfl) ?_
    refine lv_sipush (v := 142) hx hb d_M_isArithmetic_32 (by decide) ?_
    refine lv_icmp_eq (tgt := 60) hx hb d_M_isArithmetic_35 (by decide) (fun cx => ?_) (fun cx => ?_)
    · have hf := ifp cx hf
      refine lv_iconst (v := 0) hx hb d_M_isArithmetic_60 (by decide) ?_
      obtain rfl := Option.some.inj hf
      exact q_rz hx hb hr hlocks hK hP hD hS (isb_n (v := 0) (by decide)) d_M_isArithmetic_61
    · have hf := ifn cx hf
      refine lv_iload_n hx hb d_M_isArithmetic_38 rfl (lv_at hl 2 rfl) ?_
      refine lv_sipush (v := 149) hx hb d_M_isArithmetic_39 (by decide) ?_
      refine lv_icmp_lt (tgt := 52) hx hb d_M_isArithmetic_42 (by decide) (fun cx => ?_) (fun cx => ?_)
      · have hf := ifp cx hf
        exact wb_M_isArithmetic_52 (fu := fu) F _ _ _ _ _ _ hf _ _ _ hP hD hS (lv_sub hl [1, 2, 0] rfl)
      · have hf := ifn cx hf
        refine lv_iload_n hx hb d_M_isArithmetic_45 rfl (lv_at hl 2 rfl) ?_
        refine lv_sipush (v := 153) hx hb d_M_isArithmetic_46 (by decide) ?_
        refine lv_icmp_le (tgt := 60) hx hb d_M_isArithmetic_49 (by decide) (fun cx => ?_) (fun cx => ?_)
        · have hf := ifp cx hf
          refine lv_iconst (v := 0) hx hb d_M_isArithmetic_60 (by decide) ?_
          obtain rfl := Option.some.inj hf
          exact q_rz hx hb hr hlocks hK hP hD hS (isb_n (v := 0) (by decide)) d_M_isArithmetic_61
        · have hf := ifn cx hf
          exact wb_M_isArithmetic_52 (fu := fu) F _ _ _ _ _ _ hf _ _ _ hP hD hS (lv_sub hl [1, 2, 0] rfl)
set_option maxHeartbeats 8000000 in
set_option maxRecDepth 100000 in
theorem we_M_isArithmetic {p : Program} {l : Launch} {e : Env} {s : State} {m : MethodId} {args : Array Value} {below : List Frame} {meth : Method} {c : Code} {D : va_G} {cy : Nat → ClassId} {A : Nat → Prop} {ad : Nat → Nat} {o : Nat} {q : Nat → Nat} {fu : Nat} (F : Fx p s m args meth c b_M_isArithmetic 11 "CoinKeeperModel" "isArithmetic" (some .boolean) D cy ad A) : I_M_isArithmetic_e p l e s m args below meth c D cy A ad o q (x_M_isArithmetic fu) := by
  obtain ⟨hx, hb, hr, hml, hown, hts, hlocks, hK, hA, hSt, hnm, hex⟩ := id F
  intro a1 u0 u1 u2 res hf H locs ls hP hD hS hl
  unfold x_M_isArithmetic at hf
  refine lv_iload_n hx hb d_M_isArithmetic_0 rfl (lv_at hl 1 rfl) ?_
  refine lv_sipush (v := 165) hx hb d_M_isArithmetic_1 (by decide) ?_
  refine lv_icmp_ne (tgt := 11) hx hb d_M_isArithmetic_4 (by decide) (fun cx => ?_) (fun cx => ?_)
  · have hf := ifn cx hf
    refine lv_iload_n hx hb d_M_isArithmetic_11 rfl (lv_at hl 1 rfl) ?_
    refine lv_sipush (v := 146) hx hb d_M_isArithmetic_12 (by decide) ?_
    refine lv_icmp_gt (tgt := 22) hx hb d_M_isArithmetic_15 (by decide) (fun cx => ?_) (fun cx => ?_)
    · have hf := ifp cx hf
      refine lv_iconst (v := 2) hx hb d_M_isArithmetic_22 (by decide) ?_
      exact wb_M_isArithmetic_23 (fu := fu) F _ _ _ _ _ _ hf _ _ _ hP hD hS (lv_sub hl [0, 1] rfl)
    · have hf := ifn cx hf
      refine lv_iconst (v := 1) hx hb d_M_isArithmetic_18 (by decide) ?_
      refine lv_goto (tgt := 23) hx hb d_M_isArithmetic_19 (by decide) ?_
      exact wb_M_isArithmetic_23 (fu := fu) F _ _ _ _ _ _ hf _ _ _ hP hD hS (lv_sub hl [0, 1] rfl)
  · have hf := ifp cx hf
    refine lv_iconst (v := 3) hx hb d_M_isArithmetic_7 (by decide) ?_
    refine lv_goto (tgt := 23) hx hb d_M_isArithmetic_8 (by decide) ?_
    exact wb_M_isArithmetic_23 (fu := fu) F _ _ _ _ _ _ hf _ _ _ hP hD hS (lv_sub hl [0, 1] rfl)
theorem c_M_isArithmetic (l : Launch) (D : va_G) (cy : Nat → ClassId) (ad : Nat → Nat) (fu : Nat) (o : Nat) (q : Nat → Nat) (a1 : Int32) (u0 : Nat → Int32) (u1 : Nat → Int32) (u2 : Nat → Int32) (res : Int32 × (Nat → Int32) × (Nat → Int32) × (Nat → Int32)) (hf : x_M_isArithmetic fu a1 u0 u1 u2 = some res) (sz : Nat) : Met l ({ cls := "CoinKeeperModel", name := "isArithmetic", desc := "(I)Z" } : Jvm.MethodName) (.code ({ cls := "CoinKeeperModel", name := "isArithmetic", desc := "(I)Z" } : Jvm.MethodName) b_M_isArithmetic 11 (some .boolean) :: gw) rm_M_isArithmetic (va_Pc [.ref o, .int a1] (Pr D cy ad [(o, .inr (12, mo q u0)), ((q 68), .inl (cy 0, 104448, .inl u1)), ((q 69), .inl (cy 1, 408, .inl u2))] sz)) (q_M_isArithmetic D cy (va_A [(o, .inr (12, mo q u0)), ((q 68), .inl (cy 0, 104448, .inl u1)), ((q 69), .inl (cy 1, 408, .inl u2))] sz) o q res) 0 0 (va_A [(o, .inr (12, mo q u0)), ((q 68), .inl (cy 0, 104448, .inl u1)), ((q 69), .inl (cy 1, 408, .inl u2))] sz) :=
  q_met (Qc := fun A => q_M_isArithmetic D cy A o q res) (by decide) rfl rfl (Nat.le_of_ble_eq_true rfl) (fun p e s m below meth c ls F hP hD hS hl => we_M_isArithmetic (fu := fu) F a1 u0 u1 u2 res hf _ _ _ hP hD hS hl) sz
abbrev b_M_other0 : ByteArray := prog_14_method_39_code
theorem d_M_other0_0 : decode b_M_other0 0 = .ok (.sipush 407, 3) := by decide +kernel
theorem d_M_other0_3 : decode b_M_other0 3 = .ok (.iload_n 0, 1) := by decide +kernel
theorem d_M_other0_4 : decode b_M_other0 4 = .ok (.isub, 1) := by decide +kernel
theorem d_M_other0_5 : decode b_M_other0 5 = .ok (.ireturn, 1) := by decide +kernel
abbrev rm_M_other0 : Room := { frames := 0, cells := 0, slots := 0, locals := 0 }
abbrev q_M_other0 (D : va_G) (cy : Nat → ClassId) (A : Nat → Prop) (res : Int32) : Array Value → State → Outcome → State → Prop := va_Qi (fun r' (_ : Unit) => r' = res) (fun _ t => Po D cy A [] t) A
def I_M_other0_e (p : Program) (l : Launch) (e : Env) (s : State) (m : MethodId) (args : Array Value) (below : List Frame) (meth : Method) (c : Code) (D : va_G) (cy : Nat → ClassId) (A : Nat → Prop) (ad : Nat → Nat) (k : Int32 → Option (Int32)) : Prop :=
  ∀ (a0 : Int32) (res : Int32), k a0 = some res → ∀ (H : Heap) (locs : List Loc) (ls : Array Slot), va_P D classes [] H → va_D A [] → va_S A s.heap H locs → lv_has ls 1 [(0, .int a0)] → W p l e rm_M_other0 s m args below meth c H locs 0 0 (MQ below (q_M_other0 D cy A res) args s 0 0 A) (F0 m 0 ls [])
set_option maxHeartbeats 8000000 in
set_option maxRecDepth 100000 in
theorem we_M_other0 {p : Program} {l : Launch} {e : Env} {s : State} {m : MethodId} {args : Array Value} {below : List Frame} {meth : Method} {c : Code} {D : va_G} {cy : Nat → ClassId} {A : Nat → Prop} {ad : Nat → Nat} {fu : Nat} (F : Fx p s m args meth c b_M_other0 1 "CoinKeeperModel" "other" (some .int) D cy ad A) : I_M_other0_e p l e s m args below meth c D cy A ad (x_M_other0 fu) := by
  obtain ⟨hx, hb, hr, hml, hown, hts, hlocks, hK, hA, hSt, hnm, hex⟩ := id F
  intro a0 res hf H locs ls hP hD hS hl
  unfold x_M_other0 at hf
  refine lv_sipush (v := 407) hx hb d_M_other0_0 (by decide) ?_
  refine lv_iload_n hx hb d_M_other0_3 rfl (lv_at hl 0 rfl) ?_
  refine lv_isub hx hb d_M_other0_4 ?_
  refine lv_topi (fun v1 ev => ?_)
  have hf := bn ev hf
  clear ev
  obtain rfl := Option.some.inj hf
  exact q_ri hx hb hr hlocks hK hP hD hS d_M_other0_5
theorem c_M_other0 (l : Launch) (D : va_G) (cy : Nat → ClassId) (ad : Nat → Nat) (fu : Nat) (a0 : Int32) (res : Int32) (hf : x_M_other0 fu a0 = some res) (sz : Nat) : Met l ({ cls := "CoinKeeperModel", name := "other", desc := "(I)I" } : Jvm.MethodName) (.code ({ cls := "CoinKeeperModel", name := "other", desc := "(I)I" } : Jvm.MethodName) b_M_other0 1 (some .int) :: gw) rm_M_other0 (va_Pc [.int a0] (Pr D cy ad [] sz)) (q_M_other0 D cy (va_A [] sz) res) 0 0 (va_A [] sz) :=
  q_met (Qc := fun A => q_M_other0 D cy A res) (by decide) rfl rfl (Nat.le_of_ble_eq_true rfl) (fun p e s m below meth c ls F hP hD hS hl => we_M_other0 (fu := fu) F a0 res hf _ _ _ hP hD hS hl) sz
abbrev b_M_move : ByteArray := prog_14_method_40_code
theorem d_M_move_0 : decode b_M_move 0 = .ok (.aload_n 0, 1) := by decide +kernel
theorem d_M_move_1 : decode b_M_move 1 = .ok (.getfield 221, 3) := by decide +kernel
theorem d_M_move_4 : decode b_M_move 4 = .ok (.sipush 256, 3) := by decide +kernel
theorem d_M_move_7 : decode b_M_move 7 = .ok (.iload_n 1, 1) := by decide +kernel
theorem d_M_move_8 : decode b_M_move 8 = .ok (.imul, 1) := by decide +kernel
theorem d_M_move_9 : decode b_M_move 9 = .ok (.aload_n 0, 1) := by decide +kernel
theorem d_M_move_10 : decode b_M_move 10 = .ok (.getfield 221, 3) := by decide +kernel
theorem d_M_move_13 : decode b_M_move 13 = .ok (.sipush 256, 3) := by decide +kernel
theorem d_M_move_16 : decode b_M_move 16 = .ok (.iload_n 2, 1) := by decide +kernel
theorem d_M_move_17 : decode b_M_move 17 = .ok (.imul, 1) := by decide +kernel
theorem d_M_move_18 : decode b_M_move 18 = .ok (.aload_n 0, 1) := by decide +kernel
theorem d_M_move_19 : decode b_M_move 19 = .ok (.getfield 224, 3) := by decide +kernel
theorem d_M_move_22 : decode b_M_move 22 = .ok (.iload_n 1, 1) := by decide +kernel
theorem d_M_move_23 : decode b_M_move 23 = .ok (.iaload, 1) := by decide +kernel
theorem d_M_move_24 : decode b_M_move 24 = .ok (.invokestatic 271, 3) := by decide +kernel
theorem d_M_move_27 : decode b_M_move 27 = .ok (.aload_n 0, 1) := by decide +kernel
theorem d_M_move_28 : decode b_M_move 28 = .ok (.getfield 224, 3) := by decide +kernel
theorem d_M_move_31 : decode b_M_move 31 = .ok (.iload_n 2, 1) := by decide +kernel
theorem d_M_move_32 : decode b_M_move 32 = .ok (.aload_n 0, 1) := by decide +kernel
theorem d_M_move_33 : decode b_M_move 33 = .ok (.getfield 224, 3) := by decide +kernel
theorem d_M_move_36 : decode b_M_move 36 = .ok (.iload_n 1, 1) := by decide +kernel
theorem d_M_move_37 : decode b_M_move 37 = .ok (.iaload, 1) := by decide +kernel
theorem d_M_move_38 : decode b_M_move 38 = .ok (.iastore, 1) := by decide +kernel
theorem d_M_move_39 : decode b_M_move 39 = .ok (.return_, 1) := by decide +kernel
abbrev rm_M_move : Room := { frames := 1, cells := 0, slots := 0, locals := 26 }
abbrev q_M_move (D : va_G) (cy : Nat → ClassId) (A : Nat → Prop) (o : Nat) (q : Nat → Nat) (z : Nat → Int32) (res : (Nat → Int32) × (Nat → Int32)) : Array Value → State → Outcome → State → Prop := va_Qv (fun (_ : Unit) => True) (fun _ t => Po D cy A [(o, .inr (12, mo q z)), ((q 68), .inl (cy 0, 104448, .inl res.1)), ((q 69), .inl (cy 1, 408, .inl res.2))] t) A
def I_M_move_e (p : Program) (l : Launch) (e : Env) (s : State) (m : MethodId) (args : Array Value) (below : List Frame) (meth : Method) (c : Code) (D : va_G) (cy : Nat → ClassId) (A : Nat → Prop) (ad : Nat → Nat) (o : Nat) (q : Nat → Nat) (z : Nat → Int32) (k : Int32 → Int32 → (Nat → Int32) → (Nat → Int32) → Option ((Nat → Int32) × (Nat → Int32))) : Prop :=
  ∀ (a1 : Int32) (a2 : Int32) (u0 : Nat → Int32) (u1 : Nat → Int32) (res : (Nat → Int32) × (Nat → Int32)), k a1 a2 u0 u1 = some res → ∀ (H : Heap) (locs : List Loc) (ls : Array Slot), va_P D classes [(o, .inr (12, mo q z)), ((q 68), .inl (cy 0, 104448, .inl u0)), ((q 69), .inl (cy 1, 408, .inl u1))] H → va_D A [(o, .inr (12, mo q z)), ((q 68), .inl (cy 0, 104448, .inl u0)), ((q 69), .inl (cy 1, 408, .inl u1))] → va_S A s.heap H locs → lv_has ls 3 [(0, .ref o), (1, .int a1), (2, .int a2)] → W p l e rm_M_move s m args below meth c H locs 0 0 (MQ below (q_M_move D cy A o q z res) args s 0 0 A) (F0 m 0 ls [])
set_option maxHeartbeats 8000000 in
set_option maxRecDepth 100000 in
theorem we_M_move {p : Program} {l : Launch} {e : Env} {s : State} {m : MethodId} {args : Array Value} {below : List Frame} {meth : Method} {c : Code} {D : va_G} {cy : Nat → ClassId} {A : Nat → Prop} {ad : Nat → Nat} {o : Nat} {q : Nat → Nat} {z : Nat → Int32} {fu : Nat} (F : Fx p s m args meth c b_M_move 3 "CoinKeeperModel" "move" none D cy ad A) : I_M_move_e p l e s m args below meth c D cy A ad o q z (x_M_move fu z) := by
  obtain ⟨hx, hb, hr, hml, hown, hts, hlocks, hK, hA, hSt, hnm, hex⟩ := id F
  intro a1 a2 u0 u1 res hf H locs ls hP hD hS hl
  unfold x_M_move at hf
  refine lv_aload_n hx hb d_M_move_0 rfl (lv_at hl 0 rfl) ?_
  refine va_get (D := D) (ci := 12) (v := .ref (q 68)) (C := "CoinKeeperModel") (T := F_12) (N := 98) hx hb hts i_12 hown hK hP 0 rfl rfl 77 (by decide) (hts _ gw_1496) (fun _ h9 => h9) rfl d_M_move_1 ?_
  refine lv_sipush (v := 256) hx hb d_M_move_4 (by decide) ?_
  refine lv_iload_n hx hb d_M_move_7 rfl (lv_at hl 1 rfl) ?_
  refine lv_imul hx hb d_M_move_8 ?_
  refine lv_topi (fun v1 ev => ?_)
  have hf := bn ev hf
  clear ev
  refine lv_aload_n hx hb d_M_move_9 rfl (lv_at hl 0 rfl) ?_
  refine va_get (D := D) (ci := 12) (v := .ref (q 68)) (C := "CoinKeeperModel") (T := F_12) (N := 98) hx hb hts i_12 hown hK hP 0 rfl rfl 77 (by decide) (hts _ gw_1496) (fun _ h9 => h9) rfl d_M_move_10 ?_
  refine lv_sipush (v := 256) hx hb d_M_move_13 (by decide) ?_
  refine lv_iload_n hx hb d_M_move_16 rfl (lv_at hl 2 rfl) ?_
  refine lv_imul hx hb d_M_move_17 ?_
  refine lv_topi (fun v2 ev => ?_)
  have hf := bn ev hf
  clear ev
  refine lv_aload_n hx hb d_M_move_18 rfl (lv_at hl 0 rfl) ?_
  refine va_get (D := D) (ci := 12) (v := .ref (q 69)) (C := "CoinKeeperModel") (T := F_12) (N := 98) hx hb hts i_12 hown hK hP 0 rfl rfl 78 (by decide) (hts _ gw_1497) (fun _ h9 => h9) rfl d_M_move_19 ?_
  refine lv_iload_n hx hb d_M_move_22 rfl (lv_at hl 1 rfl) ?_
  obtain ⟨hg, hf⟩ := gdp hf
  refine va_iald hx hb hK hP 2 1 rfl rfl (inb_in hg) d_M_move_23 ?_
  refine lv_topi (fun v3 ev => ?_)
  have hf := bn ev hf
  clear ev
  obtain ⟨hg, hf⟩ := gdp hf
  obtain ⟨hg2, hf⟩ := gdp hf
  refine va_copyi (rest := []) hx hb (hml.trans hl.1.symm) hown (hts _ gw_1398) (hts _ gw_497) (hts _ gw_496) (hts _ gw_17) hK hP hD hS 1 1 0 0 rfl rfl rfl rfl rfl (cpk_p hg).1 (cpk_p hg).2.1 (cpk_p hg).2.2.1 (cpk_p hg).2.2.2.1 (cpk_p hg).2.2.2.2 (bfit_p hg2) (by decide) (by decide) d_M_move_24 (fun H locs hP hD hS => ?_)
  obtain ⟨f4, ev, hf⟩ := bne hf
  have hP : va_P D classes [(o, .inr (12, mo q z)), ((q 68), .inl (cy 0, 104448, .inl f4)), ((q 69), .inl (cy 1, 408, .inl u1))] H := by rw [ev]; exact hP
  have hD : va_D A [(o, .inr (12, mo q z)), ((q 68), .inl (cy 0, 104448, .inl f4)), ((q 69), .inl (cy 1, 408, .inl u1))] := by rw [ev]; exact hD
  clear ev
  refine lv_aload_n hx hb d_M_move_27 rfl (lv_at hl 0 rfl) ?_
  refine va_get (D := D) (ci := 12) (v := .ref (q 69)) (C := "CoinKeeperModel") (T := F_12) (N := 98) hx hb hts i_12 hown hK hP 0 rfl rfl 78 (by decide) (hts _ gw_1497) (fun _ h9 => h9) rfl d_M_move_28 ?_
  refine lv_iload_n hx hb d_M_move_31 rfl (lv_at hl 2 rfl) ?_
  refine lv_aload_n hx hb d_M_move_32 rfl (lv_at hl 0 rfl) ?_
  refine va_get (D := D) (ci := 12) (v := .ref (q 69)) (C := "CoinKeeperModel") (T := F_12) (N := 98) hx hb hts i_12 hown hK hP 0 rfl rfl 78 (by decide) (hts _ gw_1497) (fun _ h9 => h9) rfl d_M_move_33 ?_
  refine lv_iload_n hx hb d_M_move_36 rfl (lv_at hl 1 rfl) ?_
  obtain ⟨hg, hf⟩ := gdp hf
  refine va_iald hx hb hK hP 2 1 rfl rfl (inb_in hg) d_M_move_37 ?_
  refine lv_topi (fun v5 ev => ?_)
  have hf := bn ev hf
  clear ev
  obtain ⟨hg, hf⟩ := gdp hf
  refine va_iast hx hb hK hP hD hS 2 1 rfl rfl (inb_in hg) d_M_move_38 (fun H locs hP hD hS => ?_)
  obtain ⟨f6, ev, hf⟩ := bne hf
  have hP : va_P D classes [(o, .inr (12, mo q z)), ((q 68), .inl (cy 0, 104448, .inl f4)), ((q 69), .inl (cy 1, 408, .inl f6))] H := by rw [ev]; exact hP
  have hD : va_D A [(o, .inr (12, mo q z)), ((q 68), .inl (cy 0, 104448, .inl f4)), ((q 69), .inl (cy 1, 408, .inl f6))] := by rw [ev]; exact hD
  clear ev
  obtain rfl := Option.some.inj hf
  exact q_rv hx hb hr hlocks hK hP hD hS d_M_move_39
theorem c_M_move (l : Launch) (D : va_G) (cy : Nat → ClassId) (ad : Nat → Nat) (fu : Nat) (o : Nat) (q : Nat → Nat) (z : Nat → Int32) (a1 : Int32) (a2 : Int32) (u0 : Nat → Int32) (u1 : Nat → Int32) (res : (Nat → Int32) × (Nat → Int32)) (hf : x_M_move fu z a1 a2 u0 u1 = some res) (sz : Nat) : Met l ({ cls := "CoinKeeperModel", name := "move", desc := "(II)V" } : Jvm.MethodName) (.code ({ cls := "CoinKeeperModel", name := "move", desc := "(II)V" } : Jvm.MethodName) b_M_move 3 none :: gw) rm_M_move (va_Pc [.ref o, .int a1, .int a2] (Pr D cy ad [(o, .inr (12, mo q z)), ((q 68), .inl (cy 0, 104448, .inl u0)), ((q 69), .inl (cy 1, 408, .inl u1))] sz)) (q_M_move D cy (va_A [(o, .inr (12, mo q z)), ((q 68), .inl (cy 0, 104448, .inl u0)), ((q 69), .inl (cy 1, 408, .inl u1))] sz) o q z res) 0 0 (va_A [(o, .inr (12, mo q z)), ((q 68), .inl (cy 0, 104448, .inl u0)), ((q 69), .inl (cy 1, 408, .inl u1))] sz) :=
  q_met (Qc := fun A => q_M_move D cy A o q z res) (by decide) rfl rfl (Nat.le_of_ble_eq_true rfl) (fun p e s m below meth c ls F hP hD hS hl => we_M_move (fu := fu) F a1 a2 u0 u1 res hf _ _ _ hP hD hS hl) sz
abbrev b_M_again : ByteArray := prog_14_method_51_code
theorem d_M_again_0 : decode b_M_again 0 = .ok (.aload_n 0, 1) := by decide +kernel
theorem d_M_again_1 : decode b_M_again 1 = .ok (.iload_n 1, 1) := by decide +kernel
theorem d_M_again_2 : decode b_M_again 2 = .ok (.invokevirtual 468, 3) := by decide +kernel
theorem d_M_again_5 : decode b_M_again 5 = .ok (.ifCond .ne 5, 3) := by decide +kernel
theorem d_M_again_8 : decode b_M_again 8 = .ok (.iconst 0, 1) := by decide +kernel
theorem d_M_again_9 : decode b_M_again 9 = .ok (.ireturn, 1) := by decide +kernel
theorem d_M_again_10 : decode b_M_again 10 = .ok (.aload_n 0, 1) := by decide +kernel
theorem d_M_again_11 : decode b_M_again 11 = .ok (.aload_n 0, 1) := by decide +kernel
theorem d_M_again_12 : decode b_M_again 12 = .ok (.getfield 439, 3) := by decide +kernel
theorem d_M_again_15 : decode b_M_again 15 = .ok (.iload_n 1, 1) := by decide +kernel
theorem d_M_again_16 : decode b_M_again 16 = .ok (.isub, 1) := by decide +kernel
theorem d_M_again_17 : decode b_M_again 17 = .ok (.aload_n 0, 1) := by decide +kernel
theorem d_M_again_18 : decode b_M_again 18 = .ok (.getfield 439, 3) := by decide +kernel
theorem d_M_again_21 : decode b_M_again 21 = .ok (.invokevirtual 474, 3) := by decide +kernel
theorem d_M_again_24 : decode b_M_again 24 = .ok (.aload_n 0, 1) := by decide +kernel
theorem d_M_again_25 : decode b_M_again 25 = .ok (.dup, 1) := by decide +kernel
theorem d_M_again_26 : decode b_M_again 26 = .ok (.getfield 439, 3) := by decide +kernel
theorem d_M_again_29 : decode b_M_again 29 = .ok (.iconst 1, 1) := by decide +kernel
theorem d_M_again_30 : decode b_M_again 30 = .ok (.iadd, 1) := by decide +kernel
theorem d_M_again_31 : decode b_M_again 31 = .ok (.putfield 439, 3) := by decide +kernel
theorem d_M_again_34 : decode b_M_again 34 = .ok (.iconst 1, 1) := by decide +kernel
theorem d_M_again_35 : decode b_M_again 35 = .ok (.ireturn, 1) := by decide +kernel
abbrev rm_M_again : Room := { frames := 2, cells := 0, slots := 0, locals := 48 }
abbrev q_M_again (D : va_G) (cy : Nat → ClassId) (A : Nat → Prop) (o : Nat) (q : Nat → Nat) (res : Int32 × (Nat → Int32) × (Nat → Int32) × (Nat → Int32)) : Array Value → State → Outcome → State → Prop := va_Qi (fun r' (_ : Unit) => r' = res.1) (fun _ t => Po D cy A [(o, .inr (12, mo q res.2.1)), ((q 68), .inl (cy 0, 104448, .inl res.2.2.1)), ((q 69), .inl (cy 1, 408, .inl res.2.2.2))] t) A
def I_M_again_e (p : Program) (l : Launch) (e : Env) (s : State) (m : MethodId) (args : Array Value) (below : List Frame) (meth : Method) (c : Code) (D : va_G) (cy : Nat → ClassId) (A : Nat → Prop) (ad : Nat → Nat) (o : Nat) (q : Nat → Nat) (k : Int32 → (Nat → Int32) → (Nat → Int32) → (Nat → Int32) → Option (Int32 × (Nat → Int32) × (Nat → Int32) × (Nat → Int32))) : Prop :=
  ∀ (a1 : Int32) (u0 : Nat → Int32) (u1 : Nat → Int32) (u2 : Nat → Int32) (res : Int32 × (Nat → Int32) × (Nat → Int32) × (Nat → Int32)), k a1 u0 u1 u2 = some res → ∀ (H : Heap) (locs : List Loc) (ls : Array Slot), va_P D classes [(o, .inr (12, mo q u0)), ((q 68), .inl (cy 0, 104448, .inl u1)), ((q 69), .inl (cy 1, 408, .inl u2))] H → va_D A [(o, .inr (12, mo q u0)), ((q 68), .inl (cy 0, 104448, .inl u1)), ((q 69), .inl (cy 1, 408, .inl u2))] → va_S A s.heap H locs → lv_has ls 2 [(0, .ref o), (1, .int a1)] → W p l e rm_M_again s m args below meth c H locs 0 0 (MQ below (q_M_again D cy A o q res) args s 0 0 A) (F0 m 0 ls [])
theorem hdm_41 : ({ cls := "CoinKeeperModel", name := "move", desc := "(II)V" } : Jvm.MethodName).cls ≠ "java/lang/invoke/MethodHandle" ∧ ({ cls := "CoinKeeperModel", name := "move", desc := "(II)V" } : Jvm.MethodName).cls ≠ "java/lang/invoke/VarHandle" ∧ (parseMethodDescriptor ({ cls := "CoinKeeperModel", name := "move", desc := "(II)V" } : Jvm.MethodName).desc).map (fun d => d.parameters.length) = some 2 := by decide +kernel
set_option maxHeartbeats 8000000 in
set_option maxRecDepth 100000 in
theorem we_M_again {p : Program} {l : Launch} {e : Env} {s : State} {m : MethodId} {args : Array Value} {below : List Frame} {meth : Method} {c : Code} {D : va_G} {cy : Nat → ClassId} {A : Nat → Prop} {ad : Nat → Nat} {o : Nat} {q : Nat → Nat} {fu : Nat} (F : Fx p s m args meth c b_M_again 2 "CoinKeeperModel" "again" (some .boolean) D cy ad A) : I_M_again_e p l e s m args below meth c D cy A ad o q (x_M_again fu) := by
  obtain ⟨hx, hb, hr, hml, hown, hts, hlocks, hK, hA, hSt, hnm, hex⟩ := id F
  intro a1 u0 u1 u2 res hf H locs ls hP hD hS hl
  unfold x_M_again at hf
  refine lv_aload_n hx hb d_M_again_0 rfl (lv_at hl 0 rfl) ?_
  refine lv_iload_n hx hb d_M_again_1 rfl (lv_at hl 1 rfl) ?_
  obtain ⟨v1, hc, hf⟩ := bdp1 hf
  refine q_ai (wr := [((q 68), .inl (cy 0, 104448, .inl u1)), ((q 69), .inl (cy 1, 408, .inl u2))]) (va_runV (C := "CoinKeeperModel") (As := [.int a1]) (rest := []) ⟨hx, hb, hml, hown, hts⟩ (c_M_has l D cy ad fu o q u0 a1 _ hc H.size) ⟨q_cB hts gw_1889 gw_18 gw_1886 hdm_40 ⟨by decide, by decide⟩, hts _ gw_1888, hts _ gs_97⟩ (q_preV (q_pre (hP.sub [0] rfl) (hD.sub [0] (by decide) rfl) hK hSt hS (va_free hD hS hA [0] rfl) _) (va_recv hK (hP.sub [0] rfl) (ci := 12) (q0 := 0) rfl rfl)) rfl rfl hl.1 rfl (lv_room (Nat.le_of_ble_eq_true rfl)) d_M_again_2 ⟨Nat.le_of_ble_eq_true rfl, Nat.le_of_ble_eq_true rfl⟩) hP hD hS hA [0] [1, 2] rfl rfl (by decide) (by decide) (fun H locs hP hD hS => ?_)
  clear hc
  have hP : va_P D classes [((q 68), .inl (cy 0, 104448, .inl u1)), ((q 69), .inl (cy 1, 408, .inl u2)), (o, .inr (12, mo q u0))] H := hP
  have hD : va_D A [((q 68), .inl (cy 0, 104448, .inl u1)), ((q 69), .inl (cy 1, 408, .inl u2)), (o, .inr (12, mo q u0))] := hD
  refine lv_if_ne (tgt := 10) hx hb d_M_again_5 (by decide) (fun cx => ?_) (fun cx => ?_)
  · have hf := ifn cx hf
    refine lv_aload_n hx hb d_M_again_10 rfl (lv_at hl 0 rfl) ?_
    refine lv_aload_n hx hb d_M_again_11 rfl (lv_at hl 0 rfl) ?_
    refine va_get (D := D) (ci := 12) (v := .int (u0 9)) (C := "CoinKeeperModel") (T := F_12) (N := 98) hx hb hts i_12 hown hK hP 2 rfl rfl 79 (by decide) (hts _ gw_1498) (fun _ h9 => h9) rfl d_M_again_12 ?_
    refine lv_iload_n hx hb d_M_again_15 rfl (lv_at hl 1 rfl) ?_
    refine lv_isub hx hb d_M_again_16 ?_
    refine lv_topi (fun v2 ev => ?_)
    have hf := bn ev hf
    clear ev
    refine lv_aload_n hx hb d_M_again_17 rfl (lv_at hl 0 rfl) ?_
    refine va_get (D := D) (ci := 12) (v := .int (u0 9)) (C := "CoinKeeperModel") (T := F_12) (N := 98) hx hb hts i_12 hown hK hP 2 rfl rfl 79 (by decide) (hts _ gw_1498) (fun _ h9 => h9) rfl d_M_again_18 ?_
    obtain ⟨f3, f4, hc, hf⟩ := bdp2 hf
    refine q_av (wr := []) (va_runV (C := "CoinKeeperModel") (As := [.int v2, .int (u0 9)]) (rest := []) ⟨hx, hb, hml, hown, hts⟩ (c_M_move l D cy ad fu o q u0 v2 (u0 9) u1 u2 _ hc H.size) ⟨q_cB hts gw_1906 gw_18 gw_1903 hdm_41 ⟨by decide, by decide⟩, hts _ gw_1905, hts _ gs_100⟩ (q_preV (q_pre (hP.sub [2, 0, 1] rfl) (hD.sub [2, 0, 1] (by decide) rfl) hK hSt hS (va_free hD hS hA [2, 0, 1] rfl) _) (va_recv hK (hP.sub [2, 0, 1] rfl) (ci := 12) (q0 := 0) rfl rfl)) rfl rfl hl.1 rfl (lv_room (Nat.le_of_ble_eq_true rfl)) d_M_again_21 ⟨Nat.le_of_ble_eq_true rfl, Nat.le_of_ble_eq_true rfl⟩) hP hD hS hA [2, 0, 1] [] rfl rfl (by decide) (by decide) (fun H locs hP hD hS => ?_)
    clear hc
    have hP : va_P D classes [(o, .inr (12, mo q u0)), ((q 68), .inl (cy 0, 104448, .inl f3)), ((q 69), .inl (cy 1, 408, .inl f4))] H := hP
    have hD : va_D A [(o, .inr (12, mo q u0)), ((q 68), .inl (cy 0, 104448, .inl f3)), ((q 69), .inl (cy 1, 408, .inl f4))] := hD
    refine lv_aload_n hx hb d_M_again_24 rfl (lv_at hl 0 rfl) ?_
    refine lv_dup hx hb d_M_again_25 rfl ?_
    refine va_get (D := D) (ci := 12) (v := .int (u0 9)) (C := "CoinKeeperModel") (T := F_12) (N := 98) hx hb hts i_12 hown hK hP 0 rfl rfl 79 (by decide) (hts _ gw_1498) (fun _ h9 => h9) rfl d_M_again_26 ?_
    refine lv_iconst (v := 1) hx hb d_M_again_29 (by decide) ?_
    refine lv_iadd hx hb d_M_again_30 ?_
    refine lv_topi (fun v5 ev => ?_)
    have hf := bn ev hf
    clear ev
    refine va_put (D := D) (ci := 12) (v := .int v5) (ty := .int) (C := "CoinKeeperModel") (T := F_12) (N := 98) hx hb hts i_12 t_12 t_12_ok n_12 hown hK hP hD hS 0 rfl rfl 79 (by decide) (hts _ gw_1498) (fun _ h9 => h9) rfl (by decide +kernel) rfl rfl (Nat.le_of_ble_eq_true rfl) d_M_again_31 (fun H locs hP hD hS => ?_)
    obtain ⟨z6, ev, hf⟩ := bne hf
    have hP : va_P D classes [(o, .inr (12, mo q z6)), ((q 68), .inl (cy 0, 104448, .inl f3)), ((q 69), .inl (cy 1, 408, .inl f4))] H := by rw [ev]; exact hP
    have hD : va_D A [(o, .inr (12, mo q z6)), ((q 68), .inl (cy 0, 104448, .inl f3)), ((q 69), .inl (cy 1, 408, .inl f4))] := by rw [ev]; exact hD
    clear ev
    refine lv_iconst (v := 1) hx hb d_M_again_34 (by decide) ?_
    obtain rfl := Option.some.inj hf
    exact q_rz hx hb hr hlocks hK hP hD hS (isb_n (v := 1) (by decide)) d_M_again_35
  · have hf := ifp cx hf
    refine lv_iconst (v := 0) hx hb d_M_again_8 (by decide) ?_
    obtain rfl := Option.some.inj hf
    exact q_rz hx hb hr hlocks hK (hP.sub [2, 0, 1] rfl) (hD.sub [2, 0, 1] (by decide) rfl) hS (isb_n (v := 0) (by decide)) d_M_again_9
theorem c_M_again (l : Launch) (D : va_G) (cy : Nat → ClassId) (ad : Nat → Nat) (fu : Nat) (o : Nat) (q : Nat → Nat) (a1 : Int32) (u0 : Nat → Int32) (u1 : Nat → Int32) (u2 : Nat → Int32) (res : Int32 × (Nat → Int32) × (Nat → Int32) × (Nat → Int32)) (hf : x_M_again fu a1 u0 u1 u2 = some res) (sz : Nat) : Met l ({ cls := "CoinKeeperModel", name := "again", desc := "(I)Z" } : Jvm.MethodName) (.code ({ cls := "CoinKeeperModel", name := "again", desc := "(I)Z" } : Jvm.MethodName) b_M_again 2 (some .boolean) :: gw) rm_M_again (va_Pc [.ref o, .int a1] (Pr D cy ad [(o, .inr (12, mo q u0)), ((q 68), .inl (cy 0, 104448, .inl u1)), ((q 69), .inl (cy 1, 408, .inl u2))] sz)) (q_M_again D cy (va_A [(o, .inr (12, mo q u0)), ((q 68), .inl (cy 0, 104448, .inl u1)), ((q 69), .inl (cy 1, 408, .inl u2))] sz) o q res) 0 0 (va_A [(o, .inr (12, mo q u0)), ((q 68), .inl (cy 0, 104448, .inl u1)), ((q 69), .inl (cy 1, 408, .inl u2))] sz) :=
  q_met (Qc := fun A => q_M_again D cy A o q res) (by decide) rfl rfl (Nat.le_of_ble_eq_true rfl) (fun p e s m below meth c ls F hP hD hS hl => we_M_again (fu := fu) F a1 u0 u1 u2 res hf _ _ _ hP hD hS hl) sz
abbrev b_M_takes : ByteArray := prog_14_method_52_code
theorem d_M_takes_0 : decode b_M_takes 0 = .ok (.aload_n 0, 1) := by decide +kernel
theorem d_M_takes_1 : decode b_M_takes 1 = .ok (.aload_n 0, 1) := by decide +kernel
theorem d_M_takes_2 : decode b_M_takes 2 = .ok (.getfield 439, 3) := by decide +kernel
theorem d_M_takes_5 : decode b_M_takes 5 = .ok (.iload_n 1, 1) := by decide +kernel
theorem d_M_takes_6 : decode b_M_takes 6 = .ok (.isub, 1) := by decide +kernel
theorem d_M_takes_7 : decode b_M_takes 7 = .ok (.aload_n 0, 1) := by decide +kernel
theorem d_M_takes_8 : decode b_M_takes 8 = .ok (.getfield 439, 3) := by decide +kernel
theorem d_M_takes_11 : decode b_M_takes 11 = .ok (.invokevirtual 474, 3) := by decide +kernel
theorem d_M_takes_14 : decode b_M_takes 14 = .ok (.aload_n 0, 1) := by decide +kernel
theorem d_M_takes_15 : decode b_M_takes 15 = .ok (.getfield 439, 3) := by decide +kernel
theorem d_M_takes_18 : decode b_M_takes 18 = .ok (.iload_n 1, 1) := by decide +kernel
theorem d_M_takes_19 : decode b_M_takes 19 = .ok (.isub, 1) := by decide +kernel
theorem d_M_takes_20 : decode b_M_takes 20 = .ok (.istore_n 3, 1) := by decide +kernel
theorem d_M_takes_21 : decode b_M_takes 21 = .ok (.iload_n 3, 1) := by decide +kernel
theorem d_M_takes_22 : decode b_M_takes 22 = .ok (.aload_n 0, 1) := by decide +kernel
theorem d_M_takes_23 : decode b_M_takes 23 = .ok (.getfield 439, 3) := by decide +kernel
theorem d_M_takes_26 : decode b_M_takes 26 = .ok (.iconst 1, 1) := by decide +kernel
theorem d_M_takes_27 : decode b_M_takes 27 = .ok (.isub, 1) := by decide +kernel
theorem d_M_takes_28 : decode b_M_takes 28 = .ok (.if_icmp .ge 17, 3) := by decide +kernel
theorem d_M_takes_31 : decode b_M_takes 31 = .ok (.aload_n 0, 1) := by decide +kernel
theorem d_M_takes_32 : decode b_M_takes 32 = .ok (.iload_n 3, 1) := by decide +kernel
theorem d_M_takes_33 : decode b_M_takes 33 = .ok (.iconst 1, 1) := by decide +kernel
theorem d_M_takes_34 : decode b_M_takes 34 = .ok (.iadd, 1) := by decide +kernel
theorem d_M_takes_35 : decode b_M_takes 35 = .ok (.iload_n 3, 1) := by decide +kernel
theorem d_M_takes_36 : decode b_M_takes 36 = .ok (.invokevirtual 474, 3) := by decide +kernel
theorem d_M_takes_39 : decode b_M_takes 39 = .ok (.iinc 3 1, 3) := by decide +kernel
theorem d_M_takes_42 : decode b_M_takes 42 = .ok (.goto (-21), 3) := by decide +kernel
theorem d_M_takes_45 : decode b_M_takes 45 = .ok (.aload_n 0, 1) := by decide +kernel
theorem d_M_takes_46 : decode b_M_takes 46 = .ok (.aload_n 0, 1) := by decide +kernel
theorem d_M_takes_47 : decode b_M_takes 47 = .ok (.getfield 439, 3) := by decide +kernel
theorem d_M_takes_50 : decode b_M_takes 50 = .ok (.aload_n 0, 1) := by decide +kernel
theorem d_M_takes_51 : decode b_M_takes 51 = .ok (.getfield 439, 3) := by decide +kernel
theorem d_M_takes_54 : decode b_M_takes 54 = .ok (.iconst 1, 1) := by decide +kernel
theorem d_M_takes_55 : decode b_M_takes 55 = .ok (.isub, 1) := by decide +kernel
theorem d_M_takes_56 : decode b_M_takes 56 = .ok (.invokevirtual 474, 3) := by decide +kernel
theorem d_M_takes_59 : decode b_M_takes 59 = .ok (.iload_n 2, 1) := by decide +kernel
theorem d_M_takes_60 : decode b_M_takes 60 = .ok (.ifCond .ne 13, 3) := by decide +kernel
theorem d_M_takes_63 : decode b_M_takes 63 = .ok (.aload_n 0, 1) := by decide +kernel
theorem d_M_takes_64 : decode b_M_takes 64 = .ok (.dup, 1) := by decide +kernel
theorem d_M_takes_65 : decode b_M_takes 65 = .ok (.getfield 439, 3) := by decide +kernel
theorem d_M_takes_68 : decode b_M_takes 68 = .ok (.iconst 1, 1) := by decide +kernel
theorem d_M_takes_69 : decode b_M_takes 69 = .ok (.isub, 1) := by decide +kernel
theorem d_M_takes_70 : decode b_M_takes 70 = .ok (.putfield 439, 3) := by decide +kernel
theorem d_M_takes_73 : decode b_M_takes 73 = .ok (.iconst 1, 1) := by decide +kernel
theorem d_M_takes_74 : decode b_M_takes 74 = .ok (.ireturn, 1) := by decide +kernel
abbrev rm_M_takes : Room := { frames := 2, cells := 0, slots := 0, locals := 48 }
abbrev q_M_takes (D : va_G) (cy : Nat → ClassId) (A : Nat → Prop) (o : Nat) (q : Nat → Nat) (res : Int32 × (Nat → Int32) × (Nat → Int32) × (Nat → Int32)) : Array Value → State → Outcome → State → Prop := va_Qi (fun r' (_ : Unit) => r' = res.1) (fun _ t => Po D cy A [(o, .inr (12, mo q res.2.1)), ((q 68), .inl (cy 0, 104448, .inl res.2.2.1)), ((q 69), .inl (cy 1, 408, .inl res.2.2.2))] t) A
def I_M_takes_21 (p : Program) (l : Launch) (e : Env) (s : State) (m : MethodId) (args : Array Value) (below : List Frame) (meth : Method) (c : Code) (D : va_G) (cy : Nat → ClassId) (A : Nat → Prop) (ad : Nat → Nat) (o : Nat) (q : Nat → Nat) (k : Int32 → Int32 → (Nat → Int32) → (Nat → Int32) → (Nat → Int32) → Option (Int32 × (Nat → Int32) × (Nat → Int32) × (Nat → Int32))) : Prop :=
  ∀ (x2 : Int32) (x3 : Int32) (u0 : Nat → Int32) (u1 : Nat → Int32) (u2 : Nat → Int32) (res : Int32 × (Nat → Int32) × (Nat → Int32) × (Nat → Int32)), k x2 x3 u0 u1 u2 = some res → ∀ (H : Heap) (locs : List Loc) (ls : Array Slot), va_P D classes [(o, .inr (12, mo q u0)), ((q 68), .inl (cy 0, 104448, .inl u1)), ((q 69), .inl (cy 1, 408, .inl u2))] H → va_D A [(o, .inr (12, mo q u0)), ((q 68), .inl (cy 0, 104448, .inl u1)), ((q 69), .inl (cy 1, 408, .inl u2))] → va_S A s.heap H locs → lv_has ls 4 [(0, .ref o), (2, .int x2), (3, .int x3)] → W p l e rm_M_takes s m args below meth c H locs 0 0 (MQ below (q_M_takes D cy A o q res) args s 0 0 A) (F0 m 21 ls [])
def I_M_takes_e (p : Program) (l : Launch) (e : Env) (s : State) (m : MethodId) (args : Array Value) (below : List Frame) (meth : Method) (c : Code) (D : va_G) (cy : Nat → ClassId) (A : Nat → Prop) (ad : Nat → Nat) (o : Nat) (q : Nat → Nat) (k : Int32 → Int32 → (Nat → Int32) → (Nat → Int32) → (Nat → Int32) → Option (Int32 × (Nat → Int32) × (Nat → Int32) × (Nat → Int32))) : Prop :=
  ∀ (a1 : Int32) (a2 : Int32) (u0 : Nat → Int32) (u1 : Nat → Int32) (u2 : Nat → Int32) (res : Int32 × (Nat → Int32) × (Nat → Int32) × (Nat → Int32)), k a1 a2 u0 u1 u2 = some res → ∀ (H : Heap) (locs : List Loc) (ls : Array Slot), va_P D classes [(o, .inr (12, mo q u0)), ((q 68), .inl (cy 0, 104448, .inl u1)), ((q 69), .inl (cy 1, 408, .inl u2))] H → va_D A [(o, .inr (12, mo q u0)), ((q 68), .inl (cy 0, 104448, .inl u1)), ((q 69), .inl (cy 1, 408, .inl u2))] → va_S A s.heap H locs → lv_has ls 4 [(0, .ref o), (1, .int a1), (2, .int a2)] → W p l e rm_M_takes s m args below meth c H locs 0 0 (MQ below (q_M_takes D cy A o q res) args s 0 0 A) (F0 m 0 ls [])
set_option maxHeartbeats 8000000 in
set_option maxRecDepth 100000 in
theorem wb_M_takes_21 {p : Program} {l : Launch} {e : Env} {s : State} {m : MethodId} {args : Array Value} {below : List Frame} {meth : Method} {c : Code} {D : va_G} {cy : Nat → ClassId} {A : Nat → Prop} {ad : Nat → Nat} {o : Nat} {q : Nat → Nat} {fu : Nat} {k_21 : Int32 → Int32 → (Nat → Int32) → (Nat → Int32) → (Nat → Int32) → Option (Int32 × (Nat → Int32) × (Nat → Int32) × (Nat → Int32))} (F : Fx p s m args meth c b_M_takes 4 "CoinKeeperModel" "takes" (some .boolean) D cy ad A) (hk_21 : I_M_takes_21 p l e s m args below meth c D cy A ad o q k_21) : I_M_takes_21 p l e s m args below meth c D cy A ad o q (xb_M_takes_21 fu k_21) := by
  obtain ⟨hx, hb, hr, hml, hown, hts, hlocks, hK, hA, hSt, hnm, hex⟩ := id F
  intro x2 x3 u0 u1 u2 res hf H locs ls hP hD hS hl
  unfold xb_M_takes_21 at hf
  refine lv_iload_n hx hb d_M_takes_21 rfl (lv_at hl 2 rfl) ?_
  refine lv_aload_n hx hb d_M_takes_22 rfl (lv_at hl 0 rfl) ?_
  refine va_get (D := D) (ci := 12) (v := .int (u0 9)) (C := "CoinKeeperModel") (T := F_12) (N := 98) hx hb hts i_12 hown hK hP 0 rfl rfl 79 (by decide) (hts _ gw_1498) (fun _ h9 => h9) rfl d_M_takes_23 ?_
  refine lv_iconst (v := 1) hx hb d_M_takes_26 (by decide) ?_
  refine lv_isub hx hb d_M_takes_27 ?_
  refine lv_icmp_ge (tgt := 45) hx hb d_M_takes_28 (by decide) (fun cx => ?_) (fun cx => ?_)
  · have hf := ifp cx hf
    refine lv_aload_n hx hb d_M_takes_45 rfl (lv_at hl 0 rfl) ?_
    refine lv_aload_n hx hb d_M_takes_46 rfl (lv_at hl 0 rfl) ?_
    refine va_get (D := D) (ci := 12) (v := .int (u0 9)) (C := "CoinKeeperModel") (T := F_12) (N := 98) hx hb hts i_12 hown hK hP 0 rfl rfl 79 (by decide) (hts _ gw_1498) (fun _ h9 => h9) rfl d_M_takes_47 ?_
    refine lv_aload_n hx hb d_M_takes_50 rfl (lv_at hl 0 rfl) ?_
    refine va_get (D := D) (ci := 12) (v := .int (u0 9)) (C := "CoinKeeperModel") (T := F_12) (N := 98) hx hb hts i_12 hown hK hP 0 rfl rfl 79 (by decide) (hts _ gw_1498) (fun _ h9 => h9) rfl d_M_takes_51 ?_
    refine lv_iconst (v := 1) hx hb d_M_takes_54 (by decide) ?_
    refine lv_isub hx hb d_M_takes_55 ?_
    refine lv_topi (fun v1 ev => ?_)
    have hf := bn ev hf
    clear ev
    obtain ⟨f2, f3, hc, hf⟩ := bdp2 hf
    refine q_av (wr := []) (va_runV (C := "CoinKeeperModel") (As := [.int (u0 9), .int v1]) (rest := []) ⟨hx, hb, hml, hown, hts⟩ (c_M_move l D cy ad fu o q u0 (u0 9) v1 u1 u2 _ hc H.size) ⟨q_cB hts gw_1906 gw_18 gw_1903 hdm_41 ⟨by decide, by decide⟩, hts _ gw_1905, hts _ gs_100⟩ (q_preV (q_pre (hP.sub [0, 1, 2] rfl) (hD.sub [0, 1, 2] (by decide) rfl) hK hSt hS (va_free hD hS hA [0, 1, 2] rfl) _) (va_recv hK (hP.sub [0, 1, 2] rfl) (ci := 12) (q0 := 0) rfl rfl)) rfl rfl hl.1 rfl (lv_room (Nat.le_of_ble_eq_true rfl)) d_M_takes_56 ⟨Nat.le_of_ble_eq_true rfl, Nat.le_of_ble_eq_true rfl⟩) hP hD hS hA [0, 1, 2] [] rfl rfl (by decide) (by decide) (fun H locs hP hD hS => ?_)
    clear hc
    have hP : va_P D classes [(o, .inr (12, mo q u0)), ((q 68), .inl (cy 0, 104448, .inl f2)), ((q 69), .inl (cy 1, 408, .inl f3))] H := hP
    have hD : va_D A [(o, .inr (12, mo q u0)), ((q 68), .inl (cy 0, 104448, .inl f2)), ((q 69), .inl (cy 1, 408, .inl f3))] := hD
    refine lv_iload_n hx hb d_M_takes_59 rfl (lv_at hl 1 rfl) ?_
    refine lv_if_ne (tgt := 73) hx hb d_M_takes_60 (by decide) (fun cx => ?_) (fun cx => ?_)
    · have hf := ifn cx hf
      refine lv_iconst (v := 1) hx hb d_M_takes_73 (by decide) ?_
      obtain rfl := Option.some.inj hf
      exact q_rz hx hb hr hlocks hK hP hD hS (isb_n (v := 1) (by decide)) d_M_takes_74
    · have hf := ifp cx hf
      refine lv_aload_n hx hb d_M_takes_63 rfl (lv_at hl 0 rfl) ?_
      refine lv_dup hx hb d_M_takes_64 rfl ?_
      refine va_get (D := D) (ci := 12) (v := .int (u0 9)) (C := "CoinKeeperModel") (T := F_12) (N := 98) hx hb hts i_12 hown hK hP 0 rfl rfl 79 (by decide) (hts _ gw_1498) (fun _ h9 => h9) rfl d_M_takes_65 ?_
      refine lv_iconst (v := 1) hx hb d_M_takes_68 (by decide) ?_
      refine lv_isub hx hb d_M_takes_69 ?_
      refine lv_topi (fun v4 ev => ?_)
      have hf := bn ev hf
      clear ev
      refine va_put (D := D) (ci := 12) (v := .int v4) (ty := .int) (C := "CoinKeeperModel") (T := F_12) (N := 98) hx hb hts i_12 t_12 t_12_ok n_12 hown hK hP hD hS 0 rfl rfl 79 (by decide) (hts _ gw_1498) (fun _ h9 => h9) rfl (by decide +kernel) rfl rfl (Nat.le_of_ble_eq_true rfl) d_M_takes_70 (fun H locs hP hD hS => ?_)
      obtain ⟨z5, ev, hf⟩ := bne hf
      have hP : va_P D classes [(o, .inr (12, mo q z5)), ((q 68), .inl (cy 0, 104448, .inl f2)), ((q 69), .inl (cy 1, 408, .inl f3))] H := by rw [ev]; exact hP
      have hD : va_D A [(o, .inr (12, mo q z5)), ((q 68), .inl (cy 0, 104448, .inl f2)), ((q 69), .inl (cy 1, 408, .inl f3))] := by rw [ev]; exact hD
      clear ev
      refine lv_iconst (v := 1) hx hb d_M_takes_73 (by decide) ?_
      obtain rfl := Option.some.inj hf
      exact q_rz hx hb hr hlocks hK hP hD hS (isb_n (v := 1) (by decide)) d_M_takes_74
  · have hf := ifn cx hf
    refine lv_aload_n hx hb d_M_takes_31 rfl (lv_at hl 0 rfl) ?_
    refine lv_iload_n hx hb d_M_takes_32 rfl (lv_at hl 2 rfl) ?_
    refine lv_iconst (v := 1) hx hb d_M_takes_33 (by decide) ?_
    refine lv_iadd hx hb d_M_takes_34 ?_
    refine lv_topi (fun v6 ev => ?_)
    have hf := bn ev hf
    clear ev
    refine lv_iload_n hx hb d_M_takes_35 rfl (lv_at hl 2 rfl) ?_
    obtain ⟨f7, f8, hc, hf⟩ := bdp2 hf
    refine q_av (wr := []) (va_runV (C := "CoinKeeperModel") (As := [.int v6, .int x3]) (rest := []) ⟨hx, hb, hml, hown, hts⟩ (c_M_move l D cy ad fu o q u0 v6 x3 u1 u2 _ hc H.size) ⟨q_cB hts gw_1906 gw_18 gw_1903 hdm_41 ⟨by decide, by decide⟩, hts _ gw_1905, hts _ gs_100⟩ (q_preV (q_pre (hP.sub [0, 1, 2] rfl) (hD.sub [0, 1, 2] (by decide) rfl) hK hSt hS (va_free hD hS hA [0, 1, 2] rfl) _) (va_recv hK (hP.sub [0, 1, 2] rfl) (ci := 12) (q0 := 0) rfl rfl)) rfl rfl hl.1 rfl (lv_room (Nat.le_of_ble_eq_true rfl)) d_M_takes_36 ⟨Nat.le_of_ble_eq_true rfl, Nat.le_of_ble_eq_true rfl⟩) hP hD hS hA [0, 1, 2] [] rfl rfl (by decide) (by decide) (fun H locs hP hD hS => ?_)
    clear hc
    have hP : va_P D classes [(o, .inr (12, mo q u0)), ((q 68), .inl (cy 0, 104448, .inl f7)), ((q 69), .inl (cy 1, 408, .inl f8))] H := hP
    have hD : va_D A [(o, .inr (12, mo q u0)), ((q 68), .inl (cy 0, 104448, .inl f7)), ((q 69), .inl (cy 1, 408, .inl f8))] := hD
    obtain ⟨v9, ev, hf⟩ := bne hf
    refine lv_iinc (v := v9) (lv' := [(3, .int v9), (0, .ref o), (2, .int x2)]) hx hb d_M_takes_39 hl (k := 2) rfl (by rw [ev]; rfl) (by decide) rfl (fun ls hl => ?_)
    clear ev
    refine lv_goto (tgt := 21) hx hb d_M_takes_42 (by decide) ?_
    exact hk_21 _ _ _ _ _ _ hf _ _ _ hP hD hS (lv_sub hl [1, 2, 0] rfl)
theorem w_M_takes_21 {p : Program} {l : Launch} {e : Env} {s : State} {m : MethodId} {args : Array Value} {below : List Frame} {meth : Method} {c : Code} {D : va_G} {cy : Nat → ClassId} {A : Nat → Prop} {ad : Nat → Nat} {o : Nat} {q : Nat → Nat} {fu : Nat} (F : Fx p s m args meth c b_M_takes 4 "CoinKeeperModel" "takes" (some .boolean) D cy ad A) : ∀ n : Nat, I_M_takes_21 p l e s m args below meth c D cy A ad o q (x_M_takes_21 fu n)
  | 0 => fun _ _ _ _ _ _ hf => nomatch (show (none : Option (Int32 × (Nat → Int32) × (Nat → Int32) × (Nat → Int32))) = some _ from hf)
  | n + 1 => wb_M_takes_21 F (w_M_takes_21 F n)
set_option maxHeartbeats 8000000 in
set_option maxRecDepth 100000 in
theorem we_M_takes {p : Program} {l : Launch} {e : Env} {s : State} {m : MethodId} {args : Array Value} {below : List Frame} {meth : Method} {c : Code} {D : va_G} {cy : Nat → ClassId} {A : Nat → Prop} {ad : Nat → Nat} {o : Nat} {q : Nat → Nat} {fu : Nat} (F : Fx p s m args meth c b_M_takes 4 "CoinKeeperModel" "takes" (some .boolean) D cy ad A) : I_M_takes_e p l e s m args below meth c D cy A ad o q (x_M_takes fu) := by
  obtain ⟨hx, hb, hr, hml, hown, hts, hlocks, hK, hA, hSt, hnm, hex⟩ := id F
  intro a1 a2 u0 u1 u2 res hf H locs ls hP hD hS hl
  unfold x_M_takes at hf
  refine lv_aload_n hx hb d_M_takes_0 rfl (lv_at hl 0 rfl) ?_
  refine lv_aload_n hx hb d_M_takes_1 rfl (lv_at hl 0 rfl) ?_
  refine va_get (D := D) (ci := 12) (v := .int (u0 9)) (C := "CoinKeeperModel") (T := F_12) (N := 98) hx hb hts i_12 hown hK hP 0 rfl rfl 79 (by decide) (hts _ gw_1498) (fun _ h9 => h9) rfl d_M_takes_2 ?_
  refine lv_iload_n hx hb d_M_takes_5 rfl (lv_at hl 1 rfl) ?_
  refine lv_isub hx hb d_M_takes_6 ?_
  refine lv_topi (fun v1 ev => ?_)
  have hf := bn ev hf
  clear ev
  refine lv_aload_n hx hb d_M_takes_7 rfl (lv_at hl 0 rfl) ?_
  refine va_get (D := D) (ci := 12) (v := .int (u0 9)) (C := "CoinKeeperModel") (T := F_12) (N := 98) hx hb hts i_12 hown hK hP 0 rfl rfl 79 (by decide) (hts _ gw_1498) (fun _ h9 => h9) rfl d_M_takes_8 ?_
  obtain ⟨f2, f3, hc, hf⟩ := bdp2 hf
  refine q_av (wr := []) (va_runV (C := "CoinKeeperModel") (As := [.int v1, .int (u0 9)]) (rest := []) ⟨hx, hb, hml, hown, hts⟩ (c_M_move l D cy ad fu o q u0 v1 (u0 9) u1 u2 _ hc H.size) ⟨q_cB hts gw_1906 gw_18 gw_1903 hdm_41 ⟨by decide, by decide⟩, hts _ gw_1905, hts _ gs_100⟩ (q_preV (q_pre (hP.sub [0, 1, 2] rfl) (hD.sub [0, 1, 2] (by decide) rfl) hK hSt hS (va_free hD hS hA [0, 1, 2] rfl) _) (va_recv hK (hP.sub [0, 1, 2] rfl) (ci := 12) (q0 := 0) rfl rfl)) rfl rfl hl.1 rfl (lv_room (Nat.le_of_ble_eq_true rfl)) d_M_takes_11 ⟨Nat.le_of_ble_eq_true rfl, Nat.le_of_ble_eq_true rfl⟩) hP hD hS hA [0, 1, 2] [] rfl rfl (by decide) (by decide) (fun H locs hP hD hS => ?_)
  clear hc
  have hP : va_P D classes [(o, .inr (12, mo q u0)), ((q 68), .inl (cy 0, 104448, .inl f2)), ((q 69), .inl (cy 1, 408, .inl f3))] H := hP
  have hD : va_D A [(o, .inr (12, mo q u0)), ((q 68), .inl (cy 0, 104448, .inl f2)), ((q 69), .inl (cy 1, 408, .inl f3))] := hD
  refine lv_aload_n hx hb d_M_takes_14 rfl (lv_at hl 0 rfl) ?_
  refine va_get (D := D) (ci := 12) (v := .int (u0 9)) (C := "CoinKeeperModel") (T := F_12) (N := 98) hx hb hts i_12 hown hK hP 0 rfl rfl 79 (by decide) (hts _ gw_1498) (fun _ h9 => h9) rfl d_M_takes_15 ?_
  refine lv_iload_n hx hb d_M_takes_18 rfl (lv_at hl 1 rfl) ?_
  refine lv_isub hx hb d_M_takes_19 ?_
  refine lv_topi (fun v4 ev => ?_)
  have hf := bn ev hf
  clear ev
  refine lv_istore_n (lv' := [(3, .int v4), (0, .ref o), (1, .int a1), (2, .int a2)]) hx hb d_M_takes_20 rfl hl (by decide) rfl (fun ls hl => ?_)
  exact w_M_takes_21 F fu _ _ _ _ _ _ hf _ _ _ hP hD hS (lv_sub hl [1, 3, 0] rfl)
theorem c_M_takes (l : Launch) (D : va_G) (cy : Nat → ClassId) (ad : Nat → Nat) (fu : Nat) (o : Nat) (q : Nat → Nat) (a1 : Int32) (a2 : Int32) (u0 : Nat → Int32) (u1 : Nat → Int32) (u2 : Nat → Int32) (res : Int32 × (Nat → Int32) × (Nat → Int32) × (Nat → Int32)) (hf : x_M_takes fu a1 a2 u0 u1 u2 = some res) (sz : Nat) : Met l ({ cls := "CoinKeeperModel", name := "takes", desc := "(IZ)Z" } : Jvm.MethodName) (.code ({ cls := "CoinKeeperModel", name := "takes", desc := "(IZ)Z" } : Jvm.MethodName) b_M_takes 4 (some .boolean) :: gw) rm_M_takes (va_Pc [.ref o, .int a1, .int a2] (Pr D cy ad [(o, .inr (12, mo q u0)), ((q 68), .inl (cy 0, 104448, .inl u1)), ((q 69), .inl (cy 1, 408, .inl u2))] sz)) (q_M_takes D cy (va_A [(o, .inr (12, mo q u0)), ((q 68), .inl (cy 0, 104448, .inl u1)), ((q 69), .inl (cy 1, 408, .inl u2))] sz) o q res) 0 0 (va_A [(o, .inr (12, mo q u0)), ((q 68), .inl (cy 0, 104448, .inl u1)), ((q 69), .inl (cy 1, 408, .inl u2))] sz) :=
  q_met (Qc := fun A => q_M_takes D cy A o q res) (by decide) rfl rfl (Nat.le_of_ble_eq_true rfl) (fun p e s m below meth c ls F hP hD hS hl => we_M_takes (fu := fu) F a1 a2 u0 u1 u2 res hf _ _ _ hP hD hS hl) sz
abbrev b_M_count1 : ByteArray := prog_14_method_58_code
theorem d_M_count1_0 : decode b_M_count1 0 = .ok (.iload_n 1, 1) := by decide +kernel
theorem d_M_count1_1 : decode b_M_count1 1 = .ok (.istore_n 3, 1) := by decide +kernel
theorem d_M_count1_2 : decode b_M_count1 2 = .ok (.iload_n 2, 1) := by decide +kernel
theorem d_M_count1_3 : decode b_M_count1 3 = .ok (.sipush 253, 3) := by decide +kernel
theorem d_M_count1_6 : decode b_M_count1 6 = .ok (.if_icmp .ge 17, 3) := by decide +kernel
theorem d_M_count1_9 : decode b_M_count1 9 = .ok (.aload_n 0, 1) := by decide +kernel
theorem d_M_count1_10 : decode b_M_count1 10 = .ok (.getfield 231, 3) := by decide +kernel
theorem d_M_count1_13 : decode b_M_count1 13 = .ok (.iload_n 3, 1) := by decide +kernel
theorem d_M_count1_14 : decode b_M_count1 14 = .ok (.iinc 3 1, 3) := by decide +kernel
theorem d_M_count1_17 : decode b_M_count1 17 = .ok (.iload_n 2, 1) := by decide +kernel
theorem d_M_count1_18 : decode b_M_count1 18 = .ok (.i2b, 1) := by decide +kernel
theorem d_M_count1_19 : decode b_M_count1 19 = .ok (.bastore, 1) := by decide +kernel
theorem d_M_count1_20 : decode b_M_count1 20 = .ok (.goto 39, 3) := by decide +kernel
theorem d_M_count1_23 : decode b_M_count1 23 = .ok (.aload_n 0, 1) := by decide +kernel
theorem d_M_count1_24 : decode b_M_count1 24 = .ok (.getfield 231, 3) := by decide +kernel
theorem d_M_count1_27 : decode b_M_count1 27 = .ok (.iload_n 3, 1) := by decide +kernel
theorem d_M_count1_28 : decode b_M_count1 28 = .ok (.iinc 3 1, 3) := by decide +kernel
theorem d_M_count1_31 : decode b_M_count1 31 = .ok (.bipush (-3), 2) := by decide +kernel
theorem d_M_count1_33 : decode b_M_count1 33 = .ok (.bastore, 1) := by decide +kernel
theorem d_M_count1_34 : decode b_M_count1 34 = .ok (.aload_n 0, 1) := by decide +kernel
theorem d_M_count1_35 : decode b_M_count1 35 = .ok (.getfield 231, 3) := by decide +kernel
theorem d_M_count1_38 : decode b_M_count1 38 = .ok (.iload_n 3, 1) := by decide +kernel
theorem d_M_count1_39 : decode b_M_count1 39 = .ok (.iinc 3 1, 3) := by decide +kernel
theorem d_M_count1_42 : decode b_M_count1 42 = .ok (.iload_n 2, 1) := by decide +kernel
theorem d_M_count1_43 : decode b_M_count1 43 = .ok (.i2b, 1) := by decide +kernel
theorem d_M_count1_44 : decode b_M_count1 44 = .ok (.bastore, 1) := by decide +kernel
theorem d_M_count1_45 : decode b_M_count1 45 = .ok (.aload_n 0, 1) := by decide +kernel
theorem d_M_count1_46 : decode b_M_count1 46 = .ok (.getfield 231, 3) := by decide +kernel
theorem d_M_count1_49 : decode b_M_count1 49 = .ok (.iload_n 3, 1) := by decide +kernel
theorem d_M_count1_50 : decode b_M_count1 50 = .ok (.iinc 3 1, 3) := by decide +kernel
theorem d_M_count1_53 : decode b_M_count1 53 = .ok (.iload_n 2, 1) := by decide +kernel
theorem d_M_count1_54 : decode b_M_count1 54 = .ok (.bipush 8, 2) := by decide +kernel
theorem d_M_count1_56 : decode b_M_count1 56 = .ok (.ishr, 1) := by decide +kernel
theorem d_M_count1_57 : decode b_M_count1 57 = .ok (.i2b, 1) := by decide +kernel
theorem d_M_count1_58 : decode b_M_count1 58 = .ok (.bastore, 1) := by decide +kernel
theorem d_M_count1_59 : decode b_M_count1 59 = .ok (.iload_n 3, 1) := by decide +kernel
theorem d_M_count1_60 : decode b_M_count1 60 = .ok (.ireturn, 1) := by decide +kernel
abbrev rm_M_count1 : Room := { frames := 0, cells := 0, slots := 0, locals := 0 }
abbrev q_M_count1 (D : va_G) (cy : Nat → ClassId) (A : Nat → Prop) (o : Nat) (q : Nat → Nat) (z : Nat → Int32) (res : Int32 × (Nat → Int32)) : Array Value → State → Outcome → State → Prop := va_Qi (fun r' (_ : Unit) => r' = res.1) (fun _ t => Po D cy A [(o, .inr (12, mo q z)), ((q 71), .inl (cy 0, 100100, .inl res.2))] t) A
def I_M_count1_e (p : Program) (l : Launch) (e : Env) (s : State) (m : MethodId) (args : Array Value) (below : List Frame) (meth : Method) (c : Code) (D : va_G) (cy : Nat → ClassId) (A : Nat → Prop) (ad : Nat → Nat) (o : Nat) (q : Nat → Nat) (z : Nat → Int32) (k : Int32 → Int32 → (Nat → Int32) → Option (Int32 × (Nat → Int32))) : Prop :=
  ∀ (a1 : Int32) (a2 : Int32) (u0 : Nat → Int32) (res : Int32 × (Nat → Int32)), k a1 a2 u0 = some res → ∀ (H : Heap) (locs : List Loc) (ls : Array Slot), va_P D classes [(o, .inr (12, mo q z)), ((q 71), .inl (cy 0, 100100, .inl u0))] H → va_D A [(o, .inr (12, mo q z)), ((q 71), .inl (cy 0, 100100, .inl u0))] → va_S A s.heap H locs → lv_has ls 4 [(0, .ref o), (1, .int a1), (2, .int a2)] → W p l e rm_M_count1 s m args below meth c H locs 0 0 (MQ below (q_M_count1 D cy A o q z res) args s 0 0 A) (F0 m 0 ls [])
set_option maxHeartbeats 8000000 in
set_option maxRecDepth 100000 in
theorem we_M_count1 {p : Program} {l : Launch} {e : Env} {s : State} {m : MethodId} {args : Array Value} {below : List Frame} {meth : Method} {c : Code} {D : va_G} {cy : Nat → ClassId} {A : Nat → Prop} {ad : Nat → Nat} {o : Nat} {q : Nat → Nat} {z : Nat → Int32} {fu : Nat} (F : Fx p s m args meth c b_M_count1 4 "CoinKeeperModel" "count" (some .int) D cy ad A) : I_M_count1_e p l e s m args below meth c D cy A ad o q z (x_M_count1 fu z) := by
  obtain ⟨hx, hb, hr, hml, hown, hts, hlocks, hK, hA, hSt, hnm, hex⟩ := id F
  intro a1 a2 u0 res hf H locs ls hP hD hS hl
  unfold x_M_count1 at hf
  refine lv_iload_n hx hb d_M_count1_0 rfl (lv_at hl 1 rfl) ?_
  refine lv_istore_n (lv' := [(3, .int a1), (0, .ref o), (1, .int a1), (2, .int a2)]) hx hb d_M_count1_1 rfl hl (by decide) rfl (fun ls hl => ?_)
  refine lv_iload_n hx hb d_M_count1_2 rfl (lv_at hl 3 rfl) ?_
  refine lv_sipush (v := 253) hx hb d_M_count1_3 (by decide) ?_
  refine lv_icmp_ge (tgt := 23) hx hb d_M_count1_6 (by decide) (fun cx => ?_) (fun cx => ?_)
  · have hf := ifp cx hf
    refine lv_aload_n hx hb d_M_count1_23 rfl (lv_at hl 1 rfl) ?_
    refine va_get (D := D) (ci := 12) (v := .ref (q 71)) (C := "CoinKeeperModel") (T := F_12) (N := 98) hx hb hts i_12 hown hK hP 0 rfl rfl 87 (by decide) (hts _ gw_1506) (fun _ h9 => h9) rfl d_M_count1_24 ?_
    refine lv_iload_n hx hb d_M_count1_27 rfl (lv_at hl 0 rfl) ?_
    obtain ⟨v1, ev, hf⟩ := bne hf
    refine lv_iinc (v := v1) (lv' := [(3, .int v1), (0, .ref o), (1, .int a1), (2, .int a2)]) hx hb d_M_count1_28 hl (k := 0) rfl (by rw [ev]; rfl) (by decide) rfl (fun ls hl => ?_)
    clear ev
    refine lv_bipush (v := (-3)) hx hb d_M_count1_31 (by decide) ?_
    obtain ⟨hg, hf⟩ := gdp hf
    refine va_bast hx hb hK hP hD hS 1 0 rfl rfl (inb_in hg) d_M_count1_33 (fun H locs hP hD hS => ?_)
    obtain ⟨f2, ev, hf⟩ := bne hf
    have hP : va_P D classes [(o, .inr (12, mo q z)), ((q 71), .inl (cy 0, 100100, .inl f2))] H := by rw [ev]; exact hP
    have hD : va_D A [(o, .inr (12, mo q z)), ((q 71), .inl (cy 0, 100100, .inl f2))] := by rw [ev]; exact hD
    clear ev
    refine lv_aload_n hx hb d_M_count1_34 rfl (lv_at hl 1 rfl) ?_
    refine va_get (D := D) (ci := 12) (v := .ref (q 71)) (C := "CoinKeeperModel") (T := F_12) (N := 98) hx hb hts i_12 hown hK hP 0 rfl rfl 87 (by decide) (hts _ gw_1506) (fun _ h9 => h9) rfl d_M_count1_35 ?_
    refine lv_iload_n hx hb d_M_count1_38 rfl (lv_at hl 0 rfl) ?_
    obtain ⟨v3, ev, hf⟩ := bne hf
    refine lv_iinc (v := v3) (lv' := [(3, .int v3), (0, .ref o), (1, .int a1), (2, .int a2)]) hx hb d_M_count1_39 hl (k := 0) rfl (by rw [ev]; rfl) (by decide) rfl (fun ls hl => ?_)
    clear ev
    refine lv_iload_n hx hb d_M_count1_42 rfl (lv_at hl 3 rfl) ?_
    refine lv_i2b hx hb d_M_count1_43 rfl ?_
    refine lv_topi (fun v4 ev => ?_)
    have hf := bn ev hf
    clear ev
    obtain ⟨hg, hf⟩ := gdp hf
    refine va_bast hx hb hK hP hD hS 1 0 rfl rfl (inb_in hg) d_M_count1_44 (fun H locs hP hD hS => ?_)
    obtain ⟨f5, ev, hf⟩ := bne hf
    have hP : va_P D classes [(o, .inr (12, mo q z)), ((q 71), .inl (cy 0, 100100, .inl f5))] H := by rw [ev]; exact hP
    have hD : va_D A [(o, .inr (12, mo q z)), ((q 71), .inl (cy 0, 100100, .inl f5))] := by rw [ev]; exact hD
    clear ev
    refine lv_aload_n hx hb d_M_count1_45 rfl (lv_at hl 1 rfl) ?_
    refine va_get (D := D) (ci := 12) (v := .ref (q 71)) (C := "CoinKeeperModel") (T := F_12) (N := 98) hx hb hts i_12 hown hK hP 0 rfl rfl 87 (by decide) (hts _ gw_1506) (fun _ h9 => h9) rfl d_M_count1_46 ?_
    refine lv_iload_n hx hb d_M_count1_49 rfl (lv_at hl 0 rfl) ?_
    obtain ⟨v6, ev, hf⟩ := bne hf
    refine lv_iinc (v := v6) (lv' := [(3, .int v6), (0, .ref o), (1, .int a1), (2, .int a2)]) hx hb d_M_count1_50 hl (k := 0) rfl (by rw [ev]; rfl) (by decide) rfl (fun ls hl => ?_)
    clear ev
    refine lv_iload_n hx hb d_M_count1_53 rfl (lv_at hl 3 rfl) ?_
    refine lv_bipush (v := 8) hx hb d_M_count1_54 (by decide) ?_
    refine lv_ishr hx hb d_M_count1_56 ?_
    refine lv_i2b hx hb d_M_count1_57 rfl ?_
    refine lv_topi (fun v7 ev => ?_)
    have hf := bn ev hf
    clear ev
    obtain ⟨hg, hf⟩ := gdp hf
    refine va_bast hx hb hK hP hD hS 1 0 rfl rfl (inb_in hg) d_M_count1_58 (fun H locs hP hD hS => ?_)
    obtain ⟨f8, ev, hf⟩ := bne hf
    have hP : va_P D classes [(o, .inr (12, mo q z)), ((q 71), .inl (cy 0, 100100, .inl f8))] H := by rw [ev]; exact hP
    have hD : va_D A [(o, .inr (12, mo q z)), ((q 71), .inl (cy 0, 100100, .inl f8))] := by rw [ev]; exact hD
    clear ev
    refine lv_iload_n hx hb d_M_count1_59 rfl (lv_at hl 0 rfl) ?_
    obtain rfl := Option.some.inj hf
    exact q_ri hx hb hr hlocks hK hP hD hS d_M_count1_60
  · have hf := ifn cx hf
    refine lv_aload_n hx hb d_M_count1_9 rfl (lv_at hl 1 rfl) ?_
    refine va_get (D := D) (ci := 12) (v := .ref (q 71)) (C := "CoinKeeperModel") (T := F_12) (N := 98) hx hb hts i_12 hown hK hP 0 rfl rfl 87 (by decide) (hts _ gw_1506) (fun _ h9 => h9) rfl d_M_count1_10 ?_
    refine lv_iload_n hx hb d_M_count1_13 rfl (lv_at hl 0 rfl) ?_
    obtain ⟨v9, ev, hf⟩ := bne hf
    refine lv_iinc (v := v9) (lv' := [(3, .int v9), (0, .ref o), (1, .int a1), (2, .int a2)]) hx hb d_M_count1_14 hl (k := 0) rfl (by rw [ev]; rfl) (by decide) rfl (fun ls hl => ?_)
    clear ev
    refine lv_iload_n hx hb d_M_count1_17 rfl (lv_at hl 3 rfl) ?_
    refine lv_i2b hx hb d_M_count1_18 rfl ?_
    refine lv_topi (fun v10 ev => ?_)
    have hf := bn ev hf
    clear ev
    obtain ⟨hg, hf⟩ := gdp hf
    refine va_bast hx hb hK hP hD hS 1 0 rfl rfl (inb_in hg) d_M_count1_19 (fun H locs hP hD hS => ?_)
    obtain ⟨f11, ev, hf⟩ := bne hf
    have hP : va_P D classes [(o, .inr (12, mo q z)), ((q 71), .inl (cy 0, 100100, .inl f11))] H := by rw [ev]; exact hP
    have hD : va_D A [(o, .inr (12, mo q z)), ((q 71), .inl (cy 0, 100100, .inl f11))] := by rw [ev]; exact hD
    clear ev
    refine lv_goto (tgt := 59) hx hb d_M_count1_20 (by decide) ?_
    refine lv_iload_n hx hb d_M_count1_59 rfl (lv_at hl 0 rfl) ?_
    obtain rfl := Option.some.inj hf
    exact q_ri hx hb hr hlocks hK hP hD hS d_M_count1_60
theorem c_M_count1 (l : Launch) (D : va_G) (cy : Nat → ClassId) (ad : Nat → Nat) (fu : Nat) (o : Nat) (q : Nat → Nat) (z : Nat → Int32) (a1 : Int32) (a2 : Int32) (u0 : Nat → Int32) (res : Int32 × (Nat → Int32)) (hf : x_M_count1 fu z a1 a2 u0 = some res) (sz : Nat) : Met l ({ cls := "CoinKeeperModel", name := "count", desc := "(II)I" } : Jvm.MethodName) (.code ({ cls := "CoinKeeperModel", name := "count", desc := "(II)I" } : Jvm.MethodName) b_M_count1 4 (some .int) :: gw) rm_M_count1 (va_Pc [.ref o, .int a1, .int a2] (Pr D cy ad [(o, .inr (12, mo q z)), ((q 71), .inl (cy 0, 100100, .inl u0))] sz)) (q_M_count1 D cy (va_A [(o, .inr (12, mo q z)), ((q 71), .inl (cy 0, 100100, .inl u0))] sz) o q z res) 0 0 (va_A [(o, .inr (12, mo q z)), ((q 71), .inl (cy 0, 100100, .inl u0))] sz) :=
  q_met (Qc := fun A => q_M_count1 D cy A o q z res) (by decide) rfl rfl (Nat.le_of_ble_eq_true rfl) (fun p e s m below meth c ls F hP hD hS hl => we_M_count1 (fu := fu) F a1 a2 u0 res hf _ _ _ hP hD hS hl) sz
