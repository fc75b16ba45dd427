abbrev b_Cu_add : ByteArray := prog_4_method_9_code
theorem d_Cu_add_0 : decode b_Cu_add 0 = .ok (.aload_n 1, 1) := by decide +kernel
theorem d_Cu_add_1 : decode b_Cu_add 1 = .ok (.getfield 100, 3) := by decide +kernel
theorem d_Cu_add_4 : decode b_Cu_add 4 = .ok (.ifCond .eq 21, 3) := by decide +kernel
theorem d_Cu_add_7 : decode b_Cu_add 7 = .ok (.aload_n 1, 1) := by decide +kernel
theorem d_Cu_add_8 : decode b_Cu_add 8 = .ok (.aload_n 2, 1) := by decide +kernel
theorem d_Cu_add_9 : decode b_Cu_add 9 = .ok (.invokevirtual 115, 3) := by decide +kernel
theorem d_Cu_add_12 : decode b_Cu_add 12 = .ok (.iload_n 3, 1) := by decide +kernel
theorem d_Cu_add_13 : decode b_Cu_add 13 = .ok (.ifCond .eq 10, 3) := by decide +kernel
theorem d_Cu_add_16 : decode b_Cu_add 16 = .ok (.aload_n 1, 1) := by decide +kernel
theorem d_Cu_add_17 : decode b_Cu_add 17 = .ok (.getfield 50, 3) := by decide +kernel
theorem d_Cu_add_20 : decode b_Cu_add 20 = .ok (.invokestatic 61, 3) := by decide +kernel
theorem d_Cu_add_23 : decode b_Cu_add 23 = .ok (.iconst 1, 1) := by decide +kernel
theorem d_Cu_add_24 : decode b_Cu_add 24 = .ok (.ireturn, 1) := by decide +kernel
theorem d_Cu_add_25 : decode b_Cu_add 25 = .ok (.aload_n 1, 1) := by decide +kernel
theorem d_Cu_add_26 : decode b_Cu_add 26 = .ok (.getfield 97, 3) := by decide +kernel
theorem d_Cu_add_29 : decode b_Cu_add 29 = .ok (.aload_n 1, 1) := by decide +kernel
theorem d_Cu_add_30 : decode b_Cu_add 30 = .ok (.getfield 97, 3) := by decide +kernel
theorem d_Cu_add_33 : decode b_Cu_add 33 = .ok (.aload_n 0, 1) := by decide +kernel
theorem d_Cu_add_34 : decode b_Cu_add 34 = .ok (.getfield 32, 3) := by decide +kernel
theorem d_Cu_add_37 : decode b_Cu_add 37 = .ok (.invokestatic 44, 3) := by decide +kernel
theorem d_Cu_add_40 : decode b_Cu_add 40 = .ok (.aload_n 2, 1) := by decide +kernel
theorem d_Cu_add_41 : decode b_Cu_add 41 = .ok (.getfield 35, 3) := by decide +kernel
theorem d_Cu_add_44 : decode b_Cu_add 44 = .ok (.aload_n 0, 1) := by decide +kernel
theorem d_Cu_add_45 : decode b_Cu_add 45 = .ok (.getfield 32, 3) := by decide +kernel
theorem d_Cu_add_48 : decode b_Cu_add 48 = .ok (.aload_n 0, 1) := by decide +kernel
theorem d_Cu_add_49 : decode b_Cu_add 49 = .ok (.getfield 26, 3) := by decide +kernel
theorem d_Cu_add_52 : decode b_Cu_add 52 = .ok (.invokestatic 44, 3) := by decide +kernel
theorem d_Cu_add_55 : decode b_Cu_add 55 = .ok (.aload_n 0, 1) := by decide +kernel
theorem d_Cu_add_56 : decode b_Cu_add 56 = .ok (.getfield 32, 3) := by decide +kernel
theorem d_Cu_add_59 : decode b_Cu_add 59 = .ok (.aload_n 1, 1) := by decide +kernel
theorem d_Cu_add_60 : decode b_Cu_add 60 = .ok (.getfield 97, 3) := by decide +kernel
theorem d_Cu_add_63 : decode b_Cu_add 63 = .ok (.aload_n 0, 1) := by decide +kernel
theorem d_Cu_add_64 : decode b_Cu_add 64 = .ok (.getfield 32, 3) := by decide +kernel
theorem d_Cu_add_67 : decode b_Cu_add 67 = .ok (.invokestatic 44, 3) := by decide +kernel
theorem d_Cu_add_70 : decode b_Cu_add 70 = .ok (.aload_n 2, 1) := by decide +kernel
theorem d_Cu_add_71 : decode b_Cu_add 71 = .ok (.getfield 50, 3) := by decide +kernel
theorem d_Cu_add_74 : decode b_Cu_add 74 = .ok (.aload_n 0, 1) := by decide +kernel
theorem d_Cu_add_75 : decode b_Cu_add 75 = .ok (.getfield 32, 3) := by decide +kernel
theorem d_Cu_add_78 : decode b_Cu_add 78 = .ok (.aload_n 0, 1) := by decide +kernel
theorem d_Cu_add_79 : decode b_Cu_add 79 = .ok (.getfield 29, 3) := by decide +kernel
theorem d_Cu_add_82 : decode b_Cu_add 82 = .ok (.invokestatic 44, 3) := by decide +kernel
theorem d_Cu_add_85 : decode b_Cu_add 85 = .ok (.aload_n 2, 1) := by decide +kernel
theorem d_Cu_add_86 : decode b_Cu_add 86 = .ok (.getfield 112, 3) := by decide +kernel
theorem d_Cu_add_89 : decode b_Cu_add 89 = .ok (.ifCond .eq 36, 3) := by decide +kernel
theorem d_Cu_add_92 : decode b_Cu_add 92 = .ok (.aload_n 1, 1) := by decide +kernel
theorem d_Cu_add_93 : decode b_Cu_add 93 = .ok (.getfield 35, 3) := by decide +kernel
theorem d_Cu_add_96 : decode b_Cu_add 96 = .ok (.iconst 0, 1) := by decide +kernel
theorem d_Cu_add_97 : decode b_Cu_add 97 = .ok (.aload_n 0, 1) := by decide +kernel
theorem d_Cu_add_98 : decode b_Cu_add 98 = .ok (.getfield 20, 3) := by decide +kernel
theorem d_Cu_add_101 : decode b_Cu_add 101 = .ok (.iconst 0, 1) := by decide +kernel
theorem d_Cu_add_102 : decode b_Cu_add 102 = .ok (.bipush 10, 2) := by decide +kernel
theorem d_Cu_add_104 : decode b_Cu_add 104 = .ok (.invokestatic 87, 3) := by decide +kernel
theorem d_Cu_add_107 : decode b_Cu_add 107 = .ok (.aload_n 1, 1) := by decide +kernel
theorem d_Cu_add_108 : decode b_Cu_add 108 = .ok (.getfield 50, 3) := by decide +kernel
theorem d_Cu_add_111 : decode b_Cu_add 111 = .ok (.iconst 0, 1) := by decide +kernel
theorem d_Cu_add_112 : decode b_Cu_add 112 = .ok (.aload_n 0, 1) := by decide +kernel
theorem d_Cu_add_113 : decode b_Cu_add 113 = .ok (.getfield 23, 3) := by decide +kernel
theorem d_Cu_add_116 : decode b_Cu_add 116 = .ok (.iconst 0, 1) := by decide +kernel
theorem d_Cu_add_117 : decode b_Cu_add 117 = .ok (.bipush 10, 2) := by decide +kernel
theorem d_Cu_add_119 : decode b_Cu_add 119 = .ok (.invokestatic 87, 3) := by decide +kernel
theorem d_Cu_add_122 : decode b_Cu_add 122 = .ok (.goto 63, 3) := by decide +kernel
theorem d_Cu_add_125 : decode b_Cu_add 125 = .ok (.aload_n 2, 1) := by decide +kernel
theorem d_Cu_add_126 : decode b_Cu_add 126 = .ok (.getfield 97, 3) := by decide +kernel
theorem d_Cu_add_129 : decode b_Cu_add 129 = .ok (.aload_n 2, 1) := by decide +kernel
theorem d_Cu_add_130 : decode b_Cu_add 130 = .ok (.getfield 97, 3) := by decide +kernel
theorem d_Cu_add_133 : decode b_Cu_add 133 = .ok (.aload_n 0, 1) := by decide +kernel
theorem d_Cu_add_134 : decode b_Cu_add 134 = .ok (.getfield 32, 3) := by decide +kernel
theorem d_Cu_add_137 : decode b_Cu_add 137 = .ok (.invokestatic 44, 3) := by decide +kernel
theorem d_Cu_add_140 : decode b_Cu_add 140 = .ok (.aload_n 1, 1) := by decide +kernel
theorem d_Cu_add_141 : decode b_Cu_add 141 = .ok (.getfield 35, 3) := by decide +kernel
theorem d_Cu_add_144 : decode b_Cu_add 144 = .ok (.aload_n 0, 1) := by decide +kernel
theorem d_Cu_add_145 : decode b_Cu_add 145 = .ok (.getfield 32, 3) := by decide +kernel
theorem d_Cu_add_148 : decode b_Cu_add 148 = .ok (.aload_n 0, 1) := by decide +kernel
theorem d_Cu_add_149 : decode b_Cu_add 149 = .ok (.getfield 20, 3) := by decide +kernel
theorem d_Cu_add_152 : decode b_Cu_add 152 = .ok (.invokestatic 44, 3) := by decide +kernel
theorem d_Cu_add_155 : decode b_Cu_add 155 = .ok (.aload_n 0, 1) := by decide +kernel
theorem d_Cu_add_156 : decode b_Cu_add 156 = .ok (.getfield 32, 3) := by decide +kernel
theorem d_Cu_add_159 : decode b_Cu_add 159 = .ok (.aload_n 2, 1) := by decide +kernel
theorem d_Cu_add_160 : decode b_Cu_add 160 = .ok (.getfield 97, 3) := by decide +kernel
theorem d_Cu_add_163 : decode b_Cu_add 163 = .ok (.aload_n 0, 1) := by decide +kernel
theorem d_Cu_add_164 : decode b_Cu_add 164 = .ok (.getfield 32, 3) := by decide +kernel
theorem d_Cu_add_167 : decode b_Cu_add 167 = .ok (.invokestatic 44, 3) := by decide +kernel
theorem d_Cu_add_170 : decode b_Cu_add 170 = .ok (.aload_n 1, 1) := by decide +kernel
theorem d_Cu_add_171 : decode b_Cu_add 171 = .ok (.getfield 50, 3) := by decide +kernel
theorem d_Cu_add_174 : decode b_Cu_add 174 = .ok (.aload_n 0, 1) := by decide +kernel
theorem d_Cu_add_175 : decode b_Cu_add 175 = .ok (.getfield 32, 3) := by decide +kernel
theorem d_Cu_add_178 : decode b_Cu_add 178 = .ok (.aload_n 0, 1) := by decide +kernel
theorem d_Cu_add_179 : decode b_Cu_add 179 = .ok (.getfield 23, 3) := by decide +kernel
theorem d_Cu_add_182 : decode b_Cu_add 182 = .ok (.invokestatic 44, 3) := by decide +kernel
theorem d_Cu_add_185 : decode b_Cu_add 185 = .ok (.iconst 0, 1) := by decide +kernel
theorem d_Cu_add_186 : decode b_Cu_add 186 = .ok (.istore 4, 2) := by decide +kernel
theorem d_Cu_add_188 : decode b_Cu_add 188 = .ok (.iload 4, 2) := by decide +kernel
theorem d_Cu_add_190 : decode b_Cu_add 190 = .ok (.bipush 10, 2) := by decide +kernel
theorem d_Cu_add_192 : decode b_Cu_add 192 = .ok (.if_icmp .ge 63, 3) := by decide +kernel
theorem d_Cu_add_195 : decode b_Cu_add 195 = .ok (.aload_n 0, 1) := by decide +kernel
theorem d_Cu_add_196 : decode b_Cu_add 196 = .ok (.getfield 26, 3) := by decide +kernel
theorem d_Cu_add_199 : decode b_Cu_add 199 = .ok (.iload 4, 2) := by decide +kernel
theorem d_Cu_add_201 : decode b_Cu_add 201 = .ok (.dup2, 1) := by decide +kernel
theorem d_Cu_add_202 : decode b_Cu_add 202 = .ok (.laload, 1) := by decide +kernel
theorem d_Cu_add_203 : decode b_Cu_add 203 = .ok (.aload_n 0, 1) := by decide +kernel
theorem d_Cu_add_204 : decode b_Cu_add 204 = .ok (.getfield 20, 3) := by decide +kernel
theorem d_Cu_add_207 : decode b_Cu_add 207 = .ok (.iload 4, 2) := by decide +kernel
theorem d_Cu_add_209 : decode b_Cu_add 209 = .ok (.laload, 1) := by decide +kernel
theorem d_Cu_add_210 : decode b_Cu_add 210 = .ok (.lsub, 1) := by decide +kernel
theorem d_Cu_add_211 : decode b_Cu_add 211 = .ok (.lastore, 1) := by decide +kernel
theorem d_Cu_add_212 : decode b_Cu_add 212 = .ok (.aload_n 0, 1) := by decide +kernel
theorem d_Cu_add_213 : decode b_Cu_add 213 = .ok (.getfield 29, 3) := by decide +kernel
theorem d_Cu_add_216 : decode b_Cu_add 216 = .ok (.iload 4, 2) := by decide +kernel
theorem d_Cu_add_218 : decode b_Cu_add 218 = .ok (.iload_n 3, 1) := by decide +kernel
theorem d_Cu_add_219 : decode b_Cu_add 219 = .ok (.ifCond .eq 14, 3) := by decide +kernel
theorem d_Cu_add_222 : decode b_Cu_add 222 = .ok (.aload_n 0, 1) := by decide +kernel
theorem d_Cu_add_223 : decode b_Cu_add 223 = .ok (.getfield 29, 3) := by decide +kernel
theorem d_Cu_add_226 : decode b_Cu_add 226 = .ok (.iload 4, 2) := by decide +kernel
theorem d_Cu_add_228 : decode b_Cu_add 228 = .ok (.laload, 1) := by decide +kernel
theorem d_Cu_add_229 : decode b_Cu_add 229 = .ok (.lneg, 1) := by decide +kernel
theorem d_Cu_add_230 : decode b_Cu_add 230 = .ok (.goto 10, 3) := by decide +kernel
theorem d_Cu_add_233 : decode b_Cu_add 233 = .ok (.aload_n 0, 1) := by decide +kernel
theorem d_Cu_add_234 : decode b_Cu_add 234 = .ok (.getfield 29, 3) := by decide +kernel
theorem d_Cu_add_237 : decode b_Cu_add 237 = .ok (.iload 4, 2) := by decide +kernel
theorem d_Cu_add_239 : decode b_Cu_add 239 = .ok (.laload, 1) := by decide +kernel
theorem d_Cu_add_240 : decode b_Cu_add 240 = .ok (.aload_n 0, 1) := by decide +kernel
theorem d_Cu_add_241 : decode b_Cu_add 241 = .ok (.getfield 23, 3) := by decide +kernel
theorem d_Cu_add_244 : decode b_Cu_add 244 = .ok (.iload 4, 2) := by decide +kernel
theorem d_Cu_add_246 : decode b_Cu_add 246 = .ok (.laload, 1) := by decide +kernel
theorem d_Cu_add_247 : decode b_Cu_add 247 = .ok (.lsub, 1) := by decide +kernel
theorem d_Cu_add_248 : decode b_Cu_add 248 = .ok (.lastore, 1) := by decide +kernel
theorem d_Cu_add_249 : decode b_Cu_add 249 = .ok (.iinc 4 1, 3) := by decide +kernel
theorem d_Cu_add_252 : decode b_Cu_add 252 = .ok (.goto (-64), 3) := by decide +kernel
theorem d_Cu_add_255 : decode b_Cu_add 255 = .ok (.aload_n 0, 1) := by decide +kernel
theorem d_Cu_add_256 : decode b_Cu_add 256 = .ok (.getfield 26, 3) := by decide +kernel
theorem d_Cu_add_259 : decode b_Cu_add 259 = .ok (.invokestatic 57, 3) := by decide +kernel
theorem d_Cu_add_262 : decode b_Cu_add 262 = .ok (.aload_n 0, 1) := by decide +kernel
theorem d_Cu_add_263 : decode b_Cu_add 263 = .ok (.getfield 26, 3) := by decide +kernel
theorem d_Cu_add_266 : decode b_Cu_add 266 = .ok (.invokestatic 67, 3) := by decide +kernel
theorem d_Cu_add_269 : decode b_Cu_add 269 = .ok (.ifCond .eq 34, 3) := by decide +kernel
theorem d_Cu_add_272 : decode b_Cu_add 272 = .ok (.aload_n 0, 1) := by decide +kernel
theorem d_Cu_add_273 : decode b_Cu_add 273 = .ok (.getfield 29, 3) := by decide +kernel
theorem d_Cu_add_276 : decode b_Cu_add 276 = .ok (.invokestatic 57, 3) := by decide +kernel
theorem d_Cu_add_279 : decode b_Cu_add 279 = .ok (.aload_n 1, 1) := by decide +kernel
theorem d_Cu_add_280 : decode b_Cu_add 280 = .ok (.aload_n 0, 1) := by decide +kernel
theorem d_Cu_add_281 : decode b_Cu_add 281 = .ok (.getfield 29, 3) := by decide +kernel
theorem d_Cu_add_284 : decode b_Cu_add 284 = .ok (.invokestatic 67, 3) := by decide +kernel
theorem d_Cu_add_287 : decode b_Cu_add 287 = .ok (.ifCond .ne 7, 3) := by decide +kernel
theorem d_Cu_add_290 : decode b_Cu_add 290 = .ok (.iconst 1, 1) := by decide +kernel
theorem d_Cu_add_291 : decode b_Cu_add 291 = .ok (.goto 4, 3) := by decide +kernel
theorem d_Cu_add_294 : decode b_Cu_add 294 = .ok (.iconst 0, 1) := by decide +kernel
theorem d_Cu_add_295 : decode b_Cu_add 295 = .ok (.putfield 100, 3) := by decide +kernel
theorem d_Cu_add_298 : decode b_Cu_add 298 = .ok (.aload_n 1, 1) := by decide +kernel
theorem d_Cu_add_299 : decode b_Cu_add 299 = .ok (.getfield 100, 3) := by decide +kernel
theorem d_Cu_add_302 : decode b_Cu_add 302 = .ok (.ireturn, 1) := by decide +kernel
theorem d_Cu_add_303 : decode b_Cu_add 303 = .ok (.aload_n 1, 1) := by decide +kernel
theorem d_Cu_add_304 : decode b_Cu_add 304 = .ok (.getfield 97, 3) := by decide +kernel
theorem d_Cu_add_307 : decode b_Cu_add 307 = .ok (.aload_n 0, 1) := by decide +kernel
theorem d_Cu_add_308 : decode b_Cu_add 308 = .ok (.getfield 26, 3) := by decide +kernel
theorem d_Cu_add_311 : decode b_Cu_add 311 = .ok (.aload_n 1, 1) := by decide +kernel
theorem d_Cu_add_312 : decode b_Cu_add 312 = .ok (.getfield 97, 3) := by decide +kernel
theorem d_Cu_add_315 : decode b_Cu_add 315 = .ok (.invokestatic 44, 3) := by decide +kernel
theorem d_Cu_add_318 : decode b_Cu_add 318 = .ok (.aload_n 2, 1) := by decide +kernel
theorem d_Cu_add_319 : decode b_Cu_add 319 = .ok (.getfield 112, 3) := by decide +kernel
theorem d_Cu_add_322 : decode b_Cu_add 322 = .ok (.ifCond .ne 18, 3) := by decide +kernel
theorem d_Cu_add_325 : decode b_Cu_add 325 = .ok (.aload_n 1, 1) := by decide +kernel
theorem d_Cu_add_326 : decode b_Cu_add 326 = .ok (.getfield 97, 3) := by decide +kernel
theorem d_Cu_add_329 : decode b_Cu_add 329 = .ok (.aload_n 2, 1) := by decide +kernel
theorem d_Cu_add_330 : decode b_Cu_add 330 = .ok (.getfield 97, 3) := by decide +kernel
theorem d_Cu_add_333 : decode b_Cu_add 333 = .ok (.aload_n 1, 1) := by decide +kernel
theorem d_Cu_add_334 : decode b_Cu_add 334 = .ok (.getfield 97, 3) := by decide +kernel
theorem d_Cu_add_337 : decode b_Cu_add 337 = .ok (.invokestatic 44, 3) := by decide +kernel
theorem d_Cu_add_340 : decode b_Cu_add 340 = .ok (.aload_n 0, 1) := by decide +kernel
theorem d_Cu_add_341 : decode b_Cu_add 341 = .ok (.getfield 26, 3) := by decide +kernel
theorem d_Cu_add_344 : decode b_Cu_add 344 = .ok (.aload_n 0, 1) := by decide +kernel
theorem d_Cu_add_345 : decode b_Cu_add 345 = .ok (.getfield 26, 3) := by decide +kernel
theorem d_Cu_add_348 : decode b_Cu_add 348 = .ok (.aload_n 0, 1) := by decide +kernel
theorem d_Cu_add_349 : decode b_Cu_add 349 = .ok (.getfield 32, 3) := by decide +kernel
theorem d_Cu_add_352 : decode b_Cu_add 352 = .ok (.invokestatic 44, 3) := by decide +kernel
theorem d_Cu_add_355 : decode b_Cu_add 355 = .ok (.aload_n 0, 1) := by decide +kernel
theorem d_Cu_add_356 : decode b_Cu_add 356 = .ok (.getfield 26, 3) := by decide +kernel
theorem d_Cu_add_359 : decode b_Cu_add 359 = .ok (.aload_n 0, 1) := by decide +kernel
theorem d_Cu_add_360 : decode b_Cu_add 360 = .ok (.getfield 32, 3) := by decide +kernel
theorem d_Cu_add_363 : decode b_Cu_add 363 = .ok (.aload_n 0, 1) := by decide +kernel
theorem d_Cu_add_364 : decode b_Cu_add 364 = .ok (.getfield 26, 3) := by decide +kernel
theorem d_Cu_add_367 : decode b_Cu_add 367 = .ok (.invokestatic 44, 3) := by decide +kernel
theorem d_Cu_add_370 : decode b_Cu_add 370 = .ok (.aload_n 0, 1) := by decide +kernel
theorem d_Cu_add_371 : decode b_Cu_add 371 = .ok (.getfield 20, 3) := by decide +kernel
theorem d_Cu_add_374 : decode b_Cu_add 374 = .ok (.aload_n 0, 1) := by decide +kernel
theorem d_Cu_add_375 : decode b_Cu_add 375 = .ok (.getfield 32, 3) := by decide +kernel
theorem d_Cu_add_378 : decode b_Cu_add 378 = .ok (.aload_n 0, 1) := by decide +kernel
theorem d_Cu_add_379 : decode b_Cu_add 379 = .ok (.getfield 20, 3) := by decide +kernel
theorem d_Cu_add_382 : decode b_Cu_add 382 = .ok (.invokestatic 44, 3) := by decide +kernel
theorem d_Cu_add_385 : decode b_Cu_add 385 = .ok (.aload_n 0, 1) := by decide +kernel
theorem d_Cu_add_386 : decode b_Cu_add 386 = .ok (.getfield 23, 3) := by decide +kernel
theorem d_Cu_add_389 : decode b_Cu_add 389 = .ok (.aload_n 0, 1) := by decide +kernel
theorem d_Cu_add_390 : decode b_Cu_add 390 = .ok (.getfield 26, 3) := by decide +kernel
theorem d_Cu_add_393 : decode b_Cu_add 393 = .ok (.aload_n 0, 1) := by decide +kernel
theorem d_Cu_add_394 : decode b_Cu_add 394 = .ok (.getfield 23, 3) := by decide +kernel
theorem d_Cu_add_397 : decode b_Cu_add 397 = .ok (.invokestatic 44, 3) := by decide +kernel
theorem d_Cu_add_400 : decode b_Cu_add 400 = .ok (.aload_n 0, 1) := by decide +kernel
theorem d_Cu_add_401 : decode b_Cu_add 401 = .ok (.getfield 29, 3) := by decide +kernel
theorem d_Cu_add_404 : decode b_Cu_add 404 = .ok (.aload_n 0, 1) := by decide +kernel
theorem d_Cu_add_405 : decode b_Cu_add 405 = .ok (.getfield 29, 3) := by decide +kernel
theorem d_Cu_add_408 : decode b_Cu_add 408 = .ok (.aload_n 0, 1) := by decide +kernel
theorem d_Cu_add_409 : decode b_Cu_add 409 = .ok (.getfield 32, 3) := by decide +kernel
theorem d_Cu_add_412 : decode b_Cu_add 412 = .ok (.invokestatic 44, 3) := by decide +kernel
theorem d_Cu_add_415 : decode b_Cu_add 415 = .ok (.iconst 0, 1) := by decide +kernel
theorem d_Cu_add_416 : decode b_Cu_add 416 = .ok (.istore 4, 2) := by decide +kernel
theorem d_Cu_add_418 : decode b_Cu_add 418 = .ok (.iload 4, 2) := by decide +kernel
theorem d_Cu_add_420 : decode b_Cu_add 420 = .ok (.bipush 10, 2) := by decide +kernel
theorem d_Cu_add_422 : decode b_Cu_add 422 = .ok (.if_icmp .ge 60, 3) := by decide +kernel
theorem d_Cu_add_425 : decode b_Cu_add 425 = .ok (.aload_n 1, 1) := by decide +kernel
theorem d_Cu_add_426 : decode b_Cu_add 426 = .ok (.getfield 35, 3) := by decide +kernel
theorem d_Cu_add_429 : decode b_Cu_add 429 = .ok (.iload 4, 2) := by decide +kernel
theorem d_Cu_add_431 : decode b_Cu_add 431 = .ok (.aload_n 0, 1) := by decide +kernel
theorem d_Cu_add_432 : decode b_Cu_add 432 = .ok (.getfield 32, 3) := by decide +kernel
theorem d_Cu_add_435 : decode b_Cu_add 435 = .ok (.iload 4, 2) := by decide +kernel
theorem d_Cu_add_437 : decode b_Cu_add 437 = .ok (.laload, 1) := by decide +kernel
theorem d_Cu_add_438 : decode b_Cu_add 438 = .ok (.aload_n 0, 1) := by decide +kernel
theorem d_Cu_add_439 : decode b_Cu_add 439 = .ok (.getfield 26, 3) := by decide +kernel
theorem d_Cu_add_442 : decode b_Cu_add 442 = .ok (.iload 4, 2) := by decide +kernel
theorem d_Cu_add_444 : decode b_Cu_add 444 = .ok (.laload, 1) := by decide +kernel
theorem d_Cu_add_445 : decode b_Cu_add 445 = .ok (.lsub, 1) := by decide +kernel
theorem d_Cu_add_446 : decode b_Cu_add 446 = .ok (.ldc2_w 106, 3) := by decide +kernel
theorem d_Cu_add_449 : decode b_Cu_add 449 = .ok (.aload_n 0, 1) := by decide +kernel
theorem d_Cu_add_450 : decode b_Cu_add 450 = .ok (.getfield 20, 3) := by decide +kernel
theorem d_Cu_add_453 : decode b_Cu_add 453 = .ok (.iload 4, 2) := by decide +kernel
theorem d_Cu_add_455 : decode b_Cu_add 455 = .ok (.laload, 1) := by decide +kernel
theorem d_Cu_add_456 : decode b_Cu_add 456 = .ok (.lmul, 1) := by decide +kernel
theorem d_Cu_add_457 : decode b_Cu_add 457 = .ok (.lsub, 1) := by decide +kernel
theorem d_Cu_add_458 : decode b_Cu_add 458 = .ok (.lastore, 1) := by decide +kernel
theorem d_Cu_add_459 : decode b_Cu_add 459 = .ok (.aload_n 0, 1) := by decide +kernel
theorem d_Cu_add_460 : decode b_Cu_add 460 = .ok (.getfield 20, 3) := by decide +kernel
theorem d_Cu_add_463 : decode b_Cu_add 463 = .ok (.iload 4, 2) := by decide +kernel
theorem d_Cu_add_465 : decode b_Cu_add 465 = .ok (.dup2, 1) := by decide +kernel
theorem d_Cu_add_466 : decode b_Cu_add 466 = .ok (.laload, 1) := by decide +kernel
theorem d_Cu_add_467 : decode b_Cu_add 467 = .ok (.aload_n 1, 1) := by decide +kernel
theorem d_Cu_add_468 : decode b_Cu_add 468 = .ok (.getfield 35, 3) := by decide +kernel
theorem d_Cu_add_471 : decode b_Cu_add 471 = .ok (.iload 4, 2) := by decide +kernel
theorem d_Cu_add_473 : decode b_Cu_add 473 = .ok (.laload, 1) := by decide +kernel
theorem d_Cu_add_474 : decode b_Cu_add 474 = .ok (.lsub, 1) := by decide +kernel
theorem d_Cu_add_475 : decode b_Cu_add 475 = .ok (.lastore, 1) := by decide +kernel
theorem d_Cu_add_476 : decode b_Cu_add 476 = .ok (.iinc 4 1, 3) := by decide +kernel
theorem d_Cu_add_479 : decode b_Cu_add 479 = .ok (.goto (-61), 3) := by decide +kernel
theorem d_Cu_add_482 : decode b_Cu_add 482 = .ok (.aload_n 0, 1) := by decide +kernel
theorem d_Cu_add_483 : decode b_Cu_add 483 = .ok (.getfield 29, 3) := by decide +kernel
theorem d_Cu_add_486 : decode b_Cu_add 486 = .ok (.aload_n 0, 1) := by decide +kernel
theorem d_Cu_add_487 : decode b_Cu_add 487 = .ok (.getfield 20, 3) := by decide +kernel
theorem d_Cu_add_490 : decode b_Cu_add 490 = .ok (.aload_n 1, 1) := by decide +kernel
theorem d_Cu_add_491 : decode b_Cu_add 491 = .ok (.getfield 50, 3) := by decide +kernel
theorem d_Cu_add_494 : decode b_Cu_add 494 = .ok (.invokestatic 44, 3) := by decide +kernel
theorem d_Cu_add_497 : decode b_Cu_add 497 = .ok (.iconst 0, 1) := by decide +kernel
theorem d_Cu_add_498 : decode b_Cu_add 498 = .ok (.istore 4, 2) := by decide +kernel
theorem d_Cu_add_500 : decode b_Cu_add 500 = .ok (.iload 4, 2) := by decide +kernel
theorem d_Cu_add_502 : decode b_Cu_add 502 = .ok (.bipush 10, 2) := by decide +kernel
theorem d_Cu_add_504 : decode b_Cu_add 504 = .ok (.if_icmp .ge 26, 3) := by decide +kernel
theorem d_Cu_add_507 : decode b_Cu_add 507 = .ok (.aload_n 1, 1) := by decide +kernel
theorem d_Cu_add_508 : decode b_Cu_add 508 = .ok (.getfield 50, 3) := by decide +kernel
theorem d_Cu_add_511 : decode b_Cu_add 511 = .ok (.iload 4, 2) := by decide +kernel
theorem d_Cu_add_513 : decode b_Cu_add 513 = .ok (.dup2, 1) := by decide +kernel
theorem d_Cu_add_514 : decode b_Cu_add 514 = .ok (.laload, 1) := by decide +kernel
theorem d_Cu_add_515 : decode b_Cu_add 515 = .ok (.aload_n 0, 1) := by decide +kernel
theorem d_Cu_add_516 : decode b_Cu_add 516 = .ok (.getfield 23, 3) := by decide +kernel
theorem d_Cu_add_519 : decode b_Cu_add 519 = .ok (.iload 4, 2) := by decide +kernel
theorem d_Cu_add_521 : decode b_Cu_add 521 = .ok (.laload, 1) := by decide +kernel
theorem d_Cu_add_522 : decode b_Cu_add 522 = .ok (.lsub, 1) := by decide +kernel
theorem d_Cu_add_523 : decode b_Cu_add 523 = .ok (.lastore, 1) := by decide +kernel
theorem d_Cu_add_524 : decode b_Cu_add 524 = .ok (.iinc 4 1, 3) := by decide +kernel
theorem d_Cu_add_527 : decode b_Cu_add 527 = .ok (.goto (-27), 3) := by decide +kernel
theorem d_Cu_add_530 : decode b_Cu_add 530 = .ok (.aload_n 1, 1) := by decide +kernel
theorem d_Cu_add_531 : decode b_Cu_add 531 = .ok (.iconst 0, 1) := by decide +kernel
theorem d_Cu_add_532 : decode b_Cu_add 532 = .ok (.putfield 112, 3) := by decide +kernel
theorem d_Cu_add_535 : decode b_Cu_add 535 = .ok (.iconst 1, 1) := by decide +kernel
theorem d_Cu_add_536 : decode b_Cu_add 536 = .ok (.ireturn, 1) := by decide +kernel
abbrev rm_Cu_add : Room := { frames := 2, cells := 0, slots := 0, locals := 84 }
abbrev q_Cu_add (D : va_G) (cy : Nat → ClassId) (A : Nat → Prop) (o : Nat) (r_rows : Value) (v_a_limbs : Value) (a_a : Nat) (a_b : Nat) (a_c : Nat) (a_d : Nat) (a_f : Nat) (o1 : Nat) (a1_x : Nat) (a1_y : Nat) (a1_z : Nat) (o2 : Nat) (a2_x : Nat) (a2_y : Nat) (a2_z : Nat) (i2_isNone : Int32) (i2_isPlain : Int32) (g2_x : Nat → Int64) (g2_y : Nat → Int64) (g2_z : Nat → Int64) (res : Int32 × (Nat → Int64) × (Nat → Int64) × (Nat → Int64) × (Nat → Int64) × (Nat → Int64) × Int32 × Int32 × (Nat → Int64) × (Nat → Int64) × (Nat → Int64)) : Array Value → State → Outcome → State → Prop := va_Qi (fun r' (_ : Unit) => r' = res.1) (fun _ t => Po D cy A [(o, .inr (3, [r_rows, v_a_limbs, .ref a_a, .ref a_b, .ref a_c, .ref a_d, .ref a_f])), (a_a, .inl (cy 2, 10, .inr (.inl res.2.1))), (a_b, .inl (cy 2, 10, .inr (.inl res.2.2.1))), (a_c, .inl (cy 2, 10, .inr (.inl res.2.2.2.1))), (a_d, .inl (cy 2, 10, .inr (.inl res.2.2.2.2.1))), (a_f, .inl (cy 2, 10, .inr (.inl res.2.2.2.2.2.1))), (o1, .inr (7, [.ref a1_x, .ref a1_y, .ref a1_z, .int res.2.2.2.2.2.2.1, .int res.2.2.2.2.2.2.2.1])), (a1_x, .inl (cy 2, 10, .inr (.inl res.2.2.2.2.2.2.2.2.1))), (a1_y, .inl (cy 2, 10, .inr (.inl res.2.2.2.2.2.2.2.2.2.1))), (a1_z, .inl (cy 2, 10, .inr (.inl res.2.2.2.2.2.2.2.2.2.2))), (o2, .inr (7, [.ref a2_x, .ref a2_y, .ref a2_z, .int i2_isNone, .int i2_isPlain])), (a2_x, .inl (cy 2, 10, .inr (.inl g2_x))), (a2_y, .inl (cy 2, 10, .inr (.inl g2_y))), (a2_z, .inl (cy 2, 10, .inr (.inl g2_z)))] t) A
def I_Cu_add_500 (p : Program) (l : Launch) (e : Env) (s : State) (m : MethodId) (args : Array Value) (below : List Frame) (meth : Method) (c : Code) (D : va_G) (cy : Nat → ClassId) (A : Nat → Prop) (ad : Nat → Nat) (o : Nat) (r_rows : Value) (v_a_limbs : Value) (a_a : Nat) (a_b : Nat) (a_c : Nat) (a_d : Nat) (a_f : Nat) (o1 : Nat) (a1_x : Nat) (a1_y : Nat) (a1_z : Nat) (o2 : Nat) (a2_x : Nat) (a2_y : Nat) (a2_z : Nat) (i2_isNone : Int32) (i2_isPlain : Int32) (g2_x : Nat → Int64) (g2_y : Nat → Int64) (g2_z : Nat → Int64) (k : Int32 → (Nat → Int64) → (Nat → Int64) → (Nat → Int64) → (Nat → Int64) → (Nat → Int64) → Int32 → Int32 → (Nat → Int64) → (Nat → Int64) → (Nat → Int64) → Option (Int32 × (Nat → Int64) × (Nat → Int64) × (Nat → Int64) × (Nat → Int64) × (Nat → Int64) × Int32 × Int32 × (Nat → Int64) × (Nat → Int64) × (Nat → Int64))) : Prop :=
  ∀ (x4 : Int32) (u0 : Nat → Int64) (u1 : Nat → Int64) (u2 : Nat → Int64) (u3 : Nat → Int64) (u4 : Nat → Int64) (u5 : Int32) (u6 : Int32) (u7 : Nat → Int64) (u8 : Nat → Int64) (u9 : Nat → Int64) (res : Int32 × (Nat → Int64) × (Nat → Int64) × (Nat → Int64) × (Nat → Int64) × (Nat → Int64) × Int32 × Int32 × (Nat → Int64) × (Nat → Int64) × (Nat → Int64)), k x4 u0 u1 u2 u3 u4 u5 u6 u7 u8 u9 = some res → ∀ (H : Heap) (locs : List Loc) (ls : Array Slot), va_P D classes [(o, .inr (3, [r_rows, v_a_limbs, .ref a_a, .ref a_b, .ref a_c, .ref a_d, .ref a_f])), (a_a, .inl (cy 2, 10, .inr (.inl u0))), (a_b, .inl (cy 2, 10, .inr (.inl u1))), (a_c, .inl (cy 2, 10, .inr (.inl u2))), (a_d, .inl (cy 2, 10, .inr (.inl u3))), (a_f, .inl (cy 2, 10, .inr (.inl u4))), (o1, .inr (7, [.ref a1_x, .ref a1_y, .ref a1_z, .int u5, .int u6])), (a1_x, .inl (cy 2, 10, .inr (.inl u7))), (a1_y, .inl (cy 2, 10, .inr (.inl u8))), (a1_z, .inl (cy 2, 10, .inr (.inl u9))), (o2, .inr (7, [.ref a2_x, .ref a2_y, .ref a2_z, .int i2_isNone, .int i2_isPlain])), (a2_x, .inl (cy 2, 10, .inr (.inl g2_x))), (a2_y, .inl (cy 2, 10, .inr (.inl g2_y))), (a2_z, .inl (cy 2, 10, .inr (.inl g2_z)))] H → va_D A [(o, .inr (3, [r_rows, v_a_limbs, .ref a_a, .ref a_b, .ref a_c, .ref a_d, .ref a_f])), (a_a, .inl (cy 2, 10, .inr (.inl u0))), (a_b, .inl (cy 2, 10, .inr (.inl u1))), (a_c, .inl (cy 2, 10, .inr (.inl u2))), (a_d, .inl (cy 2, 10, .inr (.inl u3))), (a_f, .inl (cy 2, 10, .inr (.inl u4))), (o1, .inr (7, [.ref a1_x, .ref a1_y, .ref a1_z, .int u5, .int u6])), (a1_x, .inl (cy 2, 10, .inr (.inl u7))), (a1_y, .inl (cy 2, 10, .inr (.inl u8))), (a1_z, .inl (cy 2, 10, .inr (.inl u9))), (o2, .inr (7, [.ref a2_x, .ref a2_y, .ref a2_z, .int i2_isNone, .int i2_isPlain])), (a2_x, .inl (cy 2, 10, .inr (.inl g2_x))), (a2_y, .inl (cy 2, 10, .inr (.inl g2_y))), (a2_z, .inl (cy 2, 10, .inr (.inl g2_z)))] → va_S A s.heap H locs → lv_has ls 5 [(0, .ref o), (1, .ref o1), (4, .int x4)] → W p l e rm_Cu_add s m args below meth c H locs 0 0 (MQ below (q_Cu_add D cy A o r_rows v_a_limbs a_a a_b a_c a_d a_f o1 a1_x a1_y a1_z o2 a2_x a2_y a2_z i2_isNone i2_isPlain g2_x g2_y g2_z res) args s 0 0 A) (F0 m 500 ls [])
def I_Cu_add_418 (p : Program) (l : Launch) (e : Env) (s : State) (m : MethodId) (args : Array Value) (below : List Frame) (meth : Method) (c : Code) (D : va_G) (cy : Nat → ClassId) (A : Nat → Prop) (ad : Nat → Nat) (o : Nat) (r_rows : Value) (v_a_limbs : Value) (a_a : Nat) (a_b : Nat) (a_c : Nat) (a_d : Nat) (a_f : Nat) (o1 : Nat) (a1_x : Nat) (a1_y : Nat) (a1_z : Nat) (o2 : Nat) (a2_x : Nat) (a2_y : Nat) (a2_z : Nat) (i2_isNone : Int32) (i2_isPlain : Int32) (g2_x : Nat → Int64) (g2_y : Nat → Int64) (g2_z : Nat → Int64) (k : Int32 → (Nat → Int64) → (Nat → Int64) → (Nat → Int64) → (Nat → Int64) → (Nat → Int64) → Int32 → Int32 → (Nat → Int64) → (Nat → Int64) → (Nat → Int64) → Option (Int32 × (Nat → Int64) × (Nat → Int64) × (Nat → Int64) × (Nat → Int64) × (Nat → Int64) × Int32 × Int32 × (Nat → Int64) × (Nat → Int64) × (Nat → Int64))) : Prop :=
  ∀ (x4 : Int32) (u0 : Nat → Int64) (u1 : Nat → Int64) (u2 : Nat → Int64) (u3 : Nat → Int64) (u4 : Nat → Int64) (u5 : Int32) (u6 : Int32) (u7 : Nat → Int64) (u8 : Nat → Int64) (u9 : Nat → Int64) (res : Int32 × (Nat → Int64) × (Nat → Int64) × (Nat → Int64) × (Nat → Int64) × (Nat → Int64) × Int32 × Int32 × (Nat → Int64) × (Nat → Int64) × (Nat → Int64)), k x4 u0 u1 u2 u3 u4 u5 u6 u7 u8 u9 = some res → ∀ (H : Heap) (locs : List Loc) (ls : Array Slot), va_P D classes [(o, .inr (3, [r_rows, v_a_limbs, .ref a_a, .ref a_b, .ref a_c, .ref a_d, .ref a_f])), (a_a, .inl (cy 2, 10, .inr (.inl u0))), (a_b, .inl (cy 2, 10, .inr (.inl u1))), (a_c, .inl (cy 2, 10, .inr (.inl u2))), (a_d, .inl (cy 2, 10, .inr (.inl u3))), (a_f, .inl (cy 2, 10, .inr (.inl u4))), (o1, .inr (7, [.ref a1_x, .ref a1_y, .ref a1_z, .int u5, .int u6])), (a1_x, .inl (cy 2, 10, .inr (.inl u7))), (a1_y, .inl (cy 2, 10, .inr (.inl u8))), (a1_z, .inl (cy 2, 10, .inr (.inl u9))), (o2, .inr (7, [.ref a2_x, .ref a2_y, .ref a2_z, .int i2_isNone, .int i2_isPlain])), (a2_x, .inl (cy 2, 10, .inr (.inl g2_x))), (a2_y, .inl (cy 2, 10, .inr (.inl g2_y))), (a2_z, .inl (cy 2, 10, .inr (.inl g2_z)))] H → va_D A [(o, .inr (3, [r_rows, v_a_limbs, .ref a_a, .ref a_b, .ref a_c, .ref a_d, .ref a_f])), (a_a, .inl (cy 2, 10, .inr (.inl u0))), (a_b, .inl (cy 2, 10, .inr (.inl u1))), (a_c, .inl (cy 2, 10, .inr (.inl u2))), (a_d, .inl (cy 2, 10, .inr (.inl u3))), (a_f, .inl (cy 2, 10, .inr (.inl u4))), (o1, .inr (7, [.ref a1_x, .ref a1_y, .ref a1_z, .int u5, .int u6])), (a1_x, .inl (cy 2, 10, .inr (.inl u7))), (a1_y, .inl (cy 2, 10, .inr (.inl u8))), (a1_z, .inl (cy 2, 10, .inr (.inl u9))), (o2, .inr (7, [.ref a2_x, .ref a2_y, .ref a2_z, .int i2_isNone, .int i2_isPlain])), (a2_x, .inl (cy 2, 10, .inr (.inl g2_x))), (a2_y, .inl (cy 2, 10, .inr (.inl g2_y))), (a2_z, .inl (cy 2, 10, .inr (.inl g2_z)))] → va_S A s.heap H locs → lv_has ls 5 [(0, .ref o), (1, .ref o1), (4, .int x4)] → W p l e rm_Cu_add s m args below meth c H locs 0 0 (MQ below (q_Cu_add D cy A o r_rows v_a_limbs a_a a_b a_c a_d a_f o1 a1_x a1_y a1_z o2 a2_x a2_y a2_z i2_isNone i2_isPlain g2_x g2_y g2_z res) args s 0 0 A) (F0 m 418 ls [])
def I_Cu_add_340 (p : Program) (l : Launch) (e : Env) (s : State) (m : MethodId) (args : Array Value) (below : List Frame) (meth : Method) (c : Code) (D : va_G) (cy : Nat → ClassId) (A : Nat → Prop) (ad : Nat → Nat) (o : Nat) (r_rows : Value) (v_a_limbs : Value) (a_a : Nat) (a_b : Nat) (a_c : Nat) (a_d : Nat) (a_f : Nat) (o1 : Nat) (a1_x : Nat) (a1_y : Nat) (a1_z : Nat) (o2 : Nat) (a2_x : Nat) (a2_y : Nat) (a2_z : Nat) (i2_isNone : Int32) (i2_isPlain : Int32) (g2_x : Nat → Int64) (g2_y : Nat → Int64) (g2_z : Nat → Int64) (k : (Nat → Int64) → (Nat → Int64) → (Nat → Int64) → (Nat → Int64) → (Nat → Int64) → Int32 → Int32 → (Nat → Int64) → (Nat → Int64) → (Nat → Int64) → Option (Int32 × (Nat → Int64) × (Nat → Int64) × (Nat → Int64) × (Nat → Int64) × (Nat → Int64) × Int32 × Int32 × (Nat → Int64) × (Nat → Int64) × (Nat → Int64))) : Prop :=
  ∀ (u0 : Nat → Int64) (u1 : Nat → Int64) (u2 : Nat → Int64) (u3 : Nat → Int64) (u4 : Nat → Int64) (u5 : Int32) (u6 : Int32) (u7 : Nat → Int64) (u8 : Nat → Int64) (u9 : Nat → Int64) (res : Int32 × (Nat → Int64) × (Nat → Int64) × (Nat → Int64) × (Nat → Int64) × (Nat → Int64) × Int32 × Int32 × (Nat → Int64) × (Nat → Int64) × (Nat → Int64)), k u0 u1 u2 u3 u4 u5 u6 u7 u8 u9 = some res → ∀ (H : Heap) (locs : List Loc) (ls : Array Slot), va_P D classes [(o, .inr (3, [r_rows, v_a_limbs, .ref a_a, .ref a_b, .ref a_c, .ref a_d, .ref a_f])), (a_a, .inl (cy 2, 10, .inr (.inl u0))), (a_b, .inl (cy 2, 10, .inr (.inl u1))), (a_c, .inl (cy 2, 10, .inr (.inl u2))), (a_d, .inl (cy 2, 10, .inr (.inl u3))), (a_f, .inl (cy 2, 10, .inr (.inl u4))), (o1, .inr (7, [.ref a1_x, .ref a1_y, .ref a1_z, .int u5, .int u6])), (a1_x, .inl (cy 2, 10, .inr (.inl u7))), (a1_y, .inl (cy 2, 10, .inr (.inl u8))), (a1_z, .inl (cy 2, 10, .inr (.inl u9))), (o2, .inr (7, [.ref a2_x, .ref a2_y, .ref a2_z, .int i2_isNone, .int i2_isPlain])), (a2_x, .inl (cy 2, 10, .inr (.inl g2_x))), (a2_y, .inl (cy 2, 10, .inr (.inl g2_y))), (a2_z, .inl (cy 2, 10, .inr (.inl g2_z)))] H → va_D A [(o, .inr (3, [r_rows, v_a_limbs, .ref a_a, .ref a_b, .ref a_c, .ref a_d, .ref a_f])), (a_a, .inl (cy 2, 10, .inr (.inl u0))), (a_b, .inl (cy 2, 10, .inr (.inl u1))), (a_c, .inl (cy 2, 10, .inr (.inl u2))), (a_d, .inl (cy 2, 10, .inr (.inl u3))), (a_f, .inl (cy 2, 10, .inr (.inl u4))), (o1, .inr (7, [.ref a1_x, .ref a1_y, .ref a1_z, .int u5, .int u6])), (a1_x, .inl (cy 2, 10, .inr (.inl u7))), (a1_y, .inl (cy 2, 10, .inr (.inl u8))), (a1_z, .inl (cy 2, 10, .inr (.inl u9))), (o2, .inr (7, [.ref a2_x, .ref a2_y, .ref a2_z, .int i2_isNone, .int i2_isPlain])), (a2_x, .inl (cy 2, 10, .inr (.inl g2_x))), (a2_y, .inl (cy 2, 10, .inr (.inl g2_y))), (a2_z, .inl (cy 2, 10, .inr (.inl g2_z)))] → va_S A s.heap H locs → lv_has ls 5 [(0, .ref o), (1, .ref o1)] → W p l e rm_Cu_add s m args below meth c H locs 0 0 (MQ below (q_Cu_add D cy A o r_rows v_a_limbs a_a a_b a_c a_d a_f o1 a1_x a1_y a1_z o2 a2_x a2_y a2_z i2_isNone i2_isPlain g2_x g2_y g2_z res) args s 0 0 A) (F0 m 340 ls [])
def I_Cu_add_295 (p : Program) (l : Launch) (e : Env) (s : State) (m : MethodId) (args : Array Value) (below : List Frame) (meth : Method) (c : Code) (D : va_G) (cy : Nat → ClassId) (A : Nat → Prop) (ad : Nat → Nat) (o : Nat) (r_rows : Value) (v_a_limbs : Value) (a_a : Nat) (a_b : Nat) (a_c : Nat) (a_d : Nat) (a_f : Nat) (o1 : Nat) (a1_x : Nat) (a1_y : Nat) (a1_z : Nat) (o2 : Nat) (a2_x : Nat) (a2_y : Nat) (a2_z : Nat) (i2_isNone : Int32) (i2_isPlain : Int32) (g2_x : Nat → Int64) (g2_y : Nat → Int64) (g2_z : Nat → Int64) (k : Int32 → (Nat → Int64) → (Nat → Int64) → (Nat → Int64) → (Nat → Int64) → (Nat → Int64) → Int32 → Int32 → (Nat → Int64) → (Nat → Int64) → (Nat → Int64) → Option (Int32 × (Nat → Int64) × (Nat → Int64) × (Nat → Int64) × (Nat → Int64) × (Nat → Int64) × Int32 × Int32 × (Nat → Int64) × (Nat → Int64) × (Nat → Int64))) : Prop :=
  ∀ (y0 : Int32) (u0 : Nat → Int64) (u1 : Nat → Int64) (u2 : Nat → Int64) (u3 : Nat → Int64) (u4 : Nat → Int64) (u5 : Int32) (u6 : Int32) (u7 : Nat → Int64) (u8 : Nat → Int64) (u9 : Nat → Int64) (res : Int32 × (Nat → Int64) × (Nat → Int64) × (Nat → Int64) × (Nat → Int64) × (Nat → Int64) × Int32 × Int32 × (Nat → Int64) × (Nat → Int64) × (Nat → Int64)), k y0 u0 u1 u2 u3 u4 u5 u6 u7 u8 u9 = some res → ∀ (H : Heap) (locs : List Loc) (ls : Array Slot), va_P D classes [(o, .inr (3, [r_rows, v_a_limbs, .ref a_a, .ref a_b, .ref a_c, .ref a_d, .ref a_f])), (a_a, .inl (cy 2, 10, .inr (.inl u0))), (a_b, .inl (cy 2, 10, .inr (.inl u1))), (a_c, .inl (cy 2, 10, .inr (.inl u2))), (a_d, .inl (cy 2, 10, .inr (.inl u3))), (a_f, .inl (cy 2, 10, .inr (.inl u4))), (o1, .inr (7, [.ref a1_x, .ref a1_y, .ref a1_z, .int u5, .int u6])), (a1_x, .inl (cy 2, 10, .inr (.inl u7))), (a1_y, .inl (cy 2, 10, .inr (.inl u8))), (a1_z, .inl (cy 2, 10, .inr (.inl u9))), (o2, .inr (7, [.ref a2_x, .ref a2_y, .ref a2_z, .int i2_isNone, .int i2_isPlain])), (a2_x, .inl (cy 2, 10, .inr (.inl g2_x))), (a2_y, .inl (cy 2, 10, .inr (.inl g2_y))), (a2_z, .inl (cy 2, 10, .inr (.inl g2_z)))] H → va_D A [(o, .inr (3, [r_rows, v_a_limbs, .ref a_a, .ref a_b, .ref a_c, .ref a_d, .ref a_f])), (a_a, .inl (cy 2, 10, .inr (.inl u0))), (a_b, .inl (cy 2, 10, .inr (.inl u1))), (a_c, .inl (cy 2, 10, .inr (.inl u2))), (a_d, .inl (cy 2, 10, .inr (.inl u3))), (a_f, .inl (cy 2, 10, .inr (.inl u4))), (o1, .inr (7, [.ref a1_x, .ref a1_y, .ref a1_z, .int u5, .int u6])), (a1_x, .inl (cy 2, 10, .inr (.inl u7))), (a1_y, .inl (cy 2, 10, .inr (.inl u8))), (a1_z, .inl (cy 2, 10, .inr (.inl u9))), (o2, .inr (7, [.ref a2_x, .ref a2_y, .ref a2_z, .int i2_isNone, .int i2_isPlain])), (a2_x, .inl (cy 2, 10, .inr (.inl g2_x))), (a2_y, .inl (cy 2, 10, .inr (.inl g2_y))), (a2_z, .inl (cy 2, 10, .inr (.inl g2_z)))] → va_S A s.heap H locs → lv_has ls 5 [(1, .ref o1)] → W p l e rm_Cu_add s m args below meth c H locs 0 0 (MQ below (q_Cu_add D cy A o r_rows v_a_limbs a_a a_b a_c a_d a_f o1 a1_x a1_y a1_z o2 a2_x a2_y a2_z i2_isNone i2_isPlain g2_x g2_y g2_z res) args s 0 0 A) (F0 m 295 ls [.int y0, .ref o1])
def I_Cu_add_240 (p : Program) (l : Launch) (e : Env) (s : State) (m : MethodId) (args : Array Value) (below : List Frame) (meth : Method) (c : Code) (D : va_G) (cy : Nat → ClassId) (A : Nat → Prop) (ad : Nat → Nat) (o : Nat) (r_rows : Value) (v_a_limbs : Value) (a_a : Nat) (a_b : Nat) (a_c : Nat) (a_d : Nat) (a_f : Nat) (o1 : Nat) (a1_x : Nat) (a1_y : Nat) (a1_z : Nat) (o2 : Nat) (a2_x : Nat) (a2_y : Nat) (a2_z : Nat) (i2_isNone : Int32) (i2_isPlain : Int32) (g2_x : Nat → Int64) (g2_y : Nat → Int64) (g2_z : Nat → Int64) (k : Int32 → Int32 → Int64 → Int32 → (Nat → Int64) → (Nat → Int64) → (Nat → Int64) → (Nat → Int64) → (Nat → Int64) → Int32 → Int32 → (Nat → Int64) → (Nat → Int64) → (Nat → Int64) → Option (Int32 × (Nat → Int64) × (Nat → Int64) × (Nat → Int64) × (Nat → Int64) × (Nat → Int64) × Int32 × Int32 × (Nat → Int64) × (Nat → Int64) × (Nat → Int64))) : Prop :=
  ∀ (x3 : Int32) (x4 : Int32) (y0 : Int64) (y1 : Int32) (u0 : Nat → Int64) (u1 : Nat → Int64) (u2 : Nat → Int64) (u3 : Nat → Int64) (u4 : Nat → Int64) (u5 : Int32) (u6 : Int32) (u7 : Nat → Int64) (u8 : Nat → Int64) (u9 : Nat → Int64) (res : Int32 × (Nat → Int64) × (Nat → Int64) × (Nat → Int64) × (Nat → Int64) × (Nat → Int64) × Int32 × Int32 × (Nat → Int64) × (Nat → Int64) × (Nat → Int64)), k x3 x4 y0 y1 u0 u1 u2 u3 u4 u5 u6 u7 u8 u9 = some res → ∀ (H : Heap) (locs : List Loc) (ls : Array Slot), va_P D classes [(o, .inr (3, [r_rows, v_a_limbs, .ref a_a, .ref a_b, .ref a_c, .ref a_d, .ref a_f])), (a_a, .inl (cy 2, 10, .inr (.inl u0))), (a_b, .inl (cy 2, 10, .inr (.inl u1))), (a_c, .inl (cy 2, 10, .inr (.inl u2))), (a_d, .inl (cy 2, 10, .inr (.inl u3))), (a_f, .inl (cy 2, 10, .inr (.inl u4))), (o1, .inr (7, [.ref a1_x, .ref a1_y, .ref a1_z, .int u5, .int u6])), (a1_x, .inl (cy 2, 10, .inr (.inl u7))), (a1_y, .inl (cy 2, 10, .inr (.inl u8))), (a1_z, .inl (cy 2, 10, .inr (.inl u9))), (o2, .inr (7, [.ref a2_x, .ref a2_y, .ref a2_z, .int i2_isNone, .int i2_isPlain])), (a2_x, .inl (cy 2, 10, .inr (.inl g2_x))), (a2_y, .inl (cy 2, 10, .inr (.inl g2_y))), (a2_z, .inl (cy 2, 10, .inr (.inl g2_z)))] H → va_D A [(o, .inr (3, [r_rows, v_a_limbs, .ref a_a, .ref a_b, .ref a_c, .ref a_d, .ref a_f])), (a_a, .inl (cy 2, 10, .inr (.inl u0))), (a_b, .inl (cy 2, 10, .inr (.inl u1))), (a_c, .inl (cy 2, 10, .inr (.inl u2))), (a_d, .inl (cy 2, 10, .inr (.inl u3))), (a_f, .inl (cy 2, 10, .inr (.inl u4))), (o1, .inr (7, [.ref a1_x, .ref a1_y, .ref a1_z, .int u5, .int u6])), (a1_x, .inl (cy 2, 10, .inr (.inl u7))), (a1_y, .inl (cy 2, 10, .inr (.inl u8))), (a1_z, .inl (cy 2, 10, .inr (.inl u9))), (o2, .inr (7, [.ref a2_x, .ref a2_y, .ref a2_z, .int i2_isNone, .int i2_isPlain])), (a2_x, .inl (cy 2, 10, .inr (.inl g2_x))), (a2_y, .inl (cy 2, 10, .inr (.inl g2_y))), (a2_z, .inl (cy 2, 10, .inr (.inl g2_z)))] → va_S A s.heap H locs → lv_has ls 5 [(0, .ref o), (1, .ref o1), (2, .ref o2), (3, .int x3), (4, .int x4)] → W p l e rm_Cu_add s m args below meth c H locs 0 0 (MQ below (q_Cu_add D cy A o r_rows v_a_limbs a_a a_b a_c a_d a_f o1 a1_x a1_y a1_z o2 a2_x a2_y a2_z i2_isNone i2_isPlain g2_x g2_y g2_z res) args s 0 0 A) (F0 m 240 ls [.long y0, .int y1, .ref a_d])
def I_Cu_add_188 (p : Program) (l : Launch) (e : Env) (s : State) (m : MethodId) (args : Array Value) (below : List Frame) (meth : Method) (c : Code) (D : va_G) (cy : Nat → ClassId) (A : Nat → Prop) (ad : Nat → Nat) (o : Nat) (r_rows : Value) (v_a_limbs : Value) (a_a : Nat) (a_b : Nat) (a_c : Nat) (a_d : Nat) (a_f : Nat) (o1 : Nat) (a1_x : Nat) (a1_y : Nat) (a1_z : Nat) (o2 : Nat) (a2_x : Nat) (a2_y : Nat) (a2_z : Nat) (i2_isNone : Int32) (i2_isPlain : Int32) (g2_x : Nat → Int64) (g2_y : Nat → Int64) (g2_z : Nat → Int64) (k : Int32 → Int32 → (Nat → Int64) → (Nat → Int64) → (Nat → Int64) → (Nat → Int64) → (Nat → Int64) → Int32 → Int32 → (Nat → Int64) → (Nat → Int64) → (Nat → Int64) → Option (Int32 × (Nat → Int64) × (Nat → Int64) × (Nat → Int64) × (Nat → Int64) × (Nat → Int64) × Int32 × Int32 × (Nat → Int64) × (Nat → Int64) × (Nat → Int64))) : Prop :=
  ∀ (x3 : Int32) (x4 : Int32) (u0 : Nat → Int64) (u1 : Nat → Int64) (u2 : Nat → Int64) (u3 : Nat → Int64) (u4 : Nat → Int64) (u5 : Int32) (u6 : Int32) (u7 : Nat → Int64) (u8 : Nat → Int64) (u9 : Nat → Int64) (res : Int32 × (Nat → Int64) × (Nat → Int64) × (Nat → Int64) × (Nat → Int64) × (Nat → Int64) × Int32 × Int32 × (Nat → Int64) × (Nat → Int64) × (Nat → Int64)), k x3 x4 u0 u1 u2 u3 u4 u5 u6 u7 u8 u9 = some res → ∀ (H : Heap) (locs : List Loc) (ls : Array Slot), va_P D classes [(o, .inr (3, [r_rows, v_a_limbs, .ref a_a, .ref a_b, .ref a_c, .ref a_d, .ref a_f])), (a_a, .inl (cy 2, 10, .inr (.inl u0))), (a_b, .inl (cy 2, 10, .inr (.inl u1))), (a_c, .inl (cy 2, 10, .inr (.inl u2))), (a_d, .inl (cy 2, 10, .inr (.inl u3))), (a_f, .inl (cy 2, 10, .inr (.inl u4))), (o1, .inr (7, [.ref a1_x, .ref a1_y, .ref a1_z, .int u5, .int u6])), (a1_x, .inl (cy 2, 10, .inr (.inl u7))), (a1_y, .inl (cy 2, 10, .inr (.inl u8))), (a1_z, .inl (cy 2, 10, .inr (.inl u9))), (o2, .inr (7, [.ref a2_x, .ref a2_y, .ref a2_z, .int i2_isNone, .int i2_isPlain])), (a2_x, .inl (cy 2, 10, .inr (.inl g2_x))), (a2_y, .inl (cy 2, 10, .inr (.inl g2_y))), (a2_z, .inl (cy 2, 10, .inr (.inl g2_z)))] H → va_D A [(o, .inr (3, [r_rows, v_a_limbs, .ref a_a, .ref a_b, .ref a_c, .ref a_d, .ref a_f])), (a_a, .inl (cy 2, 10, .inr (.inl u0))), (a_b, .inl (cy 2, 10, .inr (.inl u1))), (a_c, .inl (cy 2, 10, .inr (.inl u2))), (a_d, .inl (cy 2, 10, .inr (.inl u3))), (a_f, .inl (cy 2, 10, .inr (.inl u4))), (o1, .inr (7, [.ref a1_x, .ref a1_y, .ref a1_z, .int u5, .int u6])), (a1_x, .inl (cy 2, 10, .inr (.inl u7))), (a1_y, .inl (cy 2, 10, .inr (.inl u8))), (a1_z, .inl (cy 2, 10, .inr (.inl u9))), (o2, .inr (7, [.ref a2_x, .ref a2_y, .ref a2_z, .int i2_isNone, .int i2_isPlain])), (a2_x, .inl (cy 2, 10, .inr (.inl g2_x))), (a2_y, .inl (cy 2, 10, .inr (.inl g2_y))), (a2_z, .inl (cy 2, 10, .inr (.inl g2_z)))] → va_S A s.heap H locs → lv_has ls 5 [(0, .ref o), (1, .ref o1), (2, .ref o2), (3, .int x3), (4, .int x4)] → W p l e rm_Cu_add s m args below meth c H locs 0 0 (MQ below (q_Cu_add D cy A o r_rows v_a_limbs a_a a_b a_c a_d a_f o1 a1_x a1_y a1_z o2 a2_x a2_y a2_z i2_isNone i2_isPlain g2_x g2_y g2_z res) args s 0 0 A) (F0 m 188 ls [])
def I_Cu_add_185 (p : Program) (l : Launch) (e : Env) (s : State) (m : MethodId) (args : Array Value) (below : List Frame) (meth : Method) (c : Code) (D : va_G) (cy : Nat → ClassId) (A : Nat → Prop) (ad : Nat → Nat) (o : Nat) (r_rows : Value) (v_a_limbs : Value) (a_a : Nat) (a_b : Nat) (a_c : Nat) (a_d : Nat) (a_f : Nat) (o1 : Nat) (a1_x : Nat) (a1_y : Nat) (a1_z : Nat) (o2 : Nat) (a2_x : Nat) (a2_y : Nat) (a2_z : Nat) (i2_isNone : Int32) (i2_isPlain : Int32) (g2_x : Nat → Int64) (g2_y : Nat → Int64) (g2_z : Nat → Int64) (k : Int32 → (Nat → Int64) → (Nat → Int64) → (Nat → Int64) → (Nat → Int64) → (Nat → Int64) → Int32 → Int32 → (Nat → Int64) → (Nat → Int64) → (Nat → Int64) → Option (Int32 × (Nat → Int64) × (Nat → Int64) × (Nat → Int64) × (Nat → Int64) × (Nat → Int64) × Int32 × Int32 × (Nat → Int64) × (Nat → Int64) × (Nat → Int64))) : Prop :=
  ∀ (x3 : Int32) (u0 : Nat → Int64) (u1 : Nat → Int64) (u2 : Nat → Int64) (u3 : Nat → Int64) (u4 : Nat → Int64) (u5 : Int32) (u6 : Int32) (u7 : Nat → Int64) (u8 : Nat → Int64) (u9 : Nat → Int64) (res : Int32 × (Nat → Int64) × (Nat → Int64) × (Nat → Int64) × (Nat → Int64) × (Nat → Int64) × Int32 × Int32 × (Nat → Int64) × (Nat → Int64) × (Nat → Int64)), k x3 u0 u1 u2 u3 u4 u5 u6 u7 u8 u9 = some res → ∀ (H : Heap) (locs : List Loc) (ls : Array Slot), va_P D classes [(o, .inr (3, [r_rows, v_a_limbs, .ref a_a, .ref a_b, .ref a_c, .ref a_d, .ref a_f])), (a_a, .inl (cy 2, 10, .inr (.inl u0))), (a_b, .inl (cy 2, 10, .inr (.inl u1))), (a_c, .inl (cy 2, 10, .inr (.inl u2))), (a_d, .inl (cy 2, 10, .inr (.inl u3))), (a_f, .inl (cy 2, 10, .inr (.inl u4))), (o1, .inr (7, [.ref a1_x, .ref a1_y, .ref a1_z, .int u5, .int u6])), (a1_x, .inl (cy 2, 10, .inr (.inl u7))), (a1_y, .inl (cy 2, 10, .inr (.inl u8))), (a1_z, .inl (cy 2, 10, .inr (.inl u9))), (o2, .inr (7, [.ref a2_x, .ref a2_y, .ref a2_z, .int i2_isNone, .int i2_isPlain])), (a2_x, .inl (cy 2, 10, .inr (.inl g2_x))), (a2_y, .inl (cy 2, 10, .inr (.inl g2_y))), (a2_z, .inl (cy 2, 10, .inr (.inl g2_z)))] H → va_D A [(o, .inr (3, [r_rows, v_a_limbs, .ref a_a, .ref a_b, .ref a_c, .ref a_d, .ref a_f])), (a_a, .inl (cy 2, 10, .inr (.inl u0))), (a_b, .inl (cy 2, 10, .inr (.inl u1))), (a_c, .inl (cy 2, 10, .inr (.inl u2))), (a_d, .inl (cy 2, 10, .inr (.inl u3))), (a_f, .inl (cy 2, 10, .inr (.inl u4))), (o1, .inr (7, [.ref a1_x, .ref a1_y, .ref a1_z, .int u5, .int u6])), (a1_x, .inl (cy 2, 10, .inr (.inl u7))), (a1_y, .inl (cy 2, 10, .inr (.inl u8))), (a1_z, .inl (cy 2, 10, .inr (.inl u9))), (o2, .inr (7, [.ref a2_x, .ref a2_y, .ref a2_z, .int i2_isNone, .int i2_isPlain])), (a2_x, .inl (cy 2, 10, .inr (.inl g2_x))), (a2_y, .inl (cy 2, 10, .inr (.inl g2_y))), (a2_z, .inl (cy 2, 10, .inr (.inl g2_z)))] → va_S A s.heap H locs → lv_has ls 5 [(0, .ref o), (1, .ref o1), (2, .ref o2), (3, .int x3)] → W p l e rm_Cu_add s m args below meth c H locs 0 0 (MQ below (q_Cu_add D cy A o r_rows v_a_limbs a_a a_b a_c a_d a_f o1 a1_x a1_y a1_z o2 a2_x a2_y a2_z i2_isNone i2_isPlain g2_x g2_y g2_z res) args s 0 0 A) (F0 m 185 ls [])
def I_Cu_add_e (p : Program) (l : Launch) (e : Env) (s : State) (m : MethodId) (args : Array Value) (below : List Frame) (meth : Method) (c : Code) (D : va_G) (cy : Nat → ClassId) (A : Nat → Prop) (ad : Nat → Nat) (o : Nat) (r_rows : Value) (v_a_limbs : Value) (a_a : Nat) (a_b : Nat) (a_c : Nat) (a_d : Nat) (a_f : Nat) (o1 : Nat) (a1_x : Nat) (a1_y : Nat) (a1_z : Nat) (o2 : Nat) (a2_x : Nat) (a2_y : Nat) (a2_z : Nat) (i2_isNone : Int32) (i2_isPlain : Int32) (g2_x : Nat → Int64) (g2_y : Nat → Int64) (g2_z : Nat → Int64) (k : Int32 → (Nat → Int64) → (Nat → Int64) → (Nat → Int64) → (Nat → Int64) → (Nat → Int64) → Int32 → Int32 → (Nat → Int64) → (Nat → Int64) → (Nat → Int64) → Option (Int32 × (Nat → Int64) × (Nat → Int64) × (Nat → Int64) × (Nat → Int64) × (Nat → Int64) × Int32 × Int32 × (Nat → Int64) × (Nat → Int64) × (Nat → Int64))) : Prop :=
  ∀ (a3 : Int32) (u0 : Nat → Int64) (u1 : Nat → Int64) (u2 : Nat → Int64) (u3 : Nat → Int64) (u4 : Nat → Int64) (u5 : Int32) (u6 : Int32) (u7 : Nat → Int64) (u8 : Nat → Int64) (u9 : Nat → Int64) (res : Int32 × (Nat → Int64) × (Nat → Int64) × (Nat → Int64) × (Nat → Int64) × (Nat → Int64) × Int32 × Int32 × (Nat → Int64) × (Nat → Int64) × (Nat → Int64)), k a3 u0 u1 u2 u3 u4 u5 u6 u7 u8 u9 = some res → ∀ (H : Heap) (locs : List Loc) (ls : Array Slot), va_P D classes [(o, .inr (3, [r_rows, v_a_limbs, .ref a_a, .ref a_b, .ref a_c, .ref a_d, .ref a_f])), (a_a, .inl (cy 2, 10, .inr (.inl u0))), (a_b, .inl (cy 2, 10, .inr (.inl u1))), (a_c, .inl (cy 2, 10, .inr (.inl u2))), (a_d, .inl (cy 2, 10, .inr (.inl u3))), (a_f, .inl (cy 2, 10, .inr (.inl u4))), (o1, .inr (7, [.ref a1_x, .ref a1_y, .ref a1_z, .int u5, .int u6])), (a1_x, .inl (cy 2, 10, .inr (.inl u7))), (a1_y, .inl (cy 2, 10, .inr (.inl u8))), (a1_z, .inl (cy 2, 10, .inr (.inl u9))), (o2, .inr (7, [.ref a2_x, .ref a2_y, .ref a2_z, .int i2_isNone, .int i2_isPlain])), (a2_x, .inl (cy 2, 10, .inr (.inl g2_x))), (a2_y, .inl (cy 2, 10, .inr (.inl g2_y))), (a2_z, .inl (cy 2, 10, .inr (.inl g2_z)))] H → va_D A [(o, .inr (3, [r_rows, v_a_limbs, .ref a_a, .ref a_b, .ref a_c, .ref a_d, .ref a_f])), (a_a, .inl (cy 2, 10, .inr (.inl u0))), (a_b, .inl (cy 2, 10, .inr (.inl u1))), (a_c, .inl (cy 2, 10, .inr (.inl u2))), (a_d, .inl (cy 2, 10, .inr (.inl u3))), (a_f, .inl (cy 2, 10, .inr (.inl u4))), (o1, .inr (7, [.ref a1_x, .ref a1_y, .ref a1_z, .int u5, .int u6])), (a1_x, .inl (cy 2, 10, .inr (.inl u7))), (a1_y, .inl (cy 2, 10, .inr (.inl u8))), (a1_z, .inl (cy 2, 10, .inr (.inl u9))), (o2, .inr (7, [.ref a2_x, .ref a2_y, .ref a2_z, .int i2_isNone, .int i2_isPlain])), (a2_x, .inl (cy 2, 10, .inr (.inl g2_x))), (a2_y, .inl (cy 2, 10, .inr (.inl g2_y))), (a2_z, .inl (cy 2, 10, .inr (.inl g2_z)))] → va_S A s.heap H locs → lv_has ls 5 [(0, .ref o), (1, .ref o1), (2, .ref o2), (3, .int a3)] → W p l e rm_Cu_add s m args below meth c H locs 0 0 (MQ below (q_Cu_add D cy A o r_rows v_a_limbs a_a a_b a_c a_d a_f o1 a1_x a1_y a1_z o2 a2_x a2_y a2_z i2_isNone i2_isPlain g2_x g2_y g2_z res) args s 0 0 A) (F0 m 0 ls [])
set_option maxHeartbeats 8000000 in
set_option maxRecDepth 100000 in
theorem wb_Cu_add_500 {p : Program} {l : Launch} {e : Env} {s : State} {m : MethodId} {args : Array Value} {below : List Frame} {meth : Method} {c : Code} {D : va_G} {cy : Nat → ClassId} {A : Nat → Prop} {ad : Nat → Nat} {o : Nat} {r_rows : Value} {v_a_limbs : Value} {a_a : Nat} {a_b : Nat} {a_c : Nat} {a_d : Nat} {a_f : Nat} {o1 : Nat} {a1_x : Nat} {a1_y : Nat} {a1_z : Nat} {o2 : Nat} {a2_x : Nat} {a2_y : Nat} {a2_z : Nat} {i2_isNone : Int32} {i2_isPlain : Int32} {g2_x : Nat → Int64} {g2_y : Nat → Int64} {g2_z : Nat → Int64} {fu : Nat} {k_500 : Int32 → (Nat → Int64) → (Nat → Int64) → (Nat → Int64) → (Nat → Int64) → (Nat → Int64) → Int32 → Int32 → (Nat → Int64) → (Nat → Int64) → (Nat → Int64) → Option (Int32 × (Nat → Int64) × (Nat → Int64) × (Nat → Int64) × (Nat → Int64) × (Nat → Int64) × Int32 × Int32 × (Nat → Int64) × (Nat → Int64) × (Nat → Int64))} (F : Fx p s m args meth c b_Cu_add 5 "CoinKeeper$Curve" "add" (some .boolean) D cy ad A) (hk_500 : I_Cu_add_500 p l e s m args below meth c D cy A ad o r_rows v_a_limbs a_a a_b a_c a_d a_f o1 a1_x a1_y a1_z o2 a2_x a2_y a2_z i2_isNone i2_isPlain g2_x g2_y g2_z k_500) : I_Cu_add_500 p l e s m args below meth c D cy A ad o r_rows v_a_limbs a_a a_b a_c a_d a_f o1 a1_x a1_y a1_z o2 a2_x a2_y a2_z i2_isNone i2_isPlain g2_x g2_y g2_z (xb_Cu_add_500 fu i2_isNone i2_isPlain g2_x g2_y g2_z k_500) := by
  obtain ⟨hx, hb, hr, hml, hown, hts, hlocks, hK, hA, hSt, hnm, hex⟩ := id F
  intro x4 u0 u1 u2 u3 u4 u5 u6 u7 u8 u9 res hf H locs ls hP hD hS hl
  unfold xb_Cu_add_500 at hf
  refine lv_iload hx hb d_Cu_add_500 (lv_at hl 2 rfl) ?_
  refine lv_bipush (v := 10) hx hb d_Cu_add_502 (by decide) ?_
  refine lv_icmp_ge (tgt := 530) hx hb d_Cu_add_504 (by decide) (fun cx => ?_) (fun cx => ?_)
  · have hf := ifp cx hf
    refine lv_aload_n hx hb d_Cu_add_530 rfl (lv_at hl 1 rfl) ?_
    refine lv_iconst (v := 0) hx hb d_Cu_add_531 (by decide) ?_
    refine va_put (D := D) (ci := 7) (v := .int (0 : Int32)) (ty := .boolean) (C := "CoinKeeper$Point") (T := F_7) (N := 5) hx hb hts i_7 t_7 t_7_ok n_7 hown hK hP hD hS 6 rfl rfl 4 (by decide) (hts _ gw_117) (fun _ h9 => h9) rfl (by decide +kernel) (isb_n (v := 0) (by decide)) (isb_f (v := 0) (by decide)) (Nat.le_of_ble_eq_true rfl) d_Cu_add_532 (fun H locs hP hD hS => ?_)
    have hP : va_P D classes [(o, .inr (3, [r_rows, v_a_limbs, .ref a_a, .ref a_b, .ref a_c, .ref a_d, .ref a_f])), (a_a, .inl (cy 2, 10, .inr (.inl u0))), (a_b, .inl (cy 2, 10, .inr (.inl u1))), (a_c, .inl (cy 2, 10, .inr (.inl u2))), (a_d, .inl (cy 2, 10, .inr (.inl u3))), (a_f, .inl (cy 2, 10, .inr (.inl u4))), (o1, .inr (7, [.ref a1_x, .ref a1_y, .ref a1_z, .int u5, .int (0 : Int32)])), (a1_x, .inl (cy 2, 10, .inr (.inl u7))), (a1_y, .inl (cy 2, 10, .inr (.inl u8))), (a1_z, .inl (cy 2, 10, .inr (.inl u9))), (o2, .inr (7, [.ref a2_x, .ref a2_y, .ref a2_z, .int i2_isNone, .int i2_isPlain])), (a2_x, .inl (cy 2, 10, .inr (.inl g2_x))), (a2_y, .inl (cy 2, 10, .inr (.inl g2_y))), (a2_z, .inl (cy 2, 10, .inr (.inl g2_z)))] H := hP
    have hD : va_D A [(o, .inr (3, [r_rows, v_a_limbs, .ref a_a, .ref a_b, .ref a_c, .ref a_d, .ref a_f])), (a_a, .inl (cy 2, 10, .inr (.inl u0))), (a_b, .inl (cy 2, 10, .inr (.inl u1))), (a_c, .inl (cy 2, 10, .inr (.inl u2))), (a_d, .inl (cy 2, 10, .inr (.inl u3))), (a_f, .inl (cy 2, 10, .inr (.inl u4))), (o1, .inr (7, [.ref a1_x, .ref a1_y, .ref a1_z, .int u5, .int (0 : Int32)])), (a1_x, .inl (cy 2, 10, .inr (.inl u7))), (a1_y, .inl (cy 2, 10, .inr (.inl u8))), (a1_z, .inl (cy 2, 10, .inr (.inl u9))), (o2, .inr (7, [.ref a2_x, .ref a2_y, .ref a2_z, .int i2_isNone, .int i2_isPlain])), (a2_x, .inl (cy 2, 10, .inr (.inl g2_x))), (a2_y, .inl (cy 2, 10, .inr (.inl g2_y))), (a2_z, .inl (cy 2, 10, .inr (.inl g2_z)))] := hD
    refine lv_iconst (v := 1) hx hb d_Cu_add_535 (by decide) ?_
    obtain rfl := Option.some.inj hf
    exact q_rz hx hb hr hlocks hK hP hD hS (isb_n (v := 1) (by decide)) d_Cu_add_536
  · have hf := ifn cx hf
    refine lv_aload_n hx hb d_Cu_add_507 rfl (lv_at hl 1 rfl) ?_
    refine va_get (D := D) (ci := 7) (v := .ref a1_y) (C := "CoinKeeper$Point") (T := F_7) (N := 5) hx hb hts i_7 hown hK hP 6 rfl rfl 1 (by decide) (hts _ gw_110) (fun _ h9 => h9) rfl d_Cu_add_508 ?_
    refine lv_iload hx hb d_Cu_add_511 (lv_at hl 2 rfl) ?_
    refine lv_dup2_11 hx hb d_Cu_add_513 rfl rfl ?_
    obtain ⟨hg, hf⟩ := gdp hf
    refine va_lald hx hb hK hP 8 2 rfl rfl (inb_in hg) d_Cu_add_514 ?_
    refine lv_topl (fun v1 ev => ?_)
    have hf := bn ev hf
    clear ev
    refine lv_aload_n hx hb d_Cu_add_515 rfl (lv_at hl 0 rfl) ?_
    refine va_get (D := D) (ci := 3) (v := .ref a_b) (C := "CoinKeeper$Curve") (T := F_3) (N := 7) hx hb hts i_3 hown hK hP 0 rfl rfl 3 (by decide) (hts _ gw_79) (fun _ h9 => h9) rfl d_Cu_add_516 ?_
    refine lv_iload hx hb d_Cu_add_519 (lv_at hl 2 rfl) ?_
    obtain ⟨hg, hf⟩ := gdp hf
    refine va_lald hx hb hK hP 2 2 rfl rfl (inb_in hg) d_Cu_add_521 ?_
    refine lv_topl (fun v2 ev => ?_)
    have hf := bn ev hf
    clear ev
    refine lv_lsub hx hb d_Cu_add_522 ?_
    refine lv_topl (fun v3 ev => ?_)
    have hf := bn ev hf
    clear ev
    obtain ⟨hg, hf⟩ := gdp hf
    refine va_last hx hb hK hP hD hS 8 2 rfl rfl (inb_in hg) d_Cu_add_523 (fun H locs hP hD hS => ?_)
    obtain ⟨f4, ev, hf⟩ := bne hf
    have hP : va_P D classes [(o, .inr (3, [r_rows, v_a_limbs, .ref a_a, .ref a_b, .ref a_c, .ref a_d, .ref a_f])), (a_a, .inl (cy 2, 10, .inr (.inl u0))), (a_b, .inl (cy 2, 10, .inr (.inl u1))), (a_c, .inl (cy 2, 10, .inr (.inl u2))), (a_d, .inl (cy 2, 10, .inr (.inl u3))), (a_f, .inl (cy 2, 10, .inr (.inl u4))), (o1, .inr (7, [.ref a1_x, .ref a1_y, .ref a1_z, .int u5, .int u6])), (a1_x, .inl (cy 2, 10, .inr (.inl u7))), (a1_y, .inl (cy 2, 10, .inr (.inl f4))), (a1_z, .inl (cy 2, 10, .inr (.inl u9))), (o2, .inr (7, [.ref a2_x, .ref a2_y, .ref a2_z, .int i2_isNone, .int i2_isPlain])), (a2_x, .inl (cy 2, 10, .inr (.inl g2_x))), (a2_y, .inl (cy 2, 10, .inr (.inl g2_y))), (a2_z, .inl (cy 2, 10, .inr (.inl g2_z)))] H := by rw [ev]; exact hP
    have hD : va_D A [(o, .inr (3, [r_rows, v_a_limbs, .ref a_a, .ref a_b, .ref a_c, .ref a_d, .ref a_f])), (a_a, .inl (cy 2, 10, .inr (.inl u0))), (a_b, .inl (cy 2, 10, .inr (.inl u1))), (a_c, .inl (cy 2, 10, .inr (.inl u2))), (a_d, .inl (cy 2, 10, .inr (.inl u3))), (a_f, .inl (cy 2, 10, .inr (.inl u4))), (o1, .inr (7, [.ref a1_x, .ref a1_y, .ref a1_z, .int u5, .int u6])), (a1_x, .inl (cy 2, 10, .inr (.inl u7))), (a1_y, .inl (cy 2, 10, .inr (.inl f4))), (a1_z, .inl (cy 2, 10, .inr (.inl u9))), (o2, .inr (7, [.ref a2_x, .ref a2_y, .ref a2_z, .int i2_isNone, .int i2_isPlain])), (a2_x, .inl (cy 2, 10, .inr (.inl g2_x))), (a2_y, .inl (cy 2, 10, .inr (.inl g2_y))), (a2_z, .inl (cy 2, 10, .inr (.inl g2_z)))] := by rw [ev]; exact hD
    clear ev
    obtain ⟨v5, ev, hf⟩ := bne hf
    refine lv_iinc (v := v5) (lv' := [(4, .int v5), (0, .ref o), (1, .ref o1)]) hx hb d_Cu_add_524 hl (k := 2) rfl (by rw [ev]; rfl) (by decide) rfl (fun ls hl => ?_)
    clear ev
    refine lv_goto (tgt := 500) hx hb d_Cu_add_527 (by decide) ?_
    exact hk_500 _ _ _ _ _ _ _ _ _ _ _ _ hf _ _ _ hP hD hS (lv_sub hl [1, 2, 0] rfl)
theorem w_Cu_add_500 {p : Program} {l : Launch} {e : Env} {s : State} {m : MethodId} {args : Array Value} {below : List Frame} {meth : Method} {c : Code} {D : va_G} {cy : Nat → ClassId} {A : Nat → Prop} {ad : Nat → Nat} {o : Nat} {r_rows : Value} {v_a_limbs : Value} {a_a : Nat} {a_b : Nat} {a_c : Nat} {a_d : Nat} {a_f : Nat} {o1 : Nat} {a1_x : Nat} {a1_y : Nat} {a1_z : Nat} {o2 : Nat} {a2_x : Nat} {a2_y : Nat} {a2_z : Nat} {i2_isNone : Int32} {i2_isPlain : Int32} {g2_x : Nat → Int64} {g2_y : Nat → Int64} {g2_z : Nat → Int64} {fu : Nat} (F : Fx p s m args meth c b_Cu_add 5 "CoinKeeper$Curve" "add" (some .boolean) D cy ad A) : ∀ n : Nat, I_Cu_add_500 p l e s m args below meth c D cy A ad o r_rows v_a_limbs a_a a_b a_c a_d a_f o1 a1_x a1_y a1_z o2 a2_x a2_y a2_z i2_isNone i2_isPlain g2_x g2_y g2_z (x_Cu_add_500 fu i2_isNone i2_isPlain g2_x g2_y g2_z n)
  | 0 => fun _ _ _ _ _ _ _ _ _ _ _ _ hf => nomatch (show (none : Option (Int32 × (Nat → Int64) × (Nat → Int64) × (Nat → Int64) × (Nat → Int64) × (Nat → Int64) × Int32 × Int32 × (Nat → Int64) × (Nat → Int64) × (Nat → Int64))) = some _ from hf)
  | n + 1 => wb_Cu_add_500 F (w_Cu_add_500 F n)
set_option maxHeartbeats 8000000 in
set_option maxRecDepth 100000 in
theorem wb_Cu_add_418 {p : Program} {l : Launch} {e : Env} {s : State} {m : MethodId} {args : Array Value} {below : List Frame} {meth : Method} {c : Code} {D : va_G} {cy : Nat → ClassId} {A : Nat → Prop} {ad : Nat → Nat} {o : Nat} {r_rows : Value} {v_a_limbs : Value} {a_a : Nat} {a_b : Nat} {a_c : Nat} {a_d : Nat} {a_f : Nat} {o1 : Nat} {a1_x : Nat} {a1_y : Nat} {a1_z : Nat} {o2 : Nat} {a2_x : Nat} {a2_y : Nat} {a2_z : Nat} {i2_isNone : Int32} {i2_isPlain : Int32} {g2_x : Nat → Int64} {g2_y : Nat → Int64} {g2_z : Nat → Int64} {fu : Nat} {k_418 : Int32 → (Nat → Int64) → (Nat → Int64) → (Nat → Int64) → (Nat → Int64) → (Nat → Int64) → Int32 → Int32 → (Nat → Int64) → (Nat → Int64) → (Nat → Int64) → Option (Int32 × (Nat → Int64) × (Nat → Int64) × (Nat → Int64) × (Nat → Int64) × (Nat → Int64) × Int32 × Int32 × (Nat → Int64) × (Nat → Int64) × (Nat → Int64))} (F : Fx p s m args meth c b_Cu_add 5 "CoinKeeper$Curve" "add" (some .boolean) D cy ad A) (hk_418 : I_Cu_add_418 p l e s m args below meth c D cy A ad o r_rows v_a_limbs a_a a_b a_c a_d a_f o1 a1_x a1_y a1_z o2 a2_x a2_y a2_z i2_isNone i2_isPlain g2_x g2_y g2_z k_418) : I_Cu_add_418 p l e s m args below meth c D cy A ad o r_rows v_a_limbs a_a a_b a_c a_d a_f o1 a1_x a1_y a1_z o2 a2_x a2_y a2_z i2_isNone i2_isPlain g2_x g2_y g2_z (xb_Cu_add_418 fu i2_isNone i2_isPlain g2_x g2_y g2_z k_418) := by
  obtain ⟨hx, hb, hr, hml, hown, hts, hlocks, hK, hA, hSt, hnm, hex⟩ := id F
  intro x4 u0 u1 u2 u3 u4 u5 u6 u7 u8 u9 res hf H locs ls hP hD hS hl
  unfold xb_Cu_add_418 at hf
  refine lv_iload hx hb d_Cu_add_418 (lv_at hl 2 rfl) ?_
  refine lv_bipush (v := 10) hx hb d_Cu_add_420 (by decide) ?_
  refine lv_icmp_ge (tgt := 482) hx hb d_Cu_add_422 (by decide) (fun cx => ?_) (fun cx => ?_)
  · have hf := ifp cx hf
    refine lv_aload_n hx hb d_Cu_add_482 rfl (lv_at hl 0 rfl) ?_
    refine va_get (D := D) (ci := 3) (v := .ref a_d) (C := "CoinKeeper$Curve") (T := F_3) (N := 7) hx hb hts i_3 hown hK hP 0 rfl rfl 5 (by decide) (hts _ gw_81) (fun _ h9 => h9) rfl d_Cu_add_483 ?_
    refine lv_aload_n hx hb d_Cu_add_486 rfl (lv_at hl 0 rfl) ?_
    refine va_get (D := D) (ci := 3) (v := .ref a_a) (C := "CoinKeeper$Curve") (T := F_3) (N := 7) hx hb hts i_3 hown hK hP 0 rfl rfl 2 (by decide) (hts _ gw_78) (fun _ h9 => h9) rfl d_Cu_add_487 ?_
    refine lv_aload_n hx hb d_Cu_add_490 rfl (lv_at hl 1 rfl) ?_
    refine va_get (D := D) (ci := 7) (v := .ref a1_y) (C := "CoinKeeper$Point") (T := F_7) (N := 5) hx hb hts i_7 hown hK hP 6 rfl rfl 1 (by decide) (hts _ gw_110) (fun _ h9 => h9) rfl d_Cu_add_491 ?_
    obtain ⟨f1, hc, hf⟩ := bdp1 hf
    refine q_av (wr := [(o, .inr (3, [r_rows, v_a_limbs, .ref a_a, .ref a_b, .ref a_c, .ref a_d, .ref a_f])), (a_b, .inl (cy 2, 10, .inr (.inl u1))), (a_c, .inl (cy 2, 10, .inr (.inl u2))), (a_f, .inl (cy 2, 10, .inr (.inl u4))), (o1, .inr (7, [.ref a1_x, .ref a1_y, .ref a1_z, .int u5, .int u6])), (a1_x, .inl (cy 2, 10, .inr (.inl u7))), (a1_z, .inl (cy 2, 10, .inr (.inl u9))), (o2, .inr (7, [.ref a2_x, .ref a2_y, .ref a2_z, .int i2_isNone, .int i2_isPlain])), (a2_x, .inl (cy 2, 10, .inr (.inl g2_x))), (a2_y, .inl (cy 2, 10, .inr (.inl g2_y))), (a2_z, .inl (cy 2, 10, .inr (.inl g2_z)))]) (va_runS (As := [.ref a_d, .ref a_a, .ref a1_y]) (rest := []) ⟨hx, hb, hml, hown, hts⟩ (c_Cu_multiply l D cy ad fu a_d a_a a1_y u3 u0 u8 _ hc H.size) ⟨q_cB hts gw_1078 gw_4 gw_1076 hdc_18 ⟨by decide, by decide⟩, hts _ gw_1077⟩ (q_pre (hP.sub [4, 1, 8] rfl) (hD.sub [4, 1, 8] (by decide) rfl) hK hSt hS (va_free hD hS hA [4, 1, 8] rfl) _) rfl rfl hl.1 rfl (lv_room (Nat.le_of_ble_eq_true rfl)) d_Cu_add_494 ⟨Nat.le_of_ble_eq_true rfl, Nat.le_of_ble_eq_true rfl⟩) hP hD hS hA [4, 1, 8] [0, 2, 3, 5, 6, 7, 9, 10, 11, 12, 13] rfl rfl (by decide) (by decide) (fun H locs hP hD hS => ?_)
    clear hc
    have hP : va_P D classes [(o, .inr (3, [r_rows, v_a_limbs, .ref a_a, .ref a_b, .ref a_c, .ref a_d, .ref a_f])), (a_b, .inl (cy 2, 10, .inr (.inl u1))), (a_c, .inl (cy 2, 10, .inr (.inl u2))), (a_f, .inl (cy 2, 10, .inr (.inl u4))), (o1, .inr (7, [.ref a1_x, .ref a1_y, .ref a1_z, .int u5, .int u6])), (a1_x, .inl (cy 2, 10, .inr (.inl u7))), (a1_z, .inl (cy 2, 10, .inr (.inl u9))), (o2, .inr (7, [.ref a2_x, .ref a2_y, .ref a2_z, .int i2_isNone, .int i2_isPlain])), (a2_x, .inl (cy 2, 10, .inr (.inl g2_x))), (a2_y, .inl (cy 2, 10, .inr (.inl g2_y))), (a2_z, .inl (cy 2, 10, .inr (.inl g2_z))), (a_d, .inl (cy 2, 10, .inr (.inl u3))), (a_a, .inl (cy 2, 10, .inr (.inl u0))), (a1_y, .inl (cy 2, 10, .inr (.inl f1)))] H := hP
    have hD : va_D A [(o, .inr (3, [r_rows, v_a_limbs, .ref a_a, .ref a_b, .ref a_c, .ref a_d, .ref a_f])), (a_b, .inl (cy 2, 10, .inr (.inl u1))), (a_c, .inl (cy 2, 10, .inr (.inl u2))), (a_f, .inl (cy 2, 10, .inr (.inl u4))), (o1, .inr (7, [.ref a1_x, .ref a1_y, .ref a1_z, .int u5, .int u6])), (a1_x, .inl (cy 2, 10, .inr (.inl u7))), (a1_z, .inl (cy 2, 10, .inr (.inl u9))), (o2, .inr (7, [.ref a2_x, .ref a2_y, .ref a2_z, .int i2_isNone, .int i2_isPlain])), (a2_x, .inl (cy 2, 10, .inr (.inl g2_x))), (a2_y, .inl (cy 2, 10, .inr (.inl g2_y))), (a2_z, .inl (cy 2, 10, .inr (.inl g2_z))), (a_d, .inl (cy 2, 10, .inr (.inl u3))), (a_a, .inl (cy 2, 10, .inr (.inl u0))), (a1_y, .inl (cy 2, 10, .inr (.inl f1)))] := hD
    refine lv_iconst (v := 0) hx hb d_Cu_add_497 (by decide) ?_
    refine lv_istore (lv' := [(4, .int (0 : Int32)), (0, .ref o), (1, .ref o1)]) hx hb d_Cu_add_498 hl (by decide) rfl (fun ls hl => ?_)
    exact w_Cu_add_500 F fu _ _ _ _ _ _ _ _ _ _ _ _ hf _ _ _ (hP.sub (ws' := [(o, .inr (3, [r_rows, v_a_limbs, .ref a_a, .ref a_b, .ref a_c, .ref a_d, .ref a_f])), (a_a, .inl (cy 2, 10, .inr (.inl u0))), (a_b, .inl (cy 2, 10, .inr (.inl u1))), (a_c, .inl (cy 2, 10, .inr (.inl u2))), (a_d, .inl (cy 2, 10, .inr (.inl u3))), (a_f, .inl (cy 2, 10, .inr (.inl u4))), (o1, .inr (7, [.ref a1_x, .ref a1_y, .ref a1_z, .int u5, .int u6])), (a1_x, .inl (cy 2, 10, .inr (.inl u7))), (a1_y, .inl (cy 2, 10, .inr (.inl f1))), (a1_z, .inl (cy 2, 10, .inr (.inl u9))), (o2, .inr (7, [.ref a2_x, .ref a2_y, .ref a2_z, .int i2_isNone, .int i2_isPlain])), (a2_x, .inl (cy 2, 10, .inr (.inl g2_x))), (a2_y, .inl (cy 2, 10, .inr (.inl g2_y))), (a2_z, .inl (cy 2, 10, .inr (.inl g2_z)))]) [0, 12, 1, 2, 11, 3, 4, 5, 13, 6, 7, 8, 9, 10] rfl) (hD.sub (ws' := [(o, .inr (3, [r_rows, v_a_limbs, .ref a_a, .ref a_b, .ref a_c, .ref a_d, .ref a_f])), (a_a, .inl (cy 2, 10, .inr (.inl u0))), (a_b, .inl (cy 2, 10, .inr (.inl u1))), (a_c, .inl (cy 2, 10, .inr (.inl u2))), (a_d, .inl (cy 2, 10, .inr (.inl u3))), (a_f, .inl (cy 2, 10, .inr (.inl u4))), (o1, .inr (7, [.ref a1_x, .ref a1_y, .ref a1_z, .int u5, .int u6])), (a1_x, .inl (cy 2, 10, .inr (.inl u7))), (a1_y, .inl (cy 2, 10, .inr (.inl f1))), (a1_z, .inl (cy 2, 10, .inr (.inl u9))), (o2, .inr (7, [.ref a2_x, .ref a2_y, .ref a2_z, .int i2_isNone, .int i2_isPlain])), (a2_x, .inl (cy 2, 10, .inr (.inl g2_x))), (a2_y, .inl (cy 2, 10, .inr (.inl g2_y))), (a2_z, .inl (cy 2, 10, .inr (.inl g2_z)))]) [0, 12, 1, 2, 11, 3, 4, 5, 13, 6, 7, 8, 9, 10] (by decide) rfl) hS (lv_sub hl [1, 2, 0] rfl)
  · have hf := ifn cx hf
    refine lv_aload_n hx hb d_Cu_add_425 rfl (lv_at hl 1 rfl) ?_
    refine va_get (D := D) (ci := 7) (v := .ref a1_x) (C := "CoinKeeper$Point") (T := F_7) (N := 5) hx hb hts i_7 hown hK hP 6 rfl rfl 0 (by decide) (hts _ gw_108) (fun _ h9 => h9) rfl d_Cu_add_426 ?_
    refine lv_iload hx hb d_Cu_add_429 (lv_at hl 2 rfl) ?_
    refine lv_aload_n hx hb d_Cu_add_431 rfl (lv_at hl 0 rfl) ?_
    refine va_get (D := D) (ci := 3) (v := .ref a_f) (C := "CoinKeeper$Curve") (T := F_3) (N := 7) hx hb hts i_3 hown hK hP 0 rfl rfl 6 (by decide) (hts _ gw_82) (fun _ h9 => h9) rfl d_Cu_add_432 ?_
    refine lv_iload hx hb d_Cu_add_435 (lv_at hl 2 rfl) ?_
    obtain ⟨hg, hf⟩ := gdp hf
    refine va_lald hx hb hK hP 5 2 rfl rfl (inb_in hg) d_Cu_add_437 ?_
    refine lv_topl (fun v2 ev => ?_)
    have hf := bn ev hf
    clear ev
    refine lv_aload_n hx hb d_Cu_add_438 rfl (lv_at hl 0 rfl) ?_
    refine va_get (D := D) (ci := 3) (v := .ref a_c) (C := "CoinKeeper$Curve") (T := F_3) (N := 7) hx hb hts i_3 hown hK hP 0 rfl rfl 4 (by decide) (hts _ gw_80) (fun _ h9 => h9) rfl d_Cu_add_439 ?_
    refine lv_iload hx hb d_Cu_add_442 (lv_at hl 2 rfl) ?_
    obtain ⟨hg, hf⟩ := gdp hf
    refine va_lald hx hb hK hP 3 2 rfl rfl (inb_in hg) d_Cu_add_444 ?_
    refine lv_topl (fun v3 ev => ?_)
    have hf := bn ev hf
    clear ev
    refine lv_lsub hx hb d_Cu_add_445 ?_
    refine lv_topl (fun v4 ev => ?_)
    have hf := bn ev hf
    clear ev
    refine lv_ldc2 (v := 2) hx hb hown (hts _ gw_1147) d_Cu_add_446 ?_
    refine lv_aload_n hx hb d_Cu_add_449 rfl (lv_at hl 0 rfl) ?_
    refine va_get (D := D) (ci := 3) (v := .ref a_a) (C := "CoinKeeper$Curve") (T := F_3) (N := 7) hx hb hts i_3 hown hK hP 0 rfl rfl 2 (by decide) (hts _ gw_78) (fun _ h9 => h9) rfl d_Cu_add_450 ?_
    refine lv_iload hx hb d_Cu_add_453 (lv_at hl 2 rfl) ?_
    obtain ⟨hg, hf⟩ := gdp hf
    refine va_lald hx hb hK hP 1 2 rfl rfl (inb_in hg) d_Cu_add_455 ?_
    refine lv_topl (fun v5 ev => ?_)
    have hf := bn ev hf
    clear ev
    refine lv_lmul hx hb d_Cu_add_456 ?_
    refine lv_lsub hx hb d_Cu_add_457 ?_
    refine lv_topl (fun v6 ev => ?_)
    have hf := bn ev hf
    clear ev
    obtain ⟨hg, hf⟩ := gdp hf
    refine va_last hx hb hK hP hD hS 7 2 rfl rfl (inb_in hg) d_Cu_add_458 (fun H locs hP hD hS => ?_)
    obtain ⟨f7, ev, hf⟩ := bne hf
    have hP : va_P D classes [(o, .inr (3, [r_rows, v_a_limbs, .ref a_a, .ref a_b, .ref a_c, .ref a_d, .ref a_f])), (a_a, .inl (cy 2, 10, .inr (.inl u0))), (a_b, .inl (cy 2, 10, .inr (.inl u1))), (a_c, .inl (cy 2, 10, .inr (.inl u2))), (a_d, .inl (cy 2, 10, .inr (.inl u3))), (a_f, .inl (cy 2, 10, .inr (.inl u4))), (o1, .inr (7, [.ref a1_x, .ref a1_y, .ref a1_z, .int u5, .int u6])), (a1_x, .inl (cy 2, 10, .inr (.inl f7))), (a1_y, .inl (cy 2, 10, .inr (.inl u8))), (a1_z, .inl (cy 2, 10, .inr (.inl u9))), (o2, .inr (7, [.ref a2_x, .ref a2_y, .ref a2_z, .int i2_isNone, .int i2_isPlain])), (a2_x, .inl (cy 2, 10, .inr (.inl g2_x))), (a2_y, .inl (cy 2, 10, .inr (.inl g2_y))), (a2_z, .inl (cy 2, 10, .inr (.inl g2_z)))] H := by rw [ev]; exact hP
    have hD : va_D A [(o, .inr (3, [r_rows, v_a_limbs, .ref a_a, .ref a_b, .ref a_c, .ref a_d, .ref a_f])), (a_a, .inl (cy 2, 10, .inr (.inl u0))), (a_b, .inl (cy 2, 10, .inr (.inl u1))), (a_c, .inl (cy 2, 10, .inr (.inl u2))), (a_d, .inl (cy 2, 10, .inr (.inl u3))), (a_f, .inl (cy 2, 10, .inr (.inl u4))), (o1, .inr (7, [.ref a1_x, .ref a1_y, .ref a1_z, .int u5, .int u6])), (a1_x, .inl (cy 2, 10, .inr (.inl f7))), (a1_y, .inl (cy 2, 10, .inr (.inl u8))), (a1_z, .inl (cy 2, 10, .inr (.inl u9))), (o2, .inr (7, [.ref a2_x, .ref a2_y, .ref a2_z, .int i2_isNone, .int i2_isPlain])), (a2_x, .inl (cy 2, 10, .inr (.inl g2_x))), (a2_y, .inl (cy 2, 10, .inr (.inl g2_y))), (a2_z, .inl (cy 2, 10, .inr (.inl g2_z)))] := by rw [ev]; exact hD
    clear ev
    refine lv_aload_n hx hb d_Cu_add_459 rfl (lv_at hl 0 rfl) ?_
    refine va_get (D := D) (ci := 3) (v := .ref a_a) (C := "CoinKeeper$Curve") (T := F_3) (N := 7) hx hb hts i_3 hown hK hP 0 rfl rfl 2 (by decide) (hts _ gw_78) (fun _ h9 => h9) rfl d_Cu_add_460 ?_
    refine lv_iload hx hb d_Cu_add_463 (lv_at hl 2 rfl) ?_
    refine lv_dup2_11 hx hb d_Cu_add_465 rfl rfl ?_
    obtain ⟨hg, hf⟩ := gdp hf
    refine va_lald hx hb hK hP 1 2 rfl rfl (inb_in hg) d_Cu_add_466 ?_
    refine lv_topl (fun v8 ev => ?_)
    have hf := bn ev hf
    clear ev
    refine lv_aload_n hx hb d_Cu_add_467 rfl (lv_at hl 1 rfl) ?_
    refine va_get (D := D) (ci := 7) (v := .ref a1_x) (C := "CoinKeeper$Point") (T := F_7) (N := 5) hx hb hts i_7 hown hK hP 6 rfl rfl 0 (by decide) (hts _ gw_108) (fun _ h9 => h9) rfl d_Cu_add_468 ?_
    refine lv_iload hx hb d_Cu_add_471 (lv_at hl 2 rfl) ?_
    obtain ⟨hg, hf⟩ := gdp hf
    refine va_lald hx hb hK hP 7 2 rfl rfl (inb_in hg) d_Cu_add_473 ?_
    refine lv_topl (fun v9 ev => ?_)
    have hf := bn ev hf
    clear ev
    refine lv_lsub hx hb d_Cu_add_474 ?_
    refine lv_topl (fun v10 ev => ?_)
    have hf := bn ev hf
    clear ev
    obtain ⟨hg, hf⟩ := gdp hf
    refine va_last hx hb hK hP hD hS 1 2 rfl rfl (inb_in hg) d_Cu_add_475 (fun H locs hP hD hS => ?_)
    obtain ⟨f11, ev, hf⟩ := bne hf
    have hP : va_P D classes [(o, .inr (3, [r_rows, v_a_limbs, .ref a_a, .ref a_b, .ref a_c, .ref a_d, .ref a_f])), (a_a, .inl (cy 2, 10, .inr (.inl f11))), (a_b, .inl (cy 2, 10, .inr (.inl u1))), (a_c, .inl (cy 2, 10, .inr (.inl u2))), (a_d, .inl (cy 2, 10, .inr (.inl u3))), (a_f, .inl (cy 2, 10, .inr (.inl u4))), (o1, .inr (7, [.ref a1_x, .ref a1_y, .ref a1_z, .int u5, .int u6])), (a1_x, .inl (cy 2, 10, .inr (.inl f7))), (a1_y, .inl (cy 2, 10, .inr (.inl u8))), (a1_z, .inl (cy 2, 10, .inr (.inl u9))), (o2, .inr (7, [.ref a2_x, .ref a2_y, .ref a2_z, .int i2_isNone, .int i2_isPlain])), (a2_x, .inl (cy 2, 10, .inr (.inl g2_x))), (a2_y, .inl (cy 2, 10, .inr (.inl g2_y))), (a2_z, .inl (cy 2, 10, .inr (.inl g2_z)))] H := by rw [ev]; exact hP
    have hD : va_D A [(o, .inr (3, [r_rows, v_a_limbs, .ref a_a, .ref a_b, .ref a_c, .ref a_d, .ref a_f])), (a_a, .inl (cy 2, 10, .inr (.inl f11))), (a_b, .inl (cy 2, 10, .inr (.inl u1))), (a_c, .inl (cy 2, 10, .inr (.inl u2))), (a_d, .inl (cy 2, 10, .inr (.inl u3))), (a_f, .inl (cy 2, 10, .inr (.inl u4))), (o1, .inr (7, [.ref a1_x, .ref a1_y, .ref a1_z, .int u5, .int u6])), (a1_x, .inl (cy 2, 10, .inr (.inl f7))), (a1_y, .inl (cy 2, 10, .inr (.inl u8))), (a1_z, .inl (cy 2, 10, .inr (.inl u9))), (o2, .inr (7, [.ref a2_x, .ref a2_y, .ref a2_z, .int i2_isNone, .int i2_isPlain])), (a2_x, .inl (cy 2, 10, .inr (.inl g2_x))), (a2_y, .inl (cy 2, 10, .inr (.inl g2_y))), (a2_z, .inl (cy 2, 10, .inr (.inl g2_z)))] := by rw [ev]; exact hD
    clear ev
    obtain ⟨v12, ev, hf⟩ := bne hf
    refine lv_iinc (v := v12) (lv' := [(4, .int v12), (0, .ref o), (1, .ref o1)]) hx hb d_Cu_add_476 hl (k := 2) rfl (by rw [ev]; rfl) (by decide) rfl (fun ls hl => ?_)
    clear ev
    refine lv_goto (tgt := 418) hx hb d_Cu_add_479 (by decide) ?_
    exact hk_418 _ _ _ _ _ _ _ _ _ _ _ _ hf _ _ _ hP hD hS (lv_sub hl [1, 2, 0] rfl)
theorem w_Cu_add_418 {p : Program} {l : Launch} {e : Env} {s : State} {m : MethodId} {args : Array Value} {below : List Frame} {meth : Method} {c : Code} {D : va_G} {cy : Nat → ClassId} {A : Nat → Prop} {ad : Nat → Nat} {o : Nat} {r_rows : Value} {v_a_limbs : Value} {a_a : Nat} {a_b : Nat} {a_c : Nat} {a_d : Nat} {a_f : Nat} {o1 : Nat} {a1_x : Nat} {a1_y : Nat} {a1_z : Nat} {o2 : Nat} {a2_x : Nat} {a2_y : Nat} {a2_z : Nat} {i2_isNone : Int32} {i2_isPlain : Int32} {g2_x : Nat → Int64} {g2_y : Nat → Int64} {g2_z : Nat → Int64} {fu : Nat} (F : Fx p s m args meth c b_Cu_add 5 "CoinKeeper$Curve" "add" (some .boolean) D cy ad A) : ∀ n : Nat, I_Cu_add_418 p l e s m args below meth c D cy A ad o r_rows v_a_limbs a_a a_b a_c a_d a_f o1 a1_x a1_y a1_z o2 a2_x a2_y a2_z i2_isNone i2_isPlain g2_x g2_y g2_z (x_Cu_add_418 fu i2_isNone i2_isPlain g2_x g2_y g2_z n)
  | 0 => fun _ _ _ _ _ _ _ _ _ _ _ _ hf => nomatch (show (none : Option (Int32 × (Nat → Int64) × (Nat → Int64) × (Nat → Int64) × (Nat → Int64) × (Nat → Int64) × Int32 × Int32 × (Nat → Int64) × (Nat → Int64) × (Nat → Int64))) = some _ from hf)
  | n + 1 => wb_Cu_add_418 F (w_Cu_add_418 F n)
set_option maxHeartbeats 8000000 in
set_option maxRecDepth 100000 in
theorem wb_Cu_add_340 {p : Program} {l : Launch} {e : Env} {s : State} {m : MethodId} {args : Array Value} {below : List Frame} {meth : Method} {c : Code} {D : va_G} {cy : Nat → ClassId} {A : Nat → Prop} {ad : Nat → Nat} {o : Nat} {r_rows : Value} {v_a_limbs : Value} {a_a : Nat} {a_b : Nat} {a_c : Nat} {a_d : Nat} {a_f : Nat} {o1 : Nat} {a1_x : Nat} {a1_y : Nat} {a1_z : Nat} {o2 : Nat} {a2_x : Nat} {a2_y : Nat} {a2_z : Nat} {i2_isNone : Int32} {i2_isPlain : Int32} {g2_x : Nat → Int64} {g2_y : Nat → Int64} {g2_z : Nat → Int64} {fu : Nat} (F : Fx p s m args meth c b_Cu_add 5 "CoinKeeper$Curve" "add" (some .boolean) D cy ad A) : I_Cu_add_340 p l e s m args below meth c D cy A ad o r_rows v_a_limbs a_a a_b a_c a_d a_f o1 a1_x a1_y a1_z o2 a2_x a2_y a2_z i2_isNone i2_isPlain g2_x g2_y g2_z (xb_Cu_add_340 fu i2_isNone i2_isPlain g2_x g2_y g2_z) := by
  obtain ⟨hx, hb, hr, hml, hown, hts, hlocks, hK, hA, hSt, hnm, hex⟩ := id F
  intro u0 u1 u2 u3 u4 u5 u6 u7 u8 u9 res hf H locs ls hP hD hS hl
  unfold xb_Cu_add_340 at hf
  refine lv_aload_n hx hb d_Cu_add_340 rfl (lv_at hl 0 rfl) ?_
  refine va_get (D := D) (ci := 3) (v := .ref a_c) (C := "CoinKeeper$Curve") (T := F_3) (N := 7) hx hb hts i_3 hown hK hP 0 rfl rfl 4 (by decide) (hts _ gw_80) (fun _ h9 => h9) rfl d_Cu_add_341 ?_
  refine lv_aload_n hx hb d_Cu_add_344 rfl (lv_at hl 0 rfl) ?_
  refine va_get (D := D) (ci := 3) (v := .ref a_c) (C := "CoinKeeper$Curve") (T := F_3) (N := 7) hx hb hts i_3 hown hK hP 0 rfl rfl 4 (by decide) (hts _ gw_80) (fun _ h9 => h9) rfl d_Cu_add_345 ?_
  refine lv_aload_n hx hb d_Cu_add_348 rfl (lv_at hl 0 rfl) ?_
  refine va_get (D := D) (ci := 3) (v := .ref a_f) (C := "CoinKeeper$Curve") (T := F_3) (N := 7) hx hb hts i_3 hown hK hP 0 rfl rfl 6 (by decide) (hts _ gw_82) (fun _ h9 => h9) rfl d_Cu_add_349 ?_
  obtain ⟨f1, hc, hf⟩ := bdp1 hf
  refine q_av (wr := [(o, .inr (3, [r_rows, v_a_limbs, .ref a_a, .ref a_b, .ref a_c, .ref a_d, .ref a_f])), (a_a, .inl (cy 2, 10, .inr (.inl u0))), (a_b, .inl (cy 2, 10, .inr (.inl u1))), (a_d, .inl (cy 2, 10, .inr (.inl u3))), (o1, .inr (7, [.ref a1_x, .ref a1_y, .ref a1_z, .int u5, .int u6])), (a1_x, .inl (cy 2, 10, .inr (.inl u7))), (a1_y, .inl (cy 2, 10, .inr (.inl u8))), (a1_z, .inl (cy 2, 10, .inr (.inl u9))), (o2, .inr (7, [.ref a2_x, .ref a2_y, .ref a2_z, .int i2_isNone, .int i2_isPlain])), (a2_x, .inl (cy 2, 10, .inr (.inl g2_x))), (a2_y, .inl (cy 2, 10, .inr (.inl g2_y))), (a2_z, .inl (cy 2, 10, .inr (.inl g2_z)))]) (va_runS (As := [.ref a_c, .ref a_c, .ref a_f]) (rest := []) ⟨hx, hb, hml, hown, hts⟩ (c_Cu_multiply_e10 l D cy ad fu a_c a_f u2 u4 _ hc H.size) ⟨q_cB hts gw_1078 gw_4 gw_1076 hdc_18 ⟨by decide, by decide⟩, hts _ gw_1077⟩ (q_pre (hP.sub [3, 5] rfl) (hD.sub [3, 5] (by decide) rfl) hK hSt hS (va_free hD hS hA [3, 5] rfl) _) rfl rfl hl.1 rfl (lv_room (Nat.le_of_ble_eq_true rfl)) d_Cu_add_352 ⟨Nat.le_of_ble_eq_true rfl, Nat.le_of_ble_eq_true rfl⟩) hP hD hS hA [3, 5] [0, 1, 2, 4, 6, 7, 8, 9, 10, 11, 12, 13] rfl rfl (by decide) (by decide) (fun H locs hP hD hS => ?_)
  clear hc
  have hP : va_P D classes [(o, .inr (3, [r_rows, v_a_limbs, .ref a_a, .ref a_b, .ref a_c, .ref a_d, .ref a_f])), (a_a, .inl (cy 2, 10, .inr (.inl u0))), (a_b, .inl (cy 2, 10, .inr (.inl u1))), (a_d, .inl (cy 2, 10, .inr (.inl u3))), (o1, .inr (7, [.ref a1_x, .ref a1_y, .ref a1_z, .int u5, .int u6])), (a1_x, .inl (cy 2, 10, .inr (.inl u7))), (a1_y, .inl (cy 2, 10, .inr (.inl u8))), (a1_z, .inl (cy 2, 10, .inr (.inl u9))), (o2, .inr (7, [.ref a2_x, .ref a2_y, .ref a2_z, .int i2_isNone, .int i2_isPlain])), (a2_x, .inl (cy 2, 10, .inr (.inl g2_x))), (a2_y, .inl (cy 2, 10, .inr (.inl g2_y))), (a2_z, .inl (cy 2, 10, .inr (.inl g2_z))), (a_c, .inl (cy 2, 10, .inr (.inl u2))), (a_f, .inl (cy 2, 10, .inr (.inl f1)))] H := hP
  have hD : va_D A [(o, .inr (3, [r_rows, v_a_limbs, .ref a_a, .ref a_b, .ref a_c, .ref a_d, .ref a_f])), (a_a, .inl (cy 2, 10, .inr (.inl u0))), (a_b, .inl (cy 2, 10, .inr (.inl u1))), (a_d, .inl (cy 2, 10, .inr (.inl u3))), (o1, .inr (7, [.ref a1_x, .ref a1_y, .ref a1_z, .int u5, .int u6])), (a1_x, .inl (cy 2, 10, .inr (.inl u7))), (a1_y, .inl (cy 2, 10, .inr (.inl u8))), (a1_z, .inl (cy 2, 10, .inr (.inl u9))), (o2, .inr (7, [.ref a2_x, .ref a2_y, .ref a2_z, .int i2_isNone, .int i2_isPlain])), (a2_x, .inl (cy 2, 10, .inr (.inl g2_x))), (a2_y, .inl (cy 2, 10, .inr (.inl g2_y))), (a2_z, .inl (cy 2, 10, .inr (.inl g2_z))), (a_c, .inl (cy 2, 10, .inr (.inl u2))), (a_f, .inl (cy 2, 10, .inr (.inl f1)))] := hD
  refine lv_aload_n hx hb d_Cu_add_355 rfl (lv_at hl 0 rfl) ?_
  refine va_get (D := D) (ci := 3) (v := .ref a_c) (C := "CoinKeeper$Curve") (T := F_3) (N := 7) hx hb hts i_3 hown hK hP 0 rfl rfl 4 (by decide) (hts _ gw_80) (fun _ h9 => h9) rfl d_Cu_add_356 ?_
  refine lv_aload_n hx hb d_Cu_add_359 rfl (lv_at hl 0 rfl) ?_
  refine va_get (D := D) (ci := 3) (v := .ref a_f) (C := "CoinKeeper$Curve") (T := F_3) (N := 7) hx hb hts i_3 hown hK hP 0 rfl rfl 6 (by decide) (hts _ gw_82) (fun _ h9 => h9) rfl d_Cu_add_360 ?_
  refine lv_aload_n hx hb d_Cu_add_363 rfl (lv_at hl 0 rfl) ?_
  refine va_get (D := D) (ci := 3) (v := .ref a_c) (C := "CoinKeeper$Curve") (T := F_3) (N := 7) hx hb hts i_3 hown hK hP 0 rfl rfl 4 (by decide) (hts _ gw_80) (fun _ h9 => h9) rfl d_Cu_add_364 ?_
  obtain ⟨f2, hc, hf⟩ := bdp1 hf
  refine q_av (wr := [(o, .inr (3, [r_rows, v_a_limbs, .ref a_a, .ref a_b, .ref a_c, .ref a_d, .ref a_f])), (a_a, .inl (cy 2, 10, .inr (.inl u0))), (a_b, .inl (cy 2, 10, .inr (.inl u1))), (a_d, .inl (cy 2, 10, .inr (.inl u3))), (o1, .inr (7, [.ref a1_x, .ref a1_y, .ref a1_z, .int u5, .int u6])), (a1_x, .inl (cy 2, 10, .inr (.inl u7))), (a1_y, .inl (cy 2, 10, .inr (.inl u8))), (a1_z, .inl (cy 2, 10, .inr (.inl u9))), (o2, .inr (7, [.ref a2_x, .ref a2_y, .ref a2_z, .int i2_isNone, .int i2_isPlain])), (a2_x, .inl (cy 2, 10, .inr (.inl g2_x))), (a2_y, .inl (cy 2, 10, .inr (.inl g2_y))), (a2_z, .inl (cy 2, 10, .inr (.inl g2_z)))]) (va_runS (As := [.ref a_c, .ref a_f, .ref a_c]) (rest := []) ⟨hx, hb, hml, hown, hts⟩ (c_Cu_multiply_e20 l D cy ad fu a_c a_f f1 u2 _ hc H.size) ⟨q_cB hts gw_1078 gw_4 gw_1076 hdc_18 ⟨by decide, by decide⟩, hts _ gw_1077⟩ (q_pre (hP.sub [12, 13] rfl) (hD.sub [12, 13] (by decide) rfl) hK hSt hS (va_free hD hS hA [12, 13] rfl) _) rfl rfl hl.1 rfl (lv_room (Nat.le_of_ble_eq_true rfl)) d_Cu_add_367 ⟨Nat.le_of_ble_eq_true rfl, Nat.le_of_ble_eq_true rfl⟩) hP hD hS hA [12, 13] [0, 1, 2, 3, 4, 5, 6, 7, 8, 9, 10, 11] rfl rfl (by decide) (by decide) (fun H locs hP hD hS => ?_)
  clear hc
  have hP : va_P D classes [(o, .inr (3, [r_rows, v_a_limbs, .ref a_a, .ref a_b, .ref a_c, .ref a_d, .ref a_f])), (a_a, .inl (cy 2, 10, .inr (.inl u0))), (a_b, .inl (cy 2, 10, .inr (.inl u1))), (a_d, .inl (cy 2, 10, .inr (.inl u3))), (o1, .inr (7, [.ref a1_x, .ref a1_y, .ref a1_z, .int u5, .int u6])), (a1_x, .inl (cy 2, 10, .inr (.inl u7))), (a1_y, .inl (cy 2, 10, .inr (.inl u8))), (a1_z, .inl (cy 2, 10, .inr (.inl u9))), (o2, .inr (7, [.ref a2_x, .ref a2_y, .ref a2_z, .int i2_isNone, .int i2_isPlain])), (a2_x, .inl (cy 2, 10, .inr (.inl g2_x))), (a2_y, .inl (cy 2, 10, .inr (.inl g2_y))), (a2_z, .inl (cy 2, 10, .inr (.inl g2_z))), (a_c, .inl (cy 2, 10, .inr (.inl f2))), (a_f, .inl (cy 2, 10, .inr (.inl f1)))] H := hP
  have hD : va_D A [(o, .inr (3, [r_rows, v_a_limbs, .ref a_a, .ref a_b, .ref a_c, .ref a_d, .ref a_f])), (a_a, .inl (cy 2, 10, .inr (.inl u0))), (a_b, .inl (cy 2, 10, .inr (.inl u1))), (a_d, .inl (cy 2, 10, .inr (.inl u3))), (o1, .inr (7, [.ref a1_x, .ref a1_y, .ref a1_z, .int u5, .int u6])), (a1_x, .inl (cy 2, 10, .inr (.inl u7))), (a1_y, .inl (cy 2, 10, .inr (.inl u8))), (a1_z, .inl (cy 2, 10, .inr (.inl u9))), (o2, .inr (7, [.ref a2_x, .ref a2_y, .ref a2_z, .int i2_isNone, .int i2_isPlain])), (a2_x, .inl (cy 2, 10, .inr (.inl g2_x))), (a2_y, .inl (cy 2, 10, .inr (.inl g2_y))), (a2_z, .inl (cy 2, 10, .inr (.inl g2_z))), (a_c, .inl (cy 2, 10, .inr (.inl f2))), (a_f, .inl (cy 2, 10, .inr (.inl f1)))] := hD
  refine lv_aload_n hx hb d_Cu_add_370 rfl (lv_at hl 0 rfl) ?_
  refine va_get (D := D) (ci := 3) (v := .ref a_a) (C := "CoinKeeper$Curve") (T := F_3) (N := 7) hx hb hts i_3 hown hK hP 0 rfl rfl 2 (by decide) (hts _ gw_78) (fun _ h9 => h9) rfl d_Cu_add_371 ?_
  refine lv_aload_n hx hb d_Cu_add_374 rfl (lv_at hl 0 rfl) ?_
  refine va_get (D := D) (ci := 3) (v := .ref a_f) (C := "CoinKeeper$Curve") (T := F_3) (N := 7) hx hb hts i_3 hown hK hP 0 rfl rfl 6 (by decide) (hts _ gw_82) (fun _ h9 => h9) rfl d_Cu_add_375 ?_
  refine lv_aload_n hx hb d_Cu_add_378 rfl (lv_at hl 0 rfl) ?_
  refine va_get (D := D) (ci := 3) (v := .ref a_a) (C := "CoinKeeper$Curve") (T := F_3) (N := 7) hx hb hts i_3 hown hK hP 0 rfl rfl 2 (by decide) (hts _ gw_78) (fun _ h9 => h9) rfl d_Cu_add_379 ?_
  obtain ⟨f3, hc, hf⟩ := bdp1 hf
  refine q_av (wr := [(o, .inr (3, [r_rows, v_a_limbs, .ref a_a, .ref a_b, .ref a_c, .ref a_d, .ref a_f])), (a_b, .inl (cy 2, 10, .inr (.inl u1))), (a_d, .inl (cy 2, 10, .inr (.inl u3))), (o1, .inr (7, [.ref a1_x, .ref a1_y, .ref a1_z, .int u5, .int u6])), (a1_x, .inl (cy 2, 10, .inr (.inl u7))), (a1_y, .inl (cy 2, 10, .inr (.inl u8))), (a1_z, .inl (cy 2, 10, .inr (.inl u9))), (o2, .inr (7, [.ref a2_x, .ref a2_y, .ref a2_z, .int i2_isNone, .int i2_isPlain])), (a2_x, .inl (cy 2, 10, .inr (.inl g2_x))), (a2_y, .inl (cy 2, 10, .inr (.inl g2_y))), (a2_z, .inl (cy 2, 10, .inr (.inl g2_z))), (a_c, .inl (cy 2, 10, .inr (.inl f2)))]) (va_runS (As := [.ref a_a, .ref a_f, .ref a_a]) (rest := []) ⟨hx, hb, hml, hown, hts⟩ (c_Cu_multiply_e20 l D cy ad fu a_a a_f f1 u0 _ hc H.size) ⟨q_cB hts gw_1078 gw_4 gw_1076 hdc_18 ⟨by decide, by decide⟩, hts _ gw_1077⟩ (q_pre (hP.sub [1, 13] rfl) (hD.sub [1, 13] (by decide) rfl) hK hSt hS (va_free hD hS hA [1, 13] rfl) _) rfl rfl hl.1 rfl (lv_room (Nat.le_of_ble_eq_true rfl)) d_Cu_add_382 ⟨Nat.le_of_ble_eq_true rfl, Nat.le_of_ble_eq_true rfl⟩) hP hD hS hA [1, 13] [0, 2, 3, 4, 5, 6, 7, 8, 9, 10, 11, 12] rfl rfl (by decide) (by decide) (fun H locs hP hD hS => ?_)
  clear hc
  have hP : va_P D classes [(o, .inr (3, [r_rows, v_a_limbs, .ref a_a, .ref a_b, .ref a_c, .ref a_d, .ref a_f])), (a_b, .inl (cy 2, 10, .inr (.inl u1))), (a_d, .inl (cy 2, 10, .inr (.inl u3))), (o1, .inr (7, [.ref a1_x, .ref a1_y, .ref a1_z, .int u5, .int u6])), (a1_x, .inl (cy 2, 10, .inr (.inl u7))), (a1_y, .inl (cy 2, 10, .inr (.inl u8))), (a1_z, .inl (cy 2, 10, .inr (.inl u9))), (o2, .inr (7, [.ref a2_x, .ref a2_y, .ref a2_z, .int i2_isNone, .int i2_isPlain])), (a2_x, .inl (cy 2, 10, .inr (.inl g2_x))), (a2_y, .inl (cy 2, 10, .inr (.inl g2_y))), (a2_z, .inl (cy 2, 10, .inr (.inl g2_z))), (a_c, .inl (cy 2, 10, .inr (.inl f2))), (a_a, .inl (cy 2, 10, .inr (.inl f3))), (a_f, .inl (cy 2, 10, .inr (.inl f1)))] H := hP
  have hD : va_D A [(o, .inr (3, [r_rows, v_a_limbs, .ref a_a, .ref a_b, .ref a_c, .ref a_d, .ref a_f])), (a_b, .inl (cy 2, 10, .inr (.inl u1))), (a_d, .inl (cy 2, 10, .inr (.inl u3))), (o1, .inr (7, [.ref a1_x, .ref a1_y, .ref a1_z, .int u5, .int u6])), (a1_x, .inl (cy 2, 10, .inr (.inl u7))), (a1_y, .inl (cy 2, 10, .inr (.inl u8))), (a1_z, .inl (cy 2, 10, .inr (.inl u9))), (o2, .inr (7, [.ref a2_x, .ref a2_y, .ref a2_z, .int i2_isNone, .int i2_isPlain])), (a2_x, .inl (cy 2, 10, .inr (.inl g2_x))), (a2_y, .inl (cy 2, 10, .inr (.inl g2_y))), (a2_z, .inl (cy 2, 10, .inr (.inl g2_z))), (a_c, .inl (cy 2, 10, .inr (.inl f2))), (a_a, .inl (cy 2, 10, .inr (.inl f3))), (a_f, .inl (cy 2, 10, .inr (.inl f1)))] := hD
  refine lv_aload_n hx hb d_Cu_add_385 rfl (lv_at hl 0 rfl) ?_
  refine va_get (D := D) (ci := 3) (v := .ref a_b) (C := "CoinKeeper$Curve") (T := F_3) (N := 7) hx hb hts i_3 hown hK hP 0 rfl rfl 3 (by decide) (hts _ gw_79) (fun _ h9 => h9) rfl d_Cu_add_386 ?_
  refine lv_aload_n hx hb d_Cu_add_389 rfl (lv_at hl 0 rfl) ?_
  refine va_get (D := D) (ci := 3) (v := .ref a_c) (C := "CoinKeeper$Curve") (T := F_3) (N := 7) hx hb hts i_3 hown hK hP 0 rfl rfl 4 (by decide) (hts _ gw_80) (fun _ h9 => h9) rfl d_Cu_add_390 ?_
  refine lv_aload_n hx hb d_Cu_add_393 rfl (lv_at hl 0 rfl) ?_
  refine va_get (D := D) (ci := 3) (v := .ref a_b) (C := "CoinKeeper$Curve") (T := F_3) (N := 7) hx hb hts i_3 hown hK hP 0 rfl rfl 3 (by decide) (hts _ gw_79) (fun _ h9 => h9) rfl d_Cu_add_394 ?_
  obtain ⟨f4, hc, hf⟩ := bdp1 hf
  refine q_av (wr := [(o, .inr (3, [r_rows, v_a_limbs, .ref a_a, .ref a_b, .ref a_c, .ref a_d, .ref a_f])), (a_d, .inl (cy 2, 10, .inr (.inl u3))), (o1, .inr (7, [.ref a1_x, .ref a1_y, .ref a1_z, .int u5, .int u6])), (a1_x, .inl (cy 2, 10, .inr (.inl u7))), (a1_y, .inl (cy 2, 10, .inr (.inl u8))), (a1_z, .inl (cy 2, 10, .inr (.inl u9))), (o2, .inr (7, [.ref a2_x, .ref a2_y, .ref a2_z, .int i2_isNone, .int i2_isPlain])), (a2_x, .inl (cy 2, 10, .inr (.inl g2_x))), (a2_y, .inl (cy 2, 10, .inr (.inl g2_y))), (a2_z, .inl (cy 2, 10, .inr (.inl g2_z))), (a_a, .inl (cy 2, 10, .inr (.inl f3))), (a_f, .inl (cy 2, 10, .inr (.inl f1)))]) (va_runS (As := [.ref a_b, .ref a_c, .ref a_b]) (rest := []) ⟨hx, hb, hml, hown, hts⟩ (c_Cu_multiply_e20 l D cy ad fu a_b a_c f2 u1 _ hc H.size) ⟨q_cB hts gw_1078 gw_4 gw_1076 hdc_18 ⟨by decide, by decide⟩, hts _ gw_1077⟩ (q_pre (hP.sub [1, 11] rfl) (hD.sub [1, 11] (by decide) rfl) hK hSt hS (va_free hD hS hA [1, 11] rfl) _) rfl rfl hl.1 rfl (lv_room (Nat.le_of_ble_eq_true rfl)) d_Cu_add_397 ⟨Nat.le_of_ble_eq_true rfl, Nat.le_of_ble_eq_true rfl⟩) hP hD hS hA [1, 11] [0, 2, 3, 4, 5, 6, 7, 8, 9, 10, 12, 13] rfl rfl (by decide) (by decide) (fun H locs hP hD hS => ?_)
  clear hc
  have hP : va_P D classes [(o, .inr (3, [r_rows, v_a_limbs, .ref a_a, .ref a_b, .ref a_c, .ref a_d, .ref a_f])), (a_d, .inl (cy 2, 10, .inr (.inl u3))), (o1, .inr (7, [.ref a1_x, .ref a1_y, .ref a1_z, .int u5, .int u6])), (a1_x, .inl (cy 2, 10, .inr (.inl u7))), (a1_y, .inl (cy 2, 10, .inr (.inl u8))), (a1_z, .inl (cy 2, 10, .inr (.inl u9))), (o2, .inr (7, [.ref a2_x, .ref a2_y, .ref a2_z, .int i2_isNone, .int i2_isPlain])), (a2_x, .inl (cy 2, 10, .inr (.inl g2_x))), (a2_y, .inl (cy 2, 10, .inr (.inl g2_y))), (a2_z, .inl (cy 2, 10, .inr (.inl g2_z))), (a_a, .inl (cy 2, 10, .inr (.inl f3))), (a_f, .inl (cy 2, 10, .inr (.inl f1))), (a_b, .inl (cy 2, 10, .inr (.inl f4))), (a_c, .inl (cy 2, 10, .inr (.inl f2)))] H := hP
  have hD : va_D A [(o, .inr (3, [r_rows, v_a_limbs, .ref a_a, .ref a_b, .ref a_c, .ref a_d, .ref a_f])), (a_d, .inl (cy 2, 10, .inr (.inl u3))), (o1, .inr (7, [.ref a1_x, .ref a1_y, .ref a1_z, .int u5, .int u6])), (a1_x, .inl (cy 2, 10, .inr (.inl u7))), (a1_y, .inl (cy 2, 10, .inr (.inl u8))), (a1_z, .inl (cy 2, 10, .inr (.inl u9))), (o2, .inr (7, [.ref a2_x, .ref a2_y, .ref a2_z, .int i2_isNone, .int i2_isPlain])), (a2_x, .inl (cy 2, 10, .inr (.inl g2_x))), (a2_y, .inl (cy 2, 10, .inr (.inl g2_y))), (a2_z, .inl (cy 2, 10, .inr (.inl g2_z))), (a_a, .inl (cy 2, 10, .inr (.inl f3))), (a_f, .inl (cy 2, 10, .inr (.inl f1))), (a_b, .inl (cy 2, 10, .inr (.inl f4))), (a_c, .inl (cy 2, 10, .inr (.inl f2)))] := hD
  refine lv_aload_n hx hb d_Cu_add_400 rfl (lv_at hl 0 rfl) ?_
  refine va_get (D := D) (ci := 3) (v := .ref a_d) (C := "CoinKeeper$Curve") (T := F_3) (N := 7) hx hb hts i_3 hown hK hP 0 rfl rfl 5 (by decide) (hts _ gw_81) (fun _ h9 => h9) rfl d_Cu_add_401 ?_
  refine lv_aload_n hx hb d_Cu_add_404 rfl (lv_at hl 0 rfl) ?_
  refine va_get (D := D) (ci := 3) (v := .ref a_d) (C := "CoinKeeper$Curve") (T := F_3) (N := 7) hx hb hts i_3 hown hK hP 0 rfl rfl 5 (by decide) (hts _ gw_81) (fun _ h9 => h9) rfl d_Cu_add_405 ?_
  refine lv_aload_n hx hb d_Cu_add_408 rfl (lv_at hl 0 rfl) ?_
  refine va_get (D := D) (ci := 3) (v := .ref a_f) (C := "CoinKeeper$Curve") (T := F_3) (N := 7) hx hb hts i_3 hown hK hP 0 rfl rfl 6 (by decide) (hts _ gw_82) (fun _ h9 => h9) rfl d_Cu_add_409 ?_
  obtain ⟨f5, hc, hf⟩ := bdp1 hf
  refine q_av (wr := [(o, .inr (3, [r_rows, v_a_limbs, .ref a_a, .ref a_b, .ref a_c, .ref a_d, .ref a_f])), (o1, .inr (7, [.ref a1_x, .ref a1_y, .ref a1_z, .int u5, .int u6])), (a1_x, .inl (cy 2, 10, .inr (.inl u7))), (a1_y, .inl (cy 2, 10, .inr (.inl u8))), (a1_z, .inl (cy 2, 10, .inr (.inl u9))), (o2, .inr (7, [.ref a2_x, .ref a2_y, .ref a2_z, .int i2_isNone, .int i2_isPlain])), (a2_x, .inl (cy 2, 10, .inr (.inl g2_x))), (a2_y, .inl (cy 2, 10, .inr (.inl g2_y))), (a2_z, .inl (cy 2, 10, .inr (.inl g2_z))), (a_a, .inl (cy 2, 10, .inr (.inl f3))), (a_b, .inl (cy 2, 10, .inr (.inl f4))), (a_c, .inl (cy 2, 10, .inr (.inl f2)))]) (va_runS (As := [.ref a_d, .ref a_d, .ref a_f]) (rest := []) ⟨hx, hb, hml, hown, hts⟩ (c_Cu_multiply_e10 l D cy ad fu a_d a_f u3 f1 _ hc H.size) ⟨q_cB hts gw_1078 gw_4 gw_1076 hdc_18 ⟨by decide, by decide⟩, hts _ gw_1077⟩ (q_pre (hP.sub [1, 11] rfl) (hD.sub [1, 11] (by decide) rfl) hK hSt hS (va_free hD hS hA [1, 11] rfl) _) rfl rfl hl.1 rfl (lv_room (Nat.le_of_ble_eq_true rfl)) d_Cu_add_412 ⟨Nat.le_of_ble_eq_true rfl, Nat.le_of_ble_eq_true rfl⟩) hP hD hS hA [1, 11] [0, 2, 3, 4, 5, 6, 7, 8, 9, 10, 12, 13] rfl rfl (by decide) (by decide) (fun H locs hP hD hS => ?_)
  clear hc
  have hP : va_P D classes [(o, .inr (3, [r_rows, v_a_limbs, .ref a_a, .ref a_b, .ref a_c, .ref a_d, .ref a_f])), (o1, .inr (7, [.ref a1_x, .ref a1_y, .ref a1_z, .int u5, .int u6])), (a1_x, .inl (cy 2, 10, .inr (.inl u7))), (a1_y, .inl (cy 2, 10, .inr (.inl u8))), (a1_z, .inl (cy 2, 10, .inr (.inl u9))), (o2, .inr (7, [.ref a2_x, .ref a2_y, .ref a2_z, .int i2_isNone, .int i2_isPlain])), (a2_x, .inl (cy 2, 10, .inr (.inl g2_x))), (a2_y, .inl (cy 2, 10, .inr (.inl g2_y))), (a2_z, .inl (cy 2, 10, .inr (.inl g2_z))), (a_a, .inl (cy 2, 10, .inr (.inl f3))), (a_b, .inl (cy 2, 10, .inr (.inl f4))), (a_c, .inl (cy 2, 10, .inr (.inl f2))), (a_d, .inl (cy 2, 10, .inr (.inl u3))), (a_f, .inl (cy 2, 10, .inr (.inl f5)))] H := hP
  have hD : va_D A [(o, .inr (3, [r_rows, v_a_limbs, .ref a_a, .ref a_b, .ref a_c, .ref a_d, .ref a_f])), (o1, .inr (7, [.ref a1_x, .ref a1_y, .ref a1_z, .int u5, .int u6])), (a1_x, .inl (cy 2, 10, .inr (.inl u7))), (a1_y, .inl (cy 2, 10, .inr (.inl u8))), (a1_z, .inl (cy 2, 10, .inr (.inl u9))), (o2, .inr (7, [.ref a2_x, .ref a2_y, .ref a2_z, .int i2_isNone, .int i2_isPlain])), (a2_x, .inl (cy 2, 10, .inr (.inl g2_x))), (a2_y, .inl (cy 2, 10, .inr (.inl g2_y))), (a2_z, .inl (cy 2, 10, .inr (.inl g2_z))), (a_a, .inl (cy 2, 10, .inr (.inl f3))), (a_b, .inl (cy 2, 10, .inr (.inl f4))), (a_c, .inl (cy 2, 10, .inr (.inl f2))), (a_d, .inl (cy 2, 10, .inr (.inl u3))), (a_f, .inl (cy 2, 10, .inr (.inl f5)))] := hD
  refine lv_iconst (v := 0) hx hb d_Cu_add_415 (by decide) ?_
  refine lv_istore (lv' := [(4, .int (0 : Int32)), (0, .ref o), (1, .ref o1)]) hx hb d_Cu_add_416 hl (by decide) rfl (fun ls hl => ?_)
  exact w_Cu_add_418 F fu _ _ _ _ _ _ _ _ _ _ _ _ hf _ _ _ (hP.sub (ws' := [(o, .inr (3, [r_rows, v_a_limbs, .ref a_a, .ref a_b, .ref a_c, .ref a_d, .ref a_f])), (a_a, .inl (cy 2, 10, .inr (.inl f3))), (a_b, .inl (cy 2, 10, .inr (.inl f4))), (a_c, .inl (cy 2, 10, .inr (.inl f2))), (a_d, .inl (cy 2, 10, .inr (.inl u3))), (a_f, .inl (cy 2, 10, .inr (.inl f5))), (o1, .inr (7, [.ref a1_x, .ref a1_y, .ref a1_z, .int u5, .int u6])), (a1_x, .inl (cy 2, 10, .inr (.inl u7))), (a1_y, .inl (cy 2, 10, .inr (.inl u8))), (a1_z, .inl (cy 2, 10, .inr (.inl u9))), (o2, .inr (7, [.ref a2_x, .ref a2_y, .ref a2_z, .int i2_isNone, .int i2_isPlain])), (a2_x, .inl (cy 2, 10, .inr (.inl g2_x))), (a2_y, .inl (cy 2, 10, .inr (.inl g2_y))), (a2_z, .inl (cy 2, 10, .inr (.inl g2_z)))]) [0, 9, 10, 11, 12, 13, 1, 2, 3, 4, 5, 6, 7, 8] rfl) (hD.sub (ws' := [(o, .inr (3, [r_rows, v_a_limbs, .ref a_a, .ref a_b, .ref a_c, .ref a_d, .ref a_f])), (a_a, .inl (cy 2, 10, .inr (.inl f3))), (a_b, .inl (cy 2, 10, .inr (.inl f4))), (a_c, .inl (cy 2, 10, .inr (.inl f2))), (a_d, .inl (cy 2, 10, .inr (.inl u3))), (a_f, .inl (cy 2, 10, .inr (.inl f5))), (o1, .inr (7, [.ref a1_x, .ref a1_y, .ref a1_z, .int u5, .int u6])), (a1_x, .inl (cy 2, 10, .inr (.inl u7))), (a1_y, .inl (cy 2, 10, .inr (.inl u8))), (a1_z, .inl (cy 2, 10, .inr (.inl u9))), (o2, .inr (7, [.ref a2_x, .ref a2_y, .ref a2_z, .int i2_isNone, .int i2_isPlain])), (a2_x, .inl (cy 2, 10, .inr (.inl g2_x))), (a2_y, .inl (cy 2, 10, .inr (.inl g2_y))), (a2_z, .inl (cy 2, 10, .inr (.inl g2_z)))]) [0, 9, 10, 11, 12, 13, 1, 2, 3, 4, 5, 6, 7, 8] (by decide) rfl) hS (lv_sub hl [1, 2, 0] rfl)
set_option maxHeartbeats 8000000 in
set_option maxRecDepth 100000 in
theorem wb_Cu_add_295 {p : Program} {l : Launch} {e : Env} {s : State} {m : MethodId} {args : Array Value} {below : List Frame} {meth : Method} {c : Code} {D : va_G} {cy : Nat → ClassId} {A : Nat → Prop} {ad : Nat → Nat} {o : Nat} {r_rows : Value} {v_a_limbs : Value} {a_a : Nat} {a_b : Nat} {a_c : Nat} {a_d : Nat} {a_f : Nat} {o1 : Nat} {a1_x : Nat} {a1_y : Nat} {a1_z : Nat} {o2 : Nat} {a2_x : Nat} {a2_y : Nat} {a2_z : Nat} {i2_isNone : Int32} {i2_isPlain : Int32} {g2_x : Nat → Int64} {g2_y : Nat → Int64} {g2_z : Nat → Int64} {fu : Nat} (F : Fx p s m args meth c b_Cu_add 5 "CoinKeeper$Curve" "add" (some .boolean) D cy ad A) : I_Cu_add_295 p l e s m args below meth c D cy A ad o r_rows v_a_limbs a_a a_b a_c a_d a_f o1 a1_x a1_y a1_z o2 a2_x a2_y a2_z i2_isNone i2_isPlain g2_x g2_y g2_z (xb_Cu_add_295 fu i2_isNone i2_isPlain g2_x g2_y g2_z) := by
  obtain ⟨hx, hb, hr, hml, hown, hts, hlocks, hK, hA, hSt, hnm, hex⟩ := id F
  intro y0 u0 u1 u2 u3 u4 u5 u6 u7 u8 u9 res hf H locs ls hP hD hS hl
  unfold xb_Cu_add_295 at hf
  obtain ⟨hg, hf⟩ := gdp hf
  refine va_put (D := D) (ci := 7) (v := .int y0) (ty := .boolean) (C := "CoinKeeper$Point") (T := F_7) (N := 5) hx hb hts i_7 t_7 t_7_ok n_7 hown hK hP hD hS 6 rfl rfl 3 (by decide) (hts _ gw_114) (fun _ h9 => h9) rfl (by decide +kernel) (isb_n hg) (isb_f hg) (Nat.le_of_ble_eq_true rfl) d_Cu_add_295 (fun H locs hP hD hS => ?_)
  have hP : va_P D classes [(o, .inr (3, [r_rows, v_a_limbs, .ref a_a, .ref a_b, .ref a_c, .ref a_d, .ref a_f])), (a_a, .inl (cy 2, 10, .inr (.inl u0))), (a_b, .inl (cy 2, 10, .inr (.inl u1))), (a_c, .inl (cy 2, 10, .inr (.inl u2))), (a_d, .inl (cy 2, 10, .inr (.inl u3))), (a_f, .inl (cy 2, 10, .inr (.inl u4))), (o1, .inr (7, [.ref a1_x, .ref a1_y, .ref a1_z, .int y0, .int u6])), (a1_x, .inl (cy 2, 10, .inr (.inl u7))), (a1_y, .inl (cy 2, 10, .inr (.inl u8))), (a1_z, .inl (cy 2, 10, .inr (.inl u9))), (o2, .inr (7, [.ref a2_x, .ref a2_y, .ref a2_z, .int i2_isNone, .int i2_isPlain])), (a2_x, .inl (cy 2, 10, .inr (.inl g2_x))), (a2_y, .inl (cy 2, 10, .inr (.inl g2_y))), (a2_z, .inl (cy 2, 10, .inr (.inl g2_z)))] H := hP
  have hD : va_D A [(o, .inr (3, [r_rows, v_a_limbs, .ref a_a, .ref a_b, .ref a_c, .ref a_d, .ref a_f])), (a_a, .inl (cy 2, 10, .inr (.inl u0))), (a_b, .inl (cy 2, 10, .inr (.inl u1))), (a_c, .inl (cy 2, 10, .inr (.inl u2))), (a_d, .inl (cy 2, 10, .inr (.inl u3))), (a_f, .inl (cy 2, 10, .inr (.inl u4))), (o1, .inr (7, [.ref a1_x, .ref a1_y, .ref a1_z, .int y0, .int u6])), (a1_x, .inl (cy 2, 10, .inr (.inl u7))), (a1_y, .inl (cy 2, 10, .inr (.inl u8))), (a1_z, .inl (cy 2, 10, .inr (.inl u9))), (o2, .inr (7, [.ref a2_x, .ref a2_y, .ref a2_z, .int i2_isNone, .int i2_isPlain])), (a2_x, .inl (cy 2, 10, .inr (.inl g2_x))), (a2_y, .inl (cy 2, 10, .inr (.inl g2_y))), (a2_z, .inl (cy 2, 10, .inr (.inl g2_z)))] := hD
  refine lv_aload_n hx hb d_Cu_add_298 rfl (lv_at hl 0 rfl) ?_
  refine va_get (D := D) (ci := 7) (v := .int y0) (C := "CoinKeeper$Point") (T := F_7) (N := 5) hx hb hts i_7 hown hK hP 6 rfl rfl 3 (by decide) (hts _ gw_114) (fun _ h9 => h9) rfl d_Cu_add_299 ?_
  obtain ⟨hg, hf⟩ := gdp hf
  obtain rfl := Option.some.inj hf
  exact q_rz hx hb hr hlocks hK hP hD hS (isb_n hg) d_Cu_add_302
set_option maxHeartbeats 8000000 in
set_option maxRecDepth 100000 in
theorem wb_Cu_add_240 {p : Program} {l : Launch} {e : Env} {s : State} {m : MethodId} {args : Array Value} {below : List Frame} {meth : Method} {c : Code} {D : va_G} {cy : Nat → ClassId} {A : Nat → Prop} {ad : Nat → Nat} {o : Nat} {r_rows : Value} {v_a_limbs : Value} {a_a : Nat} {a_b : Nat} {a_c : Nat} {a_d : Nat} {a_f : Nat} {o1 : Nat} {a1_x : Nat} {a1_y : Nat} {a1_z : Nat} {o2 : Nat} {a2_x : Nat} {a2_y : Nat} {a2_z : Nat} {i2_isNone : Int32} {i2_isPlain : Int32} {g2_x : Nat → Int64} {g2_y : Nat → Int64} {g2_z : Nat → Int64} {fu : Nat} {k_188 : Int32 → Int32 → (Nat → Int64) → (Nat → Int64) → (Nat → Int64) → (Nat → Int64) → (Nat → Int64) → Int32 → Int32 → (Nat → Int64) → (Nat → Int64) → (Nat → Int64) → Option (Int32 × (Nat → Int64) × (Nat → Int64) × (Nat → Int64) × (Nat → Int64) × (Nat → Int64) × Int32 × Int32 × (Nat → Int64) × (Nat → Int64) × (Nat → Int64))} (F : Fx p s m args meth c b_Cu_add 5 "CoinKeeper$Curve" "add" (some .boolean) D cy ad A) (hk_188 : I_Cu_add_188 p l e s m args below meth c D cy A ad o r_rows v_a_limbs a_a a_b a_c a_d a_f o1 a1_x a1_y a1_z o2 a2_x a2_y a2_z i2_isNone i2_isPlain g2_x g2_y g2_z k_188) : I_Cu_add_240 p l e s m args below meth c D cy A ad o r_rows v_a_limbs a_a a_b a_c a_d a_f o1 a1_x a1_y a1_z o2 a2_x a2_y a2_z i2_isNone i2_isPlain g2_x g2_y g2_z (xb_Cu_add_240 fu i2_isNone i2_isPlain g2_x g2_y g2_z k_188) := by
  obtain ⟨hx, hb, hr, hml, hown, hts, hlocks, hK, hA, hSt, hnm, hex⟩ := id F
  intro x3 x4 y0 y1 u0 u1 u2 u3 u4 u5 u6 u7 u8 u9 res hf H locs ls hP hD hS hl
  unfold xb_Cu_add_240 at hf
  refine lv_aload_n hx hb d_Cu_add_240 rfl (lv_at hl 0 rfl) ?_
  refine va_get (D := D) (ci := 3) (v := .ref a_b) (C := "CoinKeeper$Curve") (T := F_3) (N := 7) hx hb hts i_3 hown hK hP 0 rfl rfl 3 (by decide) (hts _ gw_79) (fun _ h9 => h9) rfl d_Cu_add_241 ?_
  refine lv_iload hx hb d_Cu_add_244 (lv_at hl 4 rfl) ?_
  obtain ⟨hg, hf⟩ := gdp hf
  refine va_lald hx hb hK hP 2 2 rfl rfl (inb_in hg) d_Cu_add_246 ?_
  refine lv_topl (fun v1 ev => ?_)
  have hf := bn ev hf
  clear ev
  refine lv_lsub hx hb d_Cu_add_247 ?_
  refine lv_topl (fun v2 ev => ?_)
  have hf := bn ev hf
  clear ev
  obtain ⟨hg, hf⟩ := gdp hf
  refine va_last hx hb hK hP hD hS 4 2 rfl rfl (inb_in hg) d_Cu_add_248 (fun H locs hP hD hS => ?_)
  obtain ⟨f3, ev, hf⟩ := bne hf
  have hP : va_P D classes [(o, .inr (3, [r_rows, v_a_limbs, .ref a_a, .ref a_b, .ref a_c, .ref a_d, .ref a_f])), (a_a, .inl (cy 2, 10, .inr (.inl u0))), (a_b, .inl (cy 2, 10, .inr (.inl u1))), (a_c, .inl (cy 2, 10, .inr (.inl u2))), (a_d, .inl (cy 2, 10, .inr (.inl f3))), (a_f, .inl (cy 2, 10, .inr (.inl u4))), (o1, .inr (7, [.ref a1_x, .ref a1_y, .ref a1_z, .int u5, .int u6])), (a1_x, .inl (cy 2, 10, .inr (.inl u7))), (a1_y, .inl (cy 2, 10, .inr (.inl u8))), (a1_z, .inl (cy 2, 10, .inr (.inl u9))), (o2, .inr (7, [.ref a2_x, .ref a2_y, .ref a2_z, .int i2_isNone, .int i2_isPlain])), (a2_x, .inl (cy 2, 10, .inr (.inl g2_x))), (a2_y, .inl (cy 2, 10, .inr (.inl g2_y))), (a2_z, .inl (cy 2, 10, .inr (.inl g2_z)))] H := by rw [ev]; exact hP
  have hD : va_D A [(o, .inr (3, [r_rows, v_a_limbs, .ref a_a, .ref a_b, .ref a_c, .ref a_d, .ref a_f])), (a_a, .inl (cy 2, 10, .inr (.inl u0))), (a_b, .inl (cy 2, 10, .inr (.inl u1))), (a_c, .inl (cy 2, 10, .inr (.inl u2))), (a_d, .inl (cy 2, 10, .inr (.inl f3))), (a_f, .inl (cy 2, 10, .inr (.inl u4))), (o1, .inr (7, [.ref a1_x, .ref a1_y, .ref a1_z, .int u5, .int u6])), (a1_x, .inl (cy 2, 10, .inr (.inl u7))), (a1_y, .inl (cy 2, 10, .inr (.inl u8))), (a1_z, .inl (cy 2, 10, .inr (.inl u9))), (o2, .inr (7, [.ref a2_x, .ref a2_y, .ref a2_z, .int i2_isNone, .int i2_isPlain])), (a2_x, .inl (cy 2, 10, .inr (.inl g2_x))), (a2_y, .inl (cy 2, 10, .inr (.inl g2_y))), (a2_z, .inl (cy 2, 10, .inr (.inl g2_z)))] := by rw [ev]; exact hD
  clear ev
  obtain ⟨v4, ev, hf⟩ := bne hf
  refine lv_iinc (v := v4) (lv' := [(4, .int v4), (0, .ref o), (1, .ref o1), (2, .ref o2), (3, .int x3)]) hx hb d_Cu_add_249 hl (k := 4) rfl (by rw [ev]; rfl) (by decide) rfl (fun ls hl => ?_)
  clear ev
  refine lv_goto (tgt := 188) hx hb d_Cu_add_252 (by decide) ?_
  exact hk_188 _ _ _ _ _ _ _ _ _ _ _ _ _ hf _ _ _ hP hD hS (lv_sub hl [1, 2, 3, 4, 0] rfl)
set_option maxHeartbeats 8000000 in
set_option maxRecDepth 100000 in
theorem wb_Cu_add_188 {p : Program} {l : Launch} {e : Env} {s : State} {m : MethodId} {args : Array Value} {below : List Frame} {meth : Method} {c : Code} {D : va_G} {cy : Nat → ClassId} {A : Nat → Prop} {ad : Nat → Nat} {o : Nat} {r_rows : Value} {v_a_limbs : Value} {a_a : Nat} {a_b : Nat} {a_c : Nat} {a_d : Nat} {a_f : Nat} {o1 : Nat} {a1_x : Nat} {a1_y : Nat} {a1_z : Nat} {o2 : Nat} {a2_x : Nat} {a2_y : Nat} {a2_z : Nat} {i2_isNone : Int32} {i2_isPlain : Int32} {g2_x : Nat → Int64} {g2_y : Nat → Int64} {g2_z : Nat → Int64} {fu : Nat} {k_188 : Int32 → Int32 → (Nat → Int64) → (Nat → Int64) → (Nat → Int64) → (Nat → Int64) → (Nat → Int64) → Int32 → Int32 → (Nat → Int64) → (Nat → Int64) → (Nat → Int64) → Option (Int32 × (Nat → Int64) × (Nat → Int64) × (Nat → Int64) × (Nat → Int64) × (Nat → Int64) × Int32 × Int32 × (Nat → Int64) × (Nat → Int64) × (Nat → Int64))} (F : Fx p s m args meth c b_Cu_add 5 "CoinKeeper$Curve" "add" (some .boolean) D cy ad A) (hk_188 : I_Cu_add_188 p l e s m args below meth c D cy A ad o r_rows v_a_limbs a_a a_b a_c a_d a_f o1 a1_x a1_y a1_z o2 a2_x a2_y a2_z i2_isNone i2_isPlain g2_x g2_y g2_z k_188) : I_Cu_add_188 p l e s m args below meth c D cy A ad o r_rows v_a_limbs a_a a_b a_c a_d a_f o1 a1_x a1_y a1_z o2 a2_x a2_y a2_z i2_isNone i2_isPlain g2_x g2_y g2_z (xb_Cu_add_188 fu i2_isNone i2_isPlain g2_x g2_y g2_z k_188) := by
  obtain ⟨hx, hb, hr, hml, hown, hts, hlocks, hK, hA, hSt, hnm, hex⟩ := id F
  intro x3 x4 u0 u1 u2 u3 u4 u5 u6 u7 u8 u9 res hf H locs ls hP hD hS hl
  unfold xb_Cu_add_188 at hf
  refine lv_iload hx hb d_Cu_add_188 (lv_at hl 4 rfl) ?_
  refine lv_bipush (v := 10) hx hb d_Cu_add_190 (by decide) ?_
  refine lv_icmp_ge (tgt := 255) hx hb d_Cu_add_192 (by decide) (fun cx => ?_) (fun cx => ?_)
  · have hf := ifp cx hf
    refine lv_aload_n hx hb d_Cu_add_255 rfl (lv_at hl 0 rfl) ?_
    refine va_get (D := D) (ci := 3) (v := .ref a_c) (C := "CoinKeeper$Curve") (T := F_3) (N := 7) hx hb hts i_3 hown hK hP 0 rfl rfl 4 (by decide) (hts _ gw_80) (fun _ h9 => h9) rfl d_Cu_add_256 ?_
    obtain ⟨f1, hc, hf⟩ := bdp1 hf
    refine q_av (wr := [(o, .inr (3, [r_rows, v_a_limbs, .ref a_a, .ref a_b, .ref a_c, .ref a_d, .ref a_f])), (a_a, .inl (cy 2, 10, .inr (.inl u0))), (a_b, .inl (cy 2, 10, .inr (.inl u1))), (a_d, .inl (cy 2, 10, .inr (.inl u3))), (a_f, .inl (cy 2, 10, .inr (.inl u4))), (o1, .inr (7, [.ref a1_x, .ref a1_y, .ref a1_z, .int u5, .int u6])), (a1_x, .inl (cy 2, 10, .inr (.inl u7))), (a1_y, .inl (cy 2, 10, .inr (.inl u8))), (a1_z, .inl (cy 2, 10, .inr (.inl u9))), (o2, .inr (7, [.ref a2_x, .ref a2_y, .ref a2_z, .int i2_isNone, .int i2_isPlain])), (a2_x, .inl (cy 2, 10, .inr (.inl g2_x))), (a2_y, .inl (cy 2, 10, .inr (.inl g2_y))), (a2_z, .inl (cy 2, 10, .inr (.inl g2_z)))]) (va_runS (As := [.ref a_c]) (rest := []) ⟨hx, hb, hml, hown, hts⟩ (c_Cu_settle l D cy ad fu a_c u2 _ hc H.size) ⟨q_cB hts gw_1095 gw_4 gw_1093 hdc_16 ⟨by decide, by decide⟩, hts _ gw_1094⟩ (q_pre (hP.sub [3] rfl) (hD.sub [3] (by decide) rfl) hK hSt hS (va_free hD hS hA [3] rfl) _) rfl rfl hl.1 rfl (lv_room (Nat.le_of_ble_eq_true rfl)) d_Cu_add_259 ⟨Nat.le_of_ble_eq_true rfl, Nat.le_of_ble_eq_true rfl⟩) hP hD hS hA [3] [0, 1, 2, 4, 5, 6, 7, 8, 9, 10, 11, 12, 13] rfl rfl (by decide) (by decide) (fun H locs hP hD hS => ?_)
    clear hc
    have hP : va_P D classes [(o, .inr (3, [r_rows, v_a_limbs, .ref a_a, .ref a_b, .ref a_c, .ref a_d, .ref a_f])), (a_a, .inl (cy 2, 10, .inr (.inl u0))), (a_b, .inl (cy 2, 10, .inr (.inl u1))), (a_d, .inl (cy 2, 10, .inr (.inl u3))), (a_f, .inl (cy 2, 10, .inr (.inl u4))), (o1, .inr (7, [.ref a1_x, .ref a1_y, .ref a1_z, .int u5, .int u6])), (a1_x, .inl (cy 2, 10, .inr (.inl u7))), (a1_y, .inl (cy 2, 10, .inr (.inl u8))), (a1_z, .inl (cy 2, 10, .inr (.inl u9))), (o2, .inr (7, [.ref a2_x, .ref a2_y, .ref a2_z, .int i2_isNone, .int i2_isPlain])), (a2_x, .inl (cy 2, 10, .inr (.inl g2_x))), (a2_y, .inl (cy 2, 10, .inr (.inl g2_y))), (a2_z, .inl (cy 2, 10, .inr (.inl g2_z))), (a_c, .inl (cy 2, 10, .inr (.inl f1)))] H := hP
    have hD : va_D A [(o, .inr (3, [r_rows, v_a_limbs, .ref a_a, .ref a_b, .ref a_c, .ref a_d, .ref a_f])), (a_a, .inl (cy 2, 10, .inr (.inl u0))), (a_b, .inl (cy 2, 10, .inr (.inl u1))), (a_d, .inl (cy 2, 10, .inr (.inl u3))), (a_f, .inl (cy 2, 10, .inr (.inl u4))), (o1, .inr (7, [.ref a1_x, .ref a1_y, .ref a1_z, .int u5, .int u6])), (a1_x, .inl (cy 2, 10, .inr (.inl u7))), (a1_y, .inl (cy 2, 10, .inr (.inl u8))), (a1_z, .inl (cy 2, 10, .inr (.inl u9))), (o2, .inr (7, [.ref a2_x, .ref a2_y, .ref a2_z, .int i2_isNone, .int i2_isPlain])), (a2_x, .inl (cy 2, 10, .inr (.inl g2_x))), (a2_y, .inl (cy 2, 10, .inr (.inl g2_y))), (a2_z, .inl (cy 2, 10, .inr (.inl g2_z))), (a_c, .inl (cy 2, 10, .inr (.inl f1)))] := hD
    refine lv_aload_n hx hb d_Cu_add_262 rfl (lv_at hl 0 rfl) ?_
    refine va_get (D := D) (ci := 3) (v := .ref a_c) (C := "CoinKeeper$Curve") (T := F_3) (N := 7) hx hb hts i_3 hown hK hP 0 rfl rfl 4 (by decide) (hts _ gw_80) (fun _ h9 => h9) rfl d_Cu_add_263 ?_
    obtain ⟨v2, hc, hf⟩ := bdp1 hf
    refine q_ai (wr := [(o, .inr (3, [r_rows, v_a_limbs, .ref a_a, .ref a_b, .ref a_c, .ref a_d, .ref a_f])), (a_a, .inl (cy 2, 10, .inr (.inl u0))), (a_b, .inl (cy 2, 10, .inr (.inl u1))), (a_d, .inl (cy 2, 10, .inr (.inl u3))), (a_f, .inl (cy 2, 10, .inr (.inl u4))), (o1, .inr (7, [.ref a1_x, .ref a1_y, .ref a1_z, .int u5, .int u6])), (a1_x, .inl (cy 2, 10, .inr (.inl u7))), (a1_y, .inl (cy 2, 10, .inr (.inl u8))), (a1_z, .inl (cy 2, 10, .inr (.inl u9))), (o2, .inr (7, [.ref a2_x, .ref a2_y, .ref a2_z, .int i2_isNone, .int i2_isPlain])), (a2_x, .inl (cy 2, 10, .inr (.inl g2_x))), (a2_y, .inl (cy 2, 10, .inr (.inl g2_y))), (a2_z, .inl (cy 2, 10, .inr (.inl g2_z)))]) (va_runS (As := [.ref a_c]) (rest := []) ⟨hx, hb, hml, hown, hts⟩ (c_Cu_hasNoBit l D cy ad fu a_c f1 _ hc H.size) ⟨q_cB hts gw_1103 gw_4 gw_1101 hdc_17 ⟨by decide, by decide⟩, hts _ gw_1102⟩ (q_pre (hP.sub [13] rfl) (hD.sub [13] (by decide) rfl) hK hSt hS (va_free hD hS hA [13] rfl) _) rfl rfl hl.1 rfl (lv_room (Nat.le_of_ble_eq_true rfl)) d_Cu_add_266 ⟨Nat.le_of_ble_eq_true rfl, Nat.le_of_ble_eq_true rfl⟩) hP hD hS hA [13] [0, 1, 2, 3, 4, 5, 6, 7, 8, 9, 10, 11, 12] rfl rfl (by decide) (by decide) (fun H locs hP hD hS => ?_)
    clear hc
    have hP : va_P D classes [(o, .inr (3, [r_rows, v_a_limbs, .ref a_a, .ref a_b, .ref a_c, .ref a_d, .ref a_f])), (a_a, .inl (cy 2, 10, .inr (.inl u0))), (a_b, .inl (cy 2, 10, .inr (.inl u1))), (a_d, .inl (cy 2, 10, .inr (.inl u3))), (a_f, .inl (cy 2, 10, .inr (.inl u4))), (o1, .inr (7, [.ref a1_x, .ref a1_y, .ref a1_z, .int u5, .int u6])), (a1_x, .inl (cy 2, 10, .inr (.inl u7))), (a1_y, .inl (cy 2, 10, .inr (.inl u8))), (a1_z, .inl (cy 2, 10, .inr (.inl u9))), (o2, .inr (7, [.ref a2_x, .ref a2_y, .ref a2_z, .int i2_isNone, .int i2_isPlain])), (a2_x, .inl (cy 2, 10, .inr (.inl g2_x))), (a2_y, .inl (cy 2, 10, .inr (.inl g2_y))), (a2_z, .inl (cy 2, 10, .inr (.inl g2_z))), (a_c, .inl (cy 2, 10, .inr (.inl f1)))] H := hP
    have hD : va_D A [(o, .inr (3, [r_rows, v_a_limbs, .ref a_a, .ref a_b, .ref a_c, .ref a_d, .ref a_f])), (a_a, .inl (cy 2, 10, .inr (.inl u0))), (a_b, .inl (cy 2, 10, .inr (.inl u1))), (a_d, .inl (cy 2, 10, .inr (.inl u3))), (a_f, .inl (cy 2, 10, .inr (.inl u4))), (o1, .inr (7, [.ref a1_x, .ref a1_y, .ref a1_z, .int u5, .int u6])), (a1_x, .inl (cy 2, 10, .inr (.inl u7))), (a1_y, .inl (cy 2, 10, .inr (.inl u8))), (a1_z, .inl (cy 2, 10, .inr (.inl u9))), (o2, .inr (7, [.ref a2_x, .ref a2_y, .ref a2_z, .int i2_isNone, .int i2_isPlain])), (a2_x, .inl (cy 2, 10, .inr (.inl g2_x))), (a2_y, .inl (cy 2, 10, .inr (.inl g2_y))), (a2_z, .inl (cy 2, 10, .inr (.inl g2_z))), (a_c, .inl (cy 2, 10, .inr (.inl f1)))] := hD
    refine lv_if_eq (tgt := 303) hx hb d_Cu_add_269 (by decide) (fun cx => ?_) (fun cx => ?_)
    · have hf := ifp cx hf
      refine lv_aload_n hx hb d_Cu_add_303 rfl (lv_at hl 1 rfl) ?_
      refine va_get (D := D) (ci := 7) (v := .ref a1_z) (C := "CoinKeeper$Point") (T := F_7) (N := 5) hx hb hts i_7 hown hK hP 5 rfl rfl 2 (by decide) (hts _ gw_112) (fun _ h9 => h9) rfl d_Cu_add_304 ?_
      refine lv_aload_n hx hb d_Cu_add_307 rfl (lv_at hl 0 rfl) ?_
      refine va_get (D := D) (ci := 3) (v := .ref a_c) (C := "CoinKeeper$Curve") (T := F_3) (N := 7) hx hb hts i_3 hown hK hP 0 rfl rfl 4 (by decide) (hts _ gw_80) (fun _ h9 => h9) rfl d_Cu_add_308 ?_
      refine lv_aload_n hx hb d_Cu_add_311 rfl (lv_at hl 1 rfl) ?_
      refine va_get (D := D) (ci := 7) (v := .ref a1_z) (C := "CoinKeeper$Point") (T := F_7) (N := 5) hx hb hts i_7 hown hK hP 5 rfl rfl 2 (by decide) (hts _ gw_112) (fun _ h9 => h9) rfl d_Cu_add_312 ?_
      obtain ⟨f3, hc, hf⟩ := bdp1 hf
      refine q_av (wr := [(o, .inr (3, [r_rows, v_a_limbs, .ref a_a, .ref a_b, .ref a_c, .ref a_d, .ref a_f])), (a_a, .inl (cy 2, 10, .inr (.inl u0))), (a_b, .inl (cy 2, 10, .inr (.inl u1))), (a_d, .inl (cy 2, 10, .inr (.inl u3))), (a_f, .inl (cy 2, 10, .inr (.inl u4))), (o1, .inr (7, [.ref a1_x, .ref a1_y, .ref a1_z, .int u5, .int u6])), (a1_x, .inl (cy 2, 10, .inr (.inl u7))), (a1_y, .inl (cy 2, 10, .inr (.inl u8))), (o2, .inr (7, [.ref a2_x, .ref a2_y, .ref a2_z, .int i2_isNone, .int i2_isPlain])), (a2_x, .inl (cy 2, 10, .inr (.inl g2_x))), (a2_y, .inl (cy 2, 10, .inr (.inl g2_y))), (a2_z, .inl (cy 2, 10, .inr (.inl g2_z)))]) (va_runS (As := [.ref a1_z, .ref a_c, .ref a1_z]) (rest := []) ⟨hx, hb, hml, hown, hts⟩ (c_Cu_multiply_e20 l D cy ad fu a1_z a_c f1 u9 _ hc H.size) ⟨q_cB hts gw_1078 gw_4 gw_1076 hdc_18 ⟨by decide, by decide⟩, hts _ gw_1077⟩ (q_pre (hP.sub [8, 13] rfl) (hD.sub [8, 13] (by decide) rfl) hK hSt hS (va_free hD hS hA [8, 13] rfl) _) rfl rfl hl.1 rfl (lv_room (Nat.le_of_ble_eq_true rfl)) d_Cu_add_315 ⟨Nat.le_of_ble_eq_true rfl, Nat.le_of_ble_eq_true rfl⟩) hP hD hS hA [8, 13] [0, 1, 2, 3, 4, 5, 6, 7, 9, 10, 11, 12] rfl rfl (by decide) (by decide) (fun H locs hP hD hS => ?_)
      clear hc
      have hP : va_P D classes [(o, .inr (3, [r_rows, v_a_limbs, .ref a_a, .ref a_b, .ref a_c, .ref a_d, .ref a_f])), (a_a, .inl (cy 2, 10, .inr (.inl u0))), (a_b, .inl (cy 2, 10, .inr (.inl u1))), (a_d, .inl (cy 2, 10, .inr (.inl u3))), (a_f, .inl (cy 2, 10, .inr (.inl u4))), (o1, .inr (7, [.ref a1_x, .ref a1_y, .ref a1_z, .int u5, .int u6])), (a1_x, .inl (cy 2, 10, .inr (.inl u7))), (a1_y, .inl (cy 2, 10, .inr (.inl u8))), (o2, .inr (7, [.ref a2_x, .ref a2_y, .ref a2_z, .int i2_isNone, .int i2_isPlain])), (a2_x, .inl (cy 2, 10, .inr (.inl g2_x))), (a2_y, .inl (cy 2, 10, .inr (.inl g2_y))), (a2_z, .inl (cy 2, 10, .inr (.inl g2_z))), (a1_z, .inl (cy 2, 10, .inr (.inl f3))), (a_c, .inl (cy 2, 10, .inr (.inl f1)))] H := hP
      have hD : va_D A [(o, .inr (3, [r_rows, v_a_limbs, .ref a_a, .ref a_b, .ref a_c, .ref a_d, .ref a_f])), (a_a, .inl (cy 2, 10, .inr (.inl u0))), (a_b, .inl (cy 2, 10, .inr (.inl u1))), (a_d, .inl (cy 2, 10, .inr (.inl u3))), (a_f, .inl (cy 2, 10, .inr (.inl u4))), (o1, .inr (7, [.ref a1_x, .ref a1_y, .ref a1_z, .int u5, .int u6])), (a1_x, .inl (cy 2, 10, .inr (.inl u7))), (a1_y, .inl (cy 2, 10, .inr (.inl u8))), (o2, .inr (7, [.ref a2_x, .ref a2_y, .ref a2_z, .int i2_isNone, .int i2_isPlain])), (a2_x, .inl (cy 2, 10, .inr (.inl g2_x))), (a2_y, .inl (cy 2, 10, .inr (.inl g2_y))), (a2_z, .inl (cy 2, 10, .inr (.inl g2_z))), (a1_z, .inl (cy 2, 10, .inr (.inl f3))), (a_c, .inl (cy 2, 10, .inr (.inl f1)))] := hD
      refine lv_aload_n hx hb d_Cu_add_318 rfl (lv_at hl 2 rfl) ?_
      refine va_get (D := D) (ci := 7) (v := .int i2_isPlain) (C := "CoinKeeper$Point") (T := F_7) (N := 5) hx hb hts i_7 hown hK hP 8 rfl rfl 4 (by decide) (hts _ gw_117) (fun _ h9 => h9) rfl d_Cu_add_319 ?_
      refine lv_if_ne (tgt := 340) hx hb d_Cu_add_322 (by decide) (fun cx => ?_) (fun cx => ?_)
      · have hf := ifn cx hf
        exact wb_Cu_add_340 (fu := fu) F _ _ _ _ _ _ _ _ _ _ _ hf _ _ _ (hP.sub (ws' := [(o, .inr (3, [r_rows, v_a_limbs, .ref a_a, .ref a_b, .ref a_c, .ref a_d, .ref a_f])), (a_a, .inl (cy 2, 10, .inr (.inl u0))), (a_b, .inl (cy 2, 10, .inr (.inl u1))), (a_c, .inl (cy 2, 10, .inr (.inl f1))), (a_d, .inl (cy 2, 10, .inr (.inl u3))), (a_f, .inl (cy 2, 10, .inr (.inl u4))), (o1, .inr (7, [.ref a1_x, .ref a1_y, .ref a1_z, .int u5, .int u6])), (a1_x, .inl (cy 2, 10, .inr (.inl u7))), (a1_y, .inl (cy 2, 10, .inr (.inl u8))), (a1_z, .inl (cy 2, 10, .inr (.inl f3))), (o2, .inr (7, [.ref a2_x, .ref a2_y, .ref a2_z, .int i2_isNone, .int i2_isPlain])), (a2_x, .inl (cy 2, 10, .inr (.inl g2_x))), (a2_y, .inl (cy 2, 10, .inr (.inl g2_y))), (a2_z, .inl (cy 2, 10, .inr (.inl g2_z)))]) [0, 1, 2, 13, 3, 4, 5, 6, 7, 12, 8, 9, 10, 11] rfl) (hD.sub (ws' := [(o, .inr (3, [r_rows, v_a_limbs, .ref a_a, .ref a_b, .ref a_c, .ref a_d, .ref a_f])), (a_a, .inl (cy 2, 10, .inr (.inl u0))), (a_b, .inl (cy 2, 10, .inr (.inl u1))), (a_c, .inl (cy 2, 10, .inr (.inl f1))), (a_d, .inl (cy 2, 10, .inr (.inl u3))), (a_f, .inl (cy 2, 10, .inr (.inl u4))), (o1, .inr (7, [.ref a1_x, .ref a1_y, .ref a1_z, .int u5, .int u6])), (a1_x, .inl (cy 2, 10, .inr (.inl u7))), (a1_y, .inl (cy 2, 10, .inr (.inl u8))), (a1_z, .inl (cy 2, 10, .inr (.inl f3))), (o2, .inr (7, [.ref a2_x, .ref a2_y, .ref a2_z, .int i2_isNone, .int i2_isPlain])), (a2_x, .inl (cy 2, 10, .inr (.inl g2_x))), (a2_y, .inl (cy 2, 10, .inr (.inl g2_y))), (a2_z, .inl (cy 2, 10, .inr (.inl g2_z)))]) [0, 1, 2, 13, 3, 4, 5, 6, 7, 12, 8, 9, 10, 11] (by decide) rfl) hS (lv_sub hl [0, 1] rfl)
      · have hf := ifp cx hf
        refine lv_aload_n hx hb d_Cu_add_325 rfl (lv_at hl 1 rfl) ?_
        refine va_get (D := D) (ci := 7) (v := .ref a1_z) (C := "CoinKeeper$Point") (T := F_7) (N := 5) hx hb hts i_7 hown hK hP 5 rfl rfl 2 (by decide) (hts _ gw_112) (fun _ h9 => h9) rfl d_Cu_add_326 ?_
        refine lv_aload_n hx hb d_Cu_add_329 rfl (lv_at hl 2 rfl) ?_
        refine va_get (D := D) (ci := 7) (v := .ref a2_z) (C := "CoinKeeper$Point") (T := F_7) (N := 5) hx hb hts i_7 hown hK hP 8 rfl rfl 2 (by decide) (hts _ gw_112) (fun _ h9 => h9) rfl d_Cu_add_330 ?_
        refine lv_aload_n hx hb d_Cu_add_333 rfl (lv_at hl 1 rfl) ?_
        refine va_get (D := D) (ci := 7) (v := .ref a1_z) (C := "CoinKeeper$Point") (T := F_7) (N := 5) hx hb hts i_7 hown hK hP 5 rfl rfl 2 (by decide) (hts _ gw_112) (fun _ h9 => h9) rfl d_Cu_add_334 ?_
        obtain ⟨f4, hc, hf⟩ := bdp1 hf
        refine q_av (wr := [(o, .inr (3, [r_rows, v_a_limbs, .ref a_a, .ref a_b, .ref a_c, .ref a_d, .ref a_f])), (a_a, .inl (cy 2, 10, .inr (.inl u0))), (a_b, .inl (cy 2, 10, .inr (.inl u1))), (a_d, .inl (cy 2, 10, .inr (.inl u3))), (a_f, .inl (cy 2, 10, .inr (.inl u4))), (o1, .inr (7, [.ref a1_x, .ref a1_y, .ref a1_z, .int u5, .int u6])), (a1_x, .inl (cy 2, 10, .inr (.inl u7))), (a1_y, .inl (cy 2, 10, .inr (.inl u8))), (o2, .inr (7, [.ref a2_x, .ref a2_y, .ref a2_z, .int i2_isNone, .int i2_isPlain])), (a2_x, .inl (cy 2, 10, .inr (.inl g2_x))), (a2_y, .inl (cy 2, 10, .inr (.inl g2_y))), (a_c, .inl (cy 2, 10, .inr (.inl f1)))]) (va_runS (As := [.ref a1_z, .ref a2_z, .ref a1_z]) (rest := []) ⟨hx, hb, hml, hown, hts⟩ (c_Cu_multiply_e20 l D cy ad fu a1_z a2_z g2_z f3 _ hc H.size) ⟨q_cB hts gw_1078 gw_4 gw_1076 hdc_18 ⟨by decide, by decide⟩, hts _ gw_1077⟩ (q_pre (hP.sub [12, 11] rfl) (hD.sub [12, 11] (by decide) rfl) hK hSt hS (va_free hD hS hA [12, 11] rfl) _) rfl rfl hl.1 rfl (lv_room (Nat.le_of_ble_eq_true rfl)) d_Cu_add_337 ⟨Nat.le_of_ble_eq_true rfl, Nat.le_of_ble_eq_true rfl⟩) hP hD hS hA [12, 11] [0, 1, 2, 3, 4, 5, 6, 7, 8, 9, 10, 13] rfl rfl (by decide) (by decide) (fun H locs hP hD hS => ?_)
        clear hc
        have hP : va_P D classes [(o, .inr (3, [r_rows, v_a_limbs, .ref a_a, .ref a_b, .ref a_c, .ref a_d, .ref a_f])), (a_a, .inl (cy 2, 10, .inr (.inl u0))), (a_b, .inl (cy 2, 10, .inr (.inl u1))), (a_d, .inl (cy 2, 10, .inr (.inl u3))), (a_f, .inl (cy 2, 10, .inr (.inl u4))), (o1, .inr (7, [.ref a1_x, .ref a1_y, .ref a1_z, .int u5, .int u6])), (a1_x, .inl (cy 2, 10, .inr (.inl u7))), (a1_y, .inl (cy 2, 10, .inr (.inl u8))), (o2, .inr (7, [.ref a2_x, .ref a2_y, .ref a2_z, .int i2_isNone, .int i2_isPlain])), (a2_x, .inl (cy 2, 10, .inr (.inl g2_x))), (a2_y, .inl (cy 2, 10, .inr (.inl g2_y))), (a_c, .inl (cy 2, 10, .inr (.inl f1))), (a1_z, .inl (cy 2, 10, .inr (.inl f4))), (a2_z, .inl (cy 2, 10, .inr (.inl g2_z)))] H := hP
        have hD : va_D A [(o, .inr (3, [r_rows, v_a_limbs, .ref a_a, .ref a_b, .ref a_c, .ref a_d, .ref a_f])), (a_a, .inl (cy 2, 10, .inr (.inl u0))), (a_b, .inl (cy 2, 10, .inr (.inl u1))), (a_d, .inl (cy 2, 10, .inr (.inl u3))), (a_f, .inl (cy 2, 10, .inr (.inl u4))), (o1, .inr (7, [.ref a1_x, .ref a1_y, .ref a1_z, .int u5, .int u6])), (a1_x, .inl (cy 2, 10, .inr (.inl u7))), (a1_y, .inl (cy 2, 10, .inr (.inl u8))), (o2, .inr (7, [.ref a2_x, .ref a2_y, .ref a2_z, .int i2_isNone, .int i2_isPlain])), (a2_x, .inl (cy 2, 10, .inr (.inl g2_x))), (a2_y, .inl (cy 2, 10, .inr (.inl g2_y))), (a_c, .inl (cy 2, 10, .inr (.inl f1))), (a1_z, .inl (cy 2, 10, .inr (.inl f4))), (a2_z, .inl (cy 2, 10, .inr (.inl g2_z)))] := hD
        exact wb_Cu_add_340 (fu := fu) F _ _ _ _ _ _ _ _ _ _ _ hf _ _ _ (hP.sub (ws' := [(o, .inr (3, [r_rows, v_a_limbs, .ref a_a, .ref a_b, .ref a_c, .ref a_d, .ref a_f])), (a_a, .inl (cy 2, 10, .inr (.inl u0))), (a_b, .inl (cy 2, 10, .inr (.inl u1))), (a_c, .inl (cy 2, 10, .inr (.inl f1))), (a_d, .inl (cy 2, 10, .inr (.inl u3))), (a_f, .inl (cy 2, 10, .inr (.inl u4))), (o1, .inr (7, [.ref a1_x, .ref a1_y, .ref a1_z, .int u5, .int u6])), (a1_x, .inl (cy 2, 10, .inr (.inl u7))), (a1_y, .inl (cy 2, 10, .inr (.inl u8))), (a1_z, .inl (cy 2, 10, .inr (.inl f4))), (o2, .inr (7, [.ref a2_x, .ref a2_y, .ref a2_z, .int i2_isNone, .int i2_isPlain])), (a2_x, .inl (cy 2, 10, .inr (.inl g2_x))), (a2_y, .inl (cy 2, 10, .inr (.inl g2_y))), (a2_z, .inl (cy 2, 10, .inr (.inl g2_z)))]) [0, 1, 2, 11, 3, 4, 5, 6, 7, 12, 8, 9, 10, 13] rfl) (hD.sub (ws' := [(o, .inr (3, [r_rows, v_a_limbs, .ref a_a, .ref a_b, .ref a_c, .ref a_d, .ref a_f])), (a_a, .inl (cy 2, 10, .inr (.inl u0))), (a_b, .inl (cy 2, 10, .inr (.inl u1))), (a_c, .inl (cy 2, 10, .inr (.inl f1))), (a_d, .inl (cy 2, 10, .inr (.inl u3))), (a_f, .inl (cy 2, 10, .inr (.inl u4))), (o1, .inr (7, [.ref a1_x, .ref a1_y, .ref a1_z, .int u5, .int u6])), (a1_x, .inl (cy 2, 10, .inr (.inl u7))), (a1_y, .inl (cy 2, 10, .inr (.inl u8))), (a1_z, .inl (cy 2, 10, .inr (.inl f4))), (o2, .inr (7, [.ref a2_x, .ref a2_y, .ref a2_z, .int i2_isNone, .int i2_isPlain])), (a2_x, .inl (cy 2, 10, .inr (.inl g2_x))), (a2_y, .inl (cy 2, 10, .inr (.inl g2_y))), (a2_z, .inl (cy 2, 10, .inr (.inl g2_z)))]) [0, 1, 2, 11, 3, 4, 5, 6, 7, 12, 8, 9, 10, 13] (by decide) rfl) hS (lv_sub hl [0, 1] rfl)
    · have hf := ifn cx hf
      refine lv_aload_n hx hb d_Cu_add_272 rfl (lv_at hl 0 rfl) ?_
      refine va_get (D := D) (ci := 3) (v := .ref a_d) (C := "CoinKeeper$Curve") (T := F_3) (N := 7) hx hb hts i_3 hown hK hP 0 rfl rfl 5 (by decide) (hts _ gw_81) (fun _ h9 => h9) rfl d_Cu_add_273 ?_
      obtain ⟨f5, hc, hf⟩ := bdp1 hf
      refine q_av (wr := [(o, .inr (3, [r_rows, v_a_limbs, .ref a_a, .ref a_b, .ref a_c, .ref a_d, .ref a_f])), (a_a, .inl (cy 2, 10, .inr (.inl u0))), (a_b, .inl (cy 2, 10, .inr (.inl u1))), (a_f, .inl (cy 2, 10, .inr (.inl u4))), (o1, .inr (7, [.ref a1_x, .ref a1_y, .ref a1_z, .int u5, .int u6])), (a1_x, .inl (cy 2, 10, .inr (.inl u7))), (a1_y, .inl (cy 2, 10, .inr (.inl u8))), (a1_z, .inl (cy 2, 10, .inr (.inl u9))), (o2, .inr (7, [.ref a2_x, .ref a2_y, .ref a2_z, .int i2_isNone, .int i2_isPlain])), (a2_x, .inl (cy 2, 10, .inr (.inl g2_x))), (a2_y, .inl (cy 2, 10, .inr (.inl g2_y))), (a2_z, .inl (cy 2, 10, .inr (.inl g2_z))), (a_c, .inl (cy 2, 10, .inr (.inl f1)))]) (va_runS (As := [.ref a_d]) (rest := []) ⟨hx, hb, hml, hown, hts⟩ (c_Cu_settle l D cy ad fu a_d u3 _ hc H.size) ⟨q_cB hts gw_1095 gw_4 gw_1093 hdc_16 ⟨by decide, by decide⟩, hts _ gw_1094⟩ (q_pre (hP.sub [3] rfl) (hD.sub [3] (by decide) rfl) hK hSt hS (va_free hD hS hA [3] rfl) _) rfl rfl hl.1 rfl (lv_room (Nat.le_of_ble_eq_true rfl)) d_Cu_add_276 ⟨Nat.le_of_ble_eq_true rfl, Nat.le_of_ble_eq_true rfl⟩) hP hD hS hA [3] [0, 1, 2, 4, 5, 6, 7, 8, 9, 10, 11, 12, 13] rfl rfl (by decide) (by decide) (fun H locs hP hD hS => ?_)
      clear hc
      have hP : va_P D classes [(o, .inr (3, [r_rows, v_a_limbs, .ref a_a, .ref a_b, .ref a_c, .ref a_d, .ref a_f])), (a_a, .inl (cy 2, 10, .inr (.inl u0))), (a_b, .inl (cy 2, 10, .inr (.inl u1))), (a_f, .inl (cy 2, 10, .inr (.inl u4))), (o1, .inr (7, [.ref a1_x, .ref a1_y, .ref a1_z, .int u5, .int u6])), (a1_x, .inl (cy 2, 10, .inr (.inl u7))), (a1_y, .inl (cy 2, 10, .inr (.inl u8))), (a1_z, .inl (cy 2, 10, .inr (.inl u9))), (o2, .inr (7, [.ref a2_x, .ref a2_y, .ref a2_z, .int i2_isNone, .int i2_isPlain])), (a2_x, .inl (cy 2, 10, .inr (.inl g2_x))), (a2_y, .inl (cy 2, 10, .inr (.inl g2_y))), (a2_z, .inl (cy 2, 10, .inr (.inl g2_z))), (a_c, .inl (cy 2, 10, .inr (.inl f1))), (a_d, .inl (cy 2, 10, .inr (.inl f5)))] H := hP
      have hD : va_D A [(o, .inr (3, [r_rows, v_a_limbs, .ref a_a, .ref a_b, .ref a_c, .ref a_d, .ref a_f])), (a_a, .inl (cy 2, 10, .inr (.inl u0))), (a_b, .inl (cy 2, 10, .inr (.inl u1))), (a_f, .inl (cy 2, 10, .inr (.inl u4))), (o1, .inr (7, [.ref a1_x, .ref a1_y, .ref a1_z, .int u5, .int u6])), (a1_x, .inl (cy 2, 10, .inr (.inl u7))), (a1_y, .inl (cy 2, 10, .inr (.inl u8))), (a1_z, .inl (cy 2, 10, .inr (.inl u9))), (o2, .inr (7, [.ref a2_x, .ref a2_y, .ref a2_z, .int i2_isNone, .int i2_isPlain])), (a2_x, .inl (cy 2, 10, .inr (.inl g2_x))), (a2_y, .inl (cy 2, 10, .inr (.inl g2_y))), (a2_z, .inl (cy 2, 10, .inr (.inl g2_z))), (a_c, .inl (cy 2, 10, .inr (.inl f1))), (a_d, .inl (cy 2, 10, .inr (.inl f5)))] := hD
      refine lv_aload_n hx hb d_Cu_add_279 rfl (lv_at hl 1 rfl) ?_
      refine lv_aload_n hx hb d_Cu_add_280 rfl (lv_at hl 0 rfl) ?_
      refine va_get (D := D) (ci := 3) (v := .ref a_d) (C := "CoinKeeper$Curve") (T := F_3) (N := 7) hx hb hts i_3 hown hK hP 0 rfl rfl 5 (by decide) (hts _ gw_81) (fun _ h9 => h9) rfl d_Cu_add_281 ?_
      obtain ⟨v6, hc, hf⟩ := bdp1 hf
      refine q_ai (wr := [(o, .inr (3, [r_rows, v_a_limbs, .ref a_a, .ref a_b, .ref a_c, .ref a_d, .ref a_f])), (a_a, .inl (cy 2, 10, .inr (.inl u0))), (a_b, .inl (cy 2, 10, .inr (.inl u1))), (a_f, .inl (cy 2, 10, .inr (.inl u4))), (o1, .inr (7, [.ref a1_x, .ref a1_y, .ref a1_z, .int u5, .int u6])), (a1_x, .inl (cy 2, 10, .inr (.inl u7))), (a1_y, .inl (cy 2, 10, .inr (.inl u8))), (a1_z, .inl (cy 2, 10, .inr (.inl u9))), (o2, .inr (7, [.ref a2_x, .ref a2_y, .ref a2_z, .int i2_isNone, .int i2_isPlain])), (a2_x, .inl (cy 2, 10, .inr (.inl g2_x))), (a2_y, .inl (cy 2, 10, .inr (.inl g2_y))), (a2_z, .inl (cy 2, 10, .inr (.inl g2_z))), (a_c, .inl (cy 2, 10, .inr (.inl f1)))]) (va_runS (As := [.ref a_d]) (rest := [.ref o1]) ⟨hx, hb, hml, hown, hts⟩ (c_Cu_hasNoBit l D cy ad fu a_d f5 _ hc H.size) ⟨q_cB hts gw_1103 gw_4 gw_1101 hdc_17 ⟨by decide, by decide⟩, hts _ gw_1102⟩ (q_pre (hP.sub [13] rfl) (hD.sub [13] (by decide) rfl) hK hSt hS (va_free hD hS hA [13] rfl) _) rfl rfl hl.1 rfl (lv_room (Nat.le_of_ble_eq_true rfl)) d_Cu_add_284 ⟨Nat.le_of_ble_eq_true rfl, Nat.le_of_ble_eq_true rfl⟩) hP hD hS hA [13] [0, 1, 2, 3, 4, 5, 6, 7, 8, 9, 10, 11, 12] rfl rfl (by decide) (by decide) (fun H locs hP hD hS => ?_)
      clear hc
      have hP : va_P D classes [(o, .inr (3, [r_rows, v_a_limbs, .ref a_a, .ref a_b, .ref a_c, .ref a_d, .ref a_f])), (a_a, .inl (cy 2, 10, .inr (.inl u0))), (a_b, .inl (cy 2, 10, .inr (.inl u1))), (a_f, .inl (cy 2, 10, .inr (.inl u4))), (o1, .inr (7, [.ref a1_x, .ref a1_y, .ref a1_z, .int u5, .int u6])), (a1_x, .inl (cy 2, 10, .inr (.inl u7))), (a1_y, .inl (cy 2, 10, .inr (.inl u8))), (a1_z, .inl (cy 2, 10, .inr (.inl u9))), (o2, .inr (7, [.ref a2_x, .ref a2_y, .ref a2_z, .int i2_isNone, .int i2_isPlain])), (a2_x, .inl (cy 2, 10, .inr (.inl g2_x))), (a2_y, .inl (cy 2, 10, .inr (.inl g2_y))), (a2_z, .inl (cy 2, 10, .inr (.inl g2_z))), (a_c, .inl (cy 2, 10, .inr (.inl f1))), (a_d, .inl (cy 2, 10, .inr (.inl f5)))] H := hP
      have hD : va_D A [(o, .inr (3, [r_rows, v_a_limbs, .ref a_a, .ref a_b, .ref a_c, .ref a_d, .ref a_f])), (a_a, .inl (cy 2, 10, .inr (.inl u0))), (a_b, .inl (cy 2, 10, .inr (.inl u1))), (a_f, .inl (cy 2, 10, .inr (.inl u4))), (o1, .inr (7, [.ref a1_x, .ref a1_y, .ref a1_z, .int u5, .int u6])), (a1_x, .inl (cy 2, 10, .inr (.inl u7))), (a1_y, .inl (cy 2, 10, .inr (.inl u8))), (a1_z, .inl (cy 2, 10, .inr (.inl u9))), (o2, .inr (7, [.ref a2_x, .ref a2_y, .ref a2_z, .int i2_isNone, .int i2_isPlain])), (a2_x, .inl (cy 2, 10, .inr (.inl g2_x))), (a2_y, .inl (cy 2, 10, .inr (.inl g2_y))), (a2_z, .inl (cy 2, 10, .inr (.inl g2_z))), (a_c, .inl (cy 2, 10, .inr (.inl f1))), (a_d, .inl (cy 2, 10, .inr (.inl f5)))] := hD
      refine lv_if_ne (tgt := 294) hx hb d_Cu_add_287 (by decide) (fun cx => ?_) (fun cx => ?_)
      · have hf := ifn cx hf
        refine lv_iconst (v := 0) hx hb d_Cu_add_294 (by decide) ?_
        exact wb_Cu_add_295 (fu := fu) F _ _ _ _ _ _ _ _ _ _ _ _ hf _ _ _ (hP.sub (ws' := [(o, .inr (3, [r_rows, v_a_limbs, .ref a_a, .ref a_b, .ref a_c, .ref a_d, .ref a_f])), (a_a, .inl (cy 2, 10, .inr (.inl u0))), (a_b, .inl (cy 2, 10, .inr (.inl u1))), (a_c, .inl (cy 2, 10, .inr (.inl f1))), (a_d, .inl (cy 2, 10, .inr (.inl f5))), (a_f, .inl (cy 2, 10, .inr (.inl u4))), (o1, .inr (7, [.ref a1_x, .ref a1_y, .ref a1_z, .int u5, .int u6])), (a1_x, .inl (cy 2, 10, .inr (.inl u7))), (a1_y, .inl (cy 2, 10, .inr (.inl u8))), (a1_z, .inl (cy 2, 10, .inr (.inl u9))), (o2, .inr (7, [.ref a2_x, .ref a2_y, .ref a2_z, .int i2_isNone, .int i2_isPlain])), (a2_x, .inl (cy 2, 10, .inr (.inl g2_x))), (a2_y, .inl (cy 2, 10, .inr (.inl g2_y))), (a2_z, .inl (cy 2, 10, .inr (.inl g2_z)))]) [0, 1, 2, 12, 13, 3, 4, 5, 6, 7, 8, 9, 10, 11] rfl) (hD.sub (ws' := [(o, .inr (3, [r_rows, v_a_limbs, .ref a_a, .ref a_b, .ref a_c, .ref a_d, .ref a_f])), (a_a, .inl (cy 2, 10, .inr (.inl u0))), (a_b, .inl (cy 2, 10, .inr (.inl u1))), (a_c, .inl (cy 2, 10, .inr (.inl f1))), (a_d, .inl (cy 2, 10, .inr (.inl f5))), (a_f, .inl (cy 2, 10, .inr (.inl u4))), (o1, .inr (7, [.ref a1_x, .ref a1_y, .ref a1_z, .int u5, .int u6])), (a1_x, .inl (cy 2, 10, .inr (.inl u7))), (a1_y, .inl (cy 2, 10, .inr (.inl u8))), (a1_z, .inl (cy 2, 10, .inr (.inl u9))), (o2, .inr (7, [.ref a2_x, .ref a2_y, .ref a2_z, .int i2_isNone, .int i2_isPlain])), (a2_x, .inl (cy 2, 10, .inr (.inl g2_x))), (a2_y, .inl (cy 2, 10, .inr (.inl g2_y))), (a2_z, .inl (cy 2, 10, .inr (.inl g2_z)))]) [0, 1, 2, 12, 13, 3, 4, 5, 6, 7, 8, 9, 10, 11] (by decide) rfl) hS (lv_sub hl [1] rfl)
      · have hf := ifp cx hf
        refine lv_iconst (v := 1) hx hb d_Cu_add_290 (by decide) ?_
        refine lv_goto (tgt := 295) hx hb d_Cu_add_291 (by decide) ?_
        exact wb_Cu_add_295 (fu := fu) F _ _ _ _ _ _ _ _ _ _ _ _ hf _ _ _ (hP.sub (ws' := [(o, .inr (3, [r_rows, v_a_limbs, .ref a_a, .ref a_b, .ref a_c, .ref a_d, .ref a_f])), (a_a, .inl (cy 2, 10, .inr (.inl u0))), (a_b, .inl (cy 2, 10, .inr (.inl u1))), (a_c, .inl (cy 2, 10, .inr (.inl f1))), (a_d, .inl (cy 2, 10, .inr (.inl f5))), (a_f, .inl (cy 2, 10, .inr (.inl u4))), (o1, .inr (7, [.ref a1_x, .ref a1_y, .ref a1_z, .int u5, .int u6])), (a1_x, .inl (cy 2, 10, .inr (.inl u7))), (a1_y, .inl (cy 2, 10, .inr (.inl u8))), (a1_z, .inl (cy 2, 10, .inr (.inl u9))), (o2, .inr (7, [.ref a2_x, .ref a2_y, .ref a2_z, .int i2_isNone, .int i2_isPlain])), (a2_x, .inl (cy 2, 10, .inr (.inl g2_x))), (a2_y, .inl (cy 2, 10, .inr (.inl g2_y))), (a2_z, .inl (cy 2, 10, .inr (.inl g2_z)))]) [0, 1, 2, 12, 13, 3, 4, 5, 6, 7, 8, 9, 10, 11] rfl) (hD.sub (ws' := [(o, .inr (3, [r_rows, v_a_limbs, .ref a_a, .ref a_b, .ref a_c, .ref a_d, .ref a_f])), (a_a, .inl (cy 2, 10, .inr (.inl u0))), (a_b, .inl (cy 2, 10, .inr (.inl u1))), (a_c, .inl (cy 2, 10, .inr (.inl f1))), (a_d, .inl (cy 2, 10, .inr (.inl f5))), (a_f, .inl (cy 2, 10, .inr (.inl u4))), (o1, .inr (7, [.ref a1_x, .ref a1_y, .ref a1_z, .int u5, .int u6])), (a1_x, .inl (cy 2, 10, .inr (.inl u7))), (a1_y, .inl (cy 2, 10, .inr (.inl u8))), (a1_z, .inl (cy 2, 10, .inr (.inl u9))), (o2, .inr (7, [.ref a2_x, .ref a2_y, .ref a2_z, .int i2_isNone, .int i2_isPlain])), (a2_x, .inl (cy 2, 10, .inr (.inl g2_x))), (a2_y, .inl (cy 2, 10, .inr (.inl g2_y))), (a2_z, .inl (cy 2, 10, .inr (.inl g2_z)))]) [0, 1, 2, 12, 13, 3, 4, 5, 6, 7, 8, 9, 10, 11] (by decide) rfl) hS (lv_sub hl [1] rfl)
  · have hf := ifn cx hf
    refine lv_aload_n hx hb d_Cu_add_195 rfl (lv_at hl 0 rfl) ?_
    refine va_get (D := D) (ci := 3) (v := .ref a_c) (C := "CoinKeeper$Curve") (T := F_3) (N := 7) hx hb hts i_3 hown hK hP 0 rfl rfl 4 (by decide) (hts _ gw_80) (fun _ h9 => h9) rfl d_Cu_add_196 ?_
    refine lv_iload hx hb d_Cu_add_199 (lv_at hl 4 rfl) ?_
    refine lv_dup2_11 hx hb d_Cu_add_201 rfl rfl ?_
    obtain ⟨hg, hf⟩ := gdp hf
    refine va_lald hx hb hK hP 3 2 rfl rfl (inb_in hg) d_Cu_add_202 ?_
    refine lv_topl (fun v7 ev => ?_)
    have hf := bn ev hf
    clear ev
    refine lv_aload_n hx hb d_Cu_add_203 rfl (lv_at hl 0 rfl) ?_
    refine va_get (D := D) (ci := 3) (v := .ref a_a) (C := "CoinKeeper$Curve") (T := F_3) (N := 7) hx hb hts i_3 hown hK hP 0 rfl rfl 2 (by decide) (hts _ gw_78) (fun _ h9 => h9) rfl d_Cu_add_204 ?_
    refine lv_iload hx hb d_Cu_add_207 (lv_at hl 4 rfl) ?_
    obtain ⟨hg, hf⟩ := gdp hf
    refine va_lald hx hb hK hP 1 2 rfl rfl (inb_in hg) d_Cu_add_209 ?_
    refine lv_topl (fun v8 ev => ?_)
    have hf := bn ev hf
    clear ev
    refine lv_lsub hx hb d_Cu_add_210 ?_
    refine lv_topl (fun v9 ev => ?_)
    have hf := bn ev hf
    clear ev
    obtain ⟨hg, hf⟩ := gdp hf
    refine va_last hx hb hK hP hD hS 3 2 rfl rfl (inb_in hg) d_Cu_add_211 (fun H locs hP hD hS => ?_)
    obtain ⟨f10, ev, hf⟩ := bne hf
    have hP : va_P D classes [(o, .inr (3, [r_rows, v_a_limbs, .ref a_a, .ref a_b, .ref a_c, .ref a_d, .ref a_f])), (a_a, .inl (cy 2, 10, .inr (.inl u0))), (a_b, .inl (cy 2, 10, .inr (.inl u1))), (a_c, .inl (cy 2, 10, .inr (.inl f10))), (a_d, .inl (cy 2, 10, .inr (.inl u3))), (a_f, .inl (cy 2, 10, .inr (.inl u4))), (o1, .inr (7, [.ref a1_x, .ref a1_y, .ref a1_z, .int u5, .int u6])), (a1_x, .inl (cy 2, 10, .inr (.inl u7))), (a1_y, .inl (cy 2, 10, .inr (.inl u8))), (a1_z, .inl (cy 2, 10, .inr (.inl u9))), (o2, .inr (7, [.ref a2_x, .ref a2_y, .ref a2_z, .int i2_isNone, .int i2_isPlain])), (a2_x, .inl (cy 2, 10, .inr (.inl g2_x))), (a2_y, .inl (cy 2, 10, .inr (.inl g2_y))), (a2_z, .inl (cy 2, 10, .inr (.inl g2_z)))] H := by rw [ev]; exact hP
    have hD : va_D A [(o, .inr (3, [r_rows, v_a_limbs, .ref a_a, .ref a_b, .ref a_c, .ref a_d, .ref a_f])), (a_a, .inl (cy 2, 10, .inr (.inl u0))), (a_b, .inl (cy 2, 10, .inr (.inl u1))), (a_c, .inl (cy 2, 10, .inr (.inl f10))), (a_d, .inl (cy 2, 10, .inr (.inl u3))), (a_f, .inl (cy 2, 10, .inr (.inl u4))), (o1, .inr (7, [.ref a1_x, .ref a1_y, .ref a1_z, .int u5, .int u6])), (a1_x, .inl (cy 2, 10, .inr (.inl u7))), (a1_y, .inl (cy 2, 10, .inr (.inl u8))), (a1_z, .inl (cy 2, 10, .inr (.inl u9))), (o2, .inr (7, [.ref a2_x, .ref a2_y, .ref a2_z, .int i2_isNone, .int i2_isPlain])), (a2_x, .inl (cy 2, 10, .inr (.inl g2_x))), (a2_y, .inl (cy 2, 10, .inr (.inl g2_y))), (a2_z, .inl (cy 2, 10, .inr (.inl g2_z)))] := by rw [ev]; exact hD
    clear ev
    refine lv_aload_n hx hb d_Cu_add_212 rfl (lv_at hl 0 rfl) ?_
    refine va_get (D := D) (ci := 3) (v := .ref a_d) (C := "CoinKeeper$Curve") (T := F_3) (N := 7) hx hb hts i_3 hown hK hP 0 rfl rfl 5 (by decide) (hts _ gw_81) (fun _ h9 => h9) rfl d_Cu_add_213 ?_
    refine lv_iload hx hb d_Cu_add_216 (lv_at hl 4 rfl) ?_
    refine lv_iload_n hx hb d_Cu_add_218 rfl (lv_at hl 3 rfl) ?_
    refine lv_if_eq (tgt := 233) hx hb d_Cu_add_219 (by decide) (fun cx => ?_) (fun cx => ?_)
    · have hf := ifp cx hf
      refine lv_aload_n hx hb d_Cu_add_233 rfl (lv_at hl 0 rfl) ?_
      refine va_get (D := D) (ci := 3) (v := .ref a_d) (C := "CoinKeeper$Curve") (T := F_3) (N := 7) hx hb hts i_3 hown hK hP 0 rfl rfl 5 (by decide) (hts _ gw_81) (fun _ h9 => h9) rfl d_Cu_add_234 ?_
      refine lv_iload hx hb d_Cu_add_237 (lv_at hl 4 rfl) ?_
      obtain ⟨hg, hf⟩ := gdp hf
      refine va_lald hx hb hK hP 4 2 rfl rfl (inb_in hg) d_Cu_add_239 ?_
      refine lv_topl (fun v11 ev => ?_)
      have hf := bn ev hf
      clear ev
      exact wb_Cu_add_240 (fu := fu) F hk_188 _ _ _ _ _ _ _ _ _ _ _ _ _ _ _ hf _ _ _ hP hD hS (lv_sub hl [0, 1, 2, 3, 4] rfl)
    · have hf := ifn cx hf
      refine lv_aload_n hx hb d_Cu_add_222 rfl (lv_at hl 0 rfl) ?_
      refine va_get (D := D) (ci := 3) (v := .ref a_d) (C := "CoinKeeper$Curve") (T := F_3) (N := 7) hx hb hts i_3 hown hK hP 0 rfl rfl 5 (by decide) (hts _ gw_81) (fun _ h9 => h9) rfl d_Cu_add_223 ?_
      refine lv_iload hx hb d_Cu_add_226 (lv_at hl 4 rfl) ?_
      obtain ⟨hg, hf⟩ := gdp hf
      refine va_lald hx hb hK hP 4 2 rfl rfl (inb_in hg) d_Cu_add_228 ?_
      refine lv_topl (fun v12 ev => ?_)
      have hf := bn ev hf
      clear ev
      refine lv_lneg hx hb d_Cu_add_229 ?_
      refine lv_goto (tgt := 240) hx hb d_Cu_add_230 (by decide) ?_
      exact wb_Cu_add_240 (fu := fu) F hk_188 _ _ _ _ _ _ _ _ _ _ _ _ _ _ _ hf _ _ _ hP hD hS (lv_sub hl [0, 1, 2, 3, 4] rfl)
theorem w_Cu_add_188 {p : Program} {l : Launch} {e : Env} {s : State} {m : MethodId} {args : Array Value} {below : List Frame} {meth : Method} {c : Code} {D : va_G} {cy : Nat → ClassId} {A : Nat → Prop} {ad : Nat → Nat} {o : Nat} {r_rows : Value} {v_a_limbs : Value} {a_a : Nat} {a_b : Nat} {a_c : Nat} {a_d : Nat} {a_f : Nat} {o1 : Nat} {a1_x : Nat} {a1_y : Nat} {a1_z : Nat} {o2 : Nat} {a2_x : Nat} {a2_y : Nat} {a2_z : Nat} {i2_isNone : Int32} {i2_isPlain : Int32} {g2_x : Nat → Int64} {g2_y : Nat → Int64} {g2_z : Nat → Int64} {fu : Nat} (F : Fx p s m args meth c b_Cu_add 5 "CoinKeeper$Curve" "add" (some .boolean) D cy ad A) : ∀ n : Nat, I_Cu_add_188 p l e s m args below meth c D cy A ad o r_rows v_a_limbs a_a a_b a_c a_d a_f o1 a1_x a1_y a1_z o2 a2_x a2_y a2_z i2_isNone i2_isPlain g2_x g2_y g2_z (x_Cu_add_188 fu i2_isNone i2_isPlain g2_x g2_y g2_z n)
  | 0 => fun _ _ _ _ _ _ _ _ _ _ _ _ _ hf => nomatch (show (none : Option (Int32 × (Nat → Int64) × (Nat → Int64) × (Nat → Int64) × (Nat → Int64) × (Nat → Int64) × Int32 × Int32 × (Nat → Int64) × (Nat → Int64) × (Nat → Int64))) = some _ from hf)
  | n + 1 => wb_Cu_add_188 F (w_Cu_add_188 F n)
set_option maxHeartbeats 8000000 in
set_option maxRecDepth 100000 in
theorem wb_Cu_add_185 {p : Program} {l : Launch} {e : Env} {s : State} {m : MethodId} {args : Array Value} {below : List Frame} {meth : Method} {c : Code} {D : va_G} {cy : Nat → ClassId} {A : Nat → Prop} {ad : Nat → Nat} {o : Nat} {r_rows : Value} {v_a_limbs : Value} {a_a : Nat} {a_b : Nat} {a_c : Nat} {a_d : Nat} {a_f : Nat} {o1 : Nat} {a1_x : Nat} {a1_y : Nat} {a1_z : Nat} {o2 : Nat} {a2_x : Nat} {a2_y : Nat} {a2_z : Nat} {i2_isNone : Int32} {i2_isPlain : Int32} {g2_x : Nat → Int64} {g2_y : Nat → Int64} {g2_z : Nat → Int64} {fu : Nat} (F : Fx p s m args meth c b_Cu_add 5 "CoinKeeper$Curve" "add" (some .boolean) D cy ad A) : I_Cu_add_185 p l e s m args below meth c D cy A ad o r_rows v_a_limbs a_a a_b a_c a_d a_f o1 a1_x a1_y a1_z o2 a2_x a2_y a2_z i2_isNone i2_isPlain g2_x g2_y g2_z (xb_Cu_add_185 fu i2_isNone i2_isPlain g2_x g2_y g2_z) := by
  obtain ⟨hx, hb, hr, hml, hown, hts, hlocks, hK, hA, hSt, hnm, hex⟩ := id F
  intro x3 u0 u1 u2 u3 u4 u5 u6 u7 u8 u9 res hf H locs ls hP hD hS hl
  unfold xb_Cu_add_185 at hf
  refine lv_iconst (v := 0) hx hb d_Cu_add_185 (by decide) ?_
  refine lv_istore (lv' := [(4, .int (0 : Int32)), (0, .ref o), (1, .ref o1), (2, .ref o2), (3, .int x3)]) hx hb d_Cu_add_186 hl (by decide) rfl (fun ls hl => ?_)
  exact w_Cu_add_188 F fu _ _ _ _ _ _ _ _ _ _ _ _ _ hf _ _ _ hP hD hS (lv_sub hl [1, 2, 3, 4, 0] rfl)
theorem hdc_19 : ({ cls := "CoinKeeper$Point", name := "become", desc := "(LCoinKeeper$Point;)V" } : Jvm.MethodName).cls ≠ "java/lang/invoke/MethodHandle" ∧ ({ cls := "CoinKeeper$Point", name := "become", desc := "(LCoinKeeper$Point;)V" } : Jvm.MethodName).cls ≠ "java/lang/invoke/VarHandle" ∧ (parseMethodDescriptor ({ cls := "CoinKeeper$Point", name := "become", desc := "(LCoinKeeper$Point;)V" } : Jvm.MethodName).desc).map (fun d => d.parameters.length) = some 1 := by decide +kernel
theorem hdc_20 : ({ cls := "CoinKeeper$Curve", name := "negate", desc := "([J)V" } : Jvm.MethodName).cls ≠ "java/lang/invoke/MethodHandle" ∧ ({ cls := "CoinKeeper$Curve", name := "negate", desc := "([J)V" } : Jvm.MethodName).cls ≠ "java/lang/invoke/VarHandle" ∧ (parseMethodDescriptor ({ cls := "CoinKeeper$Curve", name := "negate", desc := "([J)V" } : Jvm.MethodName).desc).map (fun d => d.parameters.length) = some 1 := by decide +kernel
set_option maxHeartbeats 8000000 in
set_option maxRecDepth 100000 in
theorem we_Cu_add {p : Program} {l : Launch} {e : Env} {s : State} {m : MethodId} {args : Array Value} {below : List Frame} {meth : Method} {c : Code} {D : va_G} {cy : Nat → ClassId} {A : Nat → Prop} {ad : Nat → Nat} {o : Nat} {r_rows : Value} {v_a_limbs : Value} {a_a : Nat} {a_b : Nat} {a_c : Nat} {a_d : Nat} {a_f : Nat} {o1 : Nat} {a1_x : Nat} {a1_y : Nat} {a1_z : Nat} {o2 : Nat} {a2_x : Nat} {a2_y : Nat} {a2_z : Nat} {i2_isNone : Int32} {i2_isPlain : Int32} {g2_x : Nat → Int64} {g2_y : Nat → Int64} {g2_z : Nat → Int64} {fu : Nat} (F : Fx p s m args meth c b_Cu_add 5 "CoinKeeper$Curve" "add" (some .boolean) D cy ad A) : I_Cu_add_e p l e s m args below meth c D cy A ad o r_rows v_a_limbs a_a a_b a_c a_d a_f o1 a1_x a1_y a1_z o2 a2_x a2_y a2_z i2_isNone i2_isPlain g2_x g2_y g2_z (x_Cu_add fu i2_isNone i2_isPlain g2_x g2_y g2_z) := by
  obtain ⟨hx, hb, hr, hml, hown, hts, hlocks, hK, hA, hSt, hnm, hex⟩ := id F
  intro a3 u0 u1 u2 u3 u4 u5 u6 u7 u8 u9 res hf H locs ls hP hD hS hl
  unfold x_Cu_add at hf
  refine lv_aload_n hx hb d_Cu_add_0 rfl (lv_at hl 1 rfl) ?_
  refine va_get (D := D) (ci := 7) (v := .int u5) (C := "CoinKeeper$Point") (T := F_7) (N := 5) hx hb hts i_7 hown hK hP 6 rfl rfl 3 (by decide) (hts _ gw_114) (fun _ h9 => h9) rfl d_Cu_add_1 ?_
  refine lv_if_eq (tgt := 25) hx hb d_Cu_add_4 (by decide) (fun cx => ?_) (fun cx => ?_)
  · have hf := ifp cx hf
    refine lv_aload_n hx hb d_Cu_add_25 rfl (lv_at hl 1 rfl) ?_
    refine va_get (D := D) (ci := 7) (v := .ref a1_z) (C := "CoinKeeper$Point") (T := F_7) (N := 5) hx hb hts i_7 hown hK hP 6 rfl rfl 2 (by decide) (hts _ gw_112) (fun _ h9 => h9) rfl d_Cu_add_26 ?_
    refine lv_aload_n hx hb d_Cu_add_29 rfl (lv_at hl 1 rfl) ?_
    refine va_get (D := D) (ci := 7) (v := .ref a1_z) (C := "CoinKeeper$Point") (T := F_7) (N := 5) hx hb hts i_7 hown hK hP 6 rfl rfl 2 (by decide) (hts _ gw_112) (fun _ h9 => h9) rfl d_Cu_add_30 ?_
    refine lv_aload_n hx hb d_Cu_add_33 rfl (lv_at hl 0 rfl) ?_
    refine va_get (D := D) (ci := 3) (v := .ref a_f) (C := "CoinKeeper$Curve") (T := F_3) (N := 7) hx hb hts i_3 hown hK hP 0 rfl rfl 6 (by decide) (hts _ gw_82) (fun _ h9 => h9) rfl d_Cu_add_34 ?_
    obtain ⟨f1, hc, hf⟩ := bdp1 hf
    refine q_av (wr := [(o, .inr (3, [r_rows, v_a_limbs, .ref a_a, .ref a_b, .ref a_c, .ref a_d, .ref a_f])), (a_a, .inl (cy 2, 10, .inr (.inl u0))), (a_b, .inl (cy 2, 10, .inr (.inl u1))), (a_c, .inl (cy 2, 10, .inr (.inl u2))), (a_d, .inl (cy 2, 10, .inr (.inl u3))), (o1, .inr (7, [.ref a1_x, .ref a1_y, .ref a1_z, .int u5, .int u6])), (a1_x, .inl (cy 2, 10, .inr (.inl u7))), (a1_y, .inl (cy 2, 10, .inr (.inl u8))), (o2, .inr (7, [.ref a2_x, .ref a2_y, .ref a2_z, .int i2_isNone, .int i2_isPlain])), (a2_x, .inl (cy 2, 10, .inr (.inl g2_x))), (a2_y, .inl (cy 2, 10, .inr (.inl g2_y))), (a2_z, .inl (cy 2, 10, .inr (.inl g2_z)))]) (va_runS (As := [.ref a1_z, .ref a1_z, .ref a_f]) (rest := []) ⟨hx, hb, hml, hown, hts⟩ (c_Cu_multiply_e10 l D cy ad fu a1_z a_f u9 u4 _ hc H.size) ⟨q_cB hts gw_1078 gw_4 gw_1076 hdc_18 ⟨by decide, by decide⟩, hts _ gw_1077⟩ (q_pre (hP.sub [9, 5] rfl) (hD.sub [9, 5] (by decide) rfl) hK hSt hS (va_free hD hS hA [9, 5] rfl) _) rfl rfl hl.1 rfl (lv_room (Nat.le_of_ble_eq_true rfl)) d_Cu_add_37 ⟨Nat.le_of_ble_eq_true rfl, Nat.le_of_ble_eq_true rfl⟩) hP hD hS hA [9, 5] [0, 1, 2, 3, 4, 6, 7, 8, 10, 11, 12, 13] rfl rfl (by decide) (by decide) (fun H locs hP hD hS => ?_)
    clear hc
    have hP : va_P D classes [(o, .inr (3, [r_rows, v_a_limbs, .ref a_a, .ref a_b, .ref a_c, .ref a_d, .ref a_f])), (a_a, .inl (cy 2, 10, .inr (.inl u0))), (a_b, .inl (cy 2, 10, .inr (.inl u1))), (a_c, .inl (cy 2, 10, .inr (.inl u2))), (a_d, .inl (cy 2, 10, .inr (.inl u3))), (o1, .inr (7, [.ref a1_x, .ref a1_y, .ref a1_z, .int u5, .int u6])), (a1_x, .inl (cy 2, 10, .inr (.inl u7))), (a1_y, .inl (cy 2, 10, .inr (.inl u8))), (o2, .inr (7, [.ref a2_x, .ref a2_y, .ref a2_z, .int i2_isNone, .int i2_isPlain])), (a2_x, .inl (cy 2, 10, .inr (.inl g2_x))), (a2_y, .inl (cy 2, 10, .inr (.inl g2_y))), (a2_z, .inl (cy 2, 10, .inr (.inl g2_z))), (a1_z, .inl (cy 2, 10, .inr (.inl u9))), (a_f, .inl (cy 2, 10, .inr (.inl f1)))] H := hP
    have hD : va_D A [(o, .inr (3, [r_rows, v_a_limbs, .ref a_a, .ref a_b, .ref a_c, .ref a_d, .ref a_f])), (a_a, .inl (cy 2, 10, .inr (.inl u0))), (a_b, .inl (cy 2, 10, .inr (.inl u1))), (a_c, .inl (cy 2, 10, .inr (.inl u2))), (a_d, .inl (cy 2, 10, .inr (.inl u3))), (o1, .inr (7, [.ref a1_x, .ref a1_y, .ref a1_z, .int u5, .int u6])), (a1_x, .inl (cy 2, 10, .inr (.inl u7))), (a1_y, .inl (cy 2, 10, .inr (.inl u8))), (o2, .inr (7, [.ref a2_x, .ref a2_y, .ref a2_z, .int i2_isNone, .int i2_isPlain])), (a2_x, .inl (cy 2, 10, .inr (.inl g2_x))), (a2_y, .inl (cy 2, 10, .inr (.inl g2_y))), (a2_z, .inl (cy 2, 10, .inr (.inl g2_z))), (a1_z, .inl (cy 2, 10, .inr (.inl u9))), (a_f, .inl (cy 2, 10, .inr (.inl f1)))] := hD
    refine lv_aload_n hx hb d_Cu_add_40 rfl (lv_at hl 2 rfl) ?_
    refine va_get (D := D) (ci := 7) (v := .ref a2_x) (C := "CoinKeeper$Point") (T := F_7) (N := 5) hx hb hts i_7 hown hK hP 8 rfl rfl 0 (by decide) (hts _ gw_108) (fun _ h9 => h9) rfl d_Cu_add_41 ?_
    refine lv_aload_n hx hb d_Cu_add_44 rfl (lv_at hl 0 rfl) ?_
    refine va_get (D := D) (ci := 3) (v := .ref a_f) (C := "CoinKeeper$Curve") (T := F_3) (N := 7) hx hb hts i_3 hown hK hP 0 rfl rfl 6 (by decide) (hts _ gw_82) (fun _ h9 => h9) rfl d_Cu_add_45 ?_
    refine lv_aload_n hx hb d_Cu_add_48 rfl (lv_at hl 0 rfl) ?_
    refine va_get (D := D) (ci := 3) (v := .ref a_c) (C := "CoinKeeper$Curve") (T := F_3) (N := 7) hx hb hts i_3 hown hK hP 0 rfl rfl 4 (by decide) (hts _ gw_80) (fun _ h9 => h9) rfl d_Cu_add_49 ?_
    obtain ⟨f2, hc, hf⟩ := bdp1 hf
    refine q_av (wr := [(o, .inr (3, [r_rows, v_a_limbs, .ref a_a, .ref a_b, .ref a_c, .ref a_d, .ref a_f])), (a_a, .inl (cy 2, 10, .inr (.inl u0))), (a_b, .inl (cy 2, 10, .inr (.inl u1))), (a_d, .inl (cy 2, 10, .inr (.inl u3))), (o1, .inr (7, [.ref a1_x, .ref a1_y, .ref a1_z, .int u5, .int u6])), (a1_x, .inl (cy 2, 10, .inr (.inl u7))), (a1_y, .inl (cy 2, 10, .inr (.inl u8))), (o2, .inr (7, [.ref a2_x, .ref a2_y, .ref a2_z, .int i2_isNone, .int i2_isPlain])), (a2_y, .inl (cy 2, 10, .inr (.inl g2_y))), (a2_z, .inl (cy 2, 10, .inr (.inl g2_z))), (a1_z, .inl (cy 2, 10, .inr (.inl u9)))]) (va_runS (As := [.ref a2_x, .ref a_f, .ref a_c]) (rest := []) ⟨hx, hb, hml, hown, hts⟩ (c_Cu_multiply l D cy ad fu a2_x a_f a_c g2_x f1 u2 _ hc H.size) ⟨q_cB hts gw_1078 gw_4 gw_1076 hdc_18 ⟨by decide, by decide⟩, hts _ gw_1077⟩ (q_pre (hP.sub [9, 13, 3] rfl) (hD.sub [9, 13, 3] (by decide) rfl) hK hSt hS (va_free hD hS hA [9, 13, 3] rfl) _) rfl rfl hl.1 rfl (lv_room (Nat.le_of_ble_eq_true rfl)) d_Cu_add_52 ⟨Nat.le_of_ble_eq_true rfl, Nat.le_of_ble_eq_true rfl⟩) hP hD hS hA [9, 13, 3] [0, 1, 2, 4, 5, 6, 7, 8, 10, 11, 12] rfl rfl (by decide) (by decide) (fun H locs hP hD hS => ?_)
    clear hc
    have hP : va_P D classes [(o, .inr (3, [r_rows, v_a_limbs, .ref a_a, .ref a_b, .ref a_c, .ref a_d, .ref a_f])), (a_a, .inl (cy 2, 10, .inr (.inl u0))), (a_b, .inl (cy 2, 10, .inr (.inl u1))), (a_d, .inl (cy 2, 10, .inr (.inl u3))), (o1, .inr (7, [.ref a1_x, .ref a1_y, .ref a1_z, .int u5, .int u6])), (a1_x, .inl (cy 2, 10, .inr (.inl u7))), (a1_y, .inl (cy 2, 10, .inr (.inl u8))), (o2, .inr (7, [.ref a2_x, .ref a2_y, .ref a2_z, .int i2_isNone, .int i2_isPlain])), (a2_y, .inl (cy 2, 10, .inr (.inl g2_y))), (a2_z, .inl (cy 2, 10, .inr (.inl g2_z))), (a1_z, .inl (cy 2, 10, .inr (.inl u9))), (a2_x, .inl (cy 2, 10, .inr (.inl g2_x))), (a_f, .inl (cy 2, 10, .inr (.inl f1))), (a_c, .inl (cy 2, 10, .inr (.inl f2)))] H := hP
    have hD : va_D A [(o, .inr (3, [r_rows, v_a_limbs, .ref a_a, .ref a_b, .ref a_c, .ref a_d, .ref a_f])), (a_a, .inl (cy 2, 10, .inr (.inl u0))), (a_b, .inl (cy 2, 10, .inr (.inl u1))), (a_d, .inl (cy 2, 10, .inr (.inl u3))), (o1, .inr (7, [.ref a1_x, .ref a1_y, .ref a1_z, .int u5, .int u6])), (a1_x, .inl (cy 2, 10, .inr (.inl u7))), (a1_y, .inl (cy 2, 10, .inr (.inl u8))), (o2, .inr (7, [.ref a2_x, .ref a2_y, .ref a2_z, .int i2_isNone, .int i2_isPlain])), (a2_y, .inl (cy 2, 10, .inr (.inl g2_y))), (a2_z, .inl (cy 2, 10, .inr (.inl g2_z))), (a1_z, .inl (cy 2, 10, .inr (.inl u9))), (a2_x, .inl (cy 2, 10, .inr (.inl g2_x))), (a_f, .inl (cy 2, 10, .inr (.inl f1))), (a_c, .inl (cy 2, 10, .inr (.inl f2)))] := hD
    refine lv_aload_n hx hb d_Cu_add_55 rfl (lv_at hl 0 rfl) ?_
    refine va_get (D := D) (ci := 3) (v := .ref a_f) (C := "CoinKeeper$Curve") (T := F_3) (N := 7) hx hb hts i_3 hown hK hP 0 rfl rfl 6 (by decide) (hts _ gw_82) (fun _ h9 => h9) rfl d_Cu_add_56 ?_
    refine lv_aload_n hx hb d_Cu_add_59 rfl (lv_at hl 1 rfl) ?_
    refine va_get (D := D) (ci := 7) (v := .ref a1_z) (C := "CoinKeeper$Point") (T := F_7) (N := 5) hx hb hts i_7 hown hK hP 4 rfl rfl 2 (by decide) (hts _ gw_112) (fun _ h9 => h9) rfl d_Cu_add_60 ?_
    refine lv_aload_n hx hb d_Cu_add_63 rfl (lv_at hl 0 rfl) ?_
    refine va_get (D := D) (ci := 3) (v := .ref a_f) (C := "CoinKeeper$Curve") (T := F_3) (N := 7) hx hb hts i_3 hown hK hP 0 rfl rfl 6 (by decide) (hts _ gw_82) (fun _ h9 => h9) rfl d_Cu_add_64 ?_
    obtain ⟨f3, hc, hf⟩ := bdp1 hf
    refine q_av (wr := [(o, .inr (3, [r_rows, v_a_limbs, .ref a_a, .ref a_b, .ref a_c, .ref a_d, .ref a_f])), (a_a, .inl (cy 2, 10, .inr (.inl u0))), (a_b, .inl (cy 2, 10, .inr (.inl u1))), (a_d, .inl (cy 2, 10, .inr (.inl u3))), (o1, .inr (7, [.ref a1_x, .ref a1_y, .ref a1_z, .int u5, .int u6])), (a1_x, .inl (cy 2, 10, .inr (.inl u7))), (a1_y, .inl (cy 2, 10, .inr (.inl u8))), (o2, .inr (7, [.ref a2_x, .ref a2_y, .ref a2_z, .int i2_isNone, .int i2_isPlain])), (a2_y, .inl (cy 2, 10, .inr (.inl g2_y))), (a2_z, .inl (cy 2, 10, .inr (.inl g2_z))), (a2_x, .inl (cy 2, 10, .inr (.inl g2_x))), (a_c, .inl (cy 2, 10, .inr (.inl f2)))]) (va_runS (As := [.ref a_f, .ref a1_z, .ref a_f]) (rest := []) ⟨hx, hb, hml, hown, hts⟩ (c_Cu_multiply_e20 l D cy ad fu a_f a1_z u9 f1 _ hc H.size) ⟨q_cB hts gw_1078 gw_4 gw_1076 hdc_18 ⟨by decide, by decide⟩, hts _ gw_1077⟩ (q_pre (hP.sub [12, 10] rfl) (hD.sub [12, 10] (by decide) rfl) hK hSt hS (va_free hD hS hA [12, 10] rfl) _) rfl rfl hl.1 rfl (lv_room (Nat.le_of_ble_eq_true rfl)) d_Cu_add_67 ⟨Nat.le_of_ble_eq_true rfl, Nat.le_of_ble_eq_true rfl⟩) hP hD hS hA [12, 10] [0, 1, 2, 3, 4, 5, 6, 7, 8, 9, 11, 13] rfl rfl (by decide) (by decide) (fun H locs hP hD hS => ?_)
    clear hc
    have hP : va_P D classes [(o, .inr (3, [r_rows, v_a_limbs, .ref a_a, .ref a_b, .ref a_c, .ref a_d, .ref a_f])), (a_a, .inl (cy 2, 10, .inr (.inl u0))), (a_b, .inl (cy 2, 10, .inr (.inl u1))), (a_d, .inl (cy 2, 10, .inr (.inl u3))), (o1, .inr (7, [.ref a1_x, .ref a1_y, .ref a1_z, .int u5, .int u6])), (a1_x, .inl (cy 2, 10, .inr (.inl u7))), (a1_y, .inl (cy 2, 10, .inr (.inl u8))), (o2, .inr (7, [.ref a2_x, .ref a2_y, .ref a2_z, .int i2_isNone, .int i2_isPlain])), (a2_y, .inl (cy 2, 10, .inr (.inl g2_y))), (a2_z, .inl (cy 2, 10, .inr (.inl g2_z))), (a2_x, .inl (cy 2, 10, .inr (.inl g2_x))), (a_c, .inl (cy 2, 10, .inr (.inl f2))), (a_f, .inl (cy 2, 10, .inr (.inl f3))), (a1_z, .inl (cy 2, 10, .inr (.inl u9)))] H := hP
    have hD : va_D A [(o, .inr (3, [r_rows, v_a_limbs, .ref a_a, .ref a_b, .ref a_c, .ref a_d, .ref a_f])), (a_a, .inl (cy 2, 10, .inr (.inl u0))), (a_b, .inl (cy 2, 10, .inr (.inl u1))), (a_d, .inl (cy 2, 10, .inr (.inl u3))), (o1, .inr (7, [.ref a1_x, .ref a1_y, .ref a1_z, .int u5, .int u6])), (a1_x, .inl (cy 2, 10, .inr (.inl u7))), (a1_y, .inl (cy 2, 10, .inr (.inl u8))), (o2, .inr (7, [.ref a2_x, .ref a2_y, .ref a2_z, .int i2_isNone, .int i2_isPlain])), (a2_y, .inl (cy 2, 10, .inr (.inl g2_y))), (a2_z, .inl (cy 2, 10, .inr (.inl g2_z))), (a2_x, .inl (cy 2, 10, .inr (.inl g2_x))), (a_c, .inl (cy 2, 10, .inr (.inl f2))), (a_f, .inl (cy 2, 10, .inr (.inl f3))), (a1_z, .inl (cy 2, 10, .inr (.inl u9)))] := hD
    refine lv_aload_n hx hb d_Cu_add_70 rfl (lv_at hl 2 rfl) ?_
    refine va_get (D := D) (ci := 7) (v := .ref a2_y) (C := "CoinKeeper$Point") (T := F_7) (N := 5) hx hb hts i_7 hown hK hP 7 rfl rfl 1 (by decide) (hts _ gw_110) (fun _ h9 => h9) rfl d_Cu_add_71 ?_
    refine lv_aload_n hx hb d_Cu_add_74 rfl (lv_at hl 0 rfl) ?_
    refine va_get (D := D) (ci := 3) (v := .ref a_f) (C := "CoinKeeper$Curve") (T := F_3) (N := 7) hx hb hts i_3 hown hK hP 0 rfl rfl 6 (by decide) (hts _ gw_82) (fun _ h9 => h9) rfl d_Cu_add_75 ?_
    refine lv_aload_n hx hb d_Cu_add_78 rfl (lv_at hl 0 rfl) ?_
    refine va_get (D := D) (ci := 3) (v := .ref a_d) (C := "CoinKeeper$Curve") (T := F_3) (N := 7) hx hb hts i_3 hown hK hP 0 rfl rfl 5 (by decide) (hts _ gw_81) (fun _ h9 => h9) rfl d_Cu_add_79 ?_
    obtain ⟨f4, hc, hf⟩ := bdp1 hf
    refine q_av (wr := [(o, .inr (3, [r_rows, v_a_limbs, .ref a_a, .ref a_b, .ref a_c, .ref a_d, .ref a_f])), (a_a, .inl (cy 2, 10, .inr (.inl u0))), (a_b, .inl (cy 2, 10, .inr (.inl u1))), (o1, .inr (7, [.ref a1_x, .ref a1_y, .ref a1_z, .int u5, .int u6])), (a1_x, .inl (cy 2, 10, .inr (.inl u7))), (a1_y, .inl (cy 2, 10, .inr (.inl u8))), (o2, .inr (7, [.ref a2_x, .ref a2_y, .ref a2_z, .int i2_isNone, .int i2_isPlain])), (a2_z, .inl (cy 2, 10, .inr (.inl g2_z))), (a2_x, .inl (cy 2, 10, .inr (.inl g2_x))), (a_c, .inl (cy 2, 10, .inr (.inl f2))), (a1_z, .inl (cy 2, 10, .inr (.inl u9)))]) (va_runS (As := [.ref a2_y, .ref a_f, .ref a_d]) (rest := []) ⟨hx, hb, hml, hown, hts⟩ (c_Cu_multiply l D cy ad fu a2_y a_f a_d g2_y f3 u3 _ hc H.size) ⟨q_cB hts gw_1078 gw_4 gw_1076 hdc_18 ⟨by decide, by decide⟩, hts _ gw_1077⟩ (q_pre (hP.sub [8, 12, 3] rfl) (hD.sub [8, 12, 3] (by decide) rfl) hK hSt hS (va_free hD hS hA [8, 12, 3] rfl) _) rfl rfl hl.1 rfl (lv_room (Nat.le_of_ble_eq_true rfl)) d_Cu_add_82 ⟨Nat.le_of_ble_eq_true rfl, Nat.le_of_ble_eq_true rfl⟩) hP hD hS hA [8, 12, 3] [0, 1, 2, 4, 5, 6, 7, 9, 10, 11, 13] rfl rfl (by decide) (by decide) (fun H locs hP hD hS => ?_)
    clear hc
    have hP : va_P D classes [(o, .inr (3, [r_rows, v_a_limbs, .ref a_a, .ref a_b, .ref a_c, .ref a_d, .ref a_f])), (a_a, .inl (cy 2, 10, .inr (.inl u0))), (a_b, .inl (cy 2, 10, .inr (.inl u1))), (o1, .inr (7, [.ref a1_x, .ref a1_y, .ref a1_z, .int u5, .int u6])), (a1_x, .inl (cy 2, 10, .inr (.inl u7))), (a1_y, .inl (cy 2, 10, .inr (.inl u8))), (o2, .inr (7, [.ref a2_x, .ref a2_y, .ref a2_z, .int i2_isNone, .int i2_isPlain])), (a2_z, .inl (cy 2, 10, .inr (.inl g2_z))), (a2_x, .inl (cy 2, 10, .inr (.inl g2_x))), (a_c, .inl (cy 2, 10, .inr (.inl f2))), (a1_z, .inl (cy 2, 10, .inr (.inl u9))), (a2_y, .inl (cy 2, 10, .inr (.inl g2_y))), (a_f, .inl (cy 2, 10, .inr (.inl f3))), (a_d, .inl (cy 2, 10, .inr (.inl f4)))] H := hP
    have hD : va_D A [(o, .inr (3, [r_rows, v_a_limbs, .ref a_a, .ref a_b, .ref a_c, .ref a_d, .ref a_f])), (a_a, .inl (cy 2, 10, .inr (.inl u0))), (a_b, .inl (cy 2, 10, .inr (.inl u1))), (o1, .inr (7, [.ref a1_x, .ref a1_y, .ref a1_z, .int u5, .int u6])), (a1_x, .inl (cy 2, 10, .inr (.inl u7))), (a1_y, .inl (cy 2, 10, .inr (.inl u8))), (o2, .inr (7, [.ref a2_x, .ref a2_y, .ref a2_z, .int i2_isNone, .int i2_isPlain])), (a2_z, .inl (cy 2, 10, .inr (.inl g2_z))), (a2_x, .inl (cy 2, 10, .inr (.inl g2_x))), (a_c, .inl (cy 2, 10, .inr (.inl f2))), (a1_z, .inl (cy 2, 10, .inr (.inl u9))), (a2_y, .inl (cy 2, 10, .inr (.inl g2_y))), (a_f, .inl (cy 2, 10, .inr (.inl f3))), (a_d, .inl (cy 2, 10, .inr (.inl f4)))] := hD
    refine lv_aload_n hx hb d_Cu_add_85 rfl (lv_at hl 2 rfl) ?_
    refine va_get (D := D) (ci := 7) (v := .int i2_isPlain) (C := "CoinKeeper$Point") (T := F_7) (N := 5) hx hb hts i_7 hown hK hP 6 rfl rfl 4 (by decide) (hts _ gw_117) (fun _ h9 => h9) rfl d_Cu_add_86 ?_
    refine lv_if_eq (tgt := 125) hx hb d_Cu_add_89 (by decide) (fun cx => ?_) (fun cx => ?_)
    · have hf := ifp cx hf
      refine lv_aload_n hx hb d_Cu_add_125 rfl (lv_at hl 2 rfl) ?_
      refine va_get (D := D) (ci := 7) (v := .ref a2_z) (C := "CoinKeeper$Point") (T := F_7) (N := 5) hx hb hts i_7 hown hK hP 6 rfl rfl 2 (by decide) (hts _ gw_112) (fun _ h9 => h9) rfl d_Cu_add_126 ?_
      refine lv_aload_n hx hb d_Cu_add_129 rfl (lv_at hl 2 rfl) ?_
      refine va_get (D := D) (ci := 7) (v := .ref a2_z) (C := "CoinKeeper$Point") (T := F_7) (N := 5) hx hb hts i_7 hown hK hP 6 rfl rfl 2 (by decide) (hts _ gw_112) (fun _ h9 => h9) rfl d_Cu_add_130 ?_
      refine lv_aload_n hx hb d_Cu_add_133 rfl (lv_at hl 0 rfl) ?_
      refine va_get (D := D) (ci := 3) (v := .ref a_f) (C := "CoinKeeper$Curve") (T := F_3) (N := 7) hx hb hts i_3 hown hK hP 0 rfl rfl 6 (by decide) (hts _ gw_82) (fun _ h9 => h9) rfl d_Cu_add_134 ?_
      obtain ⟨f5, hc, hf⟩ := bdp1 hf
      refine q_av (wr := [(o, .inr (3, [r_rows, v_a_limbs, .ref a_a, .ref a_b, .ref a_c, .ref a_d, .ref a_f])), (a_a, .inl (cy 2, 10, .inr (.inl u0))), (a_b, .inl (cy 2, 10, .inr (.inl u1))), (o1, .inr (7, [.ref a1_x, .ref a1_y, .ref a1_z, .int u5, .int u6])), (a1_x, .inl (cy 2, 10, .inr (.inl u7))), (a1_y, .inl (cy 2, 10, .inr (.inl u8))), (o2, .inr (7, [.ref a2_x, .ref a2_y, .ref a2_z, .int i2_isNone, .int i2_isPlain])), (a2_x, .inl (cy 2, 10, .inr (.inl g2_x))), (a_c, .inl (cy 2, 10, .inr (.inl f2))), (a1_z, .inl (cy 2, 10, .inr (.inl u9))), (a2_y, .inl (cy 2, 10, .inr (.inl g2_y))), (a_d, .inl (cy 2, 10, .inr (.inl f4)))]) (va_runS (As := [.ref a2_z, .ref a2_z, .ref a_f]) (rest := []) ⟨hx, hb, hml, hown, hts⟩ (c_Cu_multiply_e10 l D cy ad fu a2_z a_f g2_z f3 _ hc H.size) ⟨q_cB hts gw_1078 gw_4 gw_1076 hdc_18 ⟨by decide, by decide⟩, hts _ gw_1077⟩ (q_pre (hP.sub [7, 12] rfl) (hD.sub [7, 12] (by decide) rfl) hK hSt hS (va_free hD hS hA [7, 12] rfl) _) rfl rfl hl.1 rfl (lv_room (Nat.le_of_ble_eq_true rfl)) d_Cu_add_137 ⟨Nat.le_of_ble_eq_true rfl, Nat.le_of_ble_eq_true rfl⟩) hP hD hS hA [7, 12] [0, 1, 2, 3, 4, 5, 6, 8, 9, 10, 11, 13] rfl rfl (by decide) (by decide) (fun H locs hP hD hS => ?_)
      clear hc
      have hP : va_P D classes [(o, .inr (3, [r_rows, v_a_limbs, .ref a_a, .ref a_b, .ref a_c, .ref a_d, .ref a_f])), (a_a, .inl (cy 2, 10, .inr (.inl u0))), (a_b, .inl (cy 2, 10, .inr (.inl u1))), (o1, .inr (7, [.ref a1_x, .ref a1_y, .ref a1_z, .int u5, .int u6])), (a1_x, .inl (cy 2, 10, .inr (.inl u7))), (a1_y, .inl (cy 2, 10, .inr (.inl u8))), (o2, .inr (7, [.ref a2_x, .ref a2_y, .ref a2_z, .int i2_isNone, .int i2_isPlain])), (a2_x, .inl (cy 2, 10, .inr (.inl g2_x))), (a_c, .inl (cy 2, 10, .inr (.inl f2))), (a1_z, .inl (cy 2, 10, .inr (.inl u9))), (a2_y, .inl (cy 2, 10, .inr (.inl g2_y))), (a_d, .inl (cy 2, 10, .inr (.inl f4))), (a2_z, .inl (cy 2, 10, .inr (.inl g2_z))), (a_f, .inl (cy 2, 10, .inr (.inl f5)))] H := hP
      have hD : va_D A [(o, .inr (3, [r_rows, v_a_limbs, .ref a_a, .ref a_b, .ref a_c, .ref a_d, .ref a_f])), (a_a, .inl (cy 2, 10, .inr (.inl u0))), (a_b, .inl (cy 2, 10, .inr (.inl u1))), (o1, .inr (7, [.ref a1_x, .ref a1_y, .ref a1_z, .int u5, .int u6])), (a1_x, .inl (cy 2, 10, .inr (.inl u7))), (a1_y, .inl (cy 2, 10, .inr (.inl u8))), (o2, .inr (7, [.ref a2_x, .ref a2_y, .ref a2_z, .int i2_isNone, .int i2_isPlain])), (a2_x, .inl (cy 2, 10, .inr (.inl g2_x))), (a_c, .inl (cy 2, 10, .inr (.inl f2))), (a1_z, .inl (cy 2, 10, .inr (.inl u9))), (a2_y, .inl (cy 2, 10, .inr (.inl g2_y))), (a_d, .inl (cy 2, 10, .inr (.inl f4))), (a2_z, .inl (cy 2, 10, .inr (.inl g2_z))), (a_f, .inl (cy 2, 10, .inr (.inl f5)))] := hD
      refine lv_aload_n hx hb d_Cu_add_140 rfl (lv_at hl 1 rfl) ?_
      refine va_get (D := D) (ci := 7) (v := .ref a1_x) (C := "CoinKeeper$Point") (T := F_7) (N := 5) hx hb hts i_7 hown hK hP 3 rfl rfl 0 (by decide) (hts _ gw_108) (fun _ h9 => h9) rfl d_Cu_add_141 ?_
      refine lv_aload_n hx hb d_Cu_add_144 rfl (lv_at hl 0 rfl) ?_
      refine va_get (D := D) (ci := 3) (v := .ref a_f) (C := "CoinKeeper$Curve") (T := F_3) (N := 7) hx hb hts i_3 hown hK hP 0 rfl rfl 6 (by decide) (hts _ gw_82) (fun _ h9 => h9) rfl d_Cu_add_145 ?_
      refine lv_aload_n hx hb d_Cu_add_148 rfl (lv_at hl 0 rfl) ?_
      refine va_get (D := D) (ci := 3) (v := .ref a_a) (C := "CoinKeeper$Curve") (T := F_3) (N := 7) hx hb hts i_3 hown hK hP 0 rfl rfl 2 (by decide) (hts _ gw_78) (fun _ h9 => h9) rfl d_Cu_add_149 ?_
      obtain ⟨f6, hc, hf⟩ := bdp1 hf
      refine q_av (wr := [(o, .inr (3, [r_rows, v_a_limbs, .ref a_a, .ref a_b, .ref a_c, .ref a_d, .ref a_f])), (a_b, .inl (cy 2, 10, .inr (.inl u1))), (o1, .inr (7, [.ref a1_x, .ref a1_y, .ref a1_z, .int u5, .int u6])), (a1_y, .inl (cy 2, 10, .inr (.inl u8))), (o2, .inr (7, [.ref a2_x, .ref a2_y, .ref a2_z, .int i2_isNone, .int i2_isPlain])), (a2_x, .inl (cy 2, 10, .inr (.inl g2_x))), (a_c, .inl (cy 2, 10, .inr (.inl f2))), (a1_z, .inl (cy 2, 10, .inr (.inl u9))), (a2_y, .inl (cy 2, 10, .inr (.inl g2_y))), (a_d, .inl (cy 2, 10, .inr (.inl f4))), (a2_z, .inl (cy 2, 10, .inr (.inl g2_z)))]) (va_runS (As := [.ref a1_x, .ref a_f, .ref a_a]) (rest := []) ⟨hx, hb, hml, hown, hts⟩ (c_Cu_multiply l D cy ad fu a1_x a_f a_a u7 f5 u0 _ hc H.size) ⟨q_cB hts gw_1078 gw_4 gw_1076 hdc_18 ⟨by decide, by decide⟩, hts _ gw_1077⟩ (q_pre (hP.sub [4, 13, 1] rfl) (hD.sub [4, 13, 1] (by decide) rfl) hK hSt hS (va_free hD hS hA [4, 13, 1] rfl) _) rfl rfl hl.1 rfl (lv_room (Nat.le_of_ble_eq_true rfl)) d_Cu_add_152 ⟨Nat.le_of_ble_eq_true rfl, Nat.le_of_ble_eq_true rfl⟩) hP hD hS hA [4, 13, 1] [0, 2, 3, 5, 6, 7, 8, 9, 10, 11, 12] rfl rfl (by decide) (by decide) (fun H locs hP hD hS => ?_)
      clear hc
      have hP : va_P D classes [(o, .inr (3, [r_rows, v_a_limbs, .ref a_a, .ref a_b, .ref a_c, .ref a_d, .ref a_f])), (a_b, .inl (cy 2, 10, .inr (.inl u1))), (o1, .inr (7, [.ref a1_x, .ref a1_y, .ref a1_z, .int u5, .int u6])), (a1_y, .inl (cy 2, 10, .inr (.inl u8))), (o2, .inr (7, [.ref a2_x, .ref a2_y, .ref a2_z, .int i2_isNone, .int i2_isPlain])), (a2_x, .inl (cy 2, 10, .inr (.inl g2_x))), (a_c, .inl (cy 2, 10, .inr (.inl f2))), (a1_z, .inl (cy 2, 10, .inr (.inl u9))), (a2_y, .inl (cy 2, 10, .inr (.inl g2_y))), (a_d, .inl (cy 2, 10, .inr (.inl f4))), (a2_z, .inl (cy 2, 10, .inr (.inl g2_z))), (a1_x, .inl (cy 2, 10, .inr (.inl u7))), (a_f, .inl (cy 2, 10, .inr (.inl f5))), (a_a, .inl (cy 2, 10, .inr (.inl f6)))] H := hP
      have hD : va_D A [(o, .inr (3, [r_rows, v_a_limbs, .ref a_a, .ref a_b, .ref a_c, .ref a_d, .ref a_f])), (a_b, .inl (cy 2, 10, .inr (.inl u1))), (o1, .inr (7, [.ref a1_x, .ref a1_y, .ref a1_z, .int u5, .int u6])), (a1_y, .inl (cy 2, 10, .inr (.inl u8))), (o2, .inr (7, [.ref a2_x, .ref a2_y, .ref a2_z, .int i2_isNone, .int i2_isPlain])), (a2_x, .inl (cy 2, 10, .inr (.inl g2_x))), (a_c, .inl (cy 2, 10, .inr (.inl f2))), (a1_z, .inl (cy 2, 10, .inr (.inl u9))), (a2_y, .inl (cy 2, 10, .inr (.inl g2_y))), (a_d, .inl (cy 2, 10, .inr (.inl f4))), (a2_z, .inl (cy 2, 10, .inr (.inl g2_z))), (a1_x, .inl (cy 2, 10, .inr (.inl u7))), (a_f, .inl (cy 2, 10, .inr (.inl f5))), (a_a, .inl (cy 2, 10, .inr (.inl f6)))] := hD
      refine lv_aload_n hx hb d_Cu_add_155 rfl (lv_at hl 0 rfl) ?_
      refine va_get (D := D) (ci := 3) (v := .ref a_f) (C := "CoinKeeper$Curve") (T := F_3) (N := 7) hx hb hts i_3 hown hK hP 0 rfl rfl 6 (by decide) (hts _ gw_82) (fun _ h9 => h9) rfl d_Cu_add_156 ?_
      refine lv_aload_n hx hb d_Cu_add_159 rfl (lv_at hl 2 rfl) ?_
      refine va_get (D := D) (ci := 7) (v := .ref a2_z) (C := "CoinKeeper$Point") (T := F_7) (N := 5) hx hb hts i_7 hown hK hP 4 rfl rfl 2 (by decide) (hts _ gw_112) (fun _ h9 => h9) rfl d_Cu_add_160 ?_
      refine lv_aload_n hx hb d_Cu_add_163 rfl (lv_at hl 0 rfl) ?_
      refine va_get (D := D) (ci := 3) (v := .ref a_f) (C := "CoinKeeper$Curve") (T := F_3) (N := 7) hx hb hts i_3 hown hK hP 0 rfl rfl 6 (by decide) (hts _ gw_82) (fun _ h9 => h9) rfl d_Cu_add_164 ?_
      obtain ⟨f7, hc, hf⟩ := bdp1 hf
      refine q_av (wr := [(o, .inr (3, [r_rows, v_a_limbs, .ref a_a, .ref a_b, .ref a_c, .ref a_d, .ref a_f])), (a_b, .inl (cy 2, 10, .inr (.inl u1))), (o1, .inr (7, [.ref a1_x, .ref a1_y, .ref a1_z, .int u5, .int u6])), (a1_y, .inl (cy 2, 10, .inr (.inl u8))), (o2, .inr (7, [.ref a2_x, .ref a2_y, .ref a2_z, .int i2_isNone, .int i2_isPlain])), (a2_x, .inl (cy 2, 10, .inr (.inl g2_x))), (a_c, .inl (cy 2, 10, .inr (.inl f2))), (a1_z, .inl (cy 2, 10, .inr (.inl u9))), (a2_y, .inl (cy 2, 10, .inr (.inl g2_y))), (a_d, .inl (cy 2, 10, .inr (.inl f4))), (a1_x, .inl (cy 2, 10, .inr (.inl u7))), (a_a, .inl (cy 2, 10, .inr (.inl f6)))]) (va_runS (As := [.ref a_f, .ref a2_z, .ref a_f]) (rest := []) ⟨hx, hb, hml, hown, hts⟩ (c_Cu_multiply_e20 l D cy ad fu a_f a2_z g2_z f5 _ hc H.size) ⟨q_cB hts gw_1078 gw_4 gw_1076 hdc_18 ⟨by decide, by decide⟩, hts _ gw_1077⟩ (q_pre (hP.sub [12, 10] rfl) (hD.sub [12, 10] (by decide) rfl) hK hSt hS (va_free hD hS hA [12, 10] rfl) _) rfl rfl hl.1 rfl (lv_room (Nat.le_of_ble_eq_true rfl)) d_Cu_add_167 ⟨Nat.le_of_ble_eq_true rfl, Nat.le_of_ble_eq_true rfl⟩) hP hD hS hA [12, 10] [0, 1, 2, 3, 4, 5, 6, 7, 8, 9, 11, 13] rfl rfl (by decide) (by decide) (fun H locs hP hD hS => ?_)
      clear hc
      have hP : va_P D classes [(o, .inr (3, [r_rows, v_a_limbs, .ref a_a, .ref a_b, .ref a_c, .ref a_d, .ref a_f])), (a_b, .inl (cy 2, 10, .inr (.inl u1))), (o1, .inr (7, [.ref a1_x, .ref a1_y, .ref a1_z, .int u5, .int u6])), (a1_y, .inl (cy 2, 10, .inr (.inl u8))), (o2, .inr (7, [.ref a2_x, .ref a2_y, .ref a2_z, .int i2_isNone, .int i2_isPlain])), (a2_x, .inl (cy 2, 10, .inr (.inl g2_x))), (a_c, .inl (cy 2, 10, .inr (.inl f2))), (a1_z, .inl (cy 2, 10, .inr (.inl u9))), (a2_y, .inl (cy 2, 10, .inr (.inl g2_y))), (a_d, .inl (cy 2, 10, .inr (.inl f4))), (a1_x, .inl (cy 2, 10, .inr (.inl u7))), (a_a, .inl (cy 2, 10, .inr (.inl f6))), (a_f, .inl (cy 2, 10, .inr (.inl f7))), (a2_z, .inl (cy 2, 10, .inr (.inl g2_z)))] H := hP
      have hD : va_D A [(o, .inr (3, [r_rows, v_a_limbs, .ref a_a, .ref a_b, .ref a_c, .ref a_d, .ref a_f])), (a_b, .inl (cy 2, 10, .inr (.inl u1))), (o1, .inr (7, [.ref a1_x, .ref a1_y, .ref a1_z, .int u5, .int u6])), (a1_y, .inl (cy 2, 10, .inr (.inl u8))), (o2, .inr (7, [.ref a2_x, .ref a2_y, .ref a2_z, .int i2_isNone, .int i2_isPlain])), (a2_x, .inl (cy 2, 10, .inr (.inl g2_x))), (a_c, .inl (cy 2, 10, .inr (.inl f2))), (a1_z, .inl (cy 2, 10, .inr (.inl u9))), (a2_y, .inl (cy 2, 10, .inr (.inl g2_y))), (a_d, .inl (cy 2, 10, .inr (.inl f4))), (a1_x, .inl (cy 2, 10, .inr (.inl u7))), (a_a, .inl (cy 2, 10, .inr (.inl f6))), (a_f, .inl (cy 2, 10, .inr (.inl f7))), (a2_z, .inl (cy 2, 10, .inr (.inl g2_z)))] := hD
      refine lv_aload_n hx hb d_Cu_add_170 rfl (lv_at hl 1 rfl) ?_
      refine va_get (D := D) (ci := 7) (v := .ref a1_y) (C := "CoinKeeper$Point") (T := F_7) (N := 5) hx hb hts i_7 hown hK hP 2 rfl rfl 1 (by decide) (hts _ gw_110) (fun _ h9 => h9) rfl d_Cu_add_171 ?_
      refine lv_aload_n hx hb d_Cu_add_174 rfl (lv_at hl 0 rfl) ?_
      refine va_get (D := D) (ci := 3) (v := .ref a_f) (C := "CoinKeeper$Curve") (T := F_3) (N := 7) hx hb hts i_3 hown hK hP 0 rfl rfl 6 (by decide) (hts _ gw_82) (fun _ h9 => h9) rfl d_Cu_add_175 ?_
      refine lv_aload_n hx hb d_Cu_add_178 rfl (lv_at hl 0 rfl) ?_
      refine va_get (D := D) (ci := 3) (v := .ref a_b) (C := "CoinKeeper$Curve") (T := F_3) (N := 7) hx hb hts i_3 hown hK hP 0 rfl rfl 3 (by decide) (hts _ gw_79) (fun _ h9 => h9) rfl d_Cu_add_179 ?_
      obtain ⟨f8, hc, hf⟩ := bdp1 hf
      refine q_av (wr := [(o, .inr (3, [r_rows, v_a_limbs, .ref a_a, .ref a_b, .ref a_c, .ref a_d, .ref a_f])), (o1, .inr (7, [.ref a1_x, .ref a1_y, .ref a1_z, .int u5, .int u6])), (o2, .inr (7, [.ref a2_x, .ref a2_y, .ref a2_z, .int i2_isNone, .int i2_isPlain])), (a2_x, .inl (cy 2, 10, .inr (.inl g2_x))), (a_c, .inl (cy 2, 10, .inr (.inl f2))), (a1_z, .inl (cy 2, 10, .inr (.inl u9))), (a2_y, .inl (cy 2, 10, .inr (.inl g2_y))), (a_d, .inl (cy 2, 10, .inr (.inl f4))), (a1_x, .inl (cy 2, 10, .inr (.inl u7))), (a_a, .inl (cy 2, 10, .inr (.inl f6))), (a2_z, .inl (cy 2, 10, .inr (.inl g2_z)))]) (va_runS (As := [.ref a1_y, .ref a_f, .ref a_b]) (rest := []) ⟨hx, hb, hml, hown, hts⟩ (c_Cu_multiply l D cy ad fu a1_y a_f a_b u8 f7 u1 _ hc H.size) ⟨q_cB hts gw_1078 gw_4 gw_1076 hdc_18 ⟨by decide, by decide⟩, hts _ gw_1077⟩ (q_pre (hP.sub [3, 12, 1] rfl) (hD.sub [3, 12, 1] (by decide) rfl) hK hSt hS (va_free hD hS hA [3, 12, 1] rfl) _) rfl rfl hl.1 rfl (lv_room (Nat.le_of_ble_eq_true rfl)) d_Cu_add_182 ⟨Nat.le_of_ble_eq_true rfl, Nat.le_of_ble_eq_true rfl⟩) hP hD hS hA [3, 12, 1] [0, 2, 4, 5, 6, 7, 8, 9, 10, 11, 13] rfl rfl (by decide) (by decide) (fun H locs hP hD hS => ?_)
      clear hc
      have hP : va_P D classes [(o, .inr (3, [r_rows, v_a_limbs, .ref a_a, .ref a_b, .ref a_c, .ref a_d, .ref a_f])), (o1, .inr (7, [.ref a1_x, .ref a1_y, .ref a1_z, .int u5, .int u6])), (o2, .inr (7, [.ref a2_x, .ref a2_y, .ref a2_z, .int i2_isNone, .int i2_isPlain])), (a2_x, .inl (cy 2, 10, .inr (.inl g2_x))), (a_c, .inl (cy 2, 10, .inr (.inl f2))), (a1_z, .inl (cy 2, 10, .inr (.inl u9))), (a2_y, .inl (cy 2, 10, .inr (.inl g2_y))), (a_d, .inl (cy 2, 10, .inr (.inl f4))), (a1_x, .inl (cy 2, 10, .inr (.inl u7))), (a_a, .inl (cy 2, 10, .inr (.inl f6))), (a2_z, .inl (cy 2, 10, .inr (.inl g2_z))), (a1_y, .inl (cy 2, 10, .inr (.inl u8))), (a_f, .inl (cy 2, 10, .inr (.inl f7))), (a_b, .inl (cy 2, 10, .inr (.inl f8)))] H := hP
      have hD : va_D A [(o, .inr (3, [r_rows, v_a_limbs, .ref a_a, .ref a_b, .ref a_c, .ref a_d, .ref a_f])), (o1, .inr (7, [.ref a1_x, .ref a1_y, .ref a1_z, .int u5, .int u6])), (o2, .inr (7, [.ref a2_x, .ref a2_y, .ref a2_z, .int i2_isNone, .int i2_isPlain])), (a2_x, .inl (cy 2, 10, .inr (.inl g2_x))), (a_c, .inl (cy 2, 10, .inr (.inl f2))), (a1_z, .inl (cy 2, 10, .inr (.inl u9))), (a2_y, .inl (cy 2, 10, .inr (.inl g2_y))), (a_d, .inl (cy 2, 10, .inr (.inl f4))), (a1_x, .inl (cy 2, 10, .inr (.inl u7))), (a_a, .inl (cy 2, 10, .inr (.inl f6))), (a2_z, .inl (cy 2, 10, .inr (.inl g2_z))), (a1_y, .inl (cy 2, 10, .inr (.inl u8))), (a_f, .inl (cy 2, 10, .inr (.inl f7))), (a_b, .inl (cy 2, 10, .inr (.inl f8)))] := hD
      exact wb_Cu_add_185 (fu := fu) F _ _ _ _ _ _ _ _ _ _ _ _ hf _ _ _ (hP.sub (ws' := [(o, .inr (3, [r_rows, v_a_limbs, .ref a_a, .ref a_b, .ref a_c, .ref a_d, .ref a_f])), (a_a, .inl (cy 2, 10, .inr (.inl f6))), (a_b, .inl (cy 2, 10, .inr (.inl f8))), (a_c, .inl (cy 2, 10, .inr (.inl f2))), (a_d, .inl (cy 2, 10, .inr (.inl f4))), (a_f, .inl (cy 2, 10, .inr (.inl f7))), (o1, .inr (7, [.ref a1_x, .ref a1_y, .ref a1_z, .int u5, .int u6])), (a1_x, .inl (cy 2, 10, .inr (.inl u7))), (a1_y, .inl (cy 2, 10, .inr (.inl u8))), (a1_z, .inl (cy 2, 10, .inr (.inl u9))), (o2, .inr (7, [.ref a2_x, .ref a2_y, .ref a2_z, .int i2_isNone, .int i2_isPlain])), (a2_x, .inl (cy 2, 10, .inr (.inl g2_x))), (a2_y, .inl (cy 2, 10, .inr (.inl g2_y))), (a2_z, .inl (cy 2, 10, .inr (.inl g2_z)))]) [0, 9, 13, 4, 7, 12, 1, 8, 11, 5, 2, 3, 6, 10] rfl) (hD.sub (ws' := [(o, .inr (3, [r_rows, v_a_limbs, .ref a_a, .ref a_b, .ref a_c, .ref a_d, .ref a_f])), (a_a, .inl (cy 2, 10, .inr (.inl f6))), (a_b, .inl (cy 2, 10, .inr (.inl f8))), (a_c, .inl (cy 2, 10, .inr (.inl f2))), (a_d, .inl (cy 2, 10, .inr (.inl f4))), (a_f, .inl (cy 2, 10, .inr (.inl f7))), (o1, .inr (7, [.ref a1_x, .ref a1_y, .ref a1_z, .int u5, .int u6])), (a1_x, .inl (cy 2, 10, .inr (.inl u7))), (a1_y, .inl (cy 2, 10, .inr (.inl u8))), (a1_z, .inl (cy 2, 10, .inr (.inl u9))), (o2, .inr (7, [.ref a2_x, .ref a2_y, .ref a2_z, .int i2_isNone, .int i2_isPlain])), (a2_x, .inl (cy 2, 10, .inr (.inl g2_x))), (a2_y, .inl (cy 2, 10, .inr (.inl g2_y))), (a2_z, .inl (cy 2, 10, .inr (.inl g2_z)))]) [0, 9, 13, 4, 7, 12, 1, 8, 11, 5, 2, 3, 6, 10] (by decide) rfl) hS (lv_sub hl [0, 1, 2, 3] rfl)
    · have hf := ifn cx hf
      refine lv_aload_n hx hb d_Cu_add_92 rfl (lv_at hl 1 rfl) ?_
      refine va_get (D := D) (ci := 7) (v := .ref a1_x) (C := "CoinKeeper$Point") (T := F_7) (N := 5) hx hb hts i_7 hown hK hP 3 rfl rfl 0 (by decide) (hts _ gw_108) (fun _ h9 => h9) rfl d_Cu_add_93 ?_
      refine lv_iconst (v := 0) hx hb d_Cu_add_96 (by decide) ?_
      refine lv_aload_n hx hb d_Cu_add_97 rfl (lv_at hl 0 rfl) ?_
      refine va_get (D := D) (ci := 3) (v := .ref a_a) (C := "CoinKeeper$Curve") (T := F_3) (N := 7) hx hb hts i_3 hown hK hP 0 rfl rfl 2 (by decide) (hts _ gw_78) (fun _ h9 => h9) rfl d_Cu_add_98 ?_
      refine lv_iconst (v := 0) hx hb d_Cu_add_101 (by decide) ?_
      refine lv_bipush (v := 10) hx hb d_Cu_add_102 (by decide) ?_
      obtain ⟨hg, hf⟩ := gdp hf
      refine va_copyl (rest := []) hx hb (hml.trans hl.1.symm) hown (hts _ gw_1090) (hts _ gw_497) (hts _ gw_496) (hts _ gw_17) hK hP hD hS 4 1 2 2 rfl rfl rfl rfl rfl (cpk_p hg).1 (cpk_p hg).2.1 (cpk_p hg).2.2.1 (cpk_p hg).2.2.2.1 (cpk_p hg).2.2.2.2 (fun _ _ => rfl) (by decide) (by decide) d_Cu_add_104 (fun H locs hP hD hS => ?_)
      obtain ⟨f9, ev, hf⟩ := bne hf
      have hP : va_P D classes [(o, .inr (3, [r_rows, v_a_limbs, .ref a_a, .ref a_b, .ref a_c, .ref a_d, .ref a_f])), (a_a, .inl (cy 2, 10, .inr (.inl f9))), (a_b, .inl (cy 2, 10, .inr (.inl u1))), (o1, .inr (7, [.ref a1_x, .ref a1_y, .ref a1_z, .int u5, .int u6])), (a1_x, .inl (cy 2, 10, .inr (.inl u7))), (a1_y, .inl (cy 2, 10, .inr (.inl u8))), (o2, .inr (7, [.ref a2_x, .ref a2_y, .ref a2_z, .int i2_isNone, .int i2_isPlain])), (a2_z, .inl (cy 2, 10, .inr (.inl g2_z))), (a2_x, .inl (cy 2, 10, .inr (.inl g2_x))), (a_c, .inl (cy 2, 10, .inr (.inl f2))), (a1_z, .inl (cy 2, 10, .inr (.inl u9))), (a2_y, .inl (cy 2, 10, .inr (.inl g2_y))), (a_f, .inl (cy 2, 10, .inr (.inl f3))), (a_d, .inl (cy 2, 10, .inr (.inl f4)))] H := by rw [ev]; exact hP
      have hD : va_D A [(o, .inr (3, [r_rows, v_a_limbs, .ref a_a, .ref a_b, .ref a_c, .ref a_d, .ref a_f])), (a_a, .inl (cy 2, 10, .inr (.inl f9))), (a_b, .inl (cy 2, 10, .inr (.inl u1))), (o1, .inr (7, [.ref a1_x, .ref a1_y, .ref a1_z, .int u5, .int u6])), (a1_x, .inl (cy 2, 10, .inr (.inl u7))), (a1_y, .inl (cy 2, 10, .inr (.inl u8))), (o2, .inr (7, [.ref a2_x, .ref a2_y, .ref a2_z, .int i2_isNone, .int i2_isPlain])), (a2_z, .inl (cy 2, 10, .inr (.inl g2_z))), (a2_x, .inl (cy 2, 10, .inr (.inl g2_x))), (a_c, .inl (cy 2, 10, .inr (.inl f2))), (a1_z, .inl (cy 2, 10, .inr (.inl u9))), (a2_y, .inl (cy 2, 10, .inr (.inl g2_y))), (a_f, .inl (cy 2, 10, .inr (.inl f3))), (a_d, .inl (cy 2, 10, .inr (.inl f4)))] := by rw [ev]; exact hD
      clear ev
      refine lv_aload_n hx hb d_Cu_add_107 rfl (lv_at hl 1 rfl) ?_
      refine va_get (D := D) (ci := 7) (v := .ref a1_y) (C := "CoinKeeper$Point") (T := F_7) (N := 5) hx hb hts i_7 hown hK hP 3 rfl rfl 1 (by decide) (hts _ gw_110) (fun _ h9 => h9) rfl d_Cu_add_108 ?_
      refine lv_iconst (v := 0) hx hb d_Cu_add_111 (by decide) ?_
      refine lv_aload_n hx hb d_Cu_add_112 rfl (lv_at hl 0 rfl) ?_
      refine va_get (D := D) (ci := 3) (v := .ref a_b) (C := "CoinKeeper$Curve") (T := F_3) (N := 7) hx hb hts i_3 hown hK hP 0 rfl rfl 3 (by decide) (hts _ gw_79) (fun _ h9 => h9) rfl d_Cu_add_113 ?_
      refine lv_iconst (v := 0) hx hb d_Cu_add_116 (by decide) ?_
      refine lv_bipush (v := 10) hx hb d_Cu_add_117 (by decide) ?_
      obtain ⟨hg, hf⟩ := gdp hf
      refine va_copyl (rest := []) hx hb (hml.trans hl.1.symm) hown (hts _ gw_1090) (hts _ gw_497) (hts _ gw_496) (hts _ gw_17) hK hP hD hS 5 2 2 2 rfl rfl rfl rfl rfl (cpk_p hg).1 (cpk_p hg).2.1 (cpk_p hg).2.2.1 (cpk_p hg).2.2.2.1 (cpk_p hg).2.2.2.2 (fun _ _ => rfl) (by decide) (by decide) d_Cu_add_119 (fun H locs hP hD hS => ?_)
      obtain ⟨f10, ev, hf⟩ := bne hf
      have hP : va_P D classes [(o, .inr (3, [r_rows, v_a_limbs, .ref a_a, .ref a_b, .ref a_c, .ref a_d, .ref a_f])), (a_a, .inl (cy 2, 10, .inr (.inl f9))), (a_b, .inl (cy 2, 10, .inr (.inl f10))), (o1, .inr (7, [.ref a1_x, .ref a1_y, .ref a1_z, .int u5, .int u6])), (a1_x, .inl (cy 2, 10, .inr (.inl u7))), (a1_y, .inl (cy 2, 10, .inr (.inl u8))), (o2, .inr (7, [.ref a2_x, .ref a2_y, .ref a2_z, .int i2_isNone, .int i2_isPlain])), (a2_z, .inl (cy 2, 10, .inr (.inl g2_z))), (a2_x, .inl (cy 2, 10, .inr (.inl g2_x))), (a_c, .inl (cy 2, 10, .inr (.inl f2))), (a1_z, .inl (cy 2, 10, .inr (.inl u9))), (a2_y, .inl (cy 2, 10, .inr (.inl g2_y))), (a_f, .inl (cy 2, 10, .inr (.inl f3))), (a_d, .inl (cy 2, 10, .inr (.inl f4)))] H := by rw [ev]; exact hP
      have hD : va_D A [(o, .inr (3, [r_rows, v_a_limbs, .ref a_a, .ref a_b, .ref a_c, .ref a_d, .ref a_f])), (a_a, .inl (cy 2, 10, .inr (.inl f9))), (a_b, .inl (cy 2, 10, .inr (.inl f10))), (o1, .inr (7, [.ref a1_x, .ref a1_y, .ref a1_z, .int u5, .int u6])), (a1_x, .inl (cy 2, 10, .inr (.inl u7))), (a1_y, .inl (cy 2, 10, .inr (.inl u8))), (o2, .inr (7, [.ref a2_x, .ref a2_y, .ref a2_z, .int i2_isNone, .int i2_isPlain])), (a2_z, .inl (cy 2, 10, .inr (.inl g2_z))), (a2_x, .inl (cy 2, 10, .inr (.inl g2_x))), (a_c, .inl (cy 2, 10, .inr (.inl f2))), (a1_z, .inl (cy 2, 10, .inr (.inl u9))), (a2_y, .inl (cy 2, 10, .inr (.inl g2_y))), (a_f, .inl (cy 2, 10, .inr (.inl f3))), (a_d, .inl (cy 2, 10, .inr (.inl f4)))] := by rw [ev]; exact hD
      clear ev
      refine lv_goto (tgt := 185) hx hb d_Cu_add_122 (by decide) ?_
      exact wb_Cu_add_185 (fu := fu) F _ _ _ _ _ _ _ _ _ _ _ _ hf _ _ _ (hP.sub (ws' := [(o, .inr (3, [r_rows, v_a_limbs, .ref a_a, .ref a_b, .ref a_c, .ref a_d, .ref a_f])), (a_a, .inl (cy 2, 10, .inr (.inl f9))), (a_b, .inl (cy 2, 10, .inr (.inl f10))), (a_c, .inl (cy 2, 10, .inr (.inl f2))), (a_d, .inl (cy 2, 10, .inr (.inl f4))), (a_f, .inl (cy 2, 10, .inr (.inl f3))), (o1, .inr (7, [.ref a1_x, .ref a1_y, .ref a1_z, .int u5, .int u6])), (a1_x, .inl (cy 2, 10, .inr (.inl u7))), (a1_y, .inl (cy 2, 10, .inr (.inl u8))), (a1_z, .inl (cy 2, 10, .inr (.inl u9))), (o2, .inr (7, [.ref a2_x, .ref a2_y, .ref a2_z, .int i2_isNone, .int i2_isPlain])), (a2_x, .inl (cy 2, 10, .inr (.inl g2_x))), (a2_y, .inl (cy 2, 10, .inr (.inl g2_y))), (a2_z, .inl (cy 2, 10, .inr (.inl g2_z)))]) [0, 1, 2, 9, 13, 12, 3, 4, 5, 10, 6, 8, 11, 7] rfl) (hD.sub (ws' := [(o, .inr (3, [r_rows, v_a_limbs, .ref a_a, .ref a_b, .ref a_c, .ref a_d, .ref a_f])), (a_a, .inl (cy 2, 10, .inr (.inl f9))), (a_b, .inl (cy 2, 10, .inr (.inl f10))), (a_c, .inl (cy 2, 10, .inr (.inl f2))), (a_d, .inl (cy 2, 10, .inr (.inl f4))), (a_f, .inl (cy 2, 10, .inr (.inl f3))), (o1, .inr (7, [.ref a1_x, .ref a1_y, .ref a1_z, .int u5, .int u6])), (a1_x, .inl (cy 2, 10, .inr (.inl u7))), (a1_y, .inl (cy 2, 10, .inr (.inl u8))), (a1_z, .inl (cy 2, 10, .inr (.inl u9))), (o2, .inr (7, [.ref a2_x, .ref a2_y, .ref a2_z, .int i2_isNone, .int i2_isPlain])), (a2_x, .inl (cy 2, 10, .inr (.inl g2_x))), (a2_y, .inl (cy 2, 10, .inr (.inl g2_y))), (a2_z, .inl (cy 2, 10, .inr (.inl g2_z)))]) [0, 1, 2, 9, 13, 12, 3, 4, 5, 10, 6, 8, 11, 7] (by decide) rfl) hS (lv_sub hl [0, 1, 2, 3] rfl)
  · have hf := ifn cx hf
    refine lv_aload_n hx hb d_Cu_add_7 rfl (lv_at hl 1 rfl) ?_
    refine lv_aload_n hx hb d_Cu_add_8 rfl (lv_at hl 2 rfl) ?_
    obtain ⟨e11, e12, f13, f14, f15, hc, hf⟩ := bdp5 hf
    refine q_av (wr := [(o, .inr (3, [r_rows, v_a_limbs, .ref a_a, .ref a_b, .ref a_c, .ref a_d, .ref a_f])), (a_a, .inl (cy 2, 10, .inr (.inl u0))), (a_b, .inl (cy 2, 10, .inr (.inl u1))), (a_c, .inl (cy 2, 10, .inr (.inl u2))), (a_d, .inl (cy 2, 10, .inr (.inl u3))), (a_f, .inl (cy 2, 10, .inr (.inl u4)))]) (va_runV (C := "CoinKeeper$Point") (As := [.ref o2]) (rest := []) ⟨hx, hb, hml, hown, hts⟩ (c_Po_become l D cy ad fu o1 a1_x a1_y a1_z o2 a2_x a2_y a2_z i2_isNone i2_isPlain g2_x g2_y g2_z u5 u6 u7 u8 u9 _ hc H.size) ⟨q_cB hts gw_1140 gw_5 gw_1154 hdc_19 ⟨by decide, by decide⟩, hts _ gw_1138, hts _ gw_1139⟩ (q_preV (q_pre (hP.sub [6, 7, 8, 9, 10, 11, 12, 13] rfl) (hD.sub [6, 7, 8, 9, 10, 11, 12, 13] (by decide) rfl) hK hSt hS (va_free hD hS hA [6, 7, 8, 9, 10, 11, 12, 13] rfl) _) (va_recv hK (hP.sub [6, 7, 8, 9, 10, 11, 12, 13] rfl) (ci := 7) (q0 := 0) rfl rfl)) rfl rfl hl.1 rfl (lv_room (Nat.le_of_ble_eq_true rfl)) d_Cu_add_9 ⟨Nat.le_of_ble_eq_true rfl, Nat.le_of_ble_eq_true rfl⟩) hP hD hS hA [6, 7, 8, 9, 10, 11, 12, 13] [0, 1, 2, 3, 4, 5] rfl rfl (by decide) (by decide) (fun H locs hP hD hS => ?_)
    clear hc
    have hP : va_P D classes [(o, .inr (3, [r_rows, v_a_limbs, .ref a_a, .ref a_b, .ref a_c, .ref a_d, .ref a_f])), (a_a, .inl (cy 2, 10, .inr (.inl u0))), (a_b, .inl (cy 2, 10, .inr (.inl u1))), (a_c, .inl (cy 2, 10, .inr (.inl u2))), (a_d, .inl (cy 2, 10, .inr (.inl u3))), (a_f, .inl (cy 2, 10, .inr (.inl u4))), (o1, .inr (7, [.ref a1_x, .ref a1_y, .ref a1_z, .int e11, .int e12])), (a1_x, .inl (cy 2, 10, .inr (.inl f13))), (a1_y, .inl (cy 2, 10, .inr (.inl f14))), (a1_z, .inl (cy 2, 10, .inr (.inl f15))), (o2, .inr (7, [.ref a2_x, .ref a2_y, .ref a2_z, .int i2_isNone, .int i2_isPlain])), (a2_x, .inl (cy 2, 10, .inr (.inl g2_x))), (a2_y, .inl (cy 2, 10, .inr (.inl g2_y))), (a2_z, .inl (cy 2, 10, .inr (.inl g2_z)))] H := hP
    have hD : va_D A [(o, .inr (3, [r_rows, v_a_limbs, .ref a_a, .ref a_b, .ref a_c, .ref a_d, .ref a_f])), (a_a, .inl (cy 2, 10, .inr (.inl u0))), (a_b, .inl (cy 2, 10, .inr (.inl u1))), (a_c, .inl (cy 2, 10, .inr (.inl u2))), (a_d, .inl (cy 2, 10, .inr (.inl u3))), (a_f, .inl (cy 2, 10, .inr (.inl u4))), (o1, .inr (7, [.ref a1_x, .ref a1_y, .ref a1_z, .int e11, .int e12])), (a1_x, .inl (cy 2, 10, .inr (.inl f13))), (a1_y, .inl (cy 2, 10, .inr (.inl f14))), (a1_z, .inl (cy 2, 10, .inr (.inl f15))), (o2, .inr (7, [.ref a2_x, .ref a2_y, .ref a2_z, .int i2_isNone, .int i2_isPlain])), (a2_x, .inl (cy 2, 10, .inr (.inl g2_x))), (a2_y, .inl (cy 2, 10, .inr (.inl g2_y))), (a2_z, .inl (cy 2, 10, .inr (.inl g2_z)))] := hD
    refine lv_iload_n hx hb d_Cu_add_12 rfl (lv_at hl 3 rfl) ?_
    refine lv_if_eq (tgt := 23) hx hb d_Cu_add_13 (by decide) (fun cx => ?_) (fun cx => ?_)
    · have hf := ifp cx hf
      refine lv_iconst (v := 1) hx hb d_Cu_add_23 (by decide) ?_
      obtain rfl := Option.some.inj hf
      exact q_rz hx hb hr hlocks hK hP hD hS (isb_n (v := 1) (by decide)) d_Cu_add_24
    · have hf := ifn cx hf
      refine lv_aload_n hx hb d_Cu_add_16 rfl (lv_at hl 1 rfl) ?_
      refine va_get (D := D) (ci := 7) (v := .ref a1_y) (C := "CoinKeeper$Point") (T := F_7) (N := 5) hx hb hts i_7 hown hK hP 6 rfl rfl 1 (by decide) (hts _ gw_110) (fun _ h9 => h9) rfl d_Cu_add_17 ?_
      obtain ⟨f16, hc, hf⟩ := bdp1 hf
      refine q_av (wr := [(o, .inr (3, [r_rows, v_a_limbs, .ref a_a, .ref a_b, .ref a_c, .ref a_d, .ref a_f])), (a_a, .inl (cy 2, 10, .inr (.inl u0))), (a_b, .inl (cy 2, 10, .inr (.inl u1))), (a_c, .inl (cy 2, 10, .inr (.inl u2))), (a_d, .inl (cy 2, 10, .inr (.inl u3))), (a_f, .inl (cy 2, 10, .inr (.inl u4))), (o1, .inr (7, [.ref a1_x, .ref a1_y, .ref a1_z, .int e11, .int e12])), (a1_x, .inl (cy 2, 10, .inr (.inl f13))), (a1_z, .inl (cy 2, 10, .inr (.inl f15))), (o2, .inr (7, [.ref a2_x, .ref a2_y, .ref a2_z, .int i2_isNone, .int i2_isPlain])), (a2_x, .inl (cy 2, 10, .inr (.inl g2_x))), (a2_y, .inl (cy 2, 10, .inr (.inl g2_y))), (a2_z, .inl (cy 2, 10, .inr (.inl g2_z)))]) (va_runS (As := [.ref a1_y]) (rest := []) ⟨hx, hb, hml, hown, hts⟩ (c_Cu_negate l D cy ad fu a1_y f14 _ hc H.size) ⟨q_cB hts gw_1099 gw_4 gw_1097 hdc_20 ⟨by decide, by decide⟩, hts _ gw_1098⟩ (q_pre (hP.sub [8] rfl) (hD.sub [8] (by decide) rfl) hK hSt hS (va_free hD hS hA [8] rfl) _) rfl rfl hl.1 rfl (lv_room (Nat.le_of_ble_eq_true rfl)) d_Cu_add_20 ⟨Nat.le_of_ble_eq_true rfl, Nat.le_of_ble_eq_true rfl⟩) hP hD hS hA [8] [0, 1, 2, 3, 4, 5, 6, 7, 9, 10, 11, 12, 13] rfl rfl (by decide) (by decide) (fun H locs hP hD hS => ?_)
      clear hc
      have hP : va_P D classes [(o, .inr (3, [r_rows, v_a_limbs, .ref a_a, .ref a_b, .ref a_c, .ref a_d, .ref a_f])), (a_a, .inl (cy 2, 10, .inr (.inl u0))), (a_b, .inl (cy 2, 10, .inr (.inl u1))), (a_c, .inl (cy 2, 10, .inr (.inl u2))), (a_d, .inl (cy 2, 10, .inr (.inl u3))), (a_f, .inl (cy 2, 10, .inr (.inl u4))), (o1, .inr (7, [.ref a1_x, .ref a1_y, .ref a1_z, .int e11, .int e12])), (a1_x, .inl (cy 2, 10, .inr (.inl f13))), (a1_z, .inl (cy 2, 10, .inr (.inl f15))), (o2, .inr (7, [.ref a2_x, .ref a2_y, .ref a2_z, .int i2_isNone, .int i2_isPlain])), (a2_x, .inl (cy 2, 10, .inr (.inl g2_x))), (a2_y, .inl (cy 2, 10, .inr (.inl g2_y))), (a2_z, .inl (cy 2, 10, .inr (.inl g2_z))), (a1_y, .inl (cy 2, 10, .inr (.inl f16)))] H := hP
      have hD : va_D A [(o, .inr (3, [r_rows, v_a_limbs, .ref a_a, .ref a_b, .ref a_c, .ref a_d, .ref a_f])), (a_a, .inl (cy 2, 10, .inr (.inl u0))), (a_b, .inl (cy 2, 10, .inr (.inl u1))), (a_c, .inl (cy 2, 10, .inr (.inl u2))), (a_d, .inl (cy 2, 10, .inr (.inl u3))), (a_f, .inl (cy 2, 10, .inr (.inl u4))), (o1, .inr (7, [.ref a1_x, .ref a1_y, .ref a1_z, .int e11, .int e12])), (a1_x, .inl (cy 2, 10, .inr (.inl f13))), (a1_z, .inl (cy 2, 10, .inr (.inl f15))), (o2, .inr (7, [.ref a2_x, .ref a2_y, .ref a2_z, .int i2_isNone, .int i2_isPlain])), (a2_x, .inl (cy 2, 10, .inr (.inl g2_x))), (a2_y, .inl (cy 2, 10, .inr (.inl g2_y))), (a2_z, .inl (cy 2, 10, .inr (.inl g2_z))), (a1_y, .inl (cy 2, 10, .inr (.inl f16)))] := hD
      refine lv_iconst (v := 1) hx hb d_Cu_add_23 (by decide) ?_
      obtain rfl := Option.some.inj hf
      exact q_rz hx hb hr hlocks hK (hP.sub [0, 1, 2, 3, 4, 5, 6, 7, 13, 8, 9, 10, 11, 12] rfl) (hD.sub [0, 1, 2, 3, 4, 5, 6, 7, 13, 8, 9, 10, 11, 12] (by decide) rfl) hS (isb_n (v := 1) (by decide)) d_Cu_add_24
theorem c_Cu_add (l : Launch) (D : va_G) (cy : Nat → ClassId) (ad : Nat → Nat) (fu : Nat) (o : Nat) (r_rows : Value) (v_a_limbs : Value) (a_a : Nat) (a_b : Nat) (a_c : Nat) (a_d : Nat) (a_f : Nat) (o1 : Nat) (a1_x : Nat) (a1_y : Nat) (a1_z : Nat) (o2 : Nat) (a2_x : Nat) (a2_y : Nat) (a2_z : Nat) (i2_isNone : Int32) (i2_isPlain : Int32) (g2_x : Nat → Int64) (g2_y : Nat → Int64) (g2_z : Nat → Int64) (a3 : Int32) (u0 : Nat → Int64) (u1 : Nat → Int64) (u2 : Nat → Int64) (u3 : Nat → Int64) (u4 : Nat → Int64) (u5 : Int32) (u6 : Int32) (u7 : Nat → Int64) (u8 : Nat → Int64) (u9 : Nat → Int64) (res : Int32 × (Nat → Int64) × (Nat → Int64) × (Nat → Int64) × (Nat → Int64) × (Nat → Int64) × Int32 × Int32 × (Nat → Int64) × (Nat → Int64) × (Nat → Int64)) (hf : x_Cu_add fu i2_isNone i2_isPlain g2_x g2_y g2_z a3 u0 u1 u2 u3 u4 u5 u6 u7 u8 u9 = some res) (sz : Nat) : Met l ({ cls := "CoinKeeper$Curve", name := "add", desc := "(LCoinKeeper$Point;LCoinKeeper$Point;Z)Z" } : Jvm.MethodName) (.code ({ cls := "CoinKeeper$Curve", name := "add", desc := "(LCoinKeeper$Point;LCoinKeeper$Point;Z)Z" } : Jvm.MethodName) b_Cu_add 5 (some .boolean) :: gw) rm_Cu_add (va_Pc [.ref o, .ref o1, .ref o2, .int a3] (Pr D cy ad [(o, .inr (3, [r_rows, v_a_limbs, .ref a_a, .ref a_b, .ref a_c, .ref a_d, .ref a_f])), (a_a, .inl (cy 2, 10, .inr (.inl u0))), (a_b, .inl (cy 2, 10, .inr (.inl u1))), (a_c, .inl (cy 2, 10, .inr (.inl u2))), (a_d, .inl (cy 2, 10, .inr (.inl u3))), (a_f, .inl (cy 2, 10, .inr (.inl u4))), (o1, .inr (7, [.ref a1_x, .ref a1_y, .ref a1_z, .int u5, .int u6])), (a1_x, .inl (cy 2, 10, .inr (.inl u7))), (a1_y, .inl (cy 2, 10, .inr (.inl u8))), (a1_z, .inl (cy 2, 10, .inr (.inl u9))), (o2, .inr (7, [.ref a2_x, .ref a2_y, .ref a2_z, .int i2_isNone, .int i2_isPlain])), (a2_x, .inl (cy 2, 10, .inr (.inl g2_x))), (a2_y, .inl (cy 2, 10, .inr (.inl g2_y))), (a2_z, .inl (cy 2, 10, .inr (.inl g2_z)))] sz)) (q_Cu_add D cy (va_A [(o, .inr (3, [r_rows, v_a_limbs, .ref a_a, .ref a_b, .ref a_c, .ref a_d, .ref a_f])), (a_a, .inl (cy 2, 10, .inr (.inl u0))), (a_b, .inl (cy 2, 10, .inr (.inl u1))), (a_c, .inl (cy 2, 10, .inr (.inl u2))), (a_d, .inl (cy 2, 10, .inr (.inl u3))), (a_f, .inl (cy 2, 10, .inr (.inl u4))), (o1, .inr (7, [.ref a1_x, .ref a1_y, .ref a1_z, .int u5, .int u6])), (a1_x, .inl (cy 2, 10, .inr (.inl u7))), (a1_y, .inl (cy 2, 10, .inr (.inl u8))), (a1_z, .inl (cy 2, 10, .inr (.inl u9))), (o2, .inr (7, [.ref a2_x, .ref a2_y, .ref a2_z, .int i2_isNone, .int i2_isPlain])), (a2_x, .inl (cy 2, 10, .inr (.inl g2_x))), (a2_y, .inl (cy 2, 10, .inr (.inl g2_y))), (a2_z, .inl (cy 2, 10, .inr (.inl g2_z)))] sz) o r_rows v_a_limbs a_a a_b a_c a_d a_f o1 a1_x a1_y a1_z o2 a2_x a2_y a2_z i2_isNone i2_isPlain g2_x g2_y g2_z res) 0 0 (va_A [(o, .inr (3, [r_rows, v_a_limbs, .ref a_a, .ref a_b, .ref a_c, .ref a_d, .ref a_f])), (a_a, .inl (cy 2, 10, .inr (.inl u0))), (a_b, .inl (cy 2, 10, .inr (.inl u1))), (a_c, .inl (cy 2, 10, .inr (.inl u2))), (a_d, .inl (cy 2, 10, .inr (.inl u3))), (a_f, .inl (cy 2, 10, .inr (.inl u4))), (o1, .inr (7, [.ref a1_x, .ref a1_y, .ref a1_z, .int u5, .int u6])), (a1_x, .inl (cy 2, 10, .inr (.inl u7))), (a1_y, .inl (cy 2, 10, .inr (.inl u8))), (a1_z, .inl (cy 2, 10, .inr (.inl u9))), (o2, .inr (7, [.ref a2_x, .ref a2_y, .ref a2_z, .int i2_isNone, .int i2_isPlain])), (a2_x, .inl (cy 2, 10, .inr (.inl g2_x))), (a2_y, .inl (cy 2, 10, .inr (.inl g2_y))), (a2_z, .inl (cy 2, 10, .inr (.inl g2_z)))] sz) :=
  q_met (Qc := fun A => q_Cu_add D cy A o r_rows v_a_limbs a_a a_b a_c a_d a_f o1 a1_x a1_y a1_z o2 a2_x a2_y a2_z i2_isNone i2_isPlain g2_x g2_y g2_z res) (by decide) rfl rfl (Nat.le_of_ble_eq_true rfl) (fun p e s m below meth c ls F hP hD hS hl => we_Cu_add (fu := fu) F a3 u0 u1 u2 u3 u4 u5 u6 u7 u8 u9 res hf _ _ _ hP hD hS hl) sz
abbrev b_Si_isStrictNumber : ByteArray := prog_12_method_4_code
theorem d_Si_isStrictNumber_0 : decode b_Si_isStrictNumber 0 = .ok (.aload_n 0, 1) := by decide +kernel
theorem d_Si_isStrictNumber_1 : decode b_Si_isStrictNumber 1 = .ok (.iload_n 1, 1) := by decide +kernel
theorem d_Si_isStrictNumber_2 : decode b_Si_isStrictNumber 2 = .ok (.baload, 1) := by decide +kernel
theorem d_Si_isStrictNumber_3 : decode b_Si_isStrictNumber 3 = .ok (.iconst 2, 1) := by decide +kernel
theorem d_Si_isStrictNumber_4 : decode b_Si_isStrictNumber 4 = .ok (.if_icmp .ne 15, 3) := by decide +kernel
theorem d_Si_isStrictNumber_7 : decode b_Si_isStrictNumber 7 = .ok (.iload_n 2, 1) := by decide +kernel
theorem d_Si_isStrictNumber_8 : decode b_Si_isStrictNumber 8 = .ok (.ifCond .eq 11, 3) := by decide +kernel
theorem d_Si_isStrictNumber_11 : decode b_Si_isStrictNumber 11 = .ok (.aload_n 0, 1) := by decide +kernel
theorem d_Si_isStrictNumber_12 : decode b_Si_isStrictNumber 12 = .ok (.iload_n 1, 1) := by decide +kernel
theorem d_Si_isStrictNumber_13 : decode b_Si_isStrictNumber 13 = .ok (.iconst 2, 1) := by decide +kernel
theorem d_Si_isStrictNumber_14 : decode b_Si_isStrictNumber 14 = .ok (.iadd, 1) := by decide +kernel
theorem d_Si_isStrictNumber_15 : decode b_Si_isStrictNumber 15 = .ok (.baload, 1) := by decide +kernel
theorem d_Si_isStrictNumber_16 : decode b_Si_isStrictNumber 16 = .ok (.ifCond .ge 5, 3) := by decide +kernel
theorem d_Si_isStrictNumber_19 : decode b_Si_isStrictNumber 19 = .ok (.iconst 0, 1) := by decide +kernel
theorem d_Si_isStrictNumber_20 : decode b_Si_isStrictNumber 20 = .ok (.ireturn, 1) := by decide +kernel
theorem d_Si_isStrictNumber_21 : decode b_Si_isStrictNumber 21 = .ok (.iload_n 2, 1) := by decide +kernel
theorem d_Si_isStrictNumber_22 : decode b_Si_isStrictNumber 22 = .ok (.iconst 1, 1) := by decide +kernel
theorem d_Si_isStrictNumber_23 : decode b_Si_isStrictNumber 23 = .ok (.if_icmp .eq 19, 3) := by decide +kernel
theorem d_Si_isStrictNumber_26 : decode b_Si_isStrictNumber 26 = .ok (.aload_n 0, 1) := by decide +kernel
theorem d_Si_isStrictNumber_27 : decode b_Si_isStrictNumber 27 = .ok (.iload_n 1, 1) := by decide +kernel
theorem d_Si_isStrictNumber_28 : decode b_Si_isStrictNumber 28 = .ok (.iconst 2, 1) := by decide +kernel
theorem d_Si_isStrictNumber_29 : decode b_Si_isStrictNumber 29 = .ok (.iadd, 1) := by decide +kernel
theorem d_Si_isStrictNumber_30 : decode b_Si_isStrictNumber 30 = .ok (.baload, 1) := by decide +kernel
theorem d_Si_isStrictNumber_31 : decode b_Si_isStrictNumber 31 = .ok (.ifCond .ne 11, 3) := by decide +kernel
theorem d_Si_isStrictNumber_34 : decode b_Si_isStrictNumber 34 = .ok (.aload_n 0, 1) := by decide +kernel
theorem d_Si_isStrictNumber_35 : decode b_Si_isStrictNumber 35 = .ok (.iload_n 1, 1) := by decide +kernel
theorem d_Si_isStrictNumber_36 : decode b_Si_isStrictNumber 36 = .ok (.iconst 3, 1) := by decide +kernel
theorem d_Si_isStrictNumber_37 : decode b_Si_isStrictNumber 37 = .ok (.iadd, 1) := by decide +kernel
theorem d_Si_isStrictNumber_38 : decode b_Si_isStrictNumber 38 = .ok (.baload, 1) := by decide +kernel
theorem d_Si_isStrictNumber_39 : decode b_Si_isStrictNumber 39 = .ok (.ifCond .ge 7, 3) := by decide +kernel
theorem d_Si_isStrictNumber_42 : decode b_Si_isStrictNumber 42 = .ok (.iconst 1, 1) := by decide +kernel
theorem d_Si_isStrictNumber_43 : decode b_Si_isStrictNumber 43 = .ok (.goto 4, 3) := by decide +kernel
theorem d_Si_isStrictNumber_46 : decode b_Si_isStrictNumber 46 = .ok (.iconst 0, 1) := by decide +kernel
theorem d_Si_isStrictNumber_47 : decode b_Si_isStrictNumber 47 = .ok (.ireturn, 1) := by decide +kernel
abbrev rm_Si_isStrictNumber : Room := { frames := 0, cells := 0, slots := 0, locals := 0 }
abbrev q_Si_isStrictNumber (D : va_G) (cy : Nat → ClassId) (A : Nat → Prop) (b0 : Nat) (n0 : Nat) (h0 : Nat → Int32) (res : Int32) : Array Value → State → Outcome → State → Prop := va_Qi (fun r' (_ : Unit) => r' = res) (fun _ t => Po D cy A [(b0, .inl (cy 0, n0, .inl h0))] t) A
def I_Si_isStrictNumber_42 (p : Program) (l : Launch) (e : Env) (s : State) (m : MethodId) (args : Array Value) (below : List Frame) (meth : Method) (c : Code) (D : va_G) (cy : Nat → ClassId) (A : Nat → Prop) (ad : Nat → Nat) (b0 : Nat) (n0 : Nat) (h0 : Nat → Int32) (k : Option (Int32)) : Prop :=
  ∀ (res : Int32), k  = some res → ∀ (H : Heap) (locs : List Loc) (ls : Array Slot), va_P D classes [(b0, .inl (cy 0, n0, .inl h0))] H → va_D A [(b0, .inl (cy 0, n0, .inl h0))] → va_S A s.heap H locs → lv_has ls 3 [] → W p l e rm_Si_isStrictNumber s m args below meth c H locs 0 0 (MQ below (q_Si_isStrictNumber D cy A b0 n0 h0 res) args s 0 0 A) (F0 m 42 ls [])
def I_Si_isStrictNumber_e (p : Program) (l : Launch) (e : Env) (s : State) (m : MethodId) (args : Array Value) (below : List Frame) (meth : Method) (c : Code) (D : va_G) (cy : Nat → ClassId) (A : Nat → Prop) (ad : Nat → Nat) (b0 : Nat) (n0 : Nat) (h0 : Nat → Int32) (k : Int32 → Int32 → Option (Int32)) : Prop :=
  ∀ (a1 : Int32) (a2 : Int32) (res : Int32), k a1 a2 = some res → ∀ (H : Heap) (locs : List Loc) (ls : Array Slot), va_P D classes [(b0, .inl (cy 0, n0, .inl h0))] H → va_D A [(b0, .inl (cy 0, n0, .inl h0))] → va_S A s.heap H locs → lv_has ls 3 [(0, .ref b0), (1, .int a1), (2, .int a2)] → W p l e rm_Si_isStrictNumber s m args below meth c H locs 0 0 (MQ below (q_Si_isStrictNumber D cy A b0 n0 h0 res) args s 0 0 A) (F0 m 0 ls [])
set_option maxHeartbeats 8000000 in
set_option maxRecDepth 100000 in
theorem wb_Si_isStrictNumber_42 {p : Program} {l : Launch} {e : Env} {s : State} {m : MethodId} {args : Array Value} {below : List Frame} {meth : Method} {c : Code} {D : va_G} {cy : Nat → ClassId} {A : Nat → Prop} {ad : Nat → Nat} {b0 : Nat} {n0 : Nat} {h0 : Nat → Int32} {fu : Nat} (F : Fx p s m args meth c b_Si_isStrictNumber 3 "CoinKeeper$Signatures" "isStrictNumber" (some .boolean) D cy ad A) : I_Si_isStrictNumber_42 p l e s m args below meth c D cy A ad b0 n0 h0 (xb_Si_isStrictNumber_42 fu n0 h0) := by
  obtain ⟨hx, hb, hr, hml, hown, hts, hlocks, hK, hA, hSt, hnm, hex⟩ := id F
  intro  res hf H locs ls hP hD hS hl
  unfold xb_Si_isStrictNumber_42 at hf
  refine lv_iconst (v := 1) hx hb d_Si_isStrictNumber_42 (by decide) ?_
  refine lv_goto (tgt := 47) hx hb d_Si_isStrictNumber_43 (by decide) ?_
  obtain rfl := Option.some.inj hf
  exact q_rz hx hb hr hlocks hK hP hD hS (isb_n (v := 1) (by decide)) d_Si_isStrictNumber_47
set_option maxHeartbeats 8000000 in
set_option maxRecDepth 100000 in
theorem we_Si_isStrictNumber {p : Program} {l : Launch} {e : Env} {s : State} {m : MethodId} {args : Array Value} {below : List Frame} {meth : Method} {c : Code} {D : va_G} {cy : Nat → ClassId} {A : Nat → Prop} {ad : Nat → Nat} {b0 : Nat} {n0 : Nat} {h0 : Nat → Int32} {fu : Nat} (F : Fx p s m args meth c b_Si_isStrictNumber 3 "CoinKeeper$Signatures" "isStrictNumber" (some .boolean) D cy ad A) : I_Si_isStrictNumber_e p l e s m args below meth c D cy A ad b0 n0 h0 (x_Si_isStrictNumber fu n0 h0) := by
  obtain ⟨hx, hb, hr, hml, hown, hts, hlocks, hK, hA, hSt, hnm, hex⟩ := id F
  intro a1 a2 res hf H locs ls hP hD hS hl
  unfold x_Si_isStrictNumber at hf
  refine lv_aload_n hx hb d_Si_isStrictNumber_0 rfl (lv_at hl 0 rfl) ?_
  refine lv_iload_n hx hb d_Si_isStrictNumber_1 rfl (lv_at hl 1 rfl) ?_
  obtain ⟨hg, hf⟩ := gdp hf
  refine va_bald hx hb hK hP 0 0 rfl rfl (inb_in hg) d_Si_isStrictNumber_2 ?_
  refine lv_topi (fun v1 ev => ?_)
  have hf := bn ev hf
  clear ev
  refine lv_iconst (v := 2) hx hb d_Si_isStrictNumber_3 (by decide) ?_
  refine lv_icmp_ne (tgt := 19) hx hb d_Si_isStrictNumber_4 (by decide) (fun cx => ?_) (fun cx => ?_)
  · have hf := ifn cx hf
    refine lv_iconst (v := 0) hx hb d_Si_isStrictNumber_19 (by decide) ?_
    obtain rfl := Option.some.inj hf
    exact q_rz hx hb hr hlocks hK hP hD hS (isb_n (v := 0) (by decide)) d_Si_isStrictNumber_20
  · have hf := ifp cx hf
    refine lv_iload_n hx hb d_Si_isStrictNumber_7 rfl (lv_at hl 2 rfl) ?_
    refine lv_if_eq (tgt := 19) hx hb d_Si_isStrictNumber_8 (by decide) (fun cx => ?_) (fun cx => ?_)
    · have hf := ifp cx hf
      refine lv_iconst (v := 0) hx hb d_Si_isStrictNumber_19 (by decide) ?_
      obtain rfl := Option.some.inj hf
      exact q_rz hx hb hr hlocks hK hP hD hS (isb_n (v := 0) (by decide)) d_Si_isStrictNumber_20
    · have hf := ifn cx hf
      refine lv_aload_n hx hb d_Si_isStrictNumber_11 rfl (lv_at hl 0 rfl) ?_
      refine lv_iload_n hx hb d_Si_isStrictNumber_12 rfl (lv_at hl 1 rfl) ?_
      refine lv_iconst (v := 2) hx hb d_Si_isStrictNumber_13 (by decide) ?_
      refine lv_iadd hx hb d_Si_isStrictNumber_14 ?_
      refine lv_topi (fun v2 ev => ?_)
      have hf := bn ev hf
      clear ev
      obtain ⟨hg, hf⟩ := gdp hf
      refine va_bald hx hb hK hP 0 0 rfl rfl (inb_in hg) d_Si_isStrictNumber_15 ?_
      refine lv_topi (fun v3 ev => ?_)
      have hf := bn ev hf
      clear ev
      refine lv_if_ge (tgt := 21) hx hb d_Si_isStrictNumber_16 (by decide) (fun cx => ?_) (fun cx => ?_)
      · have hf := ifp cx hf
        refine lv_iload_n hx hb d_Si_isStrictNumber_21 rfl (lv_at hl 2 rfl) ?_
        refine lv_iconst (v := 1) hx hb d_Si_isStrictNumber_22 (by decide) ?_
        refine lv_icmp_eq (tgt := 42) hx hb d_Si_isStrictNumber_23 (by decide) (fun cx => ?_) (fun cx => ?_)
        · have hf := ifp cx hf
          exact wb_Si_isStrictNumber_42 (fu := fu) F _ hf _ _ _ hP hD hS (lv_sub hl [] rfl)
        · have hf := ifn cx hf
          refine lv_aload_n hx hb d_Si_isStrictNumber_26 rfl (lv_at hl 0 rfl) ?_
          refine lv_iload_n hx hb d_Si_isStrictNumber_27 rfl (lv_at hl 1 rfl) ?_
          refine lv_iconst (v := 2) hx hb d_Si_isStrictNumber_28 (by decide) ?_
          refine lv_iadd hx hb d_Si_isStrictNumber_29 ?_
          refine lv_topi (fun v4 ev => ?_)
          have hf := bn ev hf
          clear ev
          obtain ⟨hg, hf⟩ := gdp hf
          refine va_bald hx hb hK hP 0 0 rfl rfl (inb_in hg) d_Si_isStrictNumber_30 ?_
          refine lv_topi (fun v5 ev => ?_)
          have hf := bn ev hf
          clear ev
          refine lv_if_ne (tgt := 42) hx hb d_Si_isStrictNumber_31 (by decide) (fun cx => ?_) (fun cx => ?_)
          · have hf := ifn cx hf
            exact wb_Si_isStrictNumber_42 (fu := fu) F _ hf _ _ _ hP hD hS (lv_sub hl [] rfl)
          · have hf := ifp cx hf
            refine lv_aload_n hx hb d_Si_isStrictNumber_34 rfl (lv_at hl 0 rfl) ?_
            refine lv_iload_n hx hb d_Si_isStrictNumber_35 rfl (lv_at hl 1 rfl) ?_
            refine lv_iconst (v := 3) hx hb d_Si_isStrictNumber_36 (by decide) ?_
            refine lv_iadd hx hb d_Si_isStrictNumber_37 ?_
            refine lv_topi (fun v6 ev => ?_)
            have hf := bn ev hf
            clear ev
            obtain ⟨hg, hf⟩ := gdp hf
            refine va_bald hx hb hK hP 0 0 rfl rfl (inb_in hg) d_Si_isStrictNumber_38 ?_
            refine lv_topi (fun v7 ev => ?_)
            have hf := bn ev hf
            clear ev
            refine lv_if_ge (tgt := 46) hx hb d_Si_isStrictNumber_39 (by decide) (fun cx => ?_) (fun cx => ?_)
            · have hf := ifp cx hf
              refine lv_iconst (v := 0) hx hb d_Si_isStrictNumber_46 (by decide) ?_
              obtain rfl := Option.some.inj hf
              exact q_rz hx hb hr hlocks hK hP hD hS (isb_n (v := 0) (by decide)) d_Si_isStrictNumber_47
            · have hf := ifn cx hf
              exact wb_Si_isStrictNumber_42 (fu := fu) F _ hf _ _ _ hP hD hS (lv_sub hl [] rfl)
      · have hf := ifn cx hf
        refine lv_iconst (v := 0) hx hb d_Si_isStrictNumber_19 (by decide) ?_
        obtain rfl := Option.some.inj hf
        exact q_rz hx hb hr hlocks hK hP hD hS (isb_n (v := 0) (by decide)) d_Si_isStrictNumber_20
theorem c_Si_isStrictNumber (l : Launch) (D : va_G) (cy : Nat → ClassId) (ad : Nat → Nat) (fu : Nat) (b0 : Nat) (n0 : Nat) (h0 : Nat → Int32) (a1 : Int32) (a2 : Int32) (res : Int32) (hf : x_Si_isStrictNumber fu n0 h0 a1 a2 = some res) (sz : Nat) : Met l ({ cls := "CoinKeeper$Signatures", name := "isStrictNumber", desc := "([BII)Z" } : Jvm.MethodName) (.code ({ cls := "CoinKeeper$Signatures", name := "isStrictNumber", desc := "([BII)Z" } : Jvm.MethodName) b_Si_isStrictNumber 3 (some .boolean) :: gw) rm_Si_isStrictNumber (va_Pc [.ref b0, .int a1, .int a2] (Pr D cy ad [(b0, .inl (cy 0, n0, .inl h0))] sz)) (q_Si_isStrictNumber D cy (va_A [(b0, .inl (cy 0, n0, .inl h0))] sz) b0 n0 h0 res) 0 0 (va_A [(b0, .inl (cy 0, n0, .inl h0))] sz) :=
  q_met (Qc := fun A => q_Si_isStrictNumber D cy A b0 n0 h0 res) (by decide) rfl rfl (Nat.le_of_ble_eq_true rfl) (fun p e s m below meth c ls F hP hD hS hl => we_Si_isStrictNumber (fu := fu) F a1 a2 res hf _ _ _ hP hD hS hl) sz
abbrev b_Si_isStrict : ByteArray := prog_12_method_3_code
theorem d_Si_isStrict_0 : decode b_Si_isStrict 0 = .ok (.iload_n 2, 1) := by decide +kernel
theorem d_Si_isStrict_1 : decode b_Si_isStrict 1 = .ok (.bipush 9, 2) := by decide +kernel
theorem d_Si_isStrict_3 : decode b_Si_isStrict 3 = .ok (.if_icmp .lt 28, 3) := by decide +kernel
theorem d_Si_isStrict_6 : decode b_Si_isStrict 6 = .ok (.iload_n 2, 1) := by decide +kernel
theorem d_Si_isStrict_7 : decode b_Si_isStrict 7 = .ok (.bipush 73, 2) := by decide +kernel
theorem d_Si_isStrict_9 : decode b_Si_isStrict 9 = .ok (.if_icmp .gt 22, 3) := by decide +kernel
theorem d_Si_isStrict_12 : decode b_Si_isStrict 12 = .ok (.aload_n 0, 1) := by decide +kernel
theorem d_Si_isStrict_13 : decode b_Si_isStrict 13 = .ok (.iload_n 1, 1) := by decide +kernel
theorem d_Si_isStrict_14 : decode b_Si_isStrict 14 = .ok (.baload, 1) := by decide +kernel
theorem d_Si_isStrict_15 : decode b_Si_isStrict 15 = .ok (.bipush 48, 2) := by decide +kernel
theorem d_Si_isStrict_17 : decode b_Si_isStrict 17 = .ok (.if_icmp .ne 14, 3) := by decide +kernel
theorem d_Si_isStrict_20 : decode b_Si_isStrict 20 = .ok (.aload_n 0, 1) := by decide +kernel
theorem d_Si_isStrict_21 : decode b_Si_isStrict 21 = .ok (.iload_n 1, 1) := by decide +kernel
theorem d_Si_isStrict_22 : decode b_Si_isStrict 22 = .ok (.iconst 1, 1) := by decide +kernel
theorem d_Si_isStrict_23 : decode b_Si_isStrict 23 = .ok (.iadd, 1) := by decide +kernel
theorem d_Si_isStrict_24 : decode b_Si_isStrict 24 = .ok (.baload, 1) := by decide +kernel
theorem d_Si_isStrict_25 : decode b_Si_isStrict 25 = .ok (.iload_n 2, 1) := by decide +kernel
theorem d_Si_isStrict_26 : decode b_Si_isStrict 26 = .ok (.iconst 3, 1) := by decide +kernel
theorem d_Si_isStrict_27 : decode b_Si_isStrict 27 = .ok (.isub, 1) := by decide +kernel
theorem d_Si_isStrict_28 : decode b_Si_isStrict 28 = .ok (.if_icmp .eq 5, 3) := by decide +kernel
theorem d_Si_isStrict_31 : decode b_Si_isStrict 31 = .ok (.iconst 0, 1) := by decide +kernel
theorem d_Si_isStrict_32 : decode b_Si_isStrict 32 = .ok (.ireturn, 1) := by decide +kernel
theorem d_Si_isStrict_33 : decode b_Si_isStrict 33 = .ok (.aload_n 0, 1) := by decide +kernel
theorem d_Si_isStrict_34 : decode b_Si_isStrict 34 = .ok (.iload_n 1, 1) := by decide +kernel
theorem d_Si_isStrict_35 : decode b_Si_isStrict 35 = .ok (.iconst 3, 1) := by decide +kernel
theorem d_Si_isStrict_36 : decode b_Si_isStrict 36 = .ok (.iadd, 1) := by decide +kernel
theorem d_Si_isStrict_37 : decode b_Si_isStrict 37 = .ok (.baload, 1) := by decide +kernel
theorem d_Si_isStrict_38 : decode b_Si_isStrict 38 = .ok (.sipush 255, 3) := by decide +kernel
theorem d_Si_isStrict_41 : decode b_Si_isStrict 41 = .ok (.iand, 1) := by decide +kernel
theorem d_Si_isStrict_42 : decode b_Si_isStrict 42 = .ok (.istore_n 3, 1) := by decide +kernel
theorem d_Si_isStrict_43 : decode b_Si_isStrict 43 = .ok (.iconst 5, 1) := by decide +kernel
theorem d_Si_isStrict_44 : decode b_Si_isStrict 44 = .ok (.iload_n 3, 1) := by decide +kernel
theorem d_Si_isStrict_45 : decode b_Si_isStrict 45 = .ok (.iadd, 1) := by decide +kernel
theorem d_Si_isStrict_46 : decode b_Si_isStrict 46 = .ok (.iload_n 2, 1) := by decide +kernel
theorem d_Si_isStrict_47 : decode b_Si_isStrict 47 = .ok (.if_icmp .lt 5, 3) := by decide +kernel
theorem d_Si_isStrict_50 : decode b_Si_isStrict 50 = .ok (.iconst 0, 1) := by decide +kernel
theorem d_Si_isStrict_51 : decode b_Si_isStrict 51 = .ok (.ireturn, 1) := by decide +kernel
theorem d_Si_isStrict_52 : decode b_Si_isStrict 52 = .ok (.aload_n 0, 1) := by decide +kernel
theorem d_Si_isStrict_53 : decode b_Si_isStrict 53 = .ok (.iload_n 1, 1) := by decide +kernel
theorem d_Si_isStrict_54 : decode b_Si_isStrict 54 = .ok (.iconst 5, 1) := by decide +kernel
theorem d_Si_isStrict_55 : decode b_Si_isStrict 55 = .ok (.iadd, 1) := by decide +kernel
theorem d_Si_isStrict_56 : decode b_Si_isStrict 56 = .ok (.iload_n 3, 1) := by decide +kernel
theorem d_Si_isStrict_57 : decode b_Si_isStrict 57 = .ok (.iadd, 1) := by decide +kernel
theorem d_Si_isStrict_58 : decode b_Si_isStrict 58 = .ok (.baload, 1) := by decide +kernel
theorem d_Si_isStrict_59 : decode b_Si_isStrict 59 = .ok (.sipush 255, 3) := by decide +kernel
theorem d_Si_isStrict_62 : decode b_Si_isStrict 62 = .ok (.iand, 1) := by decide +kernel
theorem d_Si_isStrict_63 : decode b_Si_isStrict 63 = .ok (.istore 4, 2) := by decide +kernel
theorem d_Si_isStrict_65 : decode b_Si_isStrict 65 = .ok (.iload_n 3, 1) := by decide +kernel
theorem d_Si_isStrict_66 : decode b_Si_isStrict 66 = .ok (.iload 4, 2) := by decide +kernel
theorem d_Si_isStrict_68 : decode b_Si_isStrict 68 = .ok (.iadd, 1) := by decide +kernel
theorem d_Si_isStrict_69 : decode b_Si_isStrict 69 = .ok (.bipush 7, 2) := by decide +kernel
theorem d_Si_isStrict_71 : decode b_Si_isStrict 71 = .ok (.iadd, 1) := by decide +kernel
theorem d_Si_isStrict_72 : decode b_Si_isStrict 72 = .ok (.iload_n 2, 1) := by decide +kernel
theorem d_Si_isStrict_73 : decode b_Si_isStrict 73 = .ok (.if_icmp .ne 32, 3) := by decide +kernel
theorem d_Si_isStrict_76 : decode b_Si_isStrict 76 = .ok (.aload_n 0, 1) := by decide +kernel
theorem d_Si_isStrict_77 : decode b_Si_isStrict 77 = .ok (.iload_n 1, 1) := by decide +kernel
theorem d_Si_isStrict_78 : decode b_Si_isStrict 78 = .ok (.iconst 2, 1) := by decide +kernel
theorem d_Si_isStrict_79 : decode b_Si_isStrict 79 = .ok (.iadd, 1) := by decide +kernel
theorem d_Si_isStrict_80 : decode b_Si_isStrict 80 = .ok (.iload_n 3, 1) := by decide +kernel
theorem d_Si_isStrict_81 : decode b_Si_isStrict 81 = .ok (.invokestatic 108, 3) := by decide +kernel
theorem d_Si_isStrict_84 : decode b_Si_isStrict 84 = .ok (.ifCond .eq 21, 3) := by decide +kernel
theorem d_Si_isStrict_87 : decode b_Si_isStrict 87 = .ok (.aload_n 0, 1) := by decide +kernel
theorem d_Si_isStrict_88 : decode b_Si_isStrict 88 = .ok (.iload_n 1, 1) := by decide +kernel
theorem d_Si_isStrict_89 : decode b_Si_isStrict 89 = .ok (.iconst 4, 1) := by decide +kernel
theorem d_Si_isStrict_90 : decode b_Si_isStrict 90 = .ok (.iadd, 1) := by decide +kernel
theorem d_Si_isStrict_91 : decode b_Si_isStrict 91 = .ok (.iload_n 3, 1) := by decide +kernel
theorem d_Si_isStrict_92 : decode b_Si_isStrict 92 = .ok (.iadd, 1) := by decide +kernel
theorem d_Si_isStrict_93 : decode b_Si_isStrict 93 = .ok (.iload 4, 2) := by decide +kernel
theorem d_Si_isStrict_95 : decode b_Si_isStrict 95 = .ok (.invokestatic 108, 3) := by decide +kernel
theorem d_Si_isStrict_98 : decode b_Si_isStrict 98 = .ok (.ifCond .eq 7, 3) := by decide +kernel
theorem d_Si_isStrict_101 : decode b_Si_isStrict 101 = .ok (.iconst 1, 1) := by decide +kernel
theorem d_Si_isStrict_102 : decode b_Si_isStrict 102 = .ok (.goto 4, 3) := by decide +kernel
theorem d_Si_isStrict_105 : decode b_Si_isStrict 105 = .ok (.iconst 0, 1) := by decide +kernel
theorem d_Si_isStrict_106 : decode b_Si_isStrict 106 = .ok (.ireturn, 1) := by decide +kernel
abbrev rm_Si_isStrict : Room := { frames := 1, cells := 0, slots := 0, locals := 22 }
abbrev q_Si_isStrict (D : va_G) (cy : Nat → ClassId) (A : Nat → Prop) (b0 : Nat) (n0 : Nat) (h0 : Nat → Int32) (res : Int32) : Array Value → State → Outcome → State → Prop := va_Qi (fun r' (_ : Unit) => r' = res) (fun _ t => Po D cy A [(b0, .inl (cy 0, n0, .inl h0))] t) A
def I_Si_isStrict_e (p : Program) (l : Launch) (e : Env) (s : State) (m : MethodId) (args : Array Value) (below : List Frame) (meth : Method) (c : Code) (D : va_G) (cy : Nat → ClassId) (A : Nat → Prop) (ad : Nat → Nat) (b0 : Nat) (n0 : Nat) (h0 : Nat → Int32) (k : Int32 → Int32 → Option (Int32)) : Prop :=
  ∀ (a1 : Int32) (a2 : Int32) (res : Int32), k a1 a2 = some res → ∀ (H : Heap) (locs : List Loc) (ls : Array Slot), va_P D classes [(b0, .inl (cy 0, n0, .inl h0))] H → va_D A [(b0, .inl (cy 0, n0, .inl h0))] → va_S A s.heap H locs → lv_has ls 5 [(0, .ref b0), (1, .int a1), (2, .int a2)] → W p l e rm_Si_isStrict s m args below meth c H locs 0 0 (MQ below (q_Si_isStrict D cy A b0 n0 h0 res) args s 0 0 A) (F0 m 0 ls [])
theorem hdc_21 : ({ cls := "CoinKeeper$Signatures", name := "isStrictNumber", desc := "([BII)Z" } : Jvm.MethodName).cls ≠ "java/lang/invoke/MethodHandle" ∧ ({ cls := "CoinKeeper$Signatures", name := "isStrictNumber", desc := "([BII)Z" } : Jvm.MethodName).cls ≠ "java/lang/invoke/VarHandle" ∧ (parseMethodDescriptor ({ cls := "CoinKeeper$Signatures", name := "isStrictNumber", desc := "([BII)Z" } : Jvm.MethodName).desc).map (fun d => d.parameters.length) = some 3 := by decide +kernel
set_option maxHeartbeats 8000000 in
set_option maxRecDepth 100000 in
theorem we_Si_isStrict {p : Program} {l : Launch} {e : Env} {s : State} {m : MethodId} {args : Array Value} {below : List Frame} {meth : Method} {c : Code} {D : va_G} {cy : Nat → ClassId} {A : Nat → Prop} {ad : Nat → Nat} {b0 : Nat} {n0 : Nat} {h0 : Nat → Int32} {fu : Nat} (F : Fx p s m args meth c b_Si_isStrict 5 "CoinKeeper$Signatures" "isStrict" (some .boolean) D cy ad A) : I_Si_isStrict_e p l e s m args below meth c D cy A ad b0 n0 h0 (x_Si_isStrict fu n0 h0) := by
  obtain ⟨hx, hb, hr, hml, hown, hts, hlocks, hK, hA, hSt, hnm, hex⟩ := id F
  intro a1 a2 res hf H locs ls hP hD hS hl
  unfold x_Si_isStrict at hf
  refine lv_iload_n hx hb d_Si_isStrict_0 rfl (lv_at hl 2 rfl) ?_
  refine lv_bipush (v := 9) hx hb d_Si_isStrict_1 (by decide) ?_
  refine lv_icmp_lt (tgt := 31) hx hb d_Si_isStrict_3 (by decide) (fun cx => ?_) (fun cx => ?_)
  · have hf := ifp cx hf
    refine lv_iconst (v := 0) hx hb d_Si_isStrict_31 (by decide) ?_
    obtain rfl := Option.some.inj hf
    exact q_rz hx hb hr hlocks hK hP hD hS (isb_n (v := 0) (by decide)) d_Si_isStrict_32
  · have hf := ifn cx hf
    refine lv_iload_n hx hb d_Si_isStrict_6 rfl (lv_at hl 2 rfl) ?_
    refine lv_bipush (v := 73) hx hb d_Si_isStrict_7 (by decide) ?_
    refine lv_icmp_gt (tgt := 31) hx hb d_Si_isStrict_9 (by decide) (fun cx => ?_) (fun cx => ?_)
    · have hf := ifp cx hf
      refine lv_iconst (v := 0) hx hb d_Si_isStrict_31 (by decide) ?_
      obtain rfl := Option.some.inj hf
      exact q_rz hx hb hr hlocks hK hP hD hS (isb_n (v := 0) (by decide)) d_Si_isStrict_32
    · have hf := ifn cx hf
      refine lv_aload_n hx hb d_Si_isStrict_12 rfl (lv_at hl 0 rfl) ?_
      refine lv_iload_n hx hb d_Si_isStrict_13 rfl (lv_at hl 1 rfl) ?_
      obtain ⟨hg, hf⟩ := gdp hf
      refine va_bald hx hb hK hP 0 0 rfl rfl (inb_in hg) d_Si_isStrict_14 ?_
      refine lv_topi (fun v1 ev => ?_)
      have hf := bn ev hf
      clear ev
      refine lv_bipush (v := 48) hx hb d_Si_isStrict_15 (by decide) ?_
      refine lv_icmp_ne (tgt := 31) hx hb d_Si_isStrict_17 (by decide) (fun cx => ?_) (fun cx => ?_)
      · have hf := ifn cx hf
        refine lv_iconst (v := 0) hx hb d_Si_isStrict_31 (by decide) ?_
        obtain rfl := Option.some.inj hf
        exact q_rz hx hb hr hlocks hK hP hD hS (isb_n (v := 0) (by decide)) d_Si_isStrict_32
      · have hf := ifp cx hf
        refine lv_aload_n hx hb d_Si_isStrict_20 rfl (lv_at hl 0 rfl) ?_
        refine lv_iload_n hx hb d_Si_isStrict_21 rfl (lv_at hl 1 rfl) ?_
        refine lv_iconst (v := 1) hx hb d_Si_isStrict_22 (by decide) ?_
        refine lv_iadd hx hb d_Si_isStrict_23 ?_
        refine lv_topi (fun v2 ev => ?_)
        have hf := bn ev hf
        clear ev
        obtain ⟨hg, hf⟩ := gdp hf
        refine va_bald hx hb hK hP 0 0 rfl rfl (inb_in hg) d_Si_isStrict_24 ?_
        refine lv_topi (fun v3 ev => ?_)
        have hf := bn ev hf
        clear ev
        refine lv_iload_n hx hb d_Si_isStrict_25 rfl (lv_at hl 2 rfl) ?_
        refine lv_iconst (v := 3) hx hb d_Si_isStrict_26 (by decide) ?_
        refine lv_isub hx hb d_Si_isStrict_27 ?_
        refine lv_icmp_eq (tgt := 33) hx hb d_Si_isStrict_28 (by decide) (fun cx => ?_) (fun cx => ?_)
        · have hf := ifp cx hf
          refine lv_aload_n hx hb d_Si_isStrict_33 rfl (lv_at hl 0 rfl) ?_
          refine lv_iload_n hx hb d_Si_isStrict_34 rfl (lv_at hl 1 rfl) ?_
          refine lv_iconst (v := 3) hx hb d_Si_isStrict_35 (by decide) ?_
          refine lv_iadd hx hb d_Si_isStrict_36 ?_
          refine lv_topi (fun v4 ev => ?_)
          have hf := bn ev hf
          clear ev
          obtain ⟨hg, hf⟩ := gdp hf
          refine va_bald hx hb hK hP 0 0 rfl rfl (inb_in hg) d_Si_isStrict_37 ?_
          refine lv_topi (fun v5 ev => ?_)
          have hf := bn ev hf
          clear ev
          refine lv_sipush (v := 255) hx hb d_Si_isStrict_38 (by decide) ?_
          refine lv_iand hx hb d_Si_isStrict_41 ?_
          refine lv_topi (fun v6 ev => ?_)
          have hf := bn ev hf
          clear ev
          refine lv_istore_n (lv' := [(3, .int v6), (0, .ref b0), (1, .int a1), (2, .int a2)]) hx hb d_Si_isStrict_42 rfl hl (by decide) rfl (fun ls hl => ?_)
          refine lv_iconst (v := 5) hx hb d_Si_isStrict_43 (by decide) ?_
          refine lv_iload_n hx hb d_Si_isStrict_44 rfl (lv_at hl 0 rfl) ?_
          refine lv_iadd hx hb d_Si_isStrict_45 ?_
          refine lv_topi (fun v7 ev => ?_)
          have hf := bn ev hf
          clear ev
          refine lv_iload_n hx hb d_Si_isStrict_46 rfl (lv_at hl 3 rfl) ?_
          refine lv_icmp_lt (tgt := 52) hx hb d_Si_isStrict_47 (by decide) (fun cx => ?_) (fun cx => ?_)
          · have hf := ifp cx hf
            refine lv_aload_n hx hb d_Si_isStrict_52 rfl (lv_at hl 1 rfl) ?_
            refine lv_iload_n hx hb d_Si_isStrict_53 rfl (lv_at hl 2 rfl) ?_
            refine lv_iconst (v := 5) hx hb d_Si_isStrict_54 (by decide) ?_
            refine lv_iadd hx hb d_Si_isStrict_55 ?_
            refine lv_topi (fun v8 ev => ?_)
            have hf := bn ev hf
            clear ev
            refine lv_iload_n hx hb d_Si_isStrict_56 rfl (lv_at hl 0 rfl) ?_
            refine lv_iadd hx hb d_Si_isStrict_57 ?_
            refine lv_topi (fun v9 ev => ?_)
            have hf := bn ev hf
            clear ev
            obtain ⟨hg, hf⟩ := gdp hf
            refine va_bald hx hb hK hP 0 0 rfl rfl (inb_in hg) d_Si_isStrict_58 ?_
            refine lv_topi (fun v10 ev => ?_)
            have hf := bn ev hf
            clear ev
            refine lv_sipush (v := 255) hx hb d_Si_isStrict_59 (by decide) ?_
            refine lv_iand hx hb d_Si_isStrict_62 ?_
            refine lv_topi (fun v11 ev => ?_)
            have hf := bn ev hf
            clear ev
            refine lv_istore (lv' := [(4, .int v11), (3, .int v6), (0, .ref b0), (1, .int a1), (2, .int a2)]) hx hb d_Si_isStrict_63 hl (by decide) rfl (fun ls hl => ?_)
            refine lv_iload_n hx hb d_Si_isStrict_65 rfl (lv_at hl 1 rfl) ?_
            refine lv_iload hx hb d_Si_isStrict_66 (lv_at hl 0 rfl) ?_
            refine lv_iadd hx hb d_Si_isStrict_68 ?_
            refine lv_topi (fun v12 ev => ?_)
            have hf := bn ev hf
            clear ev
            refine lv_bipush (v := 7) hx hb d_Si_isStrict_69 (by decide) ?_
            refine lv_iadd hx hb d_Si_isStrict_71 ?_
            refine lv_topi (fun v13 ev => ?_)
            have hf := bn ev hf
            clear ev
            refine lv_iload_n hx hb d_Si_isStrict_72 rfl (lv_at hl 4 rfl) ?_
            refine lv_icmp_ne (tgt := 105) hx hb d_Si_isStrict_73 (by decide) (fun cx => ?_) (fun cx => ?_)
            · have hf := ifn cx hf
              refine lv_iconst (v := 0) hx hb d_Si_isStrict_105 (by decide) ?_
              obtain rfl := Option.some.inj hf
              exact q_rz hx hb hr hlocks hK hP hD hS (isb_n (v := 0) (by decide)) d_Si_isStrict_106
            · have hf := ifp cx hf
              refine lv_aload_n hx hb d_Si_isStrict_76 rfl (lv_at hl 2 rfl) ?_
              refine lv_iload_n hx hb d_Si_isStrict_77 rfl (lv_at hl 3 rfl) ?_
              refine lv_iconst (v := 2) hx hb d_Si_isStrict_78 (by decide) ?_
              refine lv_iadd hx hb d_Si_isStrict_79 ?_
              refine lv_topi (fun v14 ev => ?_)
              have hf := bn ev hf
              clear ev
              refine lv_iload_n hx hb d_Si_isStrict_80 rfl (lv_at hl 1 rfl) ?_
              obtain ⟨v15, hc, hf⟩ := bdp1 hf
              refine q_ai (wr := []) (va_runS (As := [.ref b0, .int v14, .int v6]) (rest := []) ⟨hx, hb, hml, hown, hts⟩ (c_Si_isStrictNumber l D cy ad fu b0 n0 h0 v14 v6 _ hc H.size) ⟨q_cB hts gw_1043 gw_3 gw_1041 hdc_21 ⟨by decide, by decide⟩, hts _ gw_1042⟩ (q_pre (hP.sub [0] rfl) (hD.sub [0] (by decide) rfl) hK hSt hS (va_free hD hS hA [0] rfl) _) rfl rfl hl.1 rfl (lv_room (Nat.le_of_ble_eq_true rfl)) d_Si_isStrict_81 ⟨Nat.le_of_ble_eq_true rfl, Nat.le_of_ble_eq_true rfl⟩) hP hD hS hA [0] [] rfl rfl (by decide) (by decide) (fun H locs hP hD hS => ?_)
              clear hc
              have hP : va_P D classes [(b0, .inl (cy 0, n0, .inl h0))] H := hP
              have hD : va_D A [(b0, .inl (cy 0, n0, .inl h0))] := hD
              refine lv_if_eq (tgt := 105) hx hb d_Si_isStrict_84 (by decide) (fun cx => ?_) (fun cx => ?_)
              · have hf := ifp cx hf
                refine lv_iconst (v := 0) hx hb d_Si_isStrict_105 (by decide) ?_
                obtain rfl := Option.some.inj hf
                exact q_rz hx hb hr hlocks hK hP hD hS (isb_n (v := 0) (by decide)) d_Si_isStrict_106
              · have hf := ifn cx hf
                refine lv_aload_n hx hb d_Si_isStrict_87 rfl (lv_at hl 2 rfl) ?_
                refine lv_iload_n hx hb d_Si_isStrict_88 rfl (lv_at hl 3 rfl) ?_
                refine lv_iconst (v := 4) hx hb d_Si_isStrict_89 (by decide) ?_
                refine lv_iadd hx hb d_Si_isStrict_90 ?_
                refine lv_topi (fun v16 ev => ?_)
                have hf := bn ev hf
                clear ev
                refine lv_iload_n hx hb d_Si_isStrict_91 rfl (lv_at hl 1 rfl) ?_
                refine lv_iadd hx hb d_Si_isStrict_92 ?_
                refine lv_topi (fun v17 ev => ?_)
                have hf := bn ev hf
                clear ev
                refine lv_iload hx hb d_Si_isStrict_93 (lv_at hl 0 rfl) ?_
                obtain ⟨v18, hc, hf⟩ := bdp1 hf
                refine q_ai (wr := []) (va_runS (As := [.ref b0, .int v17, .int v11]) (rest := []) ⟨hx, hb, hml, hown, hts⟩ (c_Si_isStrictNumber l D cy ad fu b0 n0 h0 v17 v11 _ hc H.size) ⟨q_cB hts gw_1043 gw_3 gw_1041 hdc_21 ⟨by decide, by decide⟩, hts _ gw_1042⟩ (q_pre (hP.sub [0] rfl) (hD.sub [0] (by decide) rfl) hK hSt hS (va_free hD hS hA [0] rfl) _) rfl rfl hl.1 rfl (lv_room (Nat.le_of_ble_eq_true rfl)) d_Si_isStrict_95 ⟨Nat.le_of_ble_eq_true rfl, Nat.le_of_ble_eq_true rfl⟩) hP hD hS hA [0] [] rfl rfl (by decide) (by decide) (fun H locs hP hD hS => ?_)
                clear hc
                have hP : va_P D classes [(b0, .inl (cy 0, n0, .inl h0))] H := hP
                have hD : va_D A [(b0, .inl (cy 0, n0, .inl h0))] := hD
                refine lv_if_eq (tgt := 105) hx hb d_Si_isStrict_98 (by decide) (fun cx => ?_) (fun cx => ?_)
                · have hf := ifp cx hf
                  refine lv_iconst (v := 0) hx hb d_Si_isStrict_105 (by decide) ?_
                  obtain rfl := Option.some.inj hf
                  exact q_rz hx hb hr hlocks hK hP hD hS (isb_n (v := 0) (by decide)) d_Si_isStrict_106
                · have hf := ifn cx hf
                  refine lv_iconst (v := 1) hx hb d_Si_isStrict_101 (by decide) ?_
                  refine lv_goto (tgt := 106) hx hb d_Si_isStrict_102 (by decide) ?_
                  obtain rfl := Option.some.inj hf
                  exact q_rz hx hb hr hlocks hK hP hD hS (isb_n (v := 1) (by decide)) d_Si_isStrict_106
          · have hf := ifn cx hf
            refine lv_iconst (v := 0) hx hb d_Si_isStrict_50 (by decide) ?_
            obtain rfl := Option.some.inj hf
            exact q_rz hx hb hr hlocks hK hP hD hS (isb_n (v := 0) (by decide)) d_Si_isStrict_51
        · have hf := ifn cx hf
          refine lv_iconst (v := 0) hx hb d_Si_isStrict_31 (by decide) ?_
          obtain rfl := Option.some.inj hf
          exact q_rz hx hb hr hlocks hK hP hD hS (isb_n (v := 0) (by decide)) d_Si_isStrict_32
theorem c_Si_isStrict (l : Launch) (D : va_G) (cy : Nat → ClassId) (ad : Nat → Nat) (fu : Nat) (b0 : Nat) (n0 : Nat) (h0 : Nat → Int32) (a1 : Int32) (a2 : Int32) (res : Int32) (hf : x_Si_isStrict fu n0 h0 a1 a2 = some res) (sz : Nat) : Met l ({ cls := "CoinKeeper$Signatures", name := "isStrict", desc := "([BII)Z" } : Jvm.MethodName) (.code ({ cls := "CoinKeeper$Signatures", name := "isStrict", desc := "([BII)Z" } : Jvm.MethodName) b_Si_isStrict 5 (some .boolean) :: gw) rm_Si_isStrict (va_Pc [.ref b0, .int a1, .int a2] (Pr D cy ad [(b0, .inl (cy 0, n0, .inl h0))] sz)) (q_Si_isStrict D cy (va_A [(b0, .inl (cy 0, n0, .inl h0))] sz) b0 n0 h0 res) 0 0 (va_A [(b0, .inl (cy 0, n0, .inl h0))] sz) :=
  q_met (Qc := fun A => q_Si_isStrict D cy A b0 n0 h0 res) (by decide) rfl rfl (Nat.le_of_ble_eq_true rfl) (fun p e s m below meth c ls F hP hD hS hl => we_Si_isStrict (fu := fu) F a1 a2 res hf _ _ _ hP hD hS hl) sz
abbrev rm_Sc_compare_s1x4 : Room := { frames := 0, cells := 0, slots := 0, locals := 0 }
abbrev q_Sc_compare_s1x4 (D : va_G) (cy : Nat → ClassId) (A : Nat → Prop) (b0 : Nat) (h0 : Nat → Int64) (res : Int32) : Array Value → State → Outcome → State → Prop := va_Qi (fun r' (_ : Unit) => r' = res) (fun _ t => Po D cy A [(b0, .inl (cy 2, 5, .inr (.inl h0)))] t) A
def I_Sc_compare_s1x4_2 (p : Program) (l : Launch) (e : Env) (s : State) (m : MethodId) (args : Array Value) (below : List Frame) (meth : Method) (c : Code) (D : va_G) (cy : Nat → ClassId) (A : Nat → Prop) (ad : Nat → Nat) (b0 : Nat) (h0 : Nat → Int64) (k : Int32 → Option (Int32)) : Prop :=
  ∀ (x2 : Int32) (res : Int32), k x2 = some res → ∀ (H : Heap) (locs : List Loc) (ls : Array Slot), va_P D classes [(b0, .inl (cy 2, 5, .inr (.inl h0)))] H → va_D A [(b0, .inl (cy 2, 5, .inr (.inl h0)))] → va_S A s.heap H locs → lv_has ls 3 [(0, .ref b0), (1, .ref (ad 4)), (2, .int x2)] → W p l e rm_Sc_compare_s1x4 s m args below meth c H locs 0 0 (MQ below (q_Sc_compare_s1x4 D cy A b0 h0 res) args s 0 0 A) (F0 m 2 ls [])
def I_Sc_compare_s1x4_e (p : Program) (l : Launch) (e : Env) (s : State) (m : MethodId) (args : Array Value) (below : List Frame) (meth : Method) (c : Code) (D : va_G) (cy : Nat → ClassId) (A : Nat → Prop) (ad : Nat → Nat) (b0 : Nat) (h0 : Nat → Int64) (k : Option (Int32)) : Prop :=
  ∀ (res : Int32), k  = some res → ∀ (H : Heap) (locs : List Loc) (ls : Array Slot), va_P D classes [(b0, .inl (cy 2, 5, .inr (.inl h0)))] H → va_D A [(b0, .inl (cy 2, 5, .inr (.inl h0)))] → va_S A s.heap H locs → lv_has ls 3 [(0, .ref b0), (1, .ref (ad 4))] → W p l e rm_Sc_compare_s1x4 s m args below meth c H locs 0 0 (MQ below (q_Sc_compare_s1x4 D cy A b0 h0 res) args s 0 0 A) (F0 m 0 ls [])
set_option maxHeartbeats 8000000 in
set_option maxRecDepth 100000 in
theorem wb_Sc_compare_s1x4_2 {p : Program} {l : Launch} {e : Env} {s : State} {m : MethodId} {args : Array Value} {below : List Frame} {meth : Method} {c : Code} {D : va_G} {cy : Nat → ClassId} {A : Nat → Prop} {ad : Nat → Nat} {b0 : Nat} {h0 : Nat → Int64} {fu : Nat} {k_2 : Int32 → Option (Int32)} (F : Fx p s m args meth c b_Sc_compare 3 "CoinKeeper$Scalar" "compare" (some .int) D cy ad A) (hk_2 : I_Sc_compare_s1x4_2 p l e s m args below meth c D cy A ad b0 h0 k_2) : I_Sc_compare_s1x4_2 p l e s m args below meth c D cy A ad b0 h0 (xb_Sc_compare_s1x4_2 fu h0 k_2) := by
  obtain ⟨hx, hb, hr, hml, hown, hts, hlocks, hK, hA, hSt, hnm, hex⟩ := id F
  intro x2 res hf H locs ls hP hD hS hl
  unfold xb_Sc_compare_s1x4_2 at hf
  refine lv_iload_n hx hb d_Sc_compare_2 rfl (lv_at hl 2 rfl) ?_
  refine lv_if_lt (tgt := 38) hx hb d_Sc_compare_3 (by decide) (fun cx => ?_) (fun cx => ?_)
  · have hf := ifp cx hf
    refine lv_iconst (v := 0) hx hb d_Sc_compare_38 (by decide) ?_
    obtain rfl := Option.some.inj hf
    exact q_ri hx hb hr hlocks hK hP hD hS d_Sc_compare_39
  · have hf := ifn cx hf
    refine lv_aload_n hx hb d_Sc_compare_6 rfl (lv_at hl 0 rfl) ?_
    refine lv_iload_n hx hb d_Sc_compare_7 rfl (lv_at hl 2 rfl) ?_
    obtain ⟨hg, hf⟩ := gdp hf
    refine va_lald hx hb hK hP 0 2 rfl rfl (inb_in hg) d_Sc_compare_8 ?_
    refine lv_topl (fun v1 ev => ?_)
    have hf := bn ev hf
    clear ev
    refine lv_aload_n hx hb d_Sc_compare_9 rfl (lv_at hl 1 rfl) ?_
    refine lv_iload_n hx hb d_Sc_compare_10 rfl (lv_at hl 2 rfl) ?_
    obtain ⟨hg, hf⟩ := gdp hf
    refine va_tl (v := .long (tb_4.getD x2.toNatClampNeg 0)) hx hb (hSt.1 4 _ rfl).2 hS (inb_in hg) rfl d_Sc_compare_11 ?_
    refine lv_topl (fun v2 ev => ?_)
    have hf := bn ev hf
    clear ev
    refine W.lcmp hx hb d_Sc_compare_12 ?_
    refine lv_if_eq (tgt := 32) hx hb d_Sc_compare_13 (by decide) (fun cx => ?_) (fun cx => ?_)
    · have hf := ifp cx hf
      obtain ⟨v3, ev, hf⟩ := bne hf
      refine lv_iinc (v := v3) (lv' := [(2, .int v3), (0, .ref b0), (1, .ref (ad 4))]) hx hb d_Sc_compare_32 hl (k := 2) rfl (by rw [ev]; rfl) (by decide) rfl (fun ls hl => ?_)
      clear ev
      refine lv_goto (tgt := 2) hx hb d_Sc_compare_35 (by decide) ?_
      exact hk_2 _ _ hf _ _ _ hP hD hS (lv_sub hl [1, 2, 0] rfl)
    · have hf := ifn cx hf
      refine lv_aload_n hx hb d_Sc_compare_16 rfl (lv_at hl 0 rfl) ?_
      refine lv_iload_n hx hb d_Sc_compare_17 rfl (lv_at hl 2 rfl) ?_
      obtain ⟨hg, hf⟩ := gdp hf
      refine va_lald hx hb hK hP 0 2 rfl rfl (inb_in hg) d_Sc_compare_18 ?_
      refine lv_topl (fun v4 ev => ?_)
      have hf := bn ev hf
      clear ev
      refine lv_aload_n hx hb d_Sc_compare_19 rfl (lv_at hl 1 rfl) ?_
      refine lv_iload_n hx hb d_Sc_compare_20 rfl (lv_at hl 2 rfl) ?_
      obtain ⟨hg, hf⟩ := gdp hf
      refine va_tl (v := .long (tb_4.getD x2.toNatClampNeg 0)) hx hb (hSt.1 4 _ rfl).2 hS (inb_in hg) rfl d_Sc_compare_21 ?_
      refine lv_topl (fun v5 ev => ?_)
      have hf := bn ev hf
      clear ev
      refine W.lcmp hx hb d_Sc_compare_22 ?_
      refine lv_if_ge (tgt := 30) hx hb d_Sc_compare_23 (by decide) (fun cx => ?_) (fun cx => ?_)
      · have hf := ifp cx hf
        refine lv_iconst (v := 1) hx hb d_Sc_compare_30 (by decide) ?_
        obtain rfl := Option.some.inj hf
        exact q_ri hx hb hr hlocks hK hP hD hS d_Sc_compare_31
      · have hf := ifn cx hf
        refine lv_iconst (v := (-1)) hx hb d_Sc_compare_26 (by decide) ?_
        refine lv_goto (tgt := 31) hx hb d_Sc_compare_27 (by decide) ?_
        obtain rfl := Option.some.inj hf
        exact q_ri hx hb hr hlocks hK hP hD hS d_Sc_compare_31
theorem w_Sc_compare_s1x4_2 {p : Program} {l : Launch} {e : Env} {s : State} {m : MethodId} {args : Array Value} {below : List Frame} {meth : Method} {c : Code} {D : va_G} {cy : Nat → ClassId} {A : Nat → Prop} {ad : Nat → Nat} {b0 : Nat} {h0 : Nat → Int64} {fu : Nat} (F : Fx p s m args meth c b_Sc_compare 3 "CoinKeeper$Scalar" "compare" (some .int) D cy ad A) : ∀ n : Nat, I_Sc_compare_s1x4_2 p l e s m args below meth c D cy A ad b0 h0 (x_Sc_compare_s1x4_2 fu h0 n)
  | 0 => fun _ _ hf => nomatch (show (none : Option (Int32)) = some _ from hf)
  | n + 1 => wb_Sc_compare_s1x4_2 F (w_Sc_compare_s1x4_2 F n)
set_option maxHeartbeats 8000000 in
set_option maxRecDepth 100000 in
theorem we_Sc_compare_s1x4 {p : Program} {l : Launch} {e : Env} {s : State} {m : MethodId} {args : Array Value} {below : List Frame} {meth : Method} {c : Code} {D : va_G} {cy : Nat → ClassId} {A : Nat → Prop} {ad : Nat → Nat} {b0 : Nat} {h0 : Nat → Int64} {fu : Nat} (F : Fx p s m args meth c b_Sc_compare 3 "CoinKeeper$Scalar" "compare" (some .int) D cy ad A) : I_Sc_compare_s1x4_e p l e s m args below meth c D cy A ad b0 h0 (x_Sc_compare_s1x4 fu h0) := by
  obtain ⟨hx, hb, hr, hml, hown, hts, hlocks, hK, hA, hSt, hnm, hex⟩ := id F
  intro  res hf H locs ls hP hD hS hl
  unfold x_Sc_compare_s1x4 at hf
  refine lv_iconst (v := 4) hx hb d_Sc_compare_0 (by decide) ?_
  refine lv_istore_n (lv' := [(2, .int (4 : Int32)), (0, .ref b0), (1, .ref (ad 4))]) hx hb d_Sc_compare_1 rfl hl (by decide) rfl (fun ls hl => ?_)
  exact w_Sc_compare_s1x4_2 F fu _ _ hf _ _ _ hP hD hS (lv_sub hl [1, 2, 0] rfl)
theorem c_Sc_compare_s1x4 (l : Launch) (D : va_G) (cy : Nat → ClassId) (ad : Nat → Nat) (fu : Nat) (b0 : Nat) (h0 : Nat → Int64) (res : Int32) (hf : x_Sc_compare_s1x4 fu h0 = some res) (sz : Nat) : Met l ({ cls := "CoinKeeper$Scalar", name := "compare", desc := "([J[J)I" } : Jvm.MethodName) (.code ({ cls := "CoinKeeper$Scalar", name := "compare", desc := "([J[J)I" } : Jvm.MethodName) b_Sc_compare 3 (some .int) :: gw) rm_Sc_compare_s1x4 (va_Pc [.ref b0, .ref (ad 4)] (Pr D cy ad [(b0, .inl (cy 2, 5, .inr (.inl h0)))] sz)) (q_Sc_compare_s1x4 D cy (va_A [(b0, .inl (cy 2, 5, .inr (.inl h0)))] sz) b0 h0 res) 0 0 (va_A [(b0, .inl (cy 2, 5, .inr (.inl h0)))] sz) :=
  q_met (Qc := fun A => q_Sc_compare_s1x4 D cy A b0 h0 res) (by decide) rfl rfl (Nat.le_of_ble_eq_true rfl) (fun p e s m below meth c ls F hP hD hS hl => we_Sc_compare_s1x4 (fu := fu) F  res hf _ _ _ hP hD hS hl) sz
