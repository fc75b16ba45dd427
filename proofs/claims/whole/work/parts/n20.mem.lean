abbrev b_law : ByteArray := code
theorem d_law_0 : decode b_law 0 = .ok (.new 8, 3) := by decide +kernel
theorem d_law_3 : decode b_law 3 = .ok (.dup, 1) := by decide +kernel
theorem d_law_4 : decode b_law 4 = .ok (.invokespecial 47, 3) := by decide +kernel
theorem d_law_7 : decode b_law 7 = .ok (.astore_n 1, 1) := by decide +kernel
theorem d_law_8 : decode b_law 8 = .ok (.new 48, 3) := by decide +kernel
theorem d_law_11 : decode b_law 11 = .ok (.dup, 1) := by decide +kernel
theorem d_law_12 : decode b_law 12 = .ok (.invokespecial 50, 3) := by decide +kernel
theorem d_law_15 : decode b_law 15 = .ok (.astore_n 2, 1) := by decide +kernel
theorem d_law_16 : decode b_law 16 = .ok (.iconst 1, 1) := by decide +kernel
theorem d_law_17 : decode b_law 17 = .ok (.newarray .long, 2) := by decide +kernel
theorem d_law_19 : decode b_law 19 = .ok (.astore_n 3, 1) := by decide +kernel
theorem d_law_20 : decode b_law 20 = .ok (.iconst 0, 1) := by decide +kernel
theorem d_law_21 : decode b_law 21 = .ok (.istore 4, 2) := by decide +kernel
theorem d_law_23 : decode b_law 23 = .ok (.iload 4, 2) := by decide +kernel
theorem d_law_25 : decode b_law 25 = .ok (.aload_n 0, 1) := by decide +kernel
theorem d_law_26 : decode b_law 26 = .ok (.arraylength, 1) := by decide +kernel
theorem d_law_27 : decode b_law 27 = .ok (.bipush 6, 2) := by decide +kernel
theorem d_law_29 : decode b_law 29 = .ok (.isub, 1) := by decide +kernel
theorem d_law_30 : decode b_law 30 = .ok (.if_icmp .gt 638, 3) := by decide +kernel
theorem d_law_33 : decode b_law 33 = .ok (.aload_n 0, 1) := by decide +kernel
theorem d_law_34 : decode b_law 34 = .ok (.iload 4, 2) := by decide +kernel
theorem d_law_36 : decode b_law 36 = .ok (.iaload, 1) := by decide +kernel
theorem d_law_37 : decode b_law 37 = .ok (.bipush 15, 2) := by decide +kernel
theorem d_law_39 : decode b_law 39 = .ok (.iand, 1) := by decide +kernel
theorem d_law_40 : decode b_law 40 = .ok (.tableswitch 622 0 9 #[56, 160, 216, 260, 323, 379, 435, 490, 545, 559], 56) := by decide +kernel
theorem d_law_96 : decode b_law 96 = .ok (.aload_n 1, 1) := by decide +kernel
theorem d_law_97 : decode b_law 97 = .ok (.aload_n 0, 1) := by decide +kernel
theorem d_law_98 : decode b_law 98 = .ok (.iload 4, 2) := by decide +kernel
theorem d_law_100 : decode b_law 100 = .ok (.iconst 1, 1) := by decide +kernel
theorem d_law_101 : decode b_law 101 = .ok (.iadd, 1) := by decide +kernel
theorem d_law_102 : decode b_law 102 = .ok (.iaload, 1) := by decide +kernel
theorem d_law_103 : decode b_law 103 = .ok (.aload_n 0, 1) := by decide +kernel
theorem d_law_104 : decode b_law 104 = .ok (.iload 4, 2) := by decide +kernel
theorem d_law_106 : decode b_law 106 = .ok (.iconst 2, 1) := by decide +kernel
theorem d_law_107 : decode b_law 107 = .ok (.iadd, 1) := by decide +kernel
theorem d_law_108 : decode b_law 108 = .ok (.iaload, 1) := by decide +kernel
theorem d_law_109 : decode b_law 109 = .ok (.aload_n 0, 1) := by decide +kernel
theorem d_law_110 : decode b_law 110 = .ok (.iload 4, 2) := by decide +kernel
theorem d_law_112 : decode b_law 112 = .ok (.iconst 3, 1) := by decide +kernel
theorem d_law_113 : decode b_law 113 = .ok (.iadd, 1) := by decide +kernel
theorem d_law_114 : decode b_law 114 = .ok (.iaload, 1) := by decide +kernel
theorem d_law_115 : decode b_law 115 = .ok (.aload_n 0, 1) := by decide +kernel
theorem d_law_116 : decode b_law 116 = .ok (.iload 4, 2) := by decide +kernel
theorem d_law_118 : decode b_law 118 = .ok (.iconst 4, 1) := by decide +kernel
theorem d_law_119 : decode b_law 119 = .ok (.iadd, 1) := by decide +kernel
theorem d_law_120 : decode b_law 120 = .ok (.iaload, 1) := by decide +kernel
theorem d_law_121 : decode b_law 121 = .ok (.aload_n 0, 1) := by decide +kernel
theorem d_law_122 : decode b_law 122 = .ok (.iload 4, 2) := by decide +kernel
theorem d_law_124 : decode b_law 124 = .ok (.iconst 5, 1) := by decide +kernel
theorem d_law_125 : decode b_law 125 = .ok (.iadd, 1) := by decide +kernel
theorem d_law_126 : decode b_law 126 = .ok (.iaload, 1) := by decide +kernel
theorem d_law_127 : decode b_law 127 = .ok (.aload_n 3, 1) := by decide +kernel
theorem d_law_128 : decode b_law 128 = .ok (.invokestatic 51, 3) := by decide +kernel
theorem d_law_131 : decode b_law 131 = .ok (.istore 5, 2) := by decide +kernel
theorem d_law_133 : decode b_law 133 = .ok (.aload_n 2, 1) := by decide +kernel
theorem d_law_134 : decode b_law 134 = .ok (.aload_n 0, 1) := by decide +kernel
theorem d_law_135 : decode b_law 135 = .ok (.iload 4, 2) := by decide +kernel
theorem d_law_137 : decode b_law 137 = .ok (.iconst 1, 1) := by decide +kernel
theorem d_law_138 : decode b_law 138 = .ok (.iadd, 1) := by decide +kernel
theorem d_law_139 : decode b_law 139 = .ok (.iaload, 1) := by decide +kernel
theorem d_law_140 : decode b_law 140 = .ok (.aload_n 0, 1) := by decide +kernel
theorem d_law_141 : decode b_law 141 = .ok (.iload 4, 2) := by decide +kernel
theorem d_law_143 : decode b_law 143 = .ok (.iconst 2, 1) := by decide +kernel
theorem d_law_144 : decode b_law 144 = .ok (.iadd, 1) := by decide +kernel
theorem d_law_145 : decode b_law 145 = .ok (.iaload, 1) := by decide +kernel
theorem d_law_146 : decode b_law 146 = .ok (.aload_n 0, 1) := by decide +kernel
theorem d_law_147 : decode b_law 147 = .ok (.iload 4, 2) := by decide +kernel
theorem d_law_149 : decode b_law 149 = .ok (.iconst 3, 1) := by decide +kernel
theorem d_law_150 : decode b_law 150 = .ok (.iadd, 1) := by decide +kernel
theorem d_law_151 : decode b_law 151 = .ok (.iaload, 1) := by decide +kernel
theorem d_law_152 : decode b_law 152 = .ok (.aload_n 0, 1) := by decide +kernel
theorem d_law_153 : decode b_law 153 = .ok (.iload 4, 2) := by decide +kernel
theorem d_law_155 : decode b_law 155 = .ok (.iconst 4, 1) := by decide +kernel
theorem d_law_156 : decode b_law 156 = .ok (.iadd, 1) := by decide +kernel
theorem d_law_157 : decode b_law 157 = .ok (.iaload, 1) := by decide +kernel
theorem d_law_158 : decode b_law 158 = .ok (.aload_n 0, 1) := by decide +kernel
theorem d_law_159 : decode b_law 159 = .ok (.iload 4, 2) := by decide +kernel
theorem d_law_161 : decode b_law 161 = .ok (.iconst 5, 1) := by decide +kernel
theorem d_law_162 : decode b_law 162 = .ok (.iadd, 1) := by decide +kernel
theorem d_law_163 : decode b_law 163 = .ok (.iaload, 1) := by decide +kernel
theorem d_law_164 : decode b_law 164 = .ok (.invokevirtual 56, 3) := by decide +kernel
theorem d_law_167 : decode b_law 167 = .ok (.istore 6, 2) := by decide +kernel
theorem d_law_169 : decode b_law 169 = .ok (.aload_n 2, 1) := by decide +kernel
theorem d_law_170 : decode b_law 170 = .ok (.invokevirtual 57, 3) := by decide +kernel
theorem d_law_173 : decode b_law 173 = .ok (.iload 5, 2) := by decide +kernel
theorem d_law_175 : decode b_law 175 = .ok (.if_icmp .eq 5, 3) := by decide +kernel
theorem d_law_178 : decode b_law 178 = .ok (.iconst 0, 1) := by decide +kernel
theorem d_law_179 : decode b_law 179 = .ok (.ireturn, 1) := by decide +kernel
theorem d_law_180 : decode b_law 180 = .ok (.iload 5, 2) := by decide +kernel
theorem d_law_182 : decode b_law 182 = .ok (.ifCond .ne 15, 3) := by decide +kernel
theorem d_law_185 : decode b_law 185 = .ok (.aload_n 3, 1) := by decide +kernel
theorem d_law_186 : decode b_law 186 = .ok (.iconst 0, 1) := by decide +kernel
theorem d_law_187 : decode b_law 187 = .ok (.laload, 1) := by decide +kernel
theorem d_law_188 : decode b_law 188 = .ok (.iload 6, 2) := by decide +kernel
theorem d_law_190 : decode b_law 190 = .ok (.i2l, 1) := by decide +kernel
theorem d_law_191 : decode b_law 191 = .ok (.lcmp, 1) := by decide +kernel
theorem d_law_192 : decode b_law 192 = .ok (.ifCond .eq 5, 3) := by decide +kernel
theorem d_law_195 : decode b_law 195 = .ok (.iconst 0, 1) := by decide +kernel
theorem d_law_196 : decode b_law 196 = .ok (.ireturn, 1) := by decide +kernel
theorem d_law_197 : decode b_law 197 = .ok (.goto 465, 3) := by decide +kernel
theorem d_law_200 : decode b_law 200 = .ok (.aload_n 1, 1) := by decide +kernel
theorem d_law_201 : decode b_law 201 = .ok (.aload_n 0, 1) := by decide +kernel
theorem d_law_202 : decode b_law 202 = .ok (.iload 4, 2) := by decide +kernel
theorem d_law_204 : decode b_law 204 = .ok (.iconst 1, 1) := by decide +kernel
theorem d_law_205 : decode b_law 205 = .ok (.iadd, 1) := by decide +kernel
theorem d_law_206 : decode b_law 206 = .ok (.iaload, 1) := by decide +kernel
theorem d_law_207 : decode b_law 207 = .ok (.aload_n 3, 1) := by decide +kernel
theorem d_law_208 : decode b_law 208 = .ok (.invokestatic 60, 3) := by decide +kernel
theorem d_law_211 : decode b_law 211 = .ok (.istore 5, 2) := by decide +kernel
theorem d_law_213 : decode b_law 213 = .ok (.aload_n 2, 1) := by decide +kernel
theorem d_law_214 : decode b_law 214 = .ok (.aload_n 0, 1) := by decide +kernel
theorem d_law_215 : decode b_law 215 = .ok (.iload 4, 2) := by decide +kernel
theorem d_law_217 : decode b_law 217 = .ok (.iconst 1, 1) := by decide +kernel
theorem d_law_218 : decode b_law 218 = .ok (.iadd, 1) := by decide +kernel
theorem d_law_219 : decode b_law 219 = .ok (.iaload, 1) := by decide +kernel
theorem d_law_220 : decode b_law 220 = .ok (.invokevirtual 63, 3) := by decide +kernel
theorem d_law_223 : decode b_law 223 = .ok (.istore 6, 2) := by decide +kernel
theorem d_law_225 : decode b_law 225 = .ok (.aload_n 2, 1) := by decide +kernel
theorem d_law_226 : decode b_law 226 = .ok (.invokevirtual 57, 3) := by decide +kernel
theorem d_law_229 : decode b_law 229 = .ok (.iload 5, 2) := by decide +kernel
theorem d_law_231 : decode b_law 231 = .ok (.if_icmp .eq 5, 3) := by decide +kernel
theorem d_law_234 : decode b_law 234 = .ok (.iconst 0, 1) := by decide +kernel
theorem d_law_235 : decode b_law 235 = .ok (.ireturn, 1) := by decide +kernel
theorem d_law_236 : decode b_law 236 = .ok (.iload 5, 2) := by decide +kernel
theorem d_law_238 : decode b_law 238 = .ok (.ifCond .ne 15, 3) := by decide +kernel
theorem d_law_241 : decode b_law 241 = .ok (.aload_n 3, 1) := by decide +kernel
theorem d_law_242 : decode b_law 242 = .ok (.iconst 0, 1) := by decide +kernel
theorem d_law_243 : decode b_law 243 = .ok (.laload, 1) := by decide +kernel
theorem d_law_244 : decode b_law 244 = .ok (.iload 6, 2) := by decide +kernel
theorem d_law_246 : decode b_law 246 = .ok (.i2l, 1) := by decide +kernel
theorem d_law_247 : decode b_law 247 = .ok (.lcmp, 1) := by decide +kernel
theorem d_law_248 : decode b_law 248 = .ok (.ifCond .eq 5, 3) := by decide +kernel
theorem d_law_251 : decode b_law 251 = .ok (.iconst 0, 1) := by decide +kernel
theorem d_law_252 : decode b_law 252 = .ok (.ireturn, 1) := by decide +kernel
theorem d_law_253 : decode b_law 253 = .ok (.goto 409, 3) := by decide +kernel
theorem d_law_256 : decode b_law 256 = .ok (.aload_n 1, 1) := by decide +kernel
theorem d_law_257 : decode b_law 257 = .ok (.aload_n 3, 1) := by decide +kernel
theorem d_law_258 : decode b_law 258 = .ok (.invokestatic 64, 3) := by decide +kernel
theorem d_law_261 : decode b_law 261 = .ok (.istore 5, 2) := by decide +kernel
theorem d_law_263 : decode b_law 263 = .ok (.aload_n 2, 1) := by decide +kernel
theorem d_law_264 : decode b_law 264 = .ok (.invokevirtual 67, 3) := by decide +kernel
theorem d_law_267 : decode b_law 267 = .ok (.istore 6, 2) := by decide +kernel
theorem d_law_269 : decode b_law 269 = .ok (.aload_n 2, 1) := by decide +kernel
theorem d_law_270 : decode b_law 270 = .ok (.invokevirtual 57, 3) := by decide +kernel
theorem d_law_273 : decode b_law 273 = .ok (.iload 5, 2) := by decide +kernel
theorem d_law_275 : decode b_law 275 = .ok (.if_icmp .eq 5, 3) := by decide +kernel
theorem d_law_278 : decode b_law 278 = .ok (.iconst 0, 1) := by decide +kernel
theorem d_law_279 : decode b_law 279 = .ok (.ireturn, 1) := by decide +kernel
theorem d_law_280 : decode b_law 280 = .ok (.iload 5, 2) := by decide +kernel
theorem d_law_282 : decode b_law 282 = .ok (.ifCond .ne 15, 3) := by decide +kernel
theorem d_law_285 : decode b_law 285 = .ok (.aload_n 3, 1) := by decide +kernel
theorem d_law_286 : decode b_law 286 = .ok (.iconst 0, 1) := by decide +kernel
theorem d_law_287 : decode b_law 287 = .ok (.laload, 1) := by decide +kernel
theorem d_law_288 : decode b_law 288 = .ok (.iload 6, 2) := by decide +kernel
theorem d_law_290 : decode b_law 290 = .ok (.i2l, 1) := by decide +kernel
theorem d_law_291 : decode b_law 291 = .ok (.lcmp, 1) := by decide +kernel
theorem d_law_292 : decode b_law 292 = .ok (.ifCond .eq 5, 3) := by decide +kernel
theorem d_law_295 : decode b_law 295 = .ok (.iconst 0, 1) := by decide +kernel
theorem d_law_296 : decode b_law 296 = .ok (.ireturn, 1) := by decide +kernel
theorem d_law_297 : decode b_law 297 = .ok (.goto 365, 3) := by decide +kernel
theorem d_law_300 : decode b_law 300 = .ok (.aload_n 1, 1) := by decide +kernel
theorem d_law_301 : decode b_law 301 = .ok (.aload_n 0, 1) := by decide +kernel
theorem d_law_302 : decode b_law 302 = .ok (.iload 4, 2) := by decide +kernel
theorem d_law_304 : decode b_law 304 = .ok (.iconst 1, 1) := by decide +kernel
theorem d_law_305 : decode b_law 305 = .ok (.iadd, 1) := by decide +kernel
theorem d_law_306 : decode b_law 306 = .ok (.iaload, 1) := by decide +kernel
theorem d_law_307 : decode b_law 307 = .ok (.aload_n 3, 1) := by decide +kernel
theorem d_law_308 : decode b_law 308 = .ok (.invokestatic 68, 3) := by decide +kernel
theorem d_law_311 : decode b_law 311 = .ok (.istore 5, 2) := by decide +kernel
theorem d_law_313 : decode b_law 313 = .ok (.aload_n 2, 1) := by decide +kernel
theorem d_law_314 : decode b_law 314 = .ok (.aload_n 0, 1) := by decide +kernel
theorem d_law_315 : decode b_law 315 = .ok (.iload 4, 2) := by decide +kernel
theorem d_law_317 : decode b_law 317 = .ok (.iconst 1, 1) := by decide +kernel
theorem d_law_318 : decode b_law 318 = .ok (.iadd, 1) := by decide +kernel
theorem d_law_319 : decode b_law 319 = .ok (.iaload, 1) := by decide +kernel
theorem d_law_320 : decode b_law 320 = .ok (.invokevirtual 70, 3) := by decide +kernel
theorem d_law_323 : decode b_law 323 = .ok (.istore 6, 2) := by decide +kernel
theorem d_law_325 : decode b_law 325 = .ok (.aload_n 2, 1) := by decide +kernel
theorem d_law_326 : decode b_law 326 = .ok (.invokevirtual 57, 3) := by decide +kernel
theorem d_law_329 : decode b_law 329 = .ok (.iload 5, 2) := by decide +kernel
theorem d_law_331 : decode b_law 331 = .ok (.if_icmp .eq 5, 3) := by decide +kernel
theorem d_law_334 : decode b_law 334 = .ok (.iconst 0, 1) := by decide +kernel
theorem d_law_335 : decode b_law 335 = .ok (.ireturn, 1) := by decide +kernel
theorem d_law_336 : decode b_law 336 = .ok (.iload 5, 2) := by decide +kernel
theorem d_law_338 : decode b_law 338 = .ok (.ifCond .ne 22, 3) := by decide +kernel
theorem d_law_341 : decode b_law 341 = .ok (.aload_n 3, 1) := by decide +kernel
theorem d_law_342 : decode b_law 342 = .ok (.iconst 0, 1) := by decide +kernel
theorem d_law_343 : decode b_law 343 = .ok (.laload, 1) := by decide +kernel
theorem d_law_344 : decode b_law 344 = .ok (.iload 6, 2) := by decide +kernel
theorem d_law_346 : decode b_law 346 = .ok (.ifCond .eq 7, 3) := by decide +kernel
theorem d_law_349 : decode b_law 349 = .ok (.lconst 1, 1) := by decide +kernel
theorem d_law_350 : decode b_law 350 = .ok (.goto 4, 3) := by decide +kernel
theorem d_law_353 : decode b_law 353 = .ok (.lconst 0, 1) := by decide +kernel
theorem d_law_354 : decode b_law 354 = .ok (.lcmp, 1) := by decide +kernel
theorem d_law_355 : decode b_law 355 = .ok (.ifCond .eq 5, 3) := by decide +kernel
theorem d_law_358 : decode b_law 358 = .ok (.iconst 0, 1) := by decide +kernel
theorem d_law_359 : decode b_law 359 = .ok (.ireturn, 1) := by decide +kernel
theorem d_law_360 : decode b_law 360 = .ok (.goto 302, 3) := by decide +kernel
theorem d_law_363 : decode b_law 363 = .ok (.aload_n 1, 1) := by decide +kernel
theorem d_law_364 : decode b_law 364 = .ok (.aload_n 0, 1) := by decide +kernel
theorem d_law_365 : decode b_law 365 = .ok (.iload 4, 2) := by decide +kernel
theorem d_law_367 : decode b_law 367 = .ok (.iconst 1, 1) := by decide +kernel
theorem d_law_368 : decode b_law 368 = .ok (.iadd, 1) := by decide +kernel
theorem d_law_369 : decode b_law 369 = .ok (.iaload, 1) := by decide +kernel
theorem d_law_370 : decode b_law 370 = .ok (.aload_n 3, 1) := by decide +kernel
theorem d_law_371 : decode b_law 371 = .ok (.invokestatic 71, 3) := by decide +kernel
theorem d_law_374 : decode b_law 374 = .ok (.istore 5, 2) := by decide +kernel
theorem d_law_376 : decode b_law 376 = .ok (.aload_n 2, 1) := by decide +kernel
theorem d_law_377 : decode b_law 377 = .ok (.aload_n 0, 1) := by decide +kernel
theorem d_law_378 : decode b_law 378 = .ok (.iload 4, 2) := by decide +kernel
theorem d_law_380 : decode b_law 380 = .ok (.iconst 1, 1) := by decide +kernel
theorem d_law_381 : decode b_law 381 = .ok (.iadd, 1) := by decide +kernel
theorem d_law_382 : decode b_law 382 = .ok (.iaload, 1) := by decide +kernel
theorem d_law_383 : decode b_law 383 = .ok (.invokevirtual 73, 3) := by decide +kernel
theorem d_law_386 : decode b_law 386 = .ok (.istore 6, 2) := by decide +kernel
theorem d_law_388 : decode b_law 388 = .ok (.aload_n 2, 1) := by decide +kernel
theorem d_law_389 : decode b_law 389 = .ok (.invokevirtual 57, 3) := by decide +kernel
theorem d_law_392 : decode b_law 392 = .ok (.iload 5, 2) := by decide +kernel
theorem d_law_394 : decode b_law 394 = .ok (.if_icmp .eq 5, 3) := by decide +kernel
theorem d_law_397 : decode b_law 397 = .ok (.iconst 0, 1) := by decide +kernel
theorem d_law_398 : decode b_law 398 = .ok (.ireturn, 1) := by decide +kernel
theorem d_law_399 : decode b_law 399 = .ok (.iload 5, 2) := by decide +kernel
theorem d_law_401 : decode b_law 401 = .ok (.ifCond .ne 15, 3) := by decide +kernel
theorem d_law_404 : decode b_law 404 = .ok (.aload_n 3, 1) := by decide +kernel
theorem d_law_405 : decode b_law 405 = .ok (.iconst 0, 1) := by decide +kernel
theorem d_law_406 : decode b_law 406 = .ok (.laload, 1) := by decide +kernel
theorem d_law_407 : decode b_law 407 = .ok (.iload 6, 2) := by decide +kernel
theorem d_law_409 : decode b_law 409 = .ok (.i2l, 1) := by decide +kernel
theorem d_law_410 : decode b_law 410 = .ok (.lcmp, 1) := by decide +kernel
theorem d_law_411 : decode b_law 411 = .ok (.ifCond .eq 5, 3) := by decide +kernel
theorem d_law_414 : decode b_law 414 = .ok (.iconst 0, 1) := by decide +kernel
theorem d_law_415 : decode b_law 415 = .ok (.ireturn, 1) := by decide +kernel
theorem d_law_416 : decode b_law 416 = .ok (.goto 246, 3) := by decide +kernel
theorem d_law_419 : decode b_law 419 = .ok (.aload_n 1, 1) := by decide +kernel
theorem d_law_420 : decode b_law 420 = .ok (.aload_n 0, 1) := by decide +kernel
theorem d_law_421 : decode b_law 421 = .ok (.iload 4, 2) := by decide +kernel
theorem d_law_423 : decode b_law 423 = .ok (.iconst 1, 1) := by decide +kernel
theorem d_law_424 : decode b_law 424 = .ok (.iadd, 1) := by decide +kernel
theorem d_law_425 : decode b_law 425 = .ok (.iaload, 1) := by decide +kernel
theorem d_law_426 : decode b_law 426 = .ok (.aload_n 3, 1) := by decide +kernel
theorem d_law_427 : decode b_law 427 = .ok (.invokestatic 74, 3) := by decide +kernel
theorem d_law_430 : decode b_law 430 = .ok (.istore 5, 2) := by decide +kernel
theorem d_law_432 : decode b_law 432 = .ok (.aload_n 2, 1) := by decide +kernel
theorem d_law_433 : decode b_law 433 = .ok (.aload_n 0, 1) := by decide +kernel
theorem d_law_434 : decode b_law 434 = .ok (.iload 4, 2) := by decide +kernel
theorem d_law_436 : decode b_law 436 = .ok (.iconst 1, 1) := by decide +kernel
theorem d_law_437 : decode b_law 437 = .ok (.iadd, 1) := by decide +kernel
theorem d_law_438 : decode b_law 438 = .ok (.iaload, 1) := by decide +kernel
theorem d_law_439 : decode b_law 439 = .ok (.invokevirtual 76, 3) := by decide +kernel
theorem d_law_442 : decode b_law 442 = .ok (.istore 6, 2) := by decide +kernel
theorem d_law_444 : decode b_law 444 = .ok (.aload_n 2, 1) := by decide +kernel
theorem d_law_445 : decode b_law 445 = .ok (.invokevirtual 57, 3) := by decide +kernel
theorem d_law_448 : decode b_law 448 = .ok (.iload 5, 2) := by decide +kernel
theorem d_law_450 : decode b_law 450 = .ok (.if_icmp .eq 5, 3) := by decide +kernel
theorem d_law_453 : decode b_law 453 = .ok (.iconst 0, 1) := by decide +kernel
theorem d_law_454 : decode b_law 454 = .ok (.ireturn, 1) := by decide +kernel
theorem d_law_455 : decode b_law 455 = .ok (.iload 5, 2) := by decide +kernel
theorem d_law_457 : decode b_law 457 = .ok (.ifCond .ne 15, 3) := by decide +kernel
theorem d_law_460 : decode b_law 460 = .ok (.aload_n 3, 1) := by decide +kernel
theorem d_law_461 : decode b_law 461 = .ok (.iconst 0, 1) := by decide +kernel
theorem d_law_462 : decode b_law 462 = .ok (.laload, 1) := by decide +kernel
theorem d_law_463 : decode b_law 463 = .ok (.iload 6, 2) := by decide +kernel
theorem d_law_465 : decode b_law 465 = .ok (.i2l, 1) := by decide +kernel
theorem d_law_466 : decode b_law 466 = .ok (.lcmp, 1) := by decide +kernel
theorem d_law_467 : decode b_law 467 = .ok (.ifCond .eq 5, 3) := by decide +kernel
theorem d_law_470 : decode b_law 470 = .ok (.iconst 0, 1) := by decide +kernel
theorem d_law_471 : decode b_law 471 = .ok (.ireturn, 1) := by decide +kernel
theorem d_law_472 : decode b_law 472 = .ok (.goto 190, 3) := by decide +kernel
theorem d_law_475 : decode b_law 475 = .ok (.aload_n 1, 1) := by decide +kernel
theorem d_law_476 : decode b_law 476 = .ok (.aload_n 0, 1) := by decide +kernel
theorem d_law_477 : decode b_law 477 = .ok (.iload 4, 2) := by decide +kernel
theorem d_law_479 : decode b_law 479 = .ok (.iconst 1, 1) := by decide +kernel
theorem d_law_480 : decode b_law 480 = .ok (.iadd, 1) := by decide +kernel
theorem d_law_481 : decode b_law 481 = .ok (.iaload, 1) := by decide +kernel
theorem d_law_482 : decode b_law 482 = .ok (.aload_n 3, 1) := by decide +kernel
theorem d_law_483 : decode b_law 483 = .ok (.invokestatic 77, 3) := by decide +kernel
theorem d_law_486 : decode b_law 486 = .ok (.istore 5, 2) := by decide +kernel
theorem d_law_488 : decode b_law 488 = .ok (.aload_n 2, 1) := by decide +kernel
theorem d_law_489 : decode b_law 489 = .ok (.aload_n 0, 1) := by decide +kernel
theorem d_law_490 : decode b_law 490 = .ok (.iload 4, 2) := by decide +kernel
theorem d_law_492 : decode b_law 492 = .ok (.iconst 1, 1) := by decide +kernel
theorem d_law_493 : decode b_law 493 = .ok (.iadd, 1) := by decide +kernel
theorem d_law_494 : decode b_law 494 = .ok (.iaload, 1) := by decide +kernel
theorem d_law_495 : decode b_law 495 = .ok (.invokevirtual 79, 3) := by decide +kernel
theorem d_law_498 : decode b_law 498 = .ok (.lstore 6, 2) := by decide +kernel
theorem d_law_500 : decode b_law 500 = .ok (.aload_n 2, 1) := by decide +kernel
theorem d_law_501 : decode b_law 501 = .ok (.invokevirtual 57, 3) := by decide +kernel
theorem d_law_504 : decode b_law 504 = .ok (.iload 5, 2) := by decide +kernel
theorem d_law_506 : decode b_law 506 = .ok (.if_icmp .eq 5, 3) := by decide +kernel
theorem d_law_509 : decode b_law 509 = .ok (.iconst 0, 1) := by decide +kernel
theorem d_law_510 : decode b_law 510 = .ok (.ireturn, 1) := by decide +kernel
theorem d_law_511 : decode b_law 511 = .ok (.iload 5, 2) := by decide +kernel
theorem d_law_513 : decode b_law 513 = .ok (.ifCond .ne 14, 3) := by decide +kernel
theorem d_law_516 : decode b_law 516 = .ok (.aload_n 3, 1) := by decide +kernel
theorem d_law_517 : decode b_law 517 = .ok (.iconst 0, 1) := by decide +kernel
theorem d_law_518 : decode b_law 518 = .ok (.laload, 1) := by decide +kernel
theorem d_law_519 : decode b_law 519 = .ok (.lload 6, 2) := by decide +kernel
theorem d_law_521 : decode b_law 521 = .ok (.lcmp, 1) := by decide +kernel
theorem d_law_522 : decode b_law 522 = .ok (.ifCond .eq 5, 3) := by decide +kernel
theorem d_law_525 : decode b_law 525 = .ok (.iconst 0, 1) := by decide +kernel
theorem d_law_526 : decode b_law 526 = .ok (.ireturn, 1) := by decide +kernel
theorem d_law_527 : decode b_law 527 = .ok (.goto 135, 3) := by decide +kernel
theorem d_law_530 : decode b_law 530 = .ok (.aload_n 1, 1) := by decide +kernel
theorem d_law_531 : decode b_law 531 = .ok (.aload_n 0, 1) := by decide +kernel
theorem d_law_532 : decode b_law 532 = .ok (.iload 4, 2) := by decide +kernel
theorem d_law_534 : decode b_law 534 = .ok (.iconst 1, 1) := by decide +kernel
theorem d_law_535 : decode b_law 535 = .ok (.iadd, 1) := by decide +kernel
theorem d_law_536 : decode b_law 536 = .ok (.iaload, 1) := by decide +kernel
theorem d_law_537 : decode b_law 537 = .ok (.aload_n 3, 1) := by decide +kernel
theorem d_law_538 : decode b_law 538 = .ok (.invokestatic 80, 3) := by decide +kernel
theorem d_law_541 : decode b_law 541 = .ok (.istore 5, 2) := by decide +kernel
theorem d_law_543 : decode b_law 543 = .ok (.aload_n 2, 1) := by decide +kernel
theorem d_law_544 : decode b_law 544 = .ok (.aload_n 0, 1) := by decide +kernel
theorem d_law_545 : decode b_law 545 = .ok (.iload 4, 2) := by decide +kernel
theorem d_law_547 : decode b_law 547 = .ok (.iconst 1, 1) := by decide +kernel
theorem d_law_548 : decode b_law 548 = .ok (.iadd, 1) := by decide +kernel
theorem d_law_549 : decode b_law 549 = .ok (.iaload, 1) := by decide +kernel
theorem d_law_550 : decode b_law 550 = .ok (.invokevirtual 82, 3) := by decide +kernel
theorem d_law_553 : decode b_law 553 = .ok (.lstore 6, 2) := by decide +kernel
theorem d_law_555 : decode b_law 555 = .ok (.aload_n 2, 1) := by decide +kernel
theorem d_law_556 : decode b_law 556 = .ok (.invokevirtual 57, 3) := by decide +kernel
theorem d_law_559 : decode b_law 559 = .ok (.iload 5, 2) := by decide +kernel
theorem d_law_561 : decode b_law 561 = .ok (.if_icmp .eq 5, 3) := by decide +kernel
theorem d_law_564 : decode b_law 564 = .ok (.iconst 0, 1) := by decide +kernel
theorem d_law_565 : decode b_law 565 = .ok (.ireturn, 1) := by decide +kernel
theorem d_law_566 : decode b_law 566 = .ok (.iload 5, 2) := by decide +kernel
theorem d_law_568 : decode b_law 568 = .ok (.ifCond .ne 14, 3) := by decide +kernel
theorem d_law_571 : decode b_law 571 = .ok (.aload_n 3, 1) := by decide +kernel
theorem d_law_572 : decode b_law 572 = .ok (.iconst 0, 1) := by decide +kernel
theorem d_law_573 : decode b_law 573 = .ok (.laload, 1) := by decide +kernel
theorem d_law_574 : decode b_law 574 = .ok (.lload 6, 2) := by decide +kernel
theorem d_law_576 : decode b_law 576 = .ok (.lcmp, 1) := by decide +kernel
theorem d_law_577 : decode b_law 577 = .ok (.ifCond .eq 5, 3) := by decide +kernel
theorem d_law_580 : decode b_law 580 = .ok (.iconst 0, 1) := by decide +kernel
theorem d_law_581 : decode b_law 581 = .ok (.ireturn, 1) := by decide +kernel
theorem d_law_582 : decode b_law 582 = .ok (.goto 80, 3) := by decide +kernel
theorem d_law_585 : decode b_law 585 = .ok (.aload_n 1, 1) := by decide +kernel
theorem d_law_586 : decode b_law 586 = .ok (.invokevirtual 83, 3) := by decide +kernel
theorem d_law_589 : decode b_law 589 = .ok (.aload_n 2, 1) := by decide +kernel
theorem d_law_590 : decode b_law 590 = .ok (.invokevirtual 87, 3) := by decide +kernel
theorem d_law_593 : decode b_law 593 = .ok (.lcmp, 1) := by decide +kernel
theorem d_law_594 : decode b_law 594 = .ok (.ifCond .eq 68, 3) := by decide +kernel
theorem d_law_597 : decode b_law 597 = .ok (.iconst 0, 1) := by decide +kernel
theorem d_law_598 : decode b_law 598 = .ok (.ireturn, 1) := by decide +kernel
theorem d_law_599 : decode b_law 599 = .ok (.aload_n 1, 1) := by decide +kernel
theorem d_law_600 : decode b_law 600 = .ok (.aload_n 0, 1) := by decide +kernel
theorem d_law_601 : decode b_law 601 = .ok (.iload 4, 2) := by decide +kernel
theorem d_law_603 : decode b_law 603 = .ok (.iconst 1, 1) := by decide +kernel
theorem d_law_604 : decode b_law 604 = .ok (.iadd, 1) := by decide +kernel
theorem d_law_605 : decode b_law 605 = .ok (.iaload, 1) := by decide +kernel
theorem d_law_606 : decode b_law 606 = .ok (.aload_n 3, 1) := by decide +kernel
theorem d_law_607 : decode b_law 607 = .ok (.invokestatic 88, 3) := by decide +kernel
theorem d_law_610 : decode b_law 610 = .ok (.istore 5, 2) := by decide +kernel
theorem d_law_612 : decode b_law 612 = .ok (.aload_n 2, 1) := by decide +kernel
theorem d_law_613 : decode b_law 613 = .ok (.aload_n 0, 1) := by decide +kernel
theorem d_law_614 : decode b_law 614 = .ok (.iload 4, 2) := by decide +kernel
theorem d_law_616 : decode b_law 616 = .ok (.iconst 1, 1) := by decide +kernel
theorem d_law_617 : decode b_law 617 = .ok (.iadd, 1) := by decide +kernel
theorem d_law_618 : decode b_law 618 = .ok (.iaload, 1) := by decide +kernel
theorem d_law_619 : decode b_law 619 = .ok (.invokevirtual 90, 3) := by decide +kernel
theorem d_law_622 : decode b_law 622 = .ok (.istore 6, 2) := by decide +kernel
theorem d_law_624 : decode b_law 624 = .ok (.aload_n 2, 1) := by decide +kernel
theorem d_law_625 : decode b_law 625 = .ok (.invokevirtual 57, 3) := by decide +kernel
theorem d_law_628 : decode b_law 628 = .ok (.iload 5, 2) := by decide +kernel
theorem d_law_630 : decode b_law 630 = .ok (.if_icmp .eq 5, 3) := by decide +kernel
theorem d_law_633 : decode b_law 633 = .ok (.iconst 0, 1) := by decide +kernel
theorem d_law_634 : decode b_law 634 = .ok (.ireturn, 1) := by decide +kernel
theorem d_law_635 : decode b_law 635 = .ok (.iload 5, 2) := by decide +kernel
theorem d_law_637 : decode b_law 637 = .ok (.ifCond .ne 22, 3) := by decide +kernel
theorem d_law_640 : decode b_law 640 = .ok (.aload_n 3, 1) := by decide +kernel
theorem d_law_641 : decode b_law 641 = .ok (.iconst 0, 1) := by decide +kernel
theorem d_law_642 : decode b_law 642 = .ok (.laload, 1) := by decide +kernel
theorem d_law_643 : decode b_law 643 = .ok (.iload 6, 2) := by decide +kernel
theorem d_law_645 : decode b_law 645 = .ok (.ifCond .eq 7, 3) := by decide +kernel
theorem d_law_648 : decode b_law 648 = .ok (.lconst 1, 1) := by decide +kernel
theorem d_law_649 : decode b_law 649 = .ok (.goto 4, 3) := by decide +kernel
theorem d_law_652 : decode b_law 652 = .ok (.lconst 0, 1) := by decide +kernel
theorem d_law_653 : decode b_law 653 = .ok (.lcmp, 1) := by decide +kernel
theorem d_law_654 : decode b_law 654 = .ok (.ifCond .eq 5, 3) := by decide +kernel
theorem d_law_657 : decode b_law 657 = .ok (.iconst 0, 1) := by decide +kernel
theorem d_law_658 : decode b_law 658 = .ok (.ireturn, 1) := by decide +kernel
theorem d_law_659 : decode b_law 659 = .ok (.goto 3, 3) := by decide +kernel
theorem d_law_662 : decode b_law 662 = .ok (.iinc 4 6, 3) := by decide +kernel
theorem d_law_665 : decode b_law 665 = .ok (.goto (-642), 3) := by decide +kernel
theorem d_law_668 : decode b_law 668 = .ok (.iconst 1, 1) := by decide +kernel
theorem d_law_669 : decode b_law 669 = .ok (.ireturn, 1) := by decide +kernel
abbrev rmw_mlaw (MC MS : Nat) : Room := room_1
def FxL (p : Program) (l : Launch) (s : State) (m : MethodId) (meth : Method) (c : Code) (D : va_G) (cy : Nat → ClassId) (ad : Nat → Nat) (mi : Nat) (A : Nat → Prop) (b L : Nat) (xs : Nat → Int32) : Prop := (∀ e, l.admits e → e.platform.stackTraces = false) ∧ p.tables.exec = Jvm.exec ∧ c.code = code ∧ meth.sig.returnType = ret ∧ c.maxLocals = 8 ∧ s.vm.findClass "CoinKeeperLaw" = some m.cls ∧ (∀ w ∈ gw, w.before #[Value.ref b] s = true) ∧ meth.locks = false ∧ va_K D classes (tyl cy) s ∧ (∀ q, s.heap.size ≤ q → A q) ∧ St ad A s s.heap ∧ Th A s s.heap ∧ va_Mi "[Ljava/lang/Object;" mi s ∧ va_X b L xs s s.heap ∧ b < s.heap.size ∧ ¬ A b ∧ NC s ∧ ∀ (locs : List Loc) (H : Heap), va_S A s.heap H locs → ∀ q ∈ locs, s.heap.size ≤ q.base
def Iw_mlaw_662 (p : Program) (l : Launch) (e : Env) (s : State) (m : MethodId) (below : List Frame) (meth : Method) (c : Code) (D : va_G) (cy : Nat → ClassId) (A : Nat → Prop) (ad : Nat → Nat) (mi b L : Nat) (xs : Nat → Int32) (k : Nat → Nat → Mm → Nat → Nat → Nat → Int32 → Prop) : Prop :=
  ∀ (κ σ : Nat) (M : Mm) (x1 : Nat) (x2 : Nat) (x3 : Nat) (x4 : Int32), k κ σ M x1 x2 x3 x4 → κ ≤ 601024 → σ ≤ 7293034 → ∀ (H : Heap) (locs : List Loc) (ls : Array Slot), va_P D classes (mw M) H → va_D A (mw M) → va_S A s.heap H locs → lv_has ls 8 [(0, .ref b), (1, .ref x1), (2, .ref x2), (3, .ref x3), (4, .int x4)] → W p l e room_1 s m #[Value.ref b] below meth c H locs κ σ (lw_Z below #[Value.ref b] s) (F0 m 662 ls [])
def Iw_mlaw_197 (p : Program) (l : Launch) (e : Env) (s : State) (m : MethodId) (below : List Frame) (meth : Method) (c : Code) (D : va_G) (cy : Nat → ClassId) (A : Nat → Prop) (ad : Nat → Nat) (mi b L : Nat) (xs : Nat → Int32) (k : Nat → Nat → Mm → Nat → Nat → Nat → Int32 → Prop) : Prop :=
  ∀ (κ σ : Nat) (M : Mm) (x1 : Nat) (x2 : Nat) (x3 : Nat) (x4 : Int32), k κ σ M x1 x2 x3 x4 → κ ≤ 601024 → σ ≤ 7293034 → ∀ (H : Heap) (locs : List Loc) (ls : Array Slot), va_P D classes (mw M) H → va_D A (mw M) → va_S A s.heap H locs → lv_has ls 8 [(0, .ref b), (1, .ref x1), (2, .ref x2), (3, .ref x3), (4, .int x4)] → W p l e room_1 s m #[Value.ref b] below meth c H locs κ σ (lw_Z below #[Value.ref b] s) (F0 m 197 ls [])
def Iw_mlaw_253 (p : Program) (l : Launch) (e : Env) (s : State) (m : MethodId) (below : List Frame) (meth : Method) (c : Code) (D : va_G) (cy : Nat → ClassId) (A : Nat → Prop) (ad : Nat → Nat) (mi b L : Nat) (xs : Nat → Int32) (k : Nat → Nat → Mm → Nat → Nat → Nat → Int32 → Prop) : Prop :=
  ∀ (κ σ : Nat) (M : Mm) (x1 : Nat) (x2 : Nat) (x3 : Nat) (x4 : Int32), k κ σ M x1 x2 x3 x4 → κ ≤ 601024 → σ ≤ 7293034 → ∀ (H : Heap) (locs : List Loc) (ls : Array Slot), va_P D classes (mw M) H → va_D A (mw M) → va_S A s.heap H locs → lv_has ls 8 [(0, .ref b), (1, .ref x1), (2, .ref x2), (3, .ref x3), (4, .int x4)] → W p l e room_1 s m #[Value.ref b] below meth c H locs κ σ (lw_Z below #[Value.ref b] s) (F0 m 253 ls [])
def Iw_mlaw_297 (p : Program) (l : Launch) (e : Env) (s : State) (m : MethodId) (below : List Frame) (meth : Method) (c : Code) (D : va_G) (cy : Nat → ClassId) (A : Nat → Prop) (ad : Nat → Nat) (mi b L : Nat) (xs : Nat → Int32) (k : Nat → Nat → Mm → Nat → Nat → Nat → Int32 → Prop) : Prop :=
  ∀ (κ σ : Nat) (M : Mm) (x1 : Nat) (x2 : Nat) (x3 : Nat) (x4 : Int32), k κ σ M x1 x2 x3 x4 → κ ≤ 601024 → σ ≤ 7293034 → ∀ (H : Heap) (locs : List Loc) (ls : Array Slot), va_P D classes (mw M) H → va_D A (mw M) → va_S A s.heap H locs → lv_has ls 8 [(0, .ref b), (1, .ref x1), (2, .ref x2), (3, .ref x3), (4, .int x4)] → W p l e room_1 s m #[Value.ref b] below meth c H locs κ σ (lw_Z below #[Value.ref b] s) (F0 m 297 ls [])
def Iw_mlaw_360 (p : Program) (l : Launch) (e : Env) (s : State) (m : MethodId) (below : List Frame) (meth : Method) (c : Code) (D : va_G) (cy : Nat → ClassId) (A : Nat → Prop) (ad : Nat → Nat) (mi b L : Nat) (xs : Nat → Int32) (k : Nat → Nat → Mm → Nat → Nat → Nat → Int32 → Prop) : Prop :=
  ∀ (κ σ : Nat) (M : Mm) (x1 : Nat) (x2 : Nat) (x3 : Nat) (x4 : Int32), k κ σ M x1 x2 x3 x4 → κ ≤ 601024 → σ ≤ 7293034 → ∀ (H : Heap) (locs : List Loc) (ls : Array Slot), va_P D classes (mw M) H → va_D A (mw M) → va_S A s.heap H locs → lv_has ls 8 [(0, .ref b), (1, .ref x1), (2, .ref x2), (3, .ref x3), (4, .int x4)] → W p l e room_1 s m #[Value.ref b] below meth c H locs κ σ (lw_Z below #[Value.ref b] s) (F0 m 360 ls [])
def Iw_mlaw_354 (p : Program) (l : Launch) (e : Env) (s : State) (m : MethodId) (below : List Frame) (meth : Method) (c : Code) (D : va_G) (cy : Nat → ClassId) (A : Nat → Prop) (ad : Nat → Nat) (mi b L : Nat) (xs : Nat → Int32) (k : Nat → Nat → Mm → Nat → Nat → Nat → Int32 → Int64 → Int64 → Prop) : Prop :=
  ∀ (κ σ : Nat) (M : Mm) (x1 : Nat) (x2 : Nat) (x3 : Nat) (x4 : Int32) (y0 : Int64) (y1 : Int64), k κ σ M x1 x2 x3 x4 y0 y1 → κ ≤ 601024 → σ ≤ 7293034 → ∀ (H : Heap) (locs : List Loc) (ls : Array Slot), va_P D classes (mw M) H → va_D A (mw M) → va_S A s.heap H locs → lv_has ls 8 [(0, .ref b), (1, .ref x1), (2, .ref x2), (3, .ref x3), (4, .int x4)] → W p l e room_1 s m #[Value.ref b] below meth c H locs κ σ (lw_Z below #[Value.ref b] s) (F0 m 354 ls [.long y0, .long y1])
def Iw_mlaw_416 (p : Program) (l : Launch) (e : Env) (s : State) (m : MethodId) (below : List Frame) (meth : Method) (c : Code) (D : va_G) (cy : Nat → ClassId) (A : Nat → Prop) (ad : Nat → Nat) (mi b L : Nat) (xs : Nat → Int32) (k : Nat → Nat → Mm → Nat → Nat → Nat → Int32 → Prop) : Prop :=
  ∀ (κ σ : Nat) (M : Mm) (x1 : Nat) (x2 : Nat) (x3 : Nat) (x4 : Int32), k κ σ M x1 x2 x3 x4 → κ ≤ 601024 → σ ≤ 7293034 → ∀ (H : Heap) (locs : List Loc) (ls : Array Slot), va_P D classes (mw M) H → va_D A (mw M) → va_S A s.heap H locs → lv_has ls 8 [(0, .ref b), (1, .ref x1), (2, .ref x2), (3, .ref x3), (4, .int x4)] → W p l e room_1 s m #[Value.ref b] below meth c H locs κ σ (lw_Z below #[Value.ref b] s) (F0 m 416 ls [])
def Iw_mlaw_472 (p : Program) (l : Launch) (e : Env) (s : State) (m : MethodId) (below : List Frame) (meth : Method) (c : Code) (D : va_G) (cy : Nat → ClassId) (A : Nat → Prop) (ad : Nat → Nat) (mi b L : Nat) (xs : Nat → Int32) (k : Nat → Nat → Mm → Nat → Nat → Nat → Int32 → Prop) : Prop :=
  ∀ (κ σ : Nat) (M : Mm) (x1 : Nat) (x2 : Nat) (x3 : Nat) (x4 : Int32), k κ σ M x1 x2 x3 x4 → κ ≤ 601024 → σ ≤ 7293034 → ∀ (H : Heap) (locs : List Loc) (ls : Array Slot), va_P D classes (mw M) H → va_D A (mw M) → va_S A s.heap H locs → lv_has ls 8 [(0, .ref b), (1, .ref x1), (2, .ref x2), (3, .ref x3), (4, .int x4)] → W p l e room_1 s m #[Value.ref b] below meth c H locs κ σ (lw_Z below #[Value.ref b] s) (F0 m 472 ls [])
def Iw_mlaw_527 (p : Program) (l : Launch) (e : Env) (s : State) (m : MethodId) (below : List Frame) (meth : Method) (c : Code) (D : va_G) (cy : Nat → ClassId) (A : Nat → Prop) (ad : Nat → Nat) (mi b L : Nat) (xs : Nat → Int32) (k : Nat → Nat → Mm → Nat → Nat → Nat → Int32 → Prop) : Prop :=
  ∀ (κ σ : Nat) (M : Mm) (x1 : Nat) (x2 : Nat) (x3 : Nat) (x4 : Int32), k κ σ M x1 x2 x3 x4 → κ ≤ 601024 → σ ≤ 7293034 → ∀ (H : Heap) (locs : List Loc) (ls : Array Slot), va_P D classes (mw M) H → va_D A (mw M) → va_S A s.heap H locs → lv_has ls 8 [(0, .ref b), (1, .ref x1), (2, .ref x2), (3, .ref x3), (4, .int x4)] → W p l e room_1 s m #[Value.ref b] below meth c H locs κ σ (lw_Z below #[Value.ref b] s) (F0 m 527 ls [])
def Iw_mlaw_582 (p : Program) (l : Launch) (e : Env) (s : State) (m : MethodId) (below : List Frame) (meth : Method) (c : Code) (D : va_G) (cy : Nat → ClassId) (A : Nat → Prop) (ad : Nat → Nat) (mi b L : Nat) (xs : Nat → Int32) (k : Nat → Nat → Mm → Nat → Nat → Nat → Int32 → Prop) : Prop :=
  ∀ (κ σ : Nat) (M : Mm) (x1 : Nat) (x2 : Nat) (x3 : Nat) (x4 : Int32), k κ σ M x1 x2 x3 x4 → κ ≤ 601024 → σ ≤ 7293034 → ∀ (H : Heap) (locs : List Loc) (ls : Array Slot), va_P D classes (mw M) H → va_D A (mw M) → va_S A s.heap H locs → lv_has ls 8 [(0, .ref b), (1, .ref x1), (2, .ref x2), (3, .ref x3), (4, .int x4)] → W p l e room_1 s m #[Value.ref b] below meth c H locs κ σ (lw_Z below #[Value.ref b] s) (F0 m 582 ls [])
def Iw_mlaw_659 (p : Program) (l : Launch) (e : Env) (s : State) (m : MethodId) (below : List Frame) (meth : Method) (c : Code) (D : va_G) (cy : Nat → ClassId) (A : Nat → Prop) (ad : Nat → Nat) (mi b L : Nat) (xs : Nat → Int32) (k : Nat → Nat → Mm → Nat → Nat → Nat → Int32 → Prop) : Prop :=
  ∀ (κ σ : Nat) (M : Mm) (x1 : Nat) (x2 : Nat) (x3 : Nat) (x4 : Int32), k κ σ M x1 x2 x3 x4 → κ ≤ 601024 → σ ≤ 7293034 → ∀ (H : Heap) (locs : List Loc) (ls : Array Slot), va_P D classes (mw M) H → va_D A (mw M) → va_S A s.heap H locs → lv_has ls 8 [(0, .ref b), (1, .ref x1), (2, .ref x2), (3, .ref x3), (4, .int x4)] → W p l e room_1 s m #[Value.ref b] below meth c H locs κ σ (lw_Z below #[Value.ref b] s) (F0 m 659 ls [])
def Iw_mlaw_653 (p : Program) (l : Launch) (e : Env) (s : State) (m : MethodId) (below : List Frame) (meth : Method) (c : Code) (D : va_G) (cy : Nat → ClassId) (A : Nat → Prop) (ad : Nat → Nat) (mi b L : Nat) (xs : Nat → Int32) (k : Nat → Nat → Mm → Nat → Nat → Nat → Int32 → Int64 → Int64 → Prop) : Prop :=
  ∀ (κ σ : Nat) (M : Mm) (x1 : Nat) (x2 : Nat) (x3 : Nat) (x4 : Int32) (y0 : Int64) (y1 : Int64), k κ σ M x1 x2 x3 x4 y0 y1 → κ ≤ 601024 → σ ≤ 7293034 → ∀ (H : Heap) (locs : List Loc) (ls : Array Slot), va_P D classes (mw M) H → va_D A (mw M) → va_S A s.heap H locs → lv_has ls 8 [(0, .ref b), (1, .ref x1), (2, .ref x2), (3, .ref x3), (4, .int x4)] → W p l e room_1 s m #[Value.ref b] below meth c H locs κ σ (lw_Z below #[Value.ref b] s) (F0 m 653 ls [.long y0, .long y1])
def Iw_mlaw_23 (p : Program) (l : Launch) (e : Env) (s : State) (m : MethodId) (below : List Frame) (meth : Method) (c : Code) (D : va_G) (cy : Nat → ClassId) (A : Nat → Prop) (ad : Nat → Nat) (mi b L : Nat) (xs : Nat → Int32) (k : Nat → Nat → Mm → Nat → Nat → Nat → Int32 → Prop) : Prop :=
  ∀ (κ σ : Nat) (M : Mm) (x1 : Nat) (x2 : Nat) (x3 : Nat) (x4 : Int32), k κ σ M x1 x2 x3 x4 → κ ≤ 601024 → σ ≤ 7293034 → ∀ (H : Heap) (locs : List Loc) (ls : Array Slot), va_P D classes (mw M) H → va_D A (mw M) → va_S A s.heap H locs → lv_has ls 8 [(0, .ref b), (1, .ref x1), (2, .ref x2), (3, .ref x3), (4, .int x4)] → W p l e room_1 s m #[Value.ref b] below meth c H locs κ σ (lw_Z below #[Value.ref b] s) (F0 m 23 ls [])
set_option maxHeartbeats 16000000 in
set_option maxRecDepth 100000 in
theorem wv_mlaw_662 {p : Program} {l : Launch} {e : Env} {s : State} {m : MethodId} {below : List Frame} {meth : Method} {c : Code} {D : va_G} {cy : Nat → ClassId} {A : Nat → Prop} {ad : Nat → Nat} {mi b L : Nat} {xs : Nat → Int32} {fu : Nat} {k_23 : Nat → Nat → Mm → Nat → Nat → Nat → Int32 → Prop} (F : FxL p l s m meth c D cy ad mi A b L xs) (hk_23 : Iw_mlaw_23 p l e s m below meth c D cy A ad mi b L xs k_23) : Iw_mlaw_662 p l e s m below meth c D cy A ad mi b L xs (xv_mlaw_662 fu cy ad mi L xs k_23) := by
  obtain ⟨hlt, hx, hb, hr, hml, hown, hts, hlocks, hK, hA, hSt, hT, hMi, hX, hbl, hbA, hNC, hfo⟩ := id F
  intro κ σ M x1 x2 x3 x4 hf hkc hks H locs ls hP hD hS hl
  unfold xv_mlaw_662 at hf
  obtain ⟨v1, ev, hf⟩ := bnP hf
  refine lv_iinc (v := v1) (lv' := [(4, .int v1), (0, .ref b), (1, .ref x1), (2, .ref x2), (3, .ref x3)]) hx hb d_law_662 hl (k := 4) rfl (by rw [ev]; rfl) (by decide) rfl (fun ls hl => ?_)
  clear ev
  refine lv_goto (tgt := 23) hx hb d_law_665 (by decide) ?_
  exact hk_23 _ _ _ _ _ _ _ hf hkc hks _ _ _ hP hD hS (lv_sub hl [1, 2, 3, 4, 0] rfl)
set_option maxHeartbeats 16000000 in
set_option maxRecDepth 100000 in
theorem wv_mlaw_197 {p : Program} {l : Launch} {e : Env} {s : State} {m : MethodId} {below : List Frame} {meth : Method} {c : Code} {D : va_G} {cy : Nat → ClassId} {A : Nat → Prop} {ad : Nat → Nat} {mi b L : Nat} {xs : Nat → Int32} {fu : Nat} {k_23 : Nat → Nat → Mm → Nat → Nat → Nat → Int32 → Prop} (F : FxL p l s m meth c D cy ad mi A b L xs) (hk_23 : Iw_mlaw_23 p l e s m below meth c D cy A ad mi b L xs k_23) : Iw_mlaw_197 p l e s m below meth c D cy A ad mi b L xs (xv_mlaw_197 fu cy ad mi L xs k_23) := by
  obtain ⟨hlt, hx, hb, hr, hml, hown, hts, hlocks, hK, hA, hSt, hT, hMi, hX, hbl, hbA, hNC, hfo⟩ := id F
  intro κ σ M x1 x2 x3 x4 hf hkc hks H locs ls hP hD hS hl
  unfold xv_mlaw_197 at hf
  refine lv_goto (tgt := 662) hx hb d_law_197 (by decide) ?_
  exact wv_mlaw_662 (fu := fu) F hk_23 _ _ _ _ _ _ _ hf hkc hks _ _ _ hP hD hS (lv_sub hl [0, 1, 2, 3, 4] rfl)
set_option maxHeartbeats 16000000 in
set_option maxRecDepth 100000 in
theorem wv_mlaw_253 {p : Program} {l : Launch} {e : Env} {s : State} {m : MethodId} {below : List Frame} {meth : Method} {c : Code} {D : va_G} {cy : Nat → ClassId} {A : Nat → Prop} {ad : Nat → Nat} {mi b L : Nat} {xs : Nat → Int32} {fu : Nat} {k_23 : Nat → Nat → Mm → Nat → Nat → Nat → Int32 → Prop} (F : FxL p l s m meth c D cy ad mi A b L xs) (hk_23 : Iw_mlaw_23 p l e s m below meth c D cy A ad mi b L xs k_23) : Iw_mlaw_253 p l e s m below meth c D cy A ad mi b L xs (xv_mlaw_253 fu cy ad mi L xs k_23) := by
  obtain ⟨hlt, hx, hb, hr, hml, hown, hts, hlocks, hK, hA, hSt, hT, hMi, hX, hbl, hbA, hNC, hfo⟩ := id F
  intro κ σ M x1 x2 x3 x4 hf hkc hks H locs ls hP hD hS hl
  unfold xv_mlaw_253 at hf
  refine lv_goto (tgt := 662) hx hb d_law_253 (by decide) ?_
  exact wv_mlaw_662 (fu := fu) F hk_23 _ _ _ _ _ _ _ hf hkc hks _ _ _ hP hD hS (lv_sub hl [0, 1, 2, 3, 4] rfl)
set_option maxHeartbeats 16000000 in
set_option maxRecDepth 100000 in
theorem wv_mlaw_297 {p : Program} {l : Launch} {e : Env} {s : State} {m : MethodId} {below : List Frame} {meth : Method} {c : Code} {D : va_G} {cy : Nat → ClassId} {A : Nat → Prop} {ad : Nat → Nat} {mi b L : Nat} {xs : Nat → Int32} {fu : Nat} {k_23 : Nat → Nat → Mm → Nat → Nat → Nat → Int32 → Prop} (F : FxL p l s m meth c D cy ad mi A b L xs) (hk_23 : Iw_mlaw_23 p l e s m below meth c D cy A ad mi b L xs k_23) : Iw_mlaw_297 p l e s m below meth c D cy A ad mi b L xs (xv_mlaw_297 fu cy ad mi L xs k_23) := by
  obtain ⟨hlt, hx, hb, hr, hml, hown, hts, hlocks, hK, hA, hSt, hT, hMi, hX, hbl, hbA, hNC, hfo⟩ := id F
  intro κ σ M x1 x2 x3 x4 hf hkc hks H locs ls hP hD hS hl
  unfold xv_mlaw_297 at hf
  refine lv_goto (tgt := 662) hx hb d_law_297 (by decide) ?_
  exact wv_mlaw_662 (fu := fu) F hk_23 _ _ _ _ _ _ _ hf hkc hks _ _ _ hP hD hS (lv_sub hl [0, 1, 2, 3, 4] rfl)
set_option maxHeartbeats 16000000 in
set_option maxRecDepth 100000 in
theorem wv_mlaw_360 {p : Program} {l : Launch} {e : Env} {s : State} {m : MethodId} {below : List Frame} {meth : Method} {c : Code} {D : va_G} {cy : Nat → ClassId} {A : Nat → Prop} {ad : Nat → Nat} {mi b L : Nat} {xs : Nat → Int32} {fu : Nat} {k_23 : Nat → Nat → Mm → Nat → Nat → Nat → Int32 → Prop} (F : FxL p l s m meth c D cy ad mi A b L xs) (hk_23 : Iw_mlaw_23 p l e s m below meth c D cy A ad mi b L xs k_23) : Iw_mlaw_360 p l e s m below meth c D cy A ad mi b L xs (xv_mlaw_360 fu cy ad mi L xs k_23) := by
  obtain ⟨hlt, hx, hb, hr, hml, hown, hts, hlocks, hK, hA, hSt, hT, hMi, hX, hbl, hbA, hNC, hfo⟩ := id F
  intro κ σ M x1 x2 x3 x4 hf hkc hks H locs ls hP hD hS hl
  unfold xv_mlaw_360 at hf
  refine lv_goto (tgt := 662) hx hb d_law_360 (by decide) ?_
  exact wv_mlaw_662 (fu := fu) F hk_23 _ _ _ _ _ _ _ hf hkc hks _ _ _ hP hD hS (lv_sub hl [0, 1, 2, 3, 4] rfl)
set_option maxHeartbeats 16000000 in
set_option maxRecDepth 100000 in
theorem wv_mlaw_354 {p : Program} {l : Launch} {e : Env} {s : State} {m : MethodId} {below : List Frame} {meth : Method} {c : Code} {D : va_G} {cy : Nat → ClassId} {A : Nat → Prop} {ad : Nat → Nat} {mi b L : Nat} {xs : Nat → Int32} {fu : Nat} {k_23 : Nat → Nat → Mm → Nat → Nat → Nat → Int32 → Prop} (F : FxL p l s m meth c D cy ad mi A b L xs) (hk_23 : Iw_mlaw_23 p l e s m below meth c D cy A ad mi b L xs k_23) : Iw_mlaw_354 p l e s m below meth c D cy A ad mi b L xs (xv_mlaw_354 fu cy ad mi L xs k_23) := by
  obtain ⟨hlt, hx, hb, hr, hml, hown, hts, hlocks, hK, hA, hSt, hT, hMi, hX, hbl, hbA, hNC, hfo⟩ := id F
  intro κ σ M x1 x2 x3 x4 y0 y1 hf hkc hks H locs ls hP hD hS hl
  unfold xv_mlaw_354 at hf
  refine W.lcmp hx hb d_law_354 ?_
  refine lv_if_eq (tgt := 360) hx hb d_law_355 (by decide) (fun cx => ?_) (fun cx => ?_)
  · have hf := ifpP cx hf
    exact wv_mlaw_360 (fu := fu) F hk_23 _ _ _ _ _ _ _ hf hkc hks _ _ _ hP hD hS (lv_sub hl [0, 1, 2, 3, 4] rfl)
  · have hf := ifnP cx hf
    refine lv_iconst (v := 0) hx hb d_law_358 (by decide) ?_
    exact hf.elim
set_option maxHeartbeats 16000000 in
set_option maxRecDepth 100000 in
theorem wv_mlaw_416 {p : Program} {l : Launch} {e : Env} {s : State} {m : MethodId} {below : List Frame} {meth : Method} {c : Code} {D : va_G} {cy : Nat → ClassId} {A : Nat → Prop} {ad : Nat → Nat} {mi b L : Nat} {xs : Nat → Int32} {fu : Nat} {k_23 : Nat → Nat → Mm → Nat → Nat → Nat → Int32 → Prop} (F : FxL p l s m meth c D cy ad mi A b L xs) (hk_23 : Iw_mlaw_23 p l e s m below meth c D cy A ad mi b L xs k_23) : Iw_mlaw_416 p l e s m below meth c D cy A ad mi b L xs (xv_mlaw_416 fu cy ad mi L xs k_23) := by
  obtain ⟨hlt, hx, hb, hr, hml, hown, hts, hlocks, hK, hA, hSt, hT, hMi, hX, hbl, hbA, hNC, hfo⟩ := id F
  intro κ σ M x1 x2 x3 x4 hf hkc hks H locs ls hP hD hS hl
  unfold xv_mlaw_416 at hf
  refine lv_goto (tgt := 662) hx hb d_law_416 (by decide) ?_
  exact wv_mlaw_662 (fu := fu) F hk_23 _ _ _ _ _ _ _ hf hkc hks _ _ _ hP hD hS (lv_sub hl [0, 1, 2, 3, 4] rfl)
set_option maxHeartbeats 16000000 in
set_option maxRecDepth 100000 in
theorem wv_mlaw_472 {p : Program} {l : Launch} {e : Env} {s : State} {m : MethodId} {below : List Frame} {meth : Method} {c : Code} {D : va_G} {cy : Nat → ClassId} {A : Nat → Prop} {ad : Nat → Nat} {mi b L : Nat} {xs : Nat → Int32} {fu : Nat} {k_23 : Nat → Nat → Mm → Nat → Nat → Nat → Int32 → Prop} (F : FxL p l s m meth c D cy ad mi A b L xs) (hk_23 : Iw_mlaw_23 p l e s m below meth c D cy A ad mi b L xs k_23) : Iw_mlaw_472 p l e s m below meth c D cy A ad mi b L xs (xv_mlaw_472 fu cy ad mi L xs k_23) := by
  obtain ⟨hlt, hx, hb, hr, hml, hown, hts, hlocks, hK, hA, hSt, hT, hMi, hX, hbl, hbA, hNC, hfo⟩ := id F
  intro κ σ M x1 x2 x3 x4 hf hkc hks H locs ls hP hD hS hl
  unfold xv_mlaw_472 at hf
  refine lv_goto (tgt := 662) hx hb d_law_472 (by decide) ?_
  exact wv_mlaw_662 (fu := fu) F hk_23 _ _ _ _ _ _ _ hf hkc hks _ _ _ hP hD hS (lv_sub hl [0, 1, 2, 3, 4] rfl)
set_option maxHeartbeats 16000000 in
set_option maxRecDepth 100000 in
theorem wv_mlaw_527 {p : Program} {l : Launch} {e : Env} {s : State} {m : MethodId} {below : List Frame} {meth : Method} {c : Code} {D : va_G} {cy : Nat → ClassId} {A : Nat → Prop} {ad : Nat → Nat} {mi b L : Nat} {xs : Nat → Int32} {fu : Nat} {k_23 : Nat → Nat → Mm → Nat → Nat → Nat → Int32 → Prop} (F : FxL p l s m meth c D cy ad mi A b L xs) (hk_23 : Iw_mlaw_23 p l e s m below meth c D cy A ad mi b L xs k_23) : Iw_mlaw_527 p l e s m below meth c D cy A ad mi b L xs (xv_mlaw_527 fu cy ad mi L xs k_23) := by
  obtain ⟨hlt, hx, hb, hr, hml, hown, hts, hlocks, hK, hA, hSt, hT, hMi, hX, hbl, hbA, hNC, hfo⟩ := id F
  intro κ σ M x1 x2 x3 x4 hf hkc hks H locs ls hP hD hS hl
  unfold xv_mlaw_527 at hf
  refine lv_goto (tgt := 662) hx hb d_law_527 (by decide) ?_
  exact wv_mlaw_662 (fu := fu) F hk_23 _ _ _ _ _ _ _ hf hkc hks _ _ _ hP hD hS (lv_sub hl [0, 1, 2, 3, 4] rfl)
set_option maxHeartbeats 16000000 in
set_option maxRecDepth 100000 in
theorem wv_mlaw_582 {p : Program} {l : Launch} {e : Env} {s : State} {m : MethodId} {below : List Frame} {meth : Method} {c : Code} {D : va_G} {cy : Nat → ClassId} {A : Nat → Prop} {ad : Nat → Nat} {mi b L : Nat} {xs : Nat → Int32} {fu : Nat} {k_23 : Nat → Nat → Mm → Nat → Nat → Nat → Int32 → Prop} (F : FxL p l s m meth c D cy ad mi A b L xs) (hk_23 : Iw_mlaw_23 p l e s m below meth c D cy A ad mi b L xs k_23) : Iw_mlaw_582 p l e s m below meth c D cy A ad mi b L xs (xv_mlaw_582 fu cy ad mi L xs k_23) := by
  obtain ⟨hlt, hx, hb, hr, hml, hown, hts, hlocks, hK, hA, hSt, hT, hMi, hX, hbl, hbA, hNC, hfo⟩ := id F
  intro κ σ M x1 x2 x3 x4 hf hkc hks H locs ls hP hD hS hl
  unfold xv_mlaw_582 at hf
  refine lv_goto (tgt := 662) hx hb d_law_582 (by decide) ?_
  exact wv_mlaw_662 (fu := fu) F hk_23 _ _ _ _ _ _ _ hf hkc hks _ _ _ hP hD hS (lv_sub hl [0, 1, 2, 3, 4] rfl)
set_option maxHeartbeats 16000000 in
set_option maxRecDepth 100000 in
theorem wv_mlaw_659 {p : Program} {l : Launch} {e : Env} {s : State} {m : MethodId} {below : List Frame} {meth : Method} {c : Code} {D : va_G} {cy : Nat → ClassId} {A : Nat → Prop} {ad : Nat → Nat} {mi b L : Nat} {xs : Nat → Int32} {fu : Nat} {k_23 : Nat → Nat → Mm → Nat → Nat → Nat → Int32 → Prop} (F : FxL p l s m meth c D cy ad mi A b L xs) (hk_23 : Iw_mlaw_23 p l e s m below meth c D cy A ad mi b L xs k_23) : Iw_mlaw_659 p l e s m below meth c D cy A ad mi b L xs (xv_mlaw_659 fu cy ad mi L xs k_23) := by
  obtain ⟨hlt, hx, hb, hr, hml, hown, hts, hlocks, hK, hA, hSt, hT, hMi, hX, hbl, hbA, hNC, hfo⟩ := id F
  intro κ σ M x1 x2 x3 x4 hf hkc hks H locs ls hP hD hS hl
  unfold xv_mlaw_659 at hf
  refine lv_goto (tgt := 662) hx hb d_law_659 (by decide) ?_
  exact wv_mlaw_662 (fu := fu) F hk_23 _ _ _ _ _ _ _ hf hkc hks _ _ _ hP hD hS (lv_sub hl [0, 1, 2, 3, 4] rfl)
set_option maxHeartbeats 16000000 in
set_option maxRecDepth 100000 in
theorem wv_mlaw_653 {p : Program} {l : Launch} {e : Env} {s : State} {m : MethodId} {below : List Frame} {meth : Method} {c : Code} {D : va_G} {cy : Nat → ClassId} {A : Nat → Prop} {ad : Nat → Nat} {mi b L : Nat} {xs : Nat → Int32} {fu : Nat} {k_23 : Nat → Nat → Mm → Nat → Nat → Nat → Int32 → Prop} (F : FxL p l s m meth c D cy ad mi A b L xs) (hk_23 : Iw_mlaw_23 p l e s m below meth c D cy A ad mi b L xs k_23) : Iw_mlaw_653 p l e s m below meth c D cy A ad mi b L xs (xv_mlaw_653 fu cy ad mi L xs k_23) := by
  obtain ⟨hlt, hx, hb, hr, hml, hown, hts, hlocks, hK, hA, hSt, hT, hMi, hX, hbl, hbA, hNC, hfo⟩ := id F
  intro κ σ M x1 x2 x3 x4 y0 y1 hf hkc hks H locs ls hP hD hS hl
  unfold xv_mlaw_653 at hf
  refine W.lcmp hx hb d_law_653 ?_
  refine lv_if_eq (tgt := 659) hx hb d_law_654 (by decide) (fun cx => ?_) (fun cx => ?_)
  · have hf := ifpP cx hf
    exact wv_mlaw_659 (fu := fu) F hk_23 _ _ _ _ _ _ _ hf hkc hks _ _ _ hP hD hS (lv_sub hl [0, 1, 2, 3, 4] rfl)
  · have hf := ifnP cx hf
    refine lv_iconst (v := 0) hx hb d_law_657 (by decide) ?_
    exact hf.elim
theorem hdu_0 : ({ cls := "CoinKeeperLaw", name := "feed", desc := "(LCoinKeeper;IIIII[J)I" } : Jvm.MethodName).cls ≠ "java/lang/invoke/MethodHandle" ∧ ({ cls := "CoinKeeperLaw", name := "feed", desc := "(LCoinKeeper;IIIII[J)I" } : Jvm.MethodName).cls ≠ "java/lang/invoke/VarHandle" ∧ (parseMethodDescriptor ({ cls := "CoinKeeperLaw", name := "feed", desc := "(LCoinKeeper;IIIII[J)I" } : Jvm.MethodName).desc).map (fun d => d.parameters.length) = some 7 := by decide +kernel
theorem hdu_1 : ({ cls := "CoinKeeperModel", name := "feed", desc := "(IIIII)I" } : Jvm.MethodName).cls ≠ "java/lang/invoke/MethodHandle" ∧ ({ cls := "CoinKeeperModel", name := "feed", desc := "(IIIII)I" } : Jvm.MethodName).cls ≠ "java/lang/invoke/VarHandle" ∧ (parseMethodDescriptor ({ cls := "CoinKeeperModel", name := "feed", desc := "(IIIII)I" } : Jvm.MethodName).desc).map (fun d => d.parameters.length) = some 5 := by decide +kernel
theorem hdu_2 : ({ cls := "CoinKeeperModel", name := "thrown", desc := "()I" } : Jvm.MethodName).cls ≠ "java/lang/invoke/MethodHandle" ∧ ({ cls := "CoinKeeperModel", name := "thrown", desc := "()I" } : Jvm.MethodName).cls ≠ "java/lang/invoke/VarHandle" ∧ (parseMethodDescriptor ({ cls := "CoinKeeperModel", name := "thrown", desc := "()I" } : Jvm.MethodName).desc).map (fun d => d.parameters.length) = some 0 := by decide +kernel
theorem hdu_3 : ({ cls := "CoinKeeperLaw", name := "end", desc := "(LCoinKeeper;I[J)I" } : Jvm.MethodName).cls ≠ "java/lang/invoke/MethodHandle" ∧ ({ cls := "CoinKeeperLaw", name := "end", desc := "(LCoinKeeper;I[J)I" } : Jvm.MethodName).cls ≠ "java/lang/invoke/VarHandle" ∧ (parseMethodDescriptor ({ cls := "CoinKeeperLaw", name := "end", desc := "(LCoinKeeper;I[J)I" } : Jvm.MethodName).desc).map (fun d => d.parameters.length) = some 3 := by decide +kernel
theorem hdu_4 : ({ cls := "CoinKeeperModel", name := "end", desc := "(I)I" } : Jvm.MethodName).cls ≠ "java/lang/invoke/MethodHandle" ∧ ({ cls := "CoinKeeperModel", name := "end", desc := "(I)I" } : Jvm.MethodName).cls ≠ "java/lang/invoke/VarHandle" ∧ (parseMethodDescriptor ({ cls := "CoinKeeperModel", name := "end", desc := "(I)I" } : Jvm.MethodName).desc).map (fun d => d.parameters.length) = some 1 := by decide +kernel
theorem hdu_5 : ({ cls := "CoinKeeperLaw", name := "submit", desc := "(LCoinKeeper;[J)I" } : Jvm.MethodName).cls ≠ "java/lang/invoke/MethodHandle" ∧ ({ cls := "CoinKeeperLaw", name := "submit", desc := "(LCoinKeeper;[J)I" } : Jvm.MethodName).cls ≠ "java/lang/invoke/VarHandle" ∧ (parseMethodDescriptor ({ cls := "CoinKeeperLaw", name := "submit", desc := "(LCoinKeeper;[J)I" } : Jvm.MethodName).desc).map (fun d => d.parameters.length) = some 2 := by decide +kernel
theorem hdu_6 : ({ cls := "CoinKeeperModel", name := "submit", desc := "()I" } : Jvm.MethodName).cls ≠ "java/lang/invoke/MethodHandle" ∧ ({ cls := "CoinKeeperModel", name := "submit", desc := "()I" } : Jvm.MethodName).cls ≠ "java/lang/invoke/VarHandle" ∧ (parseMethodDescriptor ({ cls := "CoinKeeperModel", name := "submit", desc := "()I" } : Jvm.MethodName).desc).map (fun d => d.parameters.length) = some 0 := by decide +kernel
theorem hdu_7 : ({ cls := "CoinKeeperLaw", name := "script", desc := "(LCoinKeeper;I[J)I" } : Jvm.MethodName).cls ≠ "java/lang/invoke/MethodHandle" ∧ ({ cls := "CoinKeeperLaw", name := "script", desc := "(LCoinKeeper;I[J)I" } : Jvm.MethodName).cls ≠ "java/lang/invoke/VarHandle" ∧ (parseMethodDescriptor ({ cls := "CoinKeeperLaw", name := "script", desc := "(LCoinKeeper;I[J)I" } : Jvm.MethodName).desc).map (fun d => d.parameters.length) = some 3 := by decide +kernel
theorem hdu_8 : ({ cls := "CoinKeeperModel", name := "script", desc := "(I)Z" } : Jvm.MethodName).cls ≠ "java/lang/invoke/MethodHandle" ∧ ({ cls := "CoinKeeperModel", name := "script", desc := "(I)Z" } : Jvm.MethodName).cls ≠ "java/lang/invoke/VarHandle" ∧ (parseMethodDescriptor ({ cls := "CoinKeeperModel", name := "script", desc := "(I)Z" } : Jvm.MethodName).desc).map (fun d => d.parameters.length) = some 1 := by decide +kernel
theorem hdu_9 : ({ cls := "CoinKeeperLaw", name := "hash", desc := "(LCoinKeeper;I[J)I" } : Jvm.MethodName).cls ≠ "java/lang/invoke/MethodHandle" ∧ ({ cls := "CoinKeeperLaw", name := "hash", desc := "(LCoinKeeper;I[J)I" } : Jvm.MethodName).cls ≠ "java/lang/invoke/VarHandle" ∧ (parseMethodDescriptor ({ cls := "CoinKeeperLaw", name := "hash", desc := "(LCoinKeeper;I[J)I" } : Jvm.MethodName).desc).map (fun d => d.parameters.length) = some 3 := by decide +kernel
theorem hdu_10 : ({ cls := "CoinKeeperModel", name := "hash", desc := "(I)I" } : Jvm.MethodName).cls ≠ "java/lang/invoke/MethodHandle" ∧ ({ cls := "CoinKeeperModel", name := "hash", desc := "(I)I" } : Jvm.MethodName).cls ≠ "java/lang/invoke/VarHandle" ∧ (parseMethodDescriptor ({ cls := "CoinKeeperModel", name := "hash", desc := "(I)I" } : Jvm.MethodName).desc).map (fun d => d.parameters.length) = some 1 := by decide +kernel
theorem hdu_11 : ({ cls := "CoinKeeperLaw", name := "tip", desc := "(LCoinKeeper;I[J)I" } : Jvm.MethodName).cls ≠ "java/lang/invoke/MethodHandle" ∧ ({ cls := "CoinKeeperLaw", name := "tip", desc := "(LCoinKeeper;I[J)I" } : Jvm.MethodName).cls ≠ "java/lang/invoke/VarHandle" ∧ (parseMethodDescriptor ({ cls := "CoinKeeperLaw", name := "tip", desc := "(LCoinKeeper;I[J)I" } : Jvm.MethodName).desc).map (fun d => d.parameters.length) = some 3 := by decide +kernel
theorem hdu_12 : ({ cls := "CoinKeeperModel", name := "tip", desc := "(I)I" } : Jvm.MethodName).cls ≠ "java/lang/invoke/MethodHandle" ∧ ({ cls := "CoinKeeperModel", name := "tip", desc := "(I)I" } : Jvm.MethodName).cls ≠ "java/lang/invoke/VarHandle" ∧ (parseMethodDescriptor ({ cls := "CoinKeeperModel", name := "tip", desc := "(I)I" } : Jvm.MethodName).desc).map (fun d => d.parameters.length) = some 1 := by decide +kernel
theorem hdu_13 : ({ cls := "CoinKeeperLaw", name := "unspent", desc := "(LCoinKeeper;I[J)I" } : Jvm.MethodName).cls ≠ "java/lang/invoke/MethodHandle" ∧ ({ cls := "CoinKeeperLaw", name := "unspent", desc := "(LCoinKeeper;I[J)I" } : Jvm.MethodName).cls ≠ "java/lang/invoke/VarHandle" ∧ (parseMethodDescriptor ({ cls := "CoinKeeperLaw", name := "unspent", desc := "(LCoinKeeper;I[J)I" } : Jvm.MethodName).desc).map (fun d => d.parameters.length) = some 3 := by decide +kernel
theorem hdu_14 : ({ cls := "CoinKeeperModel", name := "unspent", desc := "(I)J" } : Jvm.MethodName).cls ≠ "java/lang/invoke/MethodHandle" ∧ ({ cls := "CoinKeeperModel", name := "unspent", desc := "(I)J" } : Jvm.MethodName).cls ≠ "java/lang/invoke/VarHandle" ∧ (parseMethodDescriptor ({ cls := "CoinKeeperModel", name := "unspent", desc := "(I)J" } : Jvm.MethodName).desc).map (fun d => d.parameters.length) = some 1 := by decide +kernel
theorem hdu_15 : ({ cls := "CoinKeeperLaw", name := "count", desc := "(LCoinKeeper;I[J)I" } : Jvm.MethodName).cls ≠ "java/lang/invoke/MethodHandle" ∧ ({ cls := "CoinKeeperLaw", name := "count", desc := "(LCoinKeeper;I[J)I" } : Jvm.MethodName).cls ≠ "java/lang/invoke/VarHandle" ∧ (parseMethodDescriptor ({ cls := "CoinKeeperLaw", name := "count", desc := "(LCoinKeeper;I[J)I" } : Jvm.MethodName).desc).map (fun d => d.parameters.length) = some 3 := by decide +kernel
theorem hdu_16 : ({ cls := "CoinKeeperModel", name := "count", desc := "(I)J" } : Jvm.MethodName).cls ≠ "java/lang/invoke/MethodHandle" ∧ ({ cls := "CoinKeeperModel", name := "count", desc := "(I)J" } : Jvm.MethodName).cls ≠ "java/lang/invoke/VarHandle" ∧ (parseMethodDescriptor ({ cls := "CoinKeeperModel", name := "count", desc := "(I)J" } : Jvm.MethodName).desc).map (fun d => d.parameters.length) = some 1 := by decide +kernel
theorem hdu_17 : ({ cls := "CoinKeeper", name := "digest", desc := "()J" } : Jvm.MethodName).cls ≠ "java/lang/invoke/MethodHandle" ∧ ({ cls := "CoinKeeper", name := "digest", desc := "()J" } : Jvm.MethodName).cls ≠ "java/lang/invoke/VarHandle" ∧ (parseMethodDescriptor ({ cls := "CoinKeeper", name := "digest", desc := "()J" } : Jvm.MethodName).desc).map (fun d => d.parameters.length) = some 0 := by decide +kernel
theorem hdu_18 : ({ cls := "CoinKeeperModel", name := "digest", desc := "()J" } : Jvm.MethodName).cls ≠ "java/lang/invoke/MethodHandle" ∧ ({ cls := "CoinKeeperModel", name := "digest", desc := "()J" } : Jvm.MethodName).cls ≠ "java/lang/invoke/VarHandle" ∧ (parseMethodDescriptor ({ cls := "CoinKeeperModel", name := "digest", desc := "()J" } : Jvm.MethodName).desc).map (fun d => d.parameters.length) = some 0 := by decide +kernel
theorem hdu_19 : ({ cls := "CoinKeeperLaw", name := "signed", desc := "(LCoinKeeper;I[J)I" } : Jvm.MethodName).cls ≠ "java/lang/invoke/MethodHandle" ∧ ({ cls := "CoinKeeperLaw", name := "signed", desc := "(LCoinKeeper;I[J)I" } : Jvm.MethodName).cls ≠ "java/lang/invoke/VarHandle" ∧ (parseMethodDescriptor ({ cls := "CoinKeeperLaw", name := "signed", desc := "(LCoinKeeper;I[J)I" } : Jvm.MethodName).desc).map (fun d => d.parameters.length) = some 3 := by decide +kernel
theorem hdu_20 : ({ cls := "CoinKeeperModel", name := "signed", desc := "(I)Z" } : Jvm.MethodName).cls ≠ "java/lang/invoke/MethodHandle" ∧ ({ cls := "CoinKeeperModel", name := "signed", desc := "(I)Z" } : Jvm.MethodName).cls ≠ "java/lang/invoke/VarHandle" ∧ (parseMethodDescriptor ({ cls := "CoinKeeperModel", name := "signed", desc := "(I)Z" } : Jvm.MethodName).desc).map (fun d => d.parameters.length) = some 1 := by decide +kernel
