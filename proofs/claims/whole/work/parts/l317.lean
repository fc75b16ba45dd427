abbrev b_M_ripemd : ByteArray := prog_14_method_9_code
theorem d_M_ripemd_0 : decode b_M_ripemd 0 = .ok (.iload_n 3, 1) := by decide +kernel
theorem d_M_ripemd_1 : decode b_M_ripemd 1 = .ok (.bipush 9, 2) := by decide +kernel
theorem d_M_ripemd_3 : decode b_M_ripemd 3 = .ok (.iadd, 1) := by decide +kernel
theorem d_M_ripemd_4 : decode b_M_ripemd 4 = .ok (.bipush 63, 2) := by decide +kernel
theorem d_M_ripemd_6 : decode b_M_ripemd 6 = .ok (.iadd, 1) := by decide +kernel
theorem d_M_ripemd_7 : decode b_M_ripemd 7 = .ok (.bipush 64, 2) := by decide +kernel
theorem d_M_ripemd_9 : decode b_M_ripemd 9 = .ok (.idiv, 1) := by decide +kernel
theorem d_M_ripemd_10 : decode b_M_ripemd 10 = .ok (.istore 4, 2) := by decide +kernel
theorem d_M_ripemd_12 : decode b_M_ripemd 12 = .ok (.bipush 64, 2) := by decide +kernel
theorem d_M_ripemd_14 : decode b_M_ripemd 14 = .ok (.iload 4, 2) := by decide +kernel
theorem d_M_ripemd_16 : decode b_M_ripemd 16 = .ok (.imul, 1) := by decide +kernel
theorem d_M_ripemd_17 : decode b_M_ripemd 17 = .ok (.istore 5, 2) := by decide +kernel
theorem d_M_ripemd_19 : decode b_M_ripemd 19 = .ok (.aload_n 1, 1) := by decide +kernel
theorem d_M_ripemd_20 : decode b_M_ripemd 20 = .ok (.iload_n 2, 1) := by decide +kernel
theorem d_M_ripemd_21 : decode b_M_ripemd 21 = .ok (.aload_n 0, 1) := by decide +kernel
theorem d_M_ripemd_22 : decode b_M_ripemd 22 = .ok (.getfield 127, 3) := by decide +kernel
theorem d_M_ripemd_25 : decode b_M_ripemd 25 = .ok (.iconst 0, 1) := by decide +kernel
theorem d_M_ripemd_26 : decode b_M_ripemd 26 = .ok (.iload_n 3, 1) := by decide +kernel
theorem d_M_ripemd_27 : decode b_M_ripemd 27 = .ok (.invokestatic 271, 3) := by decide +kernel
theorem d_M_ripemd_30 : decode b_M_ripemd 30 = .ok (.iload_n 3, 1) := by decide +kernel
theorem d_M_ripemd_31 : decode b_M_ripemd 31 = .ok (.istore 6, 2) := by decide +kernel
theorem d_M_ripemd_33 : decode b_M_ripemd 33 = .ok (.iload 6, 2) := by decide +kernel
theorem d_M_ripemd_35 : decode b_M_ripemd 35 = .ok (.iload 5, 2) := by decide +kernel
theorem d_M_ripemd_37 : decode b_M_ripemd 37 = .ok (.if_icmp .ge 17, 3) := by decide +kernel
theorem d_M_ripemd_40 : decode b_M_ripemd 40 = .ok (.aload_n 0, 1) := by decide +kernel
theorem d_M_ripemd_41 : decode b_M_ripemd 41 = .ok (.getfield 127, 3) := by decide +kernel
theorem d_M_ripemd_44 : decode b_M_ripemd 44 = .ok (.iload 6, 2) := by decide +kernel
theorem d_M_ripemd_46 : decode b_M_ripemd 46 = .ok (.iconst 0, 1) := by decide +kernel
theorem d_M_ripemd_47 : decode b_M_ripemd 47 = .ok (.bastore, 1) := by decide +kernel
theorem d_M_ripemd_48 : decode b_M_ripemd 48 = .ok (.iinc 6 1, 3) := by decide +kernel
theorem d_M_ripemd_51 : decode b_M_ripemd 51 = .ok (.goto (-18), 3) := by decide +kernel
theorem d_M_ripemd_54 : decode b_M_ripemd 54 = .ok (.aload_n 0, 1) := by decide +kernel
theorem d_M_ripemd_55 : decode b_M_ripemd 55 = .ok (.getfield 127, 3) := by decide +kernel
theorem d_M_ripemd_58 : decode b_M_ripemd 58 = .ok (.iload_n 3, 1) := by decide +kernel
theorem d_M_ripemd_59 : decode b_M_ripemd 59 = .ok (.bipush (-128), 2) := by decide +kernel
theorem d_M_ripemd_61 : decode b_M_ripemd 61 = .ok (.bastore, 1) := by decide +kernel
theorem d_M_ripemd_62 : decode b_M_ripemd 62 = .ok (.iconst 0, 1) := by decide +kernel
theorem d_M_ripemd_63 : decode b_M_ripemd 63 = .ok (.istore 6, 2) := by decide +kernel
theorem d_M_ripemd_65 : decode b_M_ripemd 65 = .ok (.iload 6, 2) := by decide +kernel
theorem d_M_ripemd_67 : decode b_M_ripemd 67 = .ok (.bipush 8, 2) := by decide +kernel
theorem d_M_ripemd_69 : decode b_M_ripemd 69 = .ok (.if_icmp .ge 36, 3) := by decide +kernel
theorem d_M_ripemd_72 : decode b_M_ripemd 72 = .ok (.aload_n 0, 1) := by decide +kernel
theorem d_M_ripemd_73 : decode b_M_ripemd 73 = .ok (.getfield 127, 3) := by decide +kernel
theorem d_M_ripemd_76 : decode b_M_ripemd 76 = .ok (.iload 5, 2) := by decide +kernel
theorem d_M_ripemd_78 : decode b_M_ripemd 78 = .ok (.bipush 8, 2) := by decide +kernel
theorem d_M_ripemd_80 : decode b_M_ripemd 80 = .ok (.isub, 1) := by decide +kernel
theorem d_M_ripemd_81 : decode b_M_ripemd 81 = .ok (.iload 6, 2) := by decide +kernel
theorem d_M_ripemd_83 : decode b_M_ripemd 83 = .ok (.iadd, 1) := by decide +kernel
theorem d_M_ripemd_84 : decode b_M_ripemd 84 = .ok (.ldc2_w 277, 3) := by decide +kernel
theorem d_M_ripemd_87 : decode b_M_ripemd 87 = .ok (.iload_n 3, 1) := by decide +kernel
theorem d_M_ripemd_88 : decode b_M_ripemd 88 = .ok (.i2l, 1) := by decide +kernel
theorem d_M_ripemd_89 : decode b_M_ripemd 89 = .ok (.lmul, 1) := by decide +kernel
theorem d_M_ripemd_90 : decode b_M_ripemd 90 = .ok (.bipush 8, 2) := by decide +kernel
theorem d_M_ripemd_92 : decode b_M_ripemd 92 = .ok (.iload 6, 2) := by decide +kernel
theorem d_M_ripemd_94 : decode b_M_ripemd 94 = .ok (.imul, 1) := by decide +kernel
theorem d_M_ripemd_95 : decode b_M_ripemd 95 = .ok (.lshr, 1) := by decide +kernel
theorem d_M_ripemd_96 : decode b_M_ripemd 96 = .ok (.l2i, 1) := by decide +kernel
theorem d_M_ripemd_97 : decode b_M_ripemd 97 = .ok (.i2b, 1) := by decide +kernel
theorem d_M_ripemd_98 : decode b_M_ripemd 98 = .ok (.bastore, 1) := by decide +kernel
theorem d_M_ripemd_99 : decode b_M_ripemd 99 = .ok (.iinc 6 1, 3) := by decide +kernel
theorem d_M_ripemd_102 : decode b_M_ripemd 102 = .ok (.goto (-37), 3) := by decide +kernel
theorem d_M_ripemd_105 : decode b_M_ripemd 105 = .ok (.ldc_w 297, 3) := by decide +kernel
theorem d_M_ripemd_108 : decode b_M_ripemd 108 = .ok (.istore 6, 2) := by decide +kernel
theorem d_M_ripemd_110 : decode b_M_ripemd 110 = .ok (.ldc_w 298, 3) := by decide +kernel
theorem d_M_ripemd_113 : decode b_M_ripemd 113 = .ok (.istore 7, 2) := by decide +kernel
theorem d_M_ripemd_115 : decode b_M_ripemd 115 = .ok (.ldc_w 299, 3) := by decide +kernel
theorem d_M_ripemd_118 : decode b_M_ripemd 118 = .ok (.istore 8, 2) := by decide +kernel
theorem d_M_ripemd_120 : decode b_M_ripemd 120 = .ok (.ldc_w 300, 3) := by decide +kernel
theorem d_M_ripemd_123 : decode b_M_ripemd 123 = .ok (.istore 9, 2) := by decide +kernel
theorem d_M_ripemd_125 : decode b_M_ripemd 125 = .ok (.ldc_w 301, 3) := by decide +kernel
theorem d_M_ripemd_128 : decode b_M_ripemd 128 = .ok (.istore 10, 2) := by decide +kernel
theorem d_M_ripemd_130 : decode b_M_ripemd 130 = .ok (.iconst 0, 1) := by decide +kernel
theorem d_M_ripemd_131 : decode b_M_ripemd 131 = .ok (.istore 11, 2) := by decide +kernel
theorem d_M_ripemd_133 : decode b_M_ripemd 133 = .ok (.iload 11, 2) := by decide +kernel
theorem d_M_ripemd_135 : decode b_M_ripemd 135 = .ok (.iload 4, 2) := by decide +kernel
theorem d_M_ripemd_137 : decode b_M_ripemd 137 = .ok (.if_icmp .ge 330, 3) := by decide +kernel
theorem d_M_ripemd_140 : decode b_M_ripemd 140 = .ok (.iload 6, 2) := by decide +kernel
theorem d_M_ripemd_142 : decode b_M_ripemd 142 = .ok (.istore 12, 2) := by decide +kernel
theorem d_M_ripemd_144 : decode b_M_ripemd 144 = .ok (.iload 7, 2) := by decide +kernel
theorem d_M_ripemd_146 : decode b_M_ripemd 146 = .ok (.istore 13, 2) := by decide +kernel
theorem d_M_ripemd_148 : decode b_M_ripemd 148 = .ok (.iload 8, 2) := by decide +kernel
theorem d_M_ripemd_150 : decode b_M_ripemd 150 = .ok (.istore 14, 2) := by decide +kernel
theorem d_M_ripemd_152 : decode b_M_ripemd 152 = .ok (.iload 9, 2) := by decide +kernel
theorem d_M_ripemd_154 : decode b_M_ripemd 154 = .ok (.istore 15, 2) := by decide +kernel
theorem d_M_ripemd_156 : decode b_M_ripemd 156 = .ok (.iload 10, 2) := by decide +kernel
theorem d_M_ripemd_158 : decode b_M_ripemd 158 = .ok (.istore 16, 2) := by decide +kernel
theorem d_M_ripemd_160 : decode b_M_ripemd 160 = .ok (.iload 6, 2) := by decide +kernel
theorem d_M_ripemd_162 : decode b_M_ripemd 162 = .ok (.istore 17, 2) := by decide +kernel
theorem d_M_ripemd_164 : decode b_M_ripemd 164 = .ok (.iload 7, 2) := by decide +kernel
theorem d_M_ripemd_166 : decode b_M_ripemd 166 = .ok (.istore 18, 2) := by decide +kernel
theorem d_M_ripemd_168 : decode b_M_ripemd 168 = .ok (.iload 8, 2) := by decide +kernel
theorem d_M_ripemd_170 : decode b_M_ripemd 170 = .ok (.istore 19, 2) := by decide +kernel
theorem d_M_ripemd_172 : decode b_M_ripemd 172 = .ok (.iload 9, 2) := by decide +kernel
theorem d_M_ripemd_174 : decode b_M_ripemd 174 = .ok (.istore 20, 2) := by decide +kernel
theorem d_M_ripemd_176 : decode b_M_ripemd 176 = .ok (.iload 10, 2) := by decide +kernel
theorem d_M_ripemd_178 : decode b_M_ripemd 178 = .ok (.istore 21, 2) := by decide +kernel
theorem d_M_ripemd_180 : decode b_M_ripemd 180 = .ok (.iconst 0, 1) := by decide +kernel
theorem d_M_ripemd_181 : decode b_M_ripemd 181 = .ok (.istore 22, 2) := by decide +kernel
theorem d_M_ripemd_183 : decode b_M_ripemd 183 = .ok (.iload 22, 2) := by decide +kernel
theorem d_M_ripemd_185 : decode b_M_ripemd 185 = .ok (.bipush 80, 2) := by decide +kernel
theorem d_M_ripemd_187 : decode b_M_ripemd 187 = .ok (.if_icmp .ge 220, 3) := by decide +kernel
theorem d_M_ripemd_190 : decode b_M_ripemd 190 = .ok (.iload 22, 2) := by decide +kernel
theorem d_M_ripemd_192 : decode b_M_ripemd 192 = .ok (.bipush 16, 2) := by decide +kernel
theorem d_M_ripemd_194 : decode b_M_ripemd 194 = .ok (.idiv, 1) := by decide +kernel
theorem d_M_ripemd_195 : decode b_M_ripemd 195 = .ok (.istore 23, 2) := by decide +kernel
theorem d_M_ripemd_197 : decode b_M_ripemd 197 = .ok (.iload 12, 2) := by decide +kernel
theorem d_M_ripemd_199 : decode b_M_ripemd 199 = .ok (.iload 23, 2) := by decide +kernel
theorem d_M_ripemd_201 : decode b_M_ripemd 201 = .ok (.iload 13, 2) := by decide +kernel
theorem d_M_ripemd_203 : decode b_M_ripemd 203 = .ok (.iload 14, 2) := by decide +kernel
theorem d_M_ripemd_205 : decode b_M_ripemd 205 = .ok (.iload 15, 2) := by decide +kernel
theorem d_M_ripemd_207 : decode b_M_ripemd 207 = .ok (.invokestatic 302, 3) := by decide +kernel
theorem d_M_ripemd_210 : decode b_M_ripemd 210 = .ok (.iadd, 1) := by decide +kernel
theorem d_M_ripemd_211 : decode b_M_ripemd 211 = .ok (.aload_n 0, 1) := by decide +kernel
theorem d_M_ripemd_212 : decode b_M_ripemd 212 = .ok (.getfield 127, 3) := by decide +kernel
theorem d_M_ripemd_215 : decode b_M_ripemd 215 = .ok (.bipush 64, 2) := by decide +kernel
theorem d_M_ripemd_217 : decode b_M_ripemd 217 = .ok (.iload 11, 2) := by decide +kernel
theorem d_M_ripemd_219 : decode b_M_ripemd 219 = .ok (.imul, 1) := by decide +kernel
theorem d_M_ripemd_220 : decode b_M_ripemd 220 = .ok (.iconst 4, 1) := by decide +kernel
theorem d_M_ripemd_221 : decode b_M_ripemd 221 = .ok (.getstatic 306, 3) := by decide +kernel
theorem d_M_ripemd_224 : decode b_M_ripemd 224 = .ok (.iload 22, 2) := by decide +kernel
theorem d_M_ripemd_226 : decode b_M_ripemd 226 = .ok (.iaload, 1) := by decide +kernel
theorem d_M_ripemd_227 : decode b_M_ripemd 227 = .ok (.imul, 1) := by decide +kernel
theorem d_M_ripemd_228 : decode b_M_ripemd 228 = .ok (.iadd, 1) := by decide +kernel
theorem d_M_ripemd_229 : decode b_M_ripemd 229 = .ok (.invokestatic 309, 3) := by decide +kernel
theorem d_M_ripemd_232 : decode b_M_ripemd 232 = .ok (.iadd, 1) := by decide +kernel
theorem d_M_ripemd_233 : decode b_M_ripemd 233 = .ok (.getstatic 312, 3) := by decide +kernel
theorem d_M_ripemd_236 : decode b_M_ripemd 236 = .ok (.iload 23, 2) := by decide +kernel
theorem d_M_ripemd_238 : decode b_M_ripemd 238 = .ok (.iaload, 1) := by decide +kernel
theorem d_M_ripemd_239 : decode b_M_ripemd 239 = .ok (.iadd, 1) := by decide +kernel
theorem d_M_ripemd_240 : decode b_M_ripemd 240 = .ok (.istore 24, 2) := by decide +kernel
theorem d_M_ripemd_242 : decode b_M_ripemd 242 = .ok (.iload 24, 2) := by decide +kernel
theorem d_M_ripemd_244 : decode b_M_ripemd 244 = .ok (.getstatic 315, 3) := by decide +kernel
theorem d_M_ripemd_247 : decode b_M_ripemd 247 = .ok (.iload 22, 2) := by decide +kernel
theorem d_M_ripemd_249 : decode b_M_ripemd 249 = .ok (.iaload, 1) := by decide +kernel
theorem d_M_ripemd_250 : decode b_M_ripemd 250 = .ok (.ishl, 1) := by decide +kernel
theorem d_M_ripemd_251 : decode b_M_ripemd 251 = .ok (.iload 24, 2) := by decide +kernel
theorem d_M_ripemd_253 : decode b_M_ripemd 253 = .ok (.bipush 32, 2) := by decide +kernel
theorem d_M_ripemd_255 : decode b_M_ripemd 255 = .ok (.getstatic 315, 3) := by decide +kernel
theorem d_M_ripemd_258 : decode b_M_ripemd 258 = .ok (.iload 22, 2) := by decide +kernel
theorem d_M_ripemd_260 : decode b_M_ripemd 260 = .ok (.iaload, 1) := by decide +kernel
theorem d_M_ripemd_261 : decode b_M_ripemd 261 = .ok (.isub, 1) := by decide +kernel
theorem d_M_ripemd_262 : decode b_M_ripemd 262 = .ok (.iushr, 1) := by decide +kernel
theorem d_M_ripemd_263 : decode b_M_ripemd 263 = .ok (.ior, 1) := by decide +kernel
theorem d_M_ripemd_264 : decode b_M_ripemd 264 = .ok (.iload 16, 2) := by decide +kernel
theorem d_M_ripemd_266 : decode b_M_ripemd 266 = .ok (.iadd, 1) := by decide +kernel
theorem d_M_ripemd_267 : decode b_M_ripemd 267 = .ok (.istore 24, 2) := by decide +kernel
theorem d_M_ripemd_269 : decode b_M_ripemd 269 = .ok (.iload 16, 2) := by decide +kernel
theorem d_M_ripemd_271 : decode b_M_ripemd 271 = .ok (.istore 12, 2) := by decide +kernel
theorem d_M_ripemd_273 : decode b_M_ripemd 273 = .ok (.iload 15, 2) := by decide +kernel
theorem d_M_ripemd_275 : decode b_M_ripemd 275 = .ok (.istore 16, 2) := by decide +kernel
theorem d_M_ripemd_277 : decode b_M_ripemd 277 = .ok (.iload 14, 2) := by decide +kernel
theorem d_M_ripemd_279 : decode b_M_ripemd 279 = .ok (.bipush 10, 2) := by decide +kernel
theorem d_M_ripemd_281 : decode b_M_ripemd 281 = .ok (.ishl, 1) := by decide +kernel
theorem d_M_ripemd_282 : decode b_M_ripemd 282 = .ok (.iload 14, 2) := by decide +kernel
theorem d_M_ripemd_284 : decode b_M_ripemd 284 = .ok (.bipush 22, 2) := by decide +kernel
theorem d_M_ripemd_286 : decode b_M_ripemd 286 = .ok (.iushr, 1) := by decide +kernel
theorem d_M_ripemd_287 : decode b_M_ripemd 287 = .ok (.ior, 1) := by decide +kernel
theorem d_M_ripemd_288 : decode b_M_ripemd 288 = .ok (.istore 15, 2) := by decide +kernel
theorem d_M_ripemd_290 : decode b_M_ripemd 290 = .ok (.iload 13, 2) := by decide +kernel
theorem d_M_ripemd_292 : decode b_M_ripemd 292 = .ok (.istore 14, 2) := by decide +kernel
theorem d_M_ripemd_294 : decode b_M_ripemd 294 = .ok (.iload 24, 2) := by decide +kernel
theorem d_M_ripemd_296 : decode b_M_ripemd 296 = .ok (.istore 13, 2) := by decide +kernel
theorem d_M_ripemd_298 : decode b_M_ripemd 298 = .ok (.iload 17, 2) := by decide +kernel
theorem d_M_ripemd_300 : decode b_M_ripemd 300 = .ok (.iconst 4, 1) := by decide +kernel
theorem d_M_ripemd_301 : decode b_M_ripemd 301 = .ok (.iload 23, 2) := by decide +kernel
theorem d_M_ripemd_303 : decode b_M_ripemd 303 = .ok (.isub, 1) := by decide +kernel
theorem d_M_ripemd_304 : decode b_M_ripemd 304 = .ok (.iload 18, 2) := by decide +kernel
theorem d_M_ripemd_306 : decode b_M_ripemd 306 = .ok (.iload 19, 2) := by decide +kernel
theorem d_M_ripemd_308 : decode b_M_ripemd 308 = .ok (.iload 20, 2) := by decide +kernel
theorem d_M_ripemd_310 : decode b_M_ripemd 310 = .ok (.invokestatic 302, 3) := by decide +kernel
theorem d_M_ripemd_313 : decode b_M_ripemd 313 = .ok (.iadd, 1) := by decide +kernel
theorem d_M_ripemd_314 : decode b_M_ripemd 314 = .ok (.aload_n 0, 1) := by decide +kernel
theorem d_M_ripemd_315 : decode b_M_ripemd 315 = .ok (.getfield 127, 3) := by decide +kernel
theorem d_M_ripemd_318 : decode b_M_ripemd 318 = .ok (.bipush 64, 2) := by decide +kernel
theorem d_M_ripemd_320 : decode b_M_ripemd 320 = .ok (.iload 11, 2) := by decide +kernel
theorem d_M_ripemd_322 : decode b_M_ripemd 322 = .ok (.imul, 1) := by decide +kernel
theorem d_M_ripemd_323 : decode b_M_ripemd 323 = .ok (.iconst 4, 1) := by decide +kernel
theorem d_M_ripemd_324 : decode b_M_ripemd 324 = .ok (.getstatic 318, 3) := by decide +kernel
theorem d_M_ripemd_327 : decode b_M_ripemd 327 = .ok (.iload 22, 2) := by decide +kernel
theorem d_M_ripemd_329 : decode b_M_ripemd 329 = .ok (.iaload, 1) := by decide +kernel
theorem d_M_ripemd_330 : decode b_M_ripemd 330 = .ok (.imul, 1) := by decide +kernel
theorem d_M_ripemd_331 : decode b_M_ripemd 331 = .ok (.iadd, 1) := by decide +kernel
theorem d_M_ripemd_332 : decode b_M_ripemd 332 = .ok (.invokestatic 309, 3) := by decide +kernel
theorem d_M_ripemd_335 : decode b_M_ripemd 335 = .ok (.iadd, 1) := by decide +kernel
theorem d_M_ripemd_336 : decode b_M_ripemd 336 = .ok (.getstatic 321, 3) := by decide +kernel
theorem d_M_ripemd_339 : decode b_M_ripemd 339 = .ok (.iload 23, 2) := by decide +kernel
theorem d_M_ripemd_341 : decode b_M_ripemd 341 = .ok (.iaload, 1) := by decide +kernel
theorem d_M_ripemd_342 : decode b_M_ripemd 342 = .ok (.iadd, 1) := by decide +kernel
theorem d_M_ripemd_343 : decode b_M_ripemd 343 = .ok (.istore 24, 2) := by decide +kernel
theorem d_M_ripemd_345 : decode b_M_ripemd 345 = .ok (.iload 24, 2) := by decide +kernel
theorem d_M_ripemd_347 : decode b_M_ripemd 347 = .ok (.getstatic 324, 3) := by decide +kernel
theorem d_M_ripemd_350 : decode b_M_ripemd 350 = .ok (.iload 22, 2) := by decide +kernel
theorem d_M_ripemd_352 : decode b_M_ripemd 352 = .ok (.iaload, 1) := by decide +kernel
theorem d_M_ripemd_353 : decode b_M_ripemd 353 = .ok (.ishl, 1) := by decide +kernel
theorem d_M_ripemd_354 : decode b_M_ripemd 354 = .ok (.iload 24, 2) := by decide +kernel
theorem d_M_ripemd_356 : decode b_M_ripemd 356 = .ok (.bipush 32, 2) := by decide +kernel
theorem d_M_ripemd_358 : decode b_M_ripemd 358 = .ok (.getstatic 324, 3) := by decide +kernel
theorem d_M_ripemd_361 : decode b_M_ripemd 361 = .ok (.iload 22, 2) := by decide +kernel
theorem d_M_ripemd_363 : decode b_M_ripemd 363 = .ok (.iaload, 1) := by decide +kernel
theorem d_M_ripemd_364 : decode b_M_ripemd 364 = .ok (.isub, 1) := by decide +kernel
theorem d_M_ripemd_365 : decode b_M_ripemd 365 = .ok (.iushr, 1) := by decide +kernel
theorem d_M_ripemd_366 : decode b_M_ripemd 366 = .ok (.ior, 1) := by decide +kernel
theorem d_M_ripemd_367 : decode b_M_ripemd 367 = .ok (.iload 21, 2) := by decide +kernel
theorem d_M_ripemd_369 : decode b_M_ripemd 369 = .ok (.iadd, 1) := by decide +kernel
theorem d_M_ripemd_370 : decode b_M_ripemd 370 = .ok (.istore 24, 2) := by decide +kernel
theorem d_M_ripemd_372 : decode b_M_ripemd 372 = .ok (.iload 21, 2) := by decide +kernel
theorem d_M_ripemd_374 : decode b_M_ripemd 374 = .ok (.istore 17, 2) := by decide +kernel
theorem d_M_ripemd_376 : decode b_M_ripemd 376 = .ok (.iload 20, 2) := by decide +kernel
theorem d_M_ripemd_378 : decode b_M_ripemd 378 = .ok (.istore 21, 2) := by decide +kernel
theorem d_M_ripemd_380 : decode b_M_ripemd 380 = .ok (.iload 19, 2) := by decide +kernel
theorem d_M_ripemd_382 : decode b_M_ripemd 382 = .ok (.bipush 10, 2) := by decide +kernel
theorem d_M_ripemd_384 : decode b_M_ripemd 384 = .ok (.ishl, 1) := by decide +kernel
theorem d_M_ripemd_385 : decode b_M_ripemd 385 = .ok (.iload 19, 2) := by decide +kernel
theorem d_M_ripemd_387 : decode b_M_ripemd 387 = .ok (.bipush 22, 2) := by decide +kernel
theorem d_M_ripemd_389 : decode b_M_ripemd 389 = .ok (.iushr, 1) := by decide +kernel
theorem d_M_ripemd_390 : decode b_M_ripemd 390 = .ok (.ior, 1) := by decide +kernel
theorem d_M_ripemd_391 : decode b_M_ripemd 391 = .ok (.istore 20, 2) := by decide +kernel
theorem d_M_ripemd_393 : decode b_M_ripemd 393 = .ok (.iload 18, 2) := by decide +kernel
theorem d_M_ripemd_395 : decode b_M_ripemd 395 = .ok (.istore 19, 2) := by decide +kernel
theorem d_M_ripemd_397 : decode b_M_ripemd 397 = .ok (.iload 24, 2) := by decide +kernel
theorem d_M_ripemd_399 : decode b_M_ripemd 399 = .ok (.istore 18, 2) := by decide +kernel
theorem d_M_ripemd_401 : decode b_M_ripemd 401 = .ok (.iinc 22 1, 3) := by decide +kernel
theorem d_M_ripemd_404 : decode b_M_ripemd 404 = .ok (.goto (-221), 3) := by decide +kernel
theorem d_M_ripemd_407 : decode b_M_ripemd 407 = .ok (.iload 7, 2) := by decide +kernel
theorem d_M_ripemd_409 : decode b_M_ripemd 409 = .ok (.iload 14, 2) := by decide +kernel
theorem d_M_ripemd_411 : decode b_M_ripemd 411 = .ok (.iadd, 1) := by decide +kernel
theorem d_M_ripemd_412 : decode b_M_ripemd 412 = .ok (.iload 20, 2) := by decide +kernel
theorem d_M_ripemd_414 : decode b_M_ripemd 414 = .ok (.iadd, 1) := by decide +kernel
theorem d_M_ripemd_415 : decode b_M_ripemd 415 = .ok (.istore 22, 2) := by decide +kernel
theorem d_M_ripemd_417 : decode b_M_ripemd 417 = .ok (.iload 8, 2) := by decide +kernel
theorem d_M_ripemd_419 : decode b_M_ripemd 419 = .ok (.iload 15, 2) := by decide +kernel
theorem d_M_ripemd_421 : decode b_M_ripemd 421 = .ok (.iadd, 1) := by decide +kernel
theorem d_M_ripemd_422 : decode b_M_ripemd 422 = .ok (.iload 21, 2) := by decide +kernel
theorem d_M_ripemd_424 : decode b_M_ripemd 424 = .ok (.iadd, 1) := by decide +kernel
theorem d_M_ripemd_425 : decode b_M_ripemd 425 = .ok (.istore 7, 2) := by decide +kernel
theorem d_M_ripemd_427 : decode b_M_ripemd 427 = .ok (.iload 9, 2) := by decide +kernel
theorem d_M_ripemd_429 : decode b_M_ripemd 429 = .ok (.iload 16, 2) := by decide +kernel
theorem d_M_ripemd_431 : decode b_M_ripemd 431 = .ok (.iadd, 1) := by decide +kernel
theorem d_M_ripemd_432 : decode b_M_ripemd 432 = .ok (.iload 17, 2) := by decide +kernel
theorem d_M_ripemd_434 : decode b_M_ripemd 434 = .ok (.iadd, 1) := by decide +kernel
theorem d_M_ripemd_435 : decode b_M_ripemd 435 = .ok (.istore 8, 2) := by decide +kernel
theorem d_M_ripemd_437 : decode b_M_ripemd 437 = .ok (.iload 10, 2) := by decide +kernel
theorem d_M_ripemd_439 : decode b_M_ripemd 439 = .ok (.iload 12, 2) := by decide +kernel
theorem d_M_ripemd_441 : decode b_M_ripemd 441 = .ok (.iadd, 1) := by decide +kernel
theorem d_M_ripemd_442 : decode b_M_ripemd 442 = .ok (.iload 18, 2) := by decide +kernel
theorem d_M_ripemd_444 : decode b_M_ripemd 444 = .ok (.iadd, 1) := by decide +kernel
theorem d_M_ripemd_445 : decode b_M_ripemd 445 = .ok (.istore 9, 2) := by decide +kernel
theorem d_M_ripemd_447 : decode b_M_ripemd 447 = .ok (.iload 6, 2) := by decide +kernel
theorem d_M_ripemd_449 : decode b_M_ripemd 449 = .ok (.iload 13, 2) := by decide +kernel
theorem d_M_ripemd_451 : decode b_M_ripemd 451 = .ok (.iadd, 1) := by decide +kernel
theorem d_M_ripemd_452 : decode b_M_ripemd 452 = .ok (.iload 19, 2) := by decide +kernel
theorem d_M_ripemd_454 : decode b_M_ripemd 454 = .ok (.iadd, 1) := by decide +kernel
theorem d_M_ripemd_455 : decode b_M_ripemd 455 = .ok (.istore 10, 2) := by decide +kernel
theorem d_M_ripemd_457 : decode b_M_ripemd 457 = .ok (.iload 22, 2) := by decide +kernel
theorem d_M_ripemd_459 : decode b_M_ripemd 459 = .ok (.istore 6, 2) := by decide +kernel
theorem d_M_ripemd_461 : decode b_M_ripemd 461 = .ok (.iinc 11 1, 3) := by decide +kernel
theorem d_M_ripemd_464 : decode b_M_ripemd 464 = .ok (.goto (-331), 3) := by decide +kernel
theorem d_M_ripemd_467 : decode b_M_ripemd 467 = .ok (.iconst 0, 1) := by decide +kernel
theorem d_M_ripemd_468 : decode b_M_ripemd 468 = .ok (.istore 11, 2) := by decide +kernel
theorem d_M_ripemd_470 : decode b_M_ripemd 470 = .ok (.iload 11, 2) := by decide +kernel
theorem d_M_ripemd_472 : decode b_M_ripemd 472 = .ok (.bipush 20, 2) := by decide +kernel
theorem d_M_ripemd_474 : decode b_M_ripemd 474 = .ok (.if_icmp .ge 74, 3) := by decide +kernel
theorem d_M_ripemd_477 : decode b_M_ripemd 477 = .ok (.aload_n 0, 1) := by decide +kernel
theorem d_M_ripemd_478 : decode b_M_ripemd 478 = .ok (.getfield 123, 3) := by decide +kernel
theorem d_M_ripemd_481 : decode b_M_ripemd 481 = .ok (.iload 11, 2) := by decide +kernel
theorem d_M_ripemd_483 : decode b_M_ripemd 483 = .ok (.iload 11, 2) := by decide +kernel
theorem d_M_ripemd_485 : decode b_M_ripemd 485 = .ok (.iconst 4, 1) := by decide +kernel
theorem d_M_ripemd_486 : decode b_M_ripemd 486 = .ok (.if_icmp .ge 8, 3) := by decide +kernel
theorem d_M_ripemd_489 : decode b_M_ripemd 489 = .ok (.iload 6, 2) := by decide +kernel
theorem d_M_ripemd_491 : decode b_M_ripemd 491 = .ok (.goto 41, 3) := by decide +kernel
theorem d_M_ripemd_494 : decode b_M_ripemd 494 = .ok (.iload 11, 2) := by decide +kernel
theorem d_M_ripemd_496 : decode b_M_ripemd 496 = .ok (.bipush 8, 2) := by decide +kernel
theorem d_M_ripemd_498 : decode b_M_ripemd 498 = .ok (.if_icmp .ge 8, 3) := by decide +kernel
theorem d_M_ripemd_501 : decode b_M_ripemd 501 = .ok (.iload 7, 2) := by decide +kernel
theorem d_M_ripemd_503 : decode b_M_ripemd 503 = .ok (.goto 29, 3) := by decide +kernel
theorem d_M_ripemd_506 : decode b_M_ripemd 506 = .ok (.iload 11, 2) := by decide +kernel
theorem d_M_ripemd_508 : decode b_M_ripemd 508 = .ok (.bipush 12, 2) := by decide +kernel
theorem d_M_ripemd_510 : decode b_M_ripemd 510 = .ok (.if_icmp .ge 8, 3) := by decide +kernel
theorem d_M_ripemd_513 : decode b_M_ripemd 513 = .ok (.iload 8, 2) := by decide +kernel
theorem d_M_ripemd_515 : decode b_M_ripemd 515 = .ok (.goto 17, 3) := by decide +kernel
theorem d_M_ripemd_518 : decode b_M_ripemd 518 = .ok (.iload 11, 2) := by decide +kernel
theorem d_M_ripemd_520 : decode b_M_ripemd 520 = .ok (.bipush 16, 2) := by decide +kernel
theorem d_M_ripemd_522 : decode b_M_ripemd 522 = .ok (.if_icmp .ge 8, 3) := by decide +kernel
theorem d_M_ripemd_525 : decode b_M_ripemd 525 = .ok (.iload 9, 2) := by decide +kernel
theorem d_M_ripemd_527 : decode b_M_ripemd 527 = .ok (.goto 5, 3) := by decide +kernel
theorem d_M_ripemd_530 : decode b_M_ripemd 530 = .ok (.iload 10, 2) := by decide +kernel
theorem d_M_ripemd_532 : decode b_M_ripemd 532 = .ok (.bipush 8, 2) := by decide +kernel
theorem d_M_ripemd_534 : decode b_M_ripemd 534 = .ok (.iload 11, 2) := by decide +kernel
theorem d_M_ripemd_536 : decode b_M_ripemd 536 = .ok (.iconst 4, 1) := by decide +kernel
theorem d_M_ripemd_537 : decode b_M_ripemd 537 = .ok (.irem, 1) := by decide +kernel
theorem d_M_ripemd_538 : decode b_M_ripemd 538 = .ok (.imul, 1) := by decide +kernel
theorem d_M_ripemd_539 : decode b_M_ripemd 539 = .ok (.ishr, 1) := by decide +kernel
theorem d_M_ripemd_540 : decode b_M_ripemd 540 = .ok (.i2b, 1) := by decide +kernel
theorem d_M_ripemd_541 : decode b_M_ripemd 541 = .ok (.bastore, 1) := by decide +kernel
theorem d_M_ripemd_542 : decode b_M_ripemd 542 = .ok (.iinc 11 1, 3) := by decide +kernel
theorem d_M_ripemd_545 : decode b_M_ripemd 545 = .ok (.goto (-75), 3) := by decide +kernel
theorem d_M_ripemd_548 : decode b_M_ripemd 548 = .ok (.return_, 1) := by decide +kernel
abbrev rm_M_ripemd : Room := { frames := 1, cells := 0, slots := 0, locals := 26 }
abbrev q_M_ripemd (D : va_G) (cy : Nat → ClassId) (A : Nat → Prop) (o : Nat) (q : Nat → Nat) (b1 : Nat) (z : Nat → Int32) (n1 : Nat) (h1 : Nat → Int32) (res : (Nat → Int32) × (Nat → Int32)) : Array Value → State → Outcome → State → Prop := va_Qv (fun (_ : Unit) => True) (fun _ t => Po D cy A [(o, .inr (12, mo q z)), ((q 36), .inl (cy 0, 32, .inl res.1)), ((q 37), .inl (cy 0, 100200, .inl res.2)), (b1, .inl (cy 0, n1, .inl h1))] t) A
def I_M_ripemd_532 (p : Program) (l : Launch) (e : Env) (s : State) (m : MethodId) (args : Array Value) (below : List Frame) (meth : Method) (c : Code) (D : va_G) (cy : Nat → ClassId) (A : Nat → Prop) (ad : Nat → Nat) (o : Nat) (q : Nat → Nat) (b1 : Nat) (z : Nat → Int32) (n1 : Nat) (h1 : Nat → Int32) (k : Int32 → Int32 → Int32 → Int32 → Int32 → Int32 → Int32 → Int32 → (Nat → Int32) → (Nat → Int32) → Option ((Nat → Int32) × (Nat → Int32))) : Prop :=
  ∀ (x6 : Int32) (x7 : Int32) (x8 : Int32) (x9 : Int32) (x10 : Int32) (x11 : Int32) (y0 : Int32) (y1 : Int32) (u0 : Nat → Int32) (u1 : Nat → Int32) (res : (Nat → Int32) × (Nat → Int32)), k x6 x7 x8 x9 x10 x11 y0 y1 u0 u1 = some res → ∀ (H : Heap) (locs : List Loc) (ls : Array Slot), va_P D classes [(o, .inr (12, mo q z)), ((q 36), .inl (cy 0, 32, .inl u0)), ((q 37), .inl (cy 0, 100200, .inl u1)), (b1, .inl (cy 0, n1, .inl h1))] H → va_D A [(o, .inr (12, mo q z)), ((q 36), .inl (cy 0, 32, .inl u0)), ((q 37), .inl (cy 0, 100200, .inl u1)), (b1, .inl (cy 0, n1, .inl h1))] → va_S A s.heap H locs → lv_has ls 25 [(0, .ref o), (6, .int x6), (7, .int x7), (8, .int x8), (9, .int x9), (10, .int x10), (11, .int x11)] → W p l e rm_M_ripemd s m args below meth c H locs 0 0 (MQ below (q_M_ripemd D cy A o q b1 z n1 h1 res) args s 0 0 A) (F0 m 532 ls [.int y0, .int y1, .ref (q 36)])
def I_M_ripemd_470 (p : Program) (l : Launch) (e : Env) (s : State) (m : MethodId) (args : Array Value) (below : List Frame) (meth : Method) (c : Code) (D : va_G) (cy : Nat → ClassId) (A : Nat → Prop) (ad : Nat → Nat) (o : Nat) (q : Nat → Nat) (b1 : Nat) (z : Nat → Int32) (n1 : Nat) (h1 : Nat → Int32) (k : Int32 → Int32 → Int32 → Int32 → Int32 → Int32 → (Nat → Int32) → (Nat → Int32) → Option ((Nat → Int32) × (Nat → Int32))) : Prop :=
  ∀ (x6 : Int32) (x7 : Int32) (x8 : Int32) (x9 : Int32) (x10 : Int32) (x11 : Int32) (u0 : Nat → Int32) (u1 : Nat → Int32) (res : (Nat → Int32) × (Nat → Int32)), k x6 x7 x8 x9 x10 x11 u0 u1 = some res → ∀ (H : Heap) (locs : List Loc) (ls : Array Slot), va_P D classes [(o, .inr (12, mo q z)), ((q 36), .inl (cy 0, 32, .inl u0)), ((q 37), .inl (cy 0, 100200, .inl u1)), (b1, .inl (cy 0, n1, .inl h1))] H → va_D A [(o, .inr (12, mo q z)), ((q 36), .inl (cy 0, 32, .inl u0)), ((q 37), .inl (cy 0, 100200, .inl u1)), (b1, .inl (cy 0, n1, .inl h1))] → va_S A s.heap H locs → lv_has ls 25 [(0, .ref o), (6, .int x6), (7, .int x7), (8, .int x8), (9, .int x9), (10, .int x10), (11, .int x11)] → W p l e rm_M_ripemd s m args below meth c H locs 0 0 (MQ below (q_M_ripemd D cy A o q b1 z n1 h1 res) args s 0 0 A) (F0 m 470 ls [])
def I_M_ripemd_183 (p : Program) (l : Launch) (e : Env) (s : State) (m : MethodId) (args : Array Value) (below : List Frame) (meth : Method) (c : Code) (D : va_G) (cy : Nat → ClassId) (A : Nat → Prop) (ad : Nat → Nat) (o : Nat) (q : Nat → Nat) (b1 : Nat) (z : Nat → Int32) (n1 : Nat) (h1 : Nat → Int32) (k : Int32 → Int32 → Int32 → Int32 → Int32 → Int32 → Int32 → Int32 → Int32 → Int32 → Int32 → Int32 → Int32 → Int32 → Int32 → Int32 → Int32 → Int32 → (Nat → Int32) → (Nat → Int32) → Option ((Nat → Int32) × (Nat → Int32))) : Prop :=
  ∀ (x4 : Int32) (x6 : Int32) (x7 : Int32) (x8 : Int32) (x9 : Int32) (x10 : Int32) (x11 : Int32) (x12 : Int32) (x13 : Int32) (x14 : Int32) (x15 : Int32) (x16 : Int32) (x17 : Int32) (x18 : Int32) (x19 : Int32) (x20 : Int32) (x21 : Int32) (x22 : Int32) (u0 : Nat → Int32) (u1 : Nat → Int32) (res : (Nat → Int32) × (Nat → Int32)), k x4 x6 x7 x8 x9 x10 x11 x12 x13 x14 x15 x16 x17 x18 x19 x20 x21 x22 u0 u1 = some res → ∀ (H : Heap) (locs : List Loc) (ls : Array Slot), va_P D classes [(o, .inr (12, mo q z)), ((q 36), .inl (cy 0, 32, .inl u0)), ((q 37), .inl (cy 0, 100200, .inl u1)), (b1, .inl (cy 0, n1, .inl h1))] H → va_D A [(o, .inr (12, mo q z)), ((q 36), .inl (cy 0, 32, .inl u0)), ((q 37), .inl (cy 0, 100200, .inl u1)), (b1, .inl (cy 0, n1, .inl h1))] → va_S A s.heap H locs → lv_has ls 25 [(0, .ref o), (4, .int x4), (6, .int x6), (7, .int x7), (8, .int x8), (9, .int x9), (10, .int x10), (11, .int x11), (12, .int x12), (13, .int x13), (14, .int x14), (15, .int x15), (16, .int x16), (17, .int x17), (18, .int x18), (19, .int x19), (20, .int x20), (21, .int x21), (22, .int x22)] → W p l e rm_M_ripemd s m args below meth c H locs 0 0 (MQ below (q_M_ripemd D cy A o q b1 z n1 h1 res) args s 0 0 A) (F0 m 183 ls [])
def I_M_ripemd_133 (p : Program) (l : Launch) (e : Env) (s : State) (m : MethodId) (args : Array Value) (below : List Frame) (meth : Method) (c : Code) (D : va_G) (cy : Nat → ClassId) (A : Nat → Prop) (ad : Nat → Nat) (o : Nat) (q : Nat → Nat) (b1 : Nat) (z : Nat → Int32) (n1 : Nat) (h1 : Nat → Int32) (k : Int32 → Int32 → Int32 → Int32 → Int32 → Int32 → Int32 → (Nat → Int32) → (Nat → Int32) → Option ((Nat → Int32) × (Nat → Int32))) : Prop :=
  ∀ (x4 : Int32) (x6 : Int32) (x7 : Int32) (x8 : Int32) (x9 : Int32) (x10 : Int32) (x11 : Int32) (u0 : Nat → Int32) (u1 : Nat → Int32) (res : (Nat → Int32) × (Nat → Int32)), k x4 x6 x7 x8 x9 x10 x11 u0 u1 = some res → ∀ (H : Heap) (locs : List Loc) (ls : Array Slot), va_P D classes [(o, .inr (12, mo q z)), ((q 36), .inl (cy 0, 32, .inl u0)), ((q 37), .inl (cy 0, 100200, .inl u1)), (b1, .inl (cy 0, n1, .inl h1))] H → va_D A [(o, .inr (12, mo q z)), ((q 36), .inl (cy 0, 32, .inl u0)), ((q 37), .inl (cy 0, 100200, .inl u1)), (b1, .inl (cy 0, n1, .inl h1))] → va_S A s.heap H locs → lv_has ls 25 [(0, .ref o), (4, .int x4), (6, .int x6), (7, .int x7), (8, .int x8), (9, .int x9), (10, .int x10), (11, .int x11)] → W p l e rm_M_ripemd s m args below meth c H locs 0 0 (MQ below (q_M_ripemd D cy A o q b1 z n1 h1 res) args s 0 0 A) (F0 m 133 ls [])
def I_M_ripemd_65 (p : Program) (l : Launch) (e : Env) (s : State) (m : MethodId) (args : Array Value) (below : List Frame) (meth : Method) (c : Code) (D : va_G) (cy : Nat → ClassId) (A : Nat → Prop) (ad : Nat → Nat) (o : Nat) (q : Nat → Nat) (b1 : Nat) (z : Nat → Int32) (n1 : Nat) (h1 : Nat → Int32) (k : Int32 → Int32 → Int32 → Int32 → (Nat → Int32) → (Nat → Int32) → Option ((Nat → Int32) × (Nat → Int32))) : Prop :=
  ∀ (x3 : Int32) (x4 : Int32) (x5 : Int32) (x6 : Int32) (u0 : Nat → Int32) (u1 : Nat → Int32) (res : (Nat → Int32) × (Nat → Int32)), k x3 x4 x5 x6 u0 u1 = some res → ∀ (H : Heap) (locs : List Loc) (ls : Array Slot), va_P D classes [(o, .inr (12, mo q z)), ((q 36), .inl (cy 0, 32, .inl u0)), ((q 37), .inl (cy 0, 100200, .inl u1)), (b1, .inl (cy 0, n1, .inl h1))] H → va_D A [(o, .inr (12, mo q z)), ((q 36), .inl (cy 0, 32, .inl u0)), ((q 37), .inl (cy 0, 100200, .inl u1)), (b1, .inl (cy 0, n1, .inl h1))] → va_S A s.heap H locs → lv_has ls 25 [(0, .ref o), (3, .int x3), (4, .int x4), (5, .int x5), (6, .int x6)] → W p l e rm_M_ripemd s m args below meth c H locs 0 0 (MQ below (q_M_ripemd D cy A o q b1 z n1 h1 res) args s 0 0 A) (F0 m 65 ls [])
def I_M_ripemd_33 (p : Program) (l : Launch) (e : Env) (s : State) (m : MethodId) (args : Array Value) (below : List Frame) (meth : Method) (c : Code) (D : va_G) (cy : Nat → ClassId) (A : Nat → Prop) (ad : Nat → Nat) (o : Nat) (q : Nat → Nat) (b1 : Nat) (z : Nat → Int32) (n1 : Nat) (h1 : Nat → Int32) (k : Int32 → Int32 → Int32 → Int32 → (Nat → Int32) → (Nat → Int32) → Option ((Nat → Int32) × (Nat → Int32))) : Prop :=
  ∀ (x3 : Int32) (x4 : Int32) (x5 : Int32) (x6 : Int32) (u0 : Nat → Int32) (u1 : Nat → Int32) (res : (Nat → Int32) × (Nat → Int32)), k x3 x4 x5 x6 u0 u1 = some res → ∀ (H : Heap) (locs : List Loc) (ls : Array Slot), va_P D classes [(o, .inr (12, mo q z)), ((q 36), .inl (cy 0, 32, .inl u0)), ((q 37), .inl (cy 0, 100200, .inl u1)), (b1, .inl (cy 0, n1, .inl h1))] H → va_D A [(o, .inr (12, mo q z)), ((q 36), .inl (cy 0, 32, .inl u0)), ((q 37), .inl (cy 0, 100200, .inl u1)), (b1, .inl (cy 0, n1, .inl h1))] → va_S A s.heap H locs → lv_has ls 25 [(0, .ref o), (3, .int x3), (4, .int x4), (5, .int x5), (6, .int x6)] → W p l e rm_M_ripemd s m args below meth c H locs 0 0 (MQ below (q_M_ripemd D cy A o q b1 z n1 h1 res) args s 0 0 A) (F0 m 33 ls [])
def I_M_ripemd_e (p : Program) (l : Launch) (e : Env) (s : State) (m : MethodId) (args : Array Value) (below : List Frame) (meth : Method) (c : Code) (D : va_G) (cy : Nat → ClassId) (A : Nat → Prop) (ad : Nat → Nat) (o : Nat) (q : Nat → Nat) (b1 : Nat) (z : Nat → Int32) (n1 : Nat) (h1 : Nat → Int32) (k : Int32 → Int32 → (Nat → Int32) → (Nat → Int32) → Option ((Nat → Int32) × (Nat → Int32))) : Prop :=
  ∀ (a2 : Int32) (a3 : Int32) (u0 : Nat → Int32) (u1 : Nat → Int32) (res : (Nat → Int32) × (Nat → Int32)), k a2 a3 u0 u1 = some res → ∀ (H : Heap) (locs : List Loc) (ls : Array Slot), va_P D classes [(o, .inr (12, mo q z)), ((q 36), .inl (cy 0, 32, .inl u0)), ((q 37), .inl (cy 0, 100200, .inl u1)), (b1, .inl (cy 0, n1, .inl h1))] H → va_D A [(o, .inr (12, mo q z)), ((q 36), .inl (cy 0, 32, .inl u0)), ((q 37), .inl (cy 0, 100200, .inl u1)), (b1, .inl (cy 0, n1, .inl h1))] → va_S A s.heap H locs → lv_has ls 25 [(0, .ref o), (1, .ref b1), (2, .int a2), (3, .int a3)] → W p l e rm_M_ripemd s m args below meth c H locs 0 0 (MQ below (q_M_ripemd D cy A o q b1 z n1 h1 res) args s 0 0 A) (F0 m 0 ls [])
set_option maxHeartbeats 8000000 in
set_option maxRecDepth 100000 in
theorem wb_M_ripemd_532 {p : Program} {l : Launch} {e : Env} {s : State} {m : MethodId} {args : Array Value} {below : List Frame} {meth : Method} {c : Code} {D : va_G} {cy : Nat → ClassId} {A : Nat → Prop} {ad : Nat → Nat} {o : Nat} {q : Nat → Nat} {b1 : Nat} {z : Nat → Int32} {n1 : Nat} {h1 : Nat → Int32} {fu : Nat} {k_470 : Int32 → Int32 → Int32 → Int32 → Int32 → Int32 → (Nat → Int32) → (Nat → Int32) → Option ((Nat → Int32) × (Nat → Int32))} (F : Fx p s m args meth c b_M_ripemd 25 "CoinKeeperModel" "ripemd" none D cy ad A) (hk_470 : I_M_ripemd_470 p l e s m args below meth c D cy A ad o q b1 z n1 h1 k_470) : I_M_ripemd_532 p l e s m args below meth c D cy A ad o q b1 z n1 h1 (xb_M_ripemd_532 fu z n1 h1 k_470) := by
  obtain ⟨hx, hb, hr, hml, hown, hts, hlocks, hK, hA, hSt, hnm, hex⟩ := id F
  intro x6 x7 x8 x9 x10 x11 y0 y1 u0 u1 res hf H locs ls hP hD hS hl
  unfold xb_M_ripemd_532 at hf
  refine lv_bipush (v := 8) hx hb d_M_ripemd_532 (by decide) ?_
  refine lv_iload hx hb d_M_ripemd_534 (lv_at hl 6 rfl) ?_
  refine lv_iconst (v := 4) hx hb d_M_ripemd_536 (by decide) ?_
  refine lv_irem hx hb d_M_ripemd_537 (by decide) ?_
  refine lv_imul hx hb d_M_ripemd_538 ?_
  refine lv_ishr hx hb d_M_ripemd_539 ?_
  refine lv_i2b hx hb d_M_ripemd_540 rfl ?_
  refine lv_topi (fun v1 ev => ?_)
  have hf := bn ev hf
  clear ev
  obtain ⟨hg, hf⟩ := gdp hf
  refine va_bast hx hb hK hP hD hS 1 0 rfl rfl (inb_in hg) d_M_ripemd_541 (fun H locs hP hD hS => ?_)
  obtain ⟨f2, ev, hf⟩ := bne hf
  have hP : va_P D classes [(o, .inr (12, mo q z)), ((q 36), .inl (cy 0, 32, .inl f2)), ((q 37), .inl (cy 0, 100200, .inl u1)), (b1, .inl (cy 0, n1, .inl h1))] H := by rw [ev]; exact hP
  have hD : va_D A [(o, .inr (12, mo q z)), ((q 36), .inl (cy 0, 32, .inl f2)), ((q 37), .inl (cy 0, 100200, .inl u1)), (b1, .inl (cy 0, n1, .inl h1))] := by rw [ev]; exact hD
  clear ev
  obtain ⟨v3, ev, hf⟩ := bne hf
  refine lv_iinc (v := v3) (lv' := [(11, .int v3), (0, .ref o), (6, .int x6), (7, .int x7), (8, .int x8), (9, .int x9), (10, .int x10)]) hx hb d_M_ripemd_542 hl (k := 6) rfl (by rw [ev]; rfl) (by decide) rfl (fun ls hl => ?_)
  clear ev
  refine lv_goto (tgt := 470) hx hb d_M_ripemd_545 (by decide) ?_
  exact hk_470 _ _ _ _ _ _ _ _ _ hf _ _ _ hP hD hS (lv_sub hl [1, 2, 3, 4, 5, 6, 0] rfl)
set_option maxHeartbeats 8000000 in
set_option maxRecDepth 100000 in
theorem wb_M_ripemd_470 {p : Program} {l : Launch} {e : Env} {s : State} {m : MethodId} {args : Array Value} {below : List Frame} {meth : Method} {c : Code} {D : va_G} {cy : Nat → ClassId} {A : Nat → Prop} {ad : Nat → Nat} {o : Nat} {q : Nat → Nat} {b1 : Nat} {z : Nat → Int32} {n1 : Nat} {h1 : Nat → Int32} {fu : Nat} {k_470 : Int32 → Int32 → Int32 → Int32 → Int32 → Int32 → (Nat → Int32) → (Nat → Int32) → Option ((Nat → Int32) × (Nat → Int32))} (F : Fx p s m args meth c b_M_ripemd 25 "CoinKeeperModel" "ripemd" none D cy ad A) (hk_470 : I_M_ripemd_470 p l e s m args below meth c D cy A ad o q b1 z n1 h1 k_470) : I_M_ripemd_470 p l e s m args below meth c D cy A ad o q b1 z n1 h1 (xb_M_ripemd_470 fu z n1 h1 k_470) := by
  obtain ⟨hx, hb, hr, hml, hown, hts, hlocks, hK, hA, hSt, hnm, hex⟩ := id F
  intro x6 x7 x8 x9 x10 x11 u0 u1 res hf H locs ls hP hD hS hl
  unfold xb_M_ripemd_470 at hf
  refine lv_iload hx hb d_M_ripemd_470 (lv_at hl 6 rfl) ?_
  refine lv_bipush (v := 20) hx hb d_M_ripemd_472 (by decide) ?_
  refine lv_icmp_ge (tgt := 548) hx hb d_M_ripemd_474 (by decide) (fun cx => ?_) (fun cx => ?_)
  · have hf := ifp cx hf
    obtain rfl := Option.some.inj hf
    exact q_rv hx hb hr hlocks hK hP hD hS d_M_ripemd_548
  · have hf := ifn cx hf
    refine lv_aload_n hx hb d_M_ripemd_477 rfl (lv_at hl 0 rfl) ?_
    refine va_get (D := D) (ci := 12) (v := .ref (q 36)) (C := "CoinKeeperModel") (T := F_12) (N := 98) hx hb hts i_12 hown hK hP 0 rfl rfl 44 (by decide) (hts _ gw_1463) (fun _ h9 => h9) rfl d_M_ripemd_478 ?_
    refine lv_iload hx hb d_M_ripemd_481 (lv_at hl 6 rfl) ?_
    refine lv_iload hx hb d_M_ripemd_483 (lv_at hl 6 rfl) ?_
    refine lv_iconst (v := 4) hx hb d_M_ripemd_485 (by decide) ?_
    refine lv_icmp_ge (tgt := 494) hx hb d_M_ripemd_486 (by decide) (fun cx => ?_) (fun cx => ?_)
    · have hf := ifp cx hf
      refine lv_iload hx hb d_M_ripemd_494 (lv_at hl 6 rfl) ?_
      refine lv_bipush (v := 8) hx hb d_M_ripemd_496 (by decide) ?_
      refine lv_icmp_ge (tgt := 506) hx hb d_M_ripemd_498 (by decide) (fun cx => ?_) (fun cx => ?_)
      · have hf := ifp cx hf
        refine lv_iload hx hb d_M_ripemd_506 (lv_at hl 6 rfl) ?_
        refine lv_bipush (v := 12) hx hb d_M_ripemd_508 (by decide) ?_
        refine lv_icmp_ge (tgt := 518) hx hb d_M_ripemd_510 (by decide) (fun cx => ?_) (fun cx => ?_)
        · have hf := ifp cx hf
          refine lv_iload hx hb d_M_ripemd_518 (lv_at hl 6 rfl) ?_
          refine lv_bipush (v := 16) hx hb d_M_ripemd_520 (by decide) ?_
          refine lv_icmp_ge (tgt := 530) hx hb d_M_ripemd_522 (by decide) (fun cx => ?_) (fun cx => ?_)
          · have hf := ifp cx hf
            refine lv_iload hx hb d_M_ripemd_530 (lv_at hl 5 rfl) ?_
            exact wb_M_ripemd_532 (fu := fu) F hk_470 _ _ _ _ _ _ _ _ _ _ _ hf _ _ _ hP hD hS (lv_sub hl [0, 1, 2, 3, 4, 5, 6] rfl)
          · have hf := ifn cx hf
            refine lv_iload hx hb d_M_ripemd_525 (lv_at hl 4 rfl) ?_
            refine lv_goto (tgt := 532) hx hb d_M_ripemd_527 (by decide) ?_
            exact wb_M_ripemd_532 (fu := fu) F hk_470 _ _ _ _ _ _ _ _ _ _ _ hf _ _ _ hP hD hS (lv_sub hl [0, 1, 2, 3, 4, 5, 6] rfl)
        · have hf := ifn cx hf
          refine lv_iload hx hb d_M_ripemd_513 (lv_at hl 3 rfl) ?_
          refine lv_goto (tgt := 532) hx hb d_M_ripemd_515 (by decide) ?_
          exact wb_M_ripemd_532 (fu := fu) F hk_470 _ _ _ _ _ _ _ _ _ _ _ hf _ _ _ hP hD hS (lv_sub hl [0, 1, 2, 3, 4, 5, 6] rfl)
      · have hf := ifn cx hf
        refine lv_iload hx hb d_M_ripemd_501 (lv_at hl 2 rfl) ?_
        refine lv_goto (tgt := 532) hx hb d_M_ripemd_503 (by decide) ?_
        exact wb_M_ripemd_532 (fu := fu) F hk_470 _ _ _ _ _ _ _ _ _ _ _ hf _ _ _ hP hD hS (lv_sub hl [0, 1, 2, 3, 4, 5, 6] rfl)
    · have hf := ifn cx hf
      refine lv_iload hx hb d_M_ripemd_489 (lv_at hl 1 rfl) ?_
      refine lv_goto (tgt := 532) hx hb d_M_ripemd_491 (by decide) ?_
      exact wb_M_ripemd_532 (fu := fu) F hk_470 _ _ _ _ _ _ _ _ _ _ _ hf _ _ _ hP hD hS (lv_sub hl [0, 1, 2, 3, 4, 5, 6] rfl)
theorem w_M_ripemd_470 {p : Program} {l : Launch} {e : Env} {s : State} {m : MethodId} {args : Array Value} {below : List Frame} {meth : Method} {c : Code} {D : va_G} {cy : Nat → ClassId} {A : Nat → Prop} {ad : Nat → Nat} {o : Nat} {q : Nat → Nat} {b1 : Nat} {z : Nat → Int32} {n1 : Nat} {h1 : Nat → Int32} {fu : Nat} (F : Fx p s m args meth c b_M_ripemd 25 "CoinKeeperModel" "ripemd" none D cy ad A) : ∀ n : Nat, I_M_ripemd_470 p l e s m args below meth c D cy A ad o q b1 z n1 h1 (x_M_ripemd_470 fu z n1 h1 n)
  | 0 => fun _ _ _ _ _ _ _ _ _ hf => nomatch (show (none : Option ((Nat → Int32) × (Nat → Int32))) = some _ from hf)
  | n + 1 => wb_M_ripemd_470 F (w_M_ripemd_470 F n)
theorem hdm_46 : ({ cls := "CoinKeeperModel", name := "mix", desc := "(IIII)I" } : Jvm.MethodName).cls ≠ "java/lang/invoke/MethodHandle" ∧ ({ cls := "CoinKeeperModel", name := "mix", desc := "(IIII)I" } : Jvm.MethodName).cls ≠ "java/lang/invoke/VarHandle" ∧ (parseMethodDescriptor ({ cls := "CoinKeeperModel", name := "mix", desc := "(IIII)I" } : Jvm.MethodName).desc).map (fun d => d.parameters.length) = some 4 := by decide +kernel
set_option maxHeartbeats 8000000 in
set_option maxRecDepth 100000 in
theorem wb_M_ripemd_183 {p : Program} {l : Launch} {e : Env} {s : State} {m : MethodId} {args : Array Value} {below : List Frame} {meth : Method} {c : Code} {D : va_G} {cy : Nat → ClassId} {A : Nat → Prop} {ad : Nat → Nat} {o : Nat} {q : Nat → Nat} {b1 : Nat} {z : Nat → Int32} {n1 : Nat} {h1 : Nat → Int32} {fu : Nat} {k_133 : Int32 → Int32 → Int32 → Int32 → Int32 → Int32 → Int32 → (Nat → Int32) → (Nat → Int32) → Option ((Nat → Int32) × (Nat → Int32))} {k_183 : Int32 → Int32 → Int32 → Int32 → Int32 → Int32 → Int32 → Int32 → Int32 → Int32 → Int32 → Int32 → Int32 → Int32 → Int32 → Int32 → Int32 → Int32 → (Nat → Int32) → (Nat → Int32) → Option ((Nat → Int32) × (Nat → Int32))} (F : Fx p s m args meth c b_M_ripemd 25 "CoinKeeperModel" "ripemd" none D cy ad A) (hk_133 : I_M_ripemd_133 p l e s m args below meth c D cy A ad o q b1 z n1 h1 k_133) (hk_183 : I_M_ripemd_183 p l e s m args below meth c D cy A ad o q b1 z n1 h1 k_183) : I_M_ripemd_183 p l e s m args below meth c D cy A ad o q b1 z n1 h1 (xb_M_ripemd_183 fu z n1 h1 k_133 k_183) := by
  obtain ⟨hx, hb, hr, hml, hown, hts, hlocks, hK, hA, hSt, hnm, hex⟩ := id F
  intro x4 x6 x7 x8 x9 x10 x11 x12 x13 x14 x15 x16 x17 x18 x19 x20 x21 x22 u0 u1 res hf H locs ls hP hD hS hl
  unfold xb_M_ripemd_183 at hf
  refine lv_iload hx hb d_M_ripemd_183 (lv_at hl 18 rfl) ?_
  refine lv_bipush (v := 80) hx hb d_M_ripemd_185 (by decide) ?_
  refine lv_icmp_ge (tgt := 407) hx hb d_M_ripemd_187 (by decide) (fun cx => ?_) (fun cx => ?_)
  · have hf := ifp cx hf
    refine lv_iload hx hb d_M_ripemd_407 (lv_at hl 3 rfl) ?_
    refine lv_iload hx hb d_M_ripemd_409 (lv_at hl 10 rfl) ?_
    refine lv_iadd hx hb d_M_ripemd_411 ?_
    refine lv_topi (fun v1 ev => ?_)
    have hf := bn ev hf
    clear ev
    refine lv_iload hx hb d_M_ripemd_412 (lv_at hl 16 rfl) ?_
    refine lv_iadd hx hb d_M_ripemd_414 ?_
    refine lv_topi (fun v2 ev => ?_)
    have hf := bn ev hf
    clear ev
    refine lv_istore (lv' := [(22, .int v2), (0, .ref o), (4, .int x4), (6, .int x6), (7, .int x7), (8, .int x8), (9, .int x9), (10, .int x10), (11, .int x11), (12, .int x12), (13, .int x13), (14, .int x14), (15, .int x15), (16, .int x16), (17, .int x17), (18, .int x18), (19, .int x19), (20, .int x20), (21, .int x21)]) hx hb d_M_ripemd_415 hl (by decide) rfl (fun ls hl => ?_)
    refine lv_iload hx hb d_M_ripemd_417 (lv_at hl 5 rfl) ?_
    refine lv_iload hx hb d_M_ripemd_419 (lv_at hl 12 rfl) ?_
    refine lv_iadd hx hb d_M_ripemd_421 ?_
    refine lv_topi (fun v3 ev => ?_)
    have hf := bn ev hf
    clear ev
    refine lv_iload hx hb d_M_ripemd_422 (lv_at hl 18 rfl) ?_
    refine lv_iadd hx hb d_M_ripemd_424 ?_
    refine lv_topi (fun v4 ev => ?_)
    have hf := bn ev hf
    clear ev
    refine lv_istore (lv' := [(7, .int v4), (22, .int v2), (0, .ref o), (4, .int x4), (6, .int x6), (8, .int x8), (9, .int x9), (10, .int x10), (11, .int x11), (12, .int x12), (13, .int x13), (14, .int x14), (15, .int x15), (16, .int x16), (17, .int x17), (18, .int x18), (19, .int x19), (20, .int x20), (21, .int x21)]) hx hb d_M_ripemd_425 hl (by decide) rfl (fun ls hl => ?_)
    refine lv_iload hx hb d_M_ripemd_427 (lv_at hl 6 rfl) ?_
    refine lv_iload hx hb d_M_ripemd_429 (lv_at hl 13 rfl) ?_
    refine lv_iadd hx hb d_M_ripemd_431 ?_
    refine lv_topi (fun v5 ev => ?_)
    have hf := bn ev hf
    clear ev
    refine lv_iload hx hb d_M_ripemd_432 (lv_at hl 14 rfl) ?_
    refine lv_iadd hx hb d_M_ripemd_434 ?_
    refine lv_topi (fun v6 ev => ?_)
    have hf := bn ev hf
    clear ev
    refine lv_istore (lv' := [(8, .int v6), (7, .int v4), (22, .int v2), (0, .ref o), (4, .int x4), (6, .int x6), (9, .int x9), (10, .int x10), (11, .int x11), (12, .int x12), (13, .int x13), (14, .int x14), (15, .int x15), (16, .int x16), (17, .int x17), (18, .int x18), (19, .int x19), (20, .int x20), (21, .int x21)]) hx hb d_M_ripemd_435 hl (by decide) rfl (fun ls hl => ?_)
    refine lv_iload hx hb d_M_ripemd_437 (lv_at hl 7 rfl) ?_
    refine lv_iload hx hb d_M_ripemd_439 (lv_at hl 9 rfl) ?_
    refine lv_iadd hx hb d_M_ripemd_441 ?_
    refine lv_topi (fun v7 ev => ?_)
    have hf := bn ev hf
    clear ev
    refine lv_iload hx hb d_M_ripemd_442 (lv_at hl 15 rfl) ?_
    refine lv_iadd hx hb d_M_ripemd_444 ?_
    refine lv_topi (fun v8 ev => ?_)
    have hf := bn ev hf
    clear ev
    refine lv_istore (lv' := [(9, .int v8), (8, .int v6), (7, .int v4), (22, .int v2), (0, .ref o), (4, .int x4), (6, .int x6), (10, .int x10), (11, .int x11), (12, .int x12), (13, .int x13), (14, .int x14), (15, .int x15), (16, .int x16), (17, .int x17), (18, .int x18), (19, .int x19), (20, .int x20), (21, .int x21)]) hx hb d_M_ripemd_445 hl (by decide) rfl (fun ls hl => ?_)
    refine lv_iload hx hb d_M_ripemd_447 (lv_at hl 6 rfl) ?_
    refine lv_iload hx hb d_M_ripemd_449 (lv_at hl 10 rfl) ?_
    refine lv_iadd hx hb d_M_ripemd_451 ?_
    refine lv_topi (fun v9 ev => ?_)
    have hf := bn ev hf
    clear ev
    refine lv_iload hx hb d_M_ripemd_452 (lv_at hl 16 rfl) ?_
    refine lv_iadd hx hb d_M_ripemd_454 ?_
    refine lv_topi (fun v10 ev => ?_)
    have hf := bn ev hf
    clear ev
    refine lv_istore (lv' := [(10, .int v10), (9, .int v8), (8, .int v6), (7, .int v4), (22, .int v2), (0, .ref o), (4, .int x4), (6, .int x6), (11, .int x11), (12, .int x12), (13, .int x13), (14, .int x14), (15, .int x15), (16, .int x16), (17, .int x17), (18, .int x18), (19, .int x19), (20, .int x20), (21, .int x21)]) hx hb d_M_ripemd_455 hl (by decide) rfl (fun ls hl => ?_)
    refine lv_iload hx hb d_M_ripemd_457 (lv_at hl 4 rfl) ?_
    refine lv_istore (lv' := [(6, .int v2), (10, .int v10), (9, .int v8), (8, .int v6), (7, .int v4), (22, .int v2), (0, .ref o), (4, .int x4), (11, .int x11), (12, .int x12), (13, .int x13), (14, .int x14), (15, .int x15), (16, .int x16), (17, .int x17), (18, .int x18), (19, .int x19), (20, .int x20), (21, .int x21)]) hx hb d_M_ripemd_459 hl (by decide) rfl (fun ls hl => ?_)
    obtain ⟨v11, ev, hf⟩ := bne hf
    refine lv_iinc (v := v11) (lv' := [(11, .int v11), (6, .int v2), (10, .int v10), (9, .int v8), (8, .int v6), (7, .int v4), (22, .int v2), (0, .ref o), (4, .int x4), (12, .int x12), (13, .int x13), (14, .int x14), (15, .int x15), (16, .int x16), (17, .int x17), (18, .int x18), (19, .int x19), (20, .int x20), (21, .int x21)]) hx hb d_M_ripemd_461 hl (k := 8) rfl (by rw [ev]; rfl) (by decide) rfl (fun ls hl => ?_)
    clear ev
    refine lv_goto (tgt := 133) hx hb d_M_ripemd_464 (by decide) ?_
    exact hk_133 _ _ _ _ _ _ _ _ _ _ hf _ _ _ hP hD hS (lv_sub hl [7, 8, 1, 5, 4, 3, 2, 0] rfl)
  · have hf := ifn cx hf
    refine lv_iload hx hb d_M_ripemd_190 (lv_at hl 18 rfl) ?_
    refine lv_bipush (v := 16) hx hb d_M_ripemd_192 (by decide) ?_
    refine lv_idiv hx hb d_M_ripemd_194 (by decide) ?_
    refine lv_topi (fun v12 ev => ?_)
    have hf := bn ev hf
    clear ev
    refine lv_istore (lv' := [(23, .int v12), (0, .ref o), (4, .int x4), (6, .int x6), (7, .int x7), (8, .int x8), (9, .int x9), (10, .int x10), (11, .int x11), (12, .int x12), (13, .int x13), (14, .int x14), (15, .int x15), (16, .int x16), (17, .int x17), (18, .int x18), (19, .int x19), (20, .int x20), (21, .int x21), (22, .int x22)]) hx hb d_M_ripemd_195 hl (by decide) rfl (fun ls hl => ?_)
    refine lv_iload hx hb d_M_ripemd_197 (lv_at hl 9 rfl) ?_
    refine lv_iload hx hb d_M_ripemd_199 (lv_at hl 0 rfl) ?_
    refine lv_iload hx hb d_M_ripemd_201 (lv_at hl 10 rfl) ?_
    refine lv_iload hx hb d_M_ripemd_203 (lv_at hl 11 rfl) ?_
    refine lv_iload hx hb d_M_ripemd_205 (lv_at hl 12 rfl) ?_
    obtain ⟨v13, hc, hf⟩ := bdp1 hf
    refine q_ai (wr := [(o, .inr (12, mo q z)), ((q 36), .inl (cy 0, 32, .inl u0)), ((q 37), .inl (cy 0, 100200, .inl u1)), (b1, .inl (cy 0, n1, .inl h1))]) (va_runS (As := [.int v12, .int x13, .int x14, .int x15]) (rest := [.int x12]) ⟨hx, hb, hml, hown, hts⟩ (c_M_mix l D cy ad fu v12 x13 x14 x15 _ hc H.size) ⟨q_cB hts gw_1938 gw_18 gw_1936 hdm_46 ⟨by decide, by decide⟩, hts _ gw_1937⟩ (q_pre (hP.sub [] rfl) (hD.sub [] (by decide) rfl) hK hSt hS (va_free hD hS hA [] rfl) _) rfl rfl hl.1 rfl (lv_room (Nat.le_of_ble_eq_true rfl)) d_M_ripemd_207 ⟨Nat.le_of_ble_eq_true rfl, Nat.le_of_ble_eq_true rfl⟩) hP hD hS hA [] [0, 1, 2, 3] rfl rfl (by decide) (by decide) (fun H locs hP hD hS => ?_)
    clear hc
    have hP : va_P D classes [(o, .inr (12, mo q z)), ((q 36), .inl (cy 0, 32, .inl u0)), ((q 37), .inl (cy 0, 100200, .inl u1)), (b1, .inl (cy 0, n1, .inl h1))] H := hP
    have hD : va_D A [(o, .inr (12, mo q z)), ((q 36), .inl (cy 0, 32, .inl u0)), ((q 37), .inl (cy 0, 100200, .inl u1)), (b1, .inl (cy 0, n1, .inl h1))] := hD
    refine lv_iadd hx hb d_M_ripemd_210 ?_
    refine lv_topi (fun v14 ev => ?_)
    have hf := bn ev hf
    clear ev
    refine lv_aload_n hx hb d_M_ripemd_211 rfl (lv_at hl 1 rfl) ?_
    refine va_get (D := D) (ci := 12) (v := .ref (q 37)) (C := "CoinKeeperModel") (T := F_12) (N := 98) hx hb hts i_12 hown hK hP 0 rfl rfl 45 (by decide) (hts _ gw_1464) (fun _ h9 => h9) rfl d_M_ripemd_212 ?_
    refine lv_bipush (v := 64) hx hb d_M_ripemd_215 (by decide) ?_
    refine lv_iload hx hb d_M_ripemd_217 (lv_at hl 8 rfl) ?_
    refine lv_imul hx hb d_M_ripemd_219 ?_
    refine lv_topi (fun v15 ev => ?_)
    have hf := bn ev hf
    clear ev
    refine lv_iconst (v := 4) hx hb d_M_ripemd_220 (by decide) ?_
    refine va_gets hx hb (hSt.1 16 _ rfl).1 hS hown (hts _ gw_1939) (fun _ h9 => h9) d_M_ripemd_221 ?_
    refine lv_iload hx hb d_M_ripemd_224 (lv_at hl 19 rfl) ?_
    obtain ⟨hg, hf⟩ := gdp hf
    refine va_ti (v := .int (tb_16.getD x22.toNatClampNeg 0)) hx hb (hSt.1 16 _ rfl).2 hS (inb_in hg) rfl d_M_ripemd_226 ?_
    refine lv_topi (fun v16 ev => ?_)
    have hf := bn ev hf
    clear ev
    refine lv_imul hx hb d_M_ripemd_227 ?_
    refine lv_iadd hx hb d_M_ripemd_228 ?_
    refine lv_topi (fun v17 ev => ?_)
    have hf := bn ev hf
    clear ev
    obtain ⟨v18, hc, hf⟩ := bdp1 hf
    refine q_ai (wr := [(o, .inr (12, mo q z)), ((q 36), .inl (cy 0, 32, .inl u0)), (b1, .inl (cy 0, n1, .inl h1))]) (va_runS (As := [.ref (q 37), .int v17]) (rest := [.int v14]) ⟨hx, hb, hml, hown, hts⟩ (c_M_small l D cy ad fu (q 37) 100200 u1 v17 _ hc H.size) ⟨q_cB hts gw_1779 gw_18 gw_1777 hdm_4 ⟨by decide, by decide⟩, hts _ gw_1778⟩ (q_pre (hP.sub [2] rfl) (hD.sub [2] (by decide) rfl) hK hSt hS (va_free hD hS hA [2] rfl) _) rfl rfl hl.1 rfl (lv_room (Nat.le_of_ble_eq_true rfl)) d_M_ripemd_229 ⟨Nat.le_of_ble_eq_true rfl, Nat.le_of_ble_eq_true rfl⟩) hP hD hS hA [2] [0, 1, 3] rfl rfl (by decide) (by decide) (fun H locs hP hD hS => ?_)
    clear hc
    have hP : va_P D classes [(o, .inr (12, mo q z)), ((q 36), .inl (cy 0, 32, .inl u0)), (b1, .inl (cy 0, n1, .inl h1)), ((q 37), .inl (cy 0, 100200, .inl u1))] H := hP
    have hD : va_D A [(o, .inr (12, mo q z)), ((q 36), .inl (cy 0, 32, .inl u0)), (b1, .inl (cy 0, n1, .inl h1)), ((q 37), .inl (cy 0, 100200, .inl u1))] := hD
    refine lv_iadd hx hb d_M_ripemd_232 ?_
    refine lv_topi (fun v19 ev => ?_)
    have hf := bn ev hf
    clear ev
    refine va_gets hx hb (hSt.1 17 _ rfl).1 hS hown (hts _ gw_1941) (fun _ h9 => h9) d_M_ripemd_233 ?_
    refine lv_iload hx hb d_M_ripemd_236 (lv_at hl 0 rfl) ?_
    obtain ⟨hg, hf⟩ := gdp hf
    refine va_ti (v := .int (tb_17.getD v12.toNatClampNeg 0)) hx hb (hSt.1 17 _ rfl).2 hS (inb_in hg) rfl d_M_ripemd_238 ?_
    refine lv_topi (fun v20 ev => ?_)
    have hf := bn ev hf
    clear ev
    refine lv_iadd hx hb d_M_ripemd_239 ?_
    refine lv_topi (fun v21 ev => ?_)
    have hf := bn ev hf
    clear ev
    refine lv_istore (lv' := [(24, .int v21), (23, .int v12), (0, .ref o), (4, .int x4), (6, .int x6), (7, .int x7), (8, .int x8), (9, .int x9), (10, .int x10), (11, .int x11), (12, .int x12), (13, .int x13), (14, .int x14), (15, .int x15), (16, .int x16), (17, .int x17), (18, .int x18), (19, .int x19), (20, .int x20), (21, .int x21), (22, .int x22)]) hx hb d_M_ripemd_240 hl (by decide) rfl (fun ls hl => ?_)
    refine lv_iload hx hb d_M_ripemd_242 (lv_at hl 0 rfl) ?_
    refine va_gets hx hb (hSt.1 18 _ rfl).1 hS hown (hts _ gw_1943) (fun _ h9 => h9) d_M_ripemd_244 ?_
    refine lv_iload hx hb d_M_ripemd_247 (lv_at hl 20 rfl) ?_
    obtain ⟨hg, hf⟩ := gdp hf
    refine va_ti (v := .int (tb_18.getD x22.toNatClampNeg 0)) hx hb (hSt.1 18 _ rfl).2 hS (inb_in hg) rfl d_M_ripemd_249 ?_
    refine lv_topi (fun v22 ev => ?_)
    have hf := bn ev hf
    clear ev
    refine lv_ishl hx hb d_M_ripemd_250 ?_
    refine lv_topi (fun v23 ev => ?_)
    have hf := bn ev hf
    clear ev
    refine lv_iload hx hb d_M_ripemd_251 (lv_at hl 0 rfl) ?_
    refine lv_bipush (v := 32) hx hb d_M_ripemd_253 (by decide) ?_
    refine va_gets hx hb (hSt.1 18 _ rfl).1 hS hown (hts _ gw_1943) (fun _ h9 => h9) d_M_ripemd_255 ?_
    refine lv_iload hx hb d_M_ripemd_258 (lv_at hl 20 rfl) ?_
    obtain ⟨hg, hf⟩ := gdp hf
    refine va_ti (v := .int (tb_18.getD x22.toNatClampNeg 0)) hx hb (hSt.1 18 _ rfl).2 hS (inb_in hg) rfl d_M_ripemd_260 ?_
    refine lv_topi (fun v24 ev => ?_)
    have hf := bn ev hf
    clear ev
    refine lv_isub hx hb d_M_ripemd_261 ?_
    refine lv_iushr hx hb d_M_ripemd_262 rfl ?_
    refine lv_ior hx hb d_M_ripemd_263 ?_
    refine lv_topi (fun v25 ev => ?_)
    have hf := bn ev hf
    clear ev
    refine lv_iload hx hb d_M_ripemd_264 (lv_at hl 14 rfl) ?_
    refine lv_iadd hx hb d_M_ripemd_266 ?_
    refine lv_topi (fun v26 ev => ?_)
    have hf := bn ev hf
    clear ev
    refine lv_istore (lv' := [(24, .int v26), (23, .int v12), (0, .ref o), (4, .int x4), (6, .int x6), (7, .int x7), (8, .int x8), (9, .int x9), (10, .int x10), (11, .int x11), (12, .int x12), (13, .int x13), (14, .int x14), (15, .int x15), (16, .int x16), (17, .int x17), (18, .int x18), (19, .int x19), (20, .int x20), (21, .int x21), (22, .int x22)]) hx hb d_M_ripemd_267 hl (by decide) rfl (fun ls hl => ?_)
    refine lv_iload hx hb d_M_ripemd_269 (lv_at hl 14 rfl) ?_
    refine lv_istore (lv' := [(12, .int x16), (24, .int v26), (23, .int v12), (0, .ref o), (4, .int x4), (6, .int x6), (7, .int x7), (8, .int x8), (9, .int x9), (10, .int x10), (11, .int x11), (13, .int x13), (14, .int x14), (15, .int x15), (16, .int x16), (17, .int x17), (18, .int x18), (19, .int x19), (20, .int x20), (21, .int x21), (22, .int x22)]) hx hb d_M_ripemd_271 hl (by decide) rfl (fun ls hl => ?_)
    refine lv_iload hx hb d_M_ripemd_273 (lv_at hl 13 rfl) ?_
    refine lv_istore (lv' := [(16, .int x15), (12, .int x16), (24, .int v26), (23, .int v12), (0, .ref o), (4, .int x4), (6, .int x6), (7, .int x7), (8, .int x8), (9, .int x9), (10, .int x10), (11, .int x11), (13, .int x13), (14, .int x14), (15, .int x15), (17, .int x17), (18, .int x18), (19, .int x19), (20, .int x20), (21, .int x21), (22, .int x22)]) hx hb d_M_ripemd_275 hl (by decide) rfl (fun ls hl => ?_)
    refine lv_iload hx hb d_M_ripemd_277 (lv_at hl 13 rfl) ?_
    refine lv_bipush (v := 10) hx hb d_M_ripemd_279 (by decide) ?_
    refine lv_ishl hx hb d_M_ripemd_281 ?_
    refine lv_topi (fun v27 ev => ?_)
    have hf := bn ev hf
    clear ev
    refine lv_iload hx hb d_M_ripemd_282 (lv_at hl 13 rfl) ?_
    refine lv_bipush (v := 22) hx hb d_M_ripemd_284 (by decide) ?_
    refine lv_iushr hx hb d_M_ripemd_286 rfl ?_
    refine lv_ior hx hb d_M_ripemd_287 ?_
    refine lv_topi (fun v28 ev => ?_)
    have hf := bn ev hf
    clear ev
    refine lv_istore (lv' := [(15, .int v28), (16, .int x15), (12, .int x16), (24, .int v26), (23, .int v12), (0, .ref o), (4, .int x4), (6, .int x6), (7, .int x7), (8, .int x8), (9, .int x9), (10, .int x10), (11, .int x11), (13, .int x13), (14, .int x14), (17, .int x17), (18, .int x18), (19, .int x19), (20, .int x20), (21, .int x21), (22, .int x22)]) hx hb d_M_ripemd_288 hl (by decide) rfl (fun ls hl => ?_)
    refine lv_iload hx hb d_M_ripemd_290 (lv_at hl 13 rfl) ?_
    refine lv_istore (lv' := [(14, .int x13), (15, .int v28), (16, .int x15), (12, .int x16), (24, .int v26), (23, .int v12), (0, .ref o), (4, .int x4), (6, .int x6), (7, .int x7), (8, .int x8), (9, .int x9), (10, .int x10), (11, .int x11), (13, .int x13), (17, .int x17), (18, .int x18), (19, .int x19), (20, .int x20), (21, .int x21), (22, .int x22)]) hx hb d_M_ripemd_292 hl (by decide) rfl (fun ls hl => ?_)
    refine lv_iload hx hb d_M_ripemd_294 (lv_at hl 4 rfl) ?_
    refine lv_istore (lv' := [(13, .int v26), (14, .int x13), (15, .int v28), (16, .int x15), (12, .int x16), (24, .int v26), (23, .int v12), (0, .ref o), (4, .int x4), (6, .int x6), (7, .int x7), (8, .int x8), (9, .int x9), (10, .int x10), (11, .int x11), (17, .int x17), (18, .int x18), (19, .int x19), (20, .int x20), (21, .int x21), (22, .int x22)]) hx hb d_M_ripemd_296 hl (by decide) rfl (fun ls hl => ?_)
    refine lv_iload hx hb d_M_ripemd_298 (lv_at hl 15 rfl) ?_
    refine lv_iconst (v := 4) hx hb d_M_ripemd_300 (by decide) ?_
    refine lv_iload hx hb d_M_ripemd_301 (lv_at hl 6 rfl) ?_
    refine lv_isub hx hb d_M_ripemd_303 ?_
    refine lv_topi (fun v29 ev => ?_)
    have hf := bn ev hf
    clear ev
    refine lv_iload hx hb d_M_ripemd_304 (lv_at hl 16 rfl) ?_
    refine lv_iload hx hb d_M_ripemd_306 (lv_at hl 17 rfl) ?_
    refine lv_iload hx hb d_M_ripemd_308 (lv_at hl 18 rfl) ?_
    obtain ⟨v30, hc, hf⟩ := bdp1 hf
    refine q_ai (wr := [(o, .inr (12, mo q z)), ((q 36), .inl (cy 0, 32, .inl u0)), (b1, .inl (cy 0, n1, .inl h1)), ((q 37), .inl (cy 0, 100200, .inl u1))]) (va_runS (As := [.int v29, .int x18, .int x19, .int x20]) (rest := [.int x17]) ⟨hx, hb, hml, hown, hts⟩ (c_M_mix l D cy ad fu v29 x18 x19 x20 _ hc H.size) ⟨q_cB hts gw_1938 gw_18 gw_1936 hdm_46 ⟨by decide, by decide⟩, hts _ gw_1937⟩ (q_pre (hP.sub [] rfl) (hD.sub [] (by decide) rfl) hK hSt hS (va_free hD hS hA [] rfl) _) rfl rfl hl.1 rfl (lv_room (Nat.le_of_ble_eq_true rfl)) d_M_ripemd_310 ⟨Nat.le_of_ble_eq_true rfl, Nat.le_of_ble_eq_true rfl⟩) hP hD hS hA [] [0, 1, 2, 3] rfl rfl (by decide) (by decide) (fun H locs hP hD hS => ?_)
    clear hc
    have hP : va_P D classes [(o, .inr (12, mo q z)), ((q 36), .inl (cy 0, 32, .inl u0)), (b1, .inl (cy 0, n1, .inl h1)), ((q 37), .inl (cy 0, 100200, .inl u1))] H := hP
    have hD : va_D A [(o, .inr (12, mo q z)), ((q 36), .inl (cy 0, 32, .inl u0)), (b1, .inl (cy 0, n1, .inl h1)), ((q 37), .inl (cy 0, 100200, .inl u1))] := hD
    refine lv_iadd hx hb d_M_ripemd_313 ?_
    refine lv_topi (fun v31 ev => ?_)
    have hf := bn ev hf
    clear ev
    refine lv_aload_n hx hb d_M_ripemd_314 rfl (lv_at hl 7 rfl) ?_
    refine va_get (D := D) (ci := 12) (v := .ref (q 37)) (C := "CoinKeeperModel") (T := F_12) (N := 98) hx hb hts i_12 hown hK hP 0 rfl rfl 45 (by decide) (hts _ gw_1464) (fun _ h9 => h9) rfl d_M_ripemd_315 ?_
    refine lv_bipush (v := 64) hx hb d_M_ripemd_318 (by decide) ?_
    refine lv_iload hx hb d_M_ripemd_320 (lv_at hl 14 rfl) ?_
    refine lv_imul hx hb d_M_ripemd_322 ?_
    refine lv_topi (fun v32 ev => ?_)
    have hf := bn ev hf
    clear ev
    refine lv_iconst (v := 4) hx hb d_M_ripemd_323 (by decide) ?_
    refine va_gets hx hb (hSt.1 19 _ rfl).1 hS hown (hts _ gw_1945) (fun _ h9 => h9) d_M_ripemd_324 ?_
    refine lv_iload hx hb d_M_ripemd_327 (lv_at hl 20 rfl) ?_
    obtain ⟨hg, hf⟩ := gdp hf
    refine va_ti (v := .int (tb_19.getD x22.toNatClampNeg 0)) hx hb (hSt.1 19 _ rfl).2 hS (inb_in hg) rfl d_M_ripemd_329 ?_
    refine lv_topi (fun v33 ev => ?_)
    have hf := bn ev hf
    clear ev
    refine lv_imul hx hb d_M_ripemd_330 ?_
    refine lv_iadd hx hb d_M_ripemd_331 ?_
    refine lv_topi (fun v34 ev => ?_)
    have hf := bn ev hf
    clear ev
    obtain ⟨v35, hc, hf⟩ := bdp1 hf
    refine q_ai (wr := [(o, .inr (12, mo q z)), ((q 36), .inl (cy 0, 32, .inl u0)), (b1, .inl (cy 0, n1, .inl h1))]) (va_runS (As := [.ref (q 37), .int v34]) (rest := [.int v31]) ⟨hx, hb, hml, hown, hts⟩ (c_M_small l D cy ad fu (q 37) 100200 u1 v34 _ hc H.size) ⟨q_cB hts gw_1779 gw_18 gw_1777 hdm_4 ⟨by decide, by decide⟩, hts _ gw_1778⟩ (q_pre (hP.sub [3] rfl) (hD.sub [3] (by decide) rfl) hK hSt hS (va_free hD hS hA [3] rfl) _) rfl rfl hl.1 rfl (lv_room (Nat.le_of_ble_eq_true rfl)) d_M_ripemd_332 ⟨Nat.le_of_ble_eq_true rfl, Nat.le_of_ble_eq_true rfl⟩) hP hD hS hA [3] [0, 1, 2] rfl rfl (by decide) (by decide) (fun H locs hP hD hS => ?_)
    clear hc
    have hP : va_P D classes [(o, .inr (12, mo q z)), ((q 36), .inl (cy 0, 32, .inl u0)), (b1, .inl (cy 0, n1, .inl h1)), ((q 37), .inl (cy 0, 100200, .inl u1))] H := hP
    have hD : va_D A [(o, .inr (12, mo q z)), ((q 36), .inl (cy 0, 32, .inl u0)), (b1, .inl (cy 0, n1, .inl h1)), ((q 37), .inl (cy 0, 100200, .inl u1))] := hD
    refine lv_iadd hx hb d_M_ripemd_335 ?_
    refine lv_topi (fun v36 ev => ?_)
    have hf := bn ev hf
    clear ev
    refine va_gets hx hb (hSt.1 20 _ rfl).1 hS hown (hts _ gw_1947) (fun _ h9 => h9) d_M_ripemd_336 ?_
    refine lv_iload hx hb d_M_ripemd_339 (lv_at hl 6 rfl) ?_
    obtain ⟨hg, hf⟩ := gdp hf
    refine va_ti (v := .int (tb_20.getD v12.toNatClampNeg 0)) hx hb (hSt.1 20 _ rfl).2 hS (inb_in hg) rfl d_M_ripemd_341 ?_
    refine lv_topi (fun v37 ev => ?_)
    have hf := bn ev hf
    clear ev
    refine lv_iadd hx hb d_M_ripemd_342 ?_
    refine lv_topi (fun v38 ev => ?_)
    have hf := bn ev hf
    clear ev
    refine lv_istore (lv' := [(24, .int v38), (13, .int v26), (14, .int x13), (15, .int v28), (16, .int x15), (12, .int x16), (23, .int v12), (0, .ref o), (4, .int x4), (6, .int x6), (7, .int x7), (8, .int x8), (9, .int x9), (10, .int x10), (11, .int x11), (17, .int x17), (18, .int x18), (19, .int x19), (20, .int x20), (21, .int x21), (22, .int x22)]) hx hb d_M_ripemd_343 hl (by decide) rfl (fun ls hl => ?_)
    refine lv_iload hx hb d_M_ripemd_345 (lv_at hl 0 rfl) ?_
    refine va_gets hx hb (hSt.1 21 _ rfl).1 hS hown (hts _ gw_1949) (fun _ h9 => h9) d_M_ripemd_347 ?_
    refine lv_iload hx hb d_M_ripemd_350 (lv_at hl 20 rfl) ?_
    obtain ⟨hg, hf⟩ := gdp hf
    refine va_ti (v := .int (tb_21.getD x22.toNatClampNeg 0)) hx hb (hSt.1 21 _ rfl).2 hS (inb_in hg) rfl d_M_ripemd_352 ?_
    refine lv_topi (fun v39 ev => ?_)
    have hf := bn ev hf
    clear ev
    refine lv_ishl hx hb d_M_ripemd_353 ?_
    refine lv_topi (fun v40 ev => ?_)
    have hf := bn ev hf
    clear ev
    refine lv_iload hx hb d_M_ripemd_354 (lv_at hl 0 rfl) ?_
    refine lv_bipush (v := 32) hx hb d_M_ripemd_356 (by decide) ?_
    refine va_gets hx hb (hSt.1 21 _ rfl).1 hS hown (hts _ gw_1949) (fun _ h9 => h9) d_M_ripemd_358 ?_
    refine lv_iload hx hb d_M_ripemd_361 (lv_at hl 20 rfl) ?_
    obtain ⟨hg, hf⟩ := gdp hf
    refine va_ti (v := .int (tb_21.getD x22.toNatClampNeg 0)) hx hb (hSt.1 21 _ rfl).2 hS (inb_in hg) rfl d_M_ripemd_363 ?_
    refine lv_topi (fun v41 ev => ?_)
    have hf := bn ev hf
    clear ev
    refine lv_isub hx hb d_M_ripemd_364 ?_
    refine lv_iushr hx hb d_M_ripemd_365 rfl ?_
    refine lv_ior hx hb d_M_ripemd_366 ?_
    refine lv_topi (fun v42 ev => ?_)
    have hf := bn ev hf
    clear ev
    refine lv_iload hx hb d_M_ripemd_367 (lv_at hl 19 rfl) ?_
    refine lv_iadd hx hb d_M_ripemd_369 ?_
    refine lv_topi (fun v43 ev => ?_)
    have hf := bn ev hf
    clear ev
    refine lv_istore (lv' := [(24, .int v43), (13, .int v26), (14, .int x13), (15, .int v28), (16, .int x15), (12, .int x16), (23, .int v12), (0, .ref o), (4, .int x4), (6, .int x6), (7, .int x7), (8, .int x8), (9, .int x9), (10, .int x10), (11, .int x11), (17, .int x17), (18, .int x18), (19, .int x19), (20, .int x20), (21, .int x21), (22, .int x22)]) hx hb d_M_ripemd_370 hl (by decide) rfl (fun ls hl => ?_)
    refine lv_iload hx hb d_M_ripemd_372 (lv_at hl 19 rfl) ?_
    refine lv_istore (lv' := [(17, .int x21), (24, .int v43), (13, .int v26), (14, .int x13), (15, .int v28), (16, .int x15), (12, .int x16), (23, .int v12), (0, .ref o), (4, .int x4), (6, .int x6), (7, .int x7), (8, .int x8), (9, .int x9), (10, .int x10), (11, .int x11), (18, .int x18), (19, .int x19), (20, .int x20), (21, .int x21), (22, .int x22)]) hx hb d_M_ripemd_374 hl (by decide) rfl (fun ls hl => ?_)
    refine lv_iload hx hb d_M_ripemd_376 (lv_at hl 18 rfl) ?_
    refine lv_istore (lv' := [(21, .int x20), (17, .int x21), (24, .int v43), (13, .int v26), (14, .int x13), (15, .int v28), (16, .int x15), (12, .int x16), (23, .int v12), (0, .ref o), (4, .int x4), (6, .int x6), (7, .int x7), (8, .int x8), (9, .int x9), (10, .int x10), (11, .int x11), (18, .int x18), (19, .int x19), (20, .int x20), (22, .int x22)]) hx hb d_M_ripemd_378 hl (by decide) rfl (fun ls hl => ?_)
    refine lv_iload hx hb d_M_ripemd_380 (lv_at hl 18 rfl) ?_
    refine lv_bipush (v := 10) hx hb d_M_ripemd_382 (by decide) ?_
    refine lv_ishl hx hb d_M_ripemd_384 ?_
    refine lv_topi (fun v44 ev => ?_)
    have hf := bn ev hf
    clear ev
    refine lv_iload hx hb d_M_ripemd_385 (lv_at hl 18 rfl) ?_
    refine lv_bipush (v := 22) hx hb d_M_ripemd_387 (by decide) ?_
    refine lv_iushr hx hb d_M_ripemd_389 rfl ?_
    refine lv_ior hx hb d_M_ripemd_390 ?_
    refine lv_topi (fun v45 ev => ?_)
    have hf := bn ev hf
    clear ev
    refine lv_istore (lv' := [(20, .int v45), (21, .int x20), (17, .int x21), (24, .int v43), (13, .int v26), (14, .int x13), (15, .int v28), (16, .int x15), (12, .int x16), (23, .int v12), (0, .ref o), (4, .int x4), (6, .int x6), (7, .int x7), (8, .int x8), (9, .int x9), (10, .int x10), (11, .int x11), (18, .int x18), (19, .int x19), (22, .int x22)]) hx hb d_M_ripemd_391 hl (by decide) rfl (fun ls hl => ?_)
    refine lv_iload hx hb d_M_ripemd_393 (lv_at hl 18 rfl) ?_
    refine lv_istore (lv' := [(19, .int x18), (20, .int v45), (21, .int x20), (17, .int x21), (24, .int v43), (13, .int v26), (14, .int x13), (15, .int v28), (16, .int x15), (12, .int x16), (23, .int v12), (0, .ref o), (4, .int x4), (6, .int x6), (7, .int x7), (8, .int x8), (9, .int x9), (10, .int x10), (11, .int x11), (18, .int x18), (22, .int x22)]) hx hb d_M_ripemd_395 hl (by decide) rfl (fun ls hl => ?_)
    refine lv_iload hx hb d_M_ripemd_397 (lv_at hl 4 rfl) ?_
    refine lv_istore (lv' := [(18, .int v43), (19, .int x18), (20, .int v45), (21, .int x20), (17, .int x21), (24, .int v43), (13, .int v26), (14, .int x13), (15, .int v28), (16, .int x15), (12, .int x16), (23, .int v12), (0, .ref o), (4, .int x4), (6, .int x6), (7, .int x7), (8, .int x8), (9, .int x9), (10, .int x10), (11, .int x11), (22, .int x22)]) hx hb d_M_ripemd_399 hl (by decide) rfl (fun ls hl => ?_)
    obtain ⟨v46, ev, hf⟩ := bne hf
    refine lv_iinc (v := v46) (lv' := [(22, .int v46), (18, .int v43), (19, .int x18), (20, .int v45), (21, .int x20), (17, .int x21), (24, .int v43), (13, .int v26), (14, .int x13), (15, .int v28), (16, .int x15), (12, .int x16), (23, .int v12), (0, .ref o), (4, .int x4), (6, .int x6), (7, .int x7), (8, .int x8), (9, .int x9), (10, .int x10), (11, .int x11)]) hx hb d_M_ripemd_401 hl (k := 20) rfl (by rw [ev]; rfl) (by decide) rfl (fun ls hl => ?_)
    clear ev
    refine lv_goto (tgt := 183) hx hb d_M_ripemd_404 (by decide) ?_
    exact hk_183 _ _ _ _ _ _ _ _ _ _ _ _ _ _ _ _ _ _ _ _ _ hf _ _ _ (hP.sub (ws' := [(o, .inr (12, mo q z)), ((q 36), .inl (cy 0, 32, .inl u0)), ((q 37), .inl (cy 0, 100200, .inl u1)), (b1, .inl (cy 0, n1, .inl h1))]) [0, 1, 3, 2] rfl) (hD.sub (ws' := [(o, .inr (12, mo q z)), ((q 36), .inl (cy 0, 32, .inl u0)), ((q 37), .inl (cy 0, 100200, .inl u1)), (b1, .inl (cy 0, n1, .inl h1))]) [0, 1, 3, 2] (by decide) rfl) hS (lv_sub hl [13, 14, 15, 16, 17, 18, 19, 20, 11, 7, 8, 9, 10, 5, 1, 2, 3, 4, 0] rfl)
theorem w_M_ripemd_183 {p : Program} {l : Launch} {e : Env} {s : State} {m : MethodId} {args : Array Value} {below : List Frame} {meth : Method} {c : Code} {D : va_G} {cy : Nat → ClassId} {A : Nat → Prop} {ad : Nat → Nat} {o : Nat} {q : Nat → Nat} {b1 : Nat} {z : Nat → Int32} {n1 : Nat} {h1 : Nat → Int32} {fu : Nat} {k_133 : Int32 → Int32 → Int32 → Int32 → Int32 → Int32 → Int32 → (Nat → Int32) → (Nat → Int32) → Option ((Nat → Int32) × (Nat → Int32))} (F : Fx p s m args meth c b_M_ripemd 25 "CoinKeeperModel" "ripemd" none D cy ad A) (hk_133 : I_M_ripemd_133 p l e s m args below meth c D cy A ad o q b1 z n1 h1 k_133) : ∀ n : Nat, I_M_ripemd_183 p l e s m args below meth c D cy A ad o q b1 z n1 h1 (x_M_ripemd_183 fu z n1 h1 k_133 n)
  | 0 => fun _ _ _ _ _ _ _ _ _ _ _ _ _ _ _ _ _ _ _ _ _ hf => nomatch (show (none : Option ((Nat → Int32) × (Nat → Int32))) = some _ from hf)
  | n + 1 => wb_M_ripemd_183 F hk_133 (w_M_ripemd_183 F hk_133 n)
set_option maxHeartbeats 8000000 in
set_option maxRecDepth 100000 in
theorem wb_M_ripemd_133 {p : Program} {l : Launch} {e : Env} {s : State} {m : MethodId} {args : Array Value} {below : List Frame} {meth : Method} {c : Code} {D : va_G} {cy : Nat → ClassId} {A : Nat → Prop} {ad : Nat → Nat} {o : Nat} {q : Nat → Nat} {b1 : Nat} {z : Nat → Int32} {n1 : Nat} {h1 : Nat → Int32} {fu : Nat} {k_133 : Int32 → Int32 → Int32 → Int32 → Int32 → Int32 → Int32 → (Nat → Int32) → (Nat → Int32) → Option ((Nat → Int32) × (Nat → Int32))} (F : Fx p s m args meth c b_M_ripemd 25 "CoinKeeperModel" "ripemd" none D cy ad A) (hk_133 : I_M_ripemd_133 p l e s m args below meth c D cy A ad o q b1 z n1 h1 k_133) : I_M_ripemd_133 p l e s m args below meth c D cy A ad o q b1 z n1 h1 (xb_M_ripemd_133 fu z n1 h1 k_133) := by
  obtain ⟨hx, hb, hr, hml, hown, hts, hlocks, hK, hA, hSt, hnm, hex⟩ := id F
  intro x4 x6 x7 x8 x9 x10 x11 u0 u1 res hf H locs ls hP hD hS hl
  unfold xb_M_ripemd_133 at hf
  refine lv_iload hx hb d_M_ripemd_133 (lv_at hl 7 rfl) ?_
  refine lv_iload hx hb d_M_ripemd_135 (lv_at hl 1 rfl) ?_
  refine lv_icmp_ge (tgt := 467) hx hb d_M_ripemd_137 (by decide) (fun cx => ?_) (fun cx => ?_)
  · have hf := ifp cx hf
    refine lv_iconst (v := 0) hx hb d_M_ripemd_467 (by decide) ?_
    refine lv_istore (lv' := [(11, .int (0 : Int32)), (0, .ref o), (4, .int x4), (6, .int x6), (7, .int x7), (8, .int x8), (9, .int x9), (10, .int x10)]) hx hb d_M_ripemd_468 hl (by decide) rfl (fun ls hl => ?_)
    exact w_M_ripemd_470 F fu _ _ _ _ _ _ _ _ _ hf _ _ _ hP hD hS (lv_sub hl [1, 3, 4, 5, 6, 7, 0] rfl)
  · have hf := ifn cx hf
    refine lv_iload hx hb d_M_ripemd_140 (lv_at hl 2 rfl) ?_
    refine lv_istore (lv' := [(12, .int x6), (0, .ref o), (4, .int x4), (6, .int x6), (7, .int x7), (8, .int x8), (9, .int x9), (10, .int x10), (11, .int x11)]) hx hb d_M_ripemd_142 hl (by decide) rfl (fun ls hl => ?_)
    refine lv_iload hx hb d_M_ripemd_144 (lv_at hl 4 rfl) ?_
    refine lv_istore (lv' := [(13, .int x7), (12, .int x6), (0, .ref o), (4, .int x4), (6, .int x6), (7, .int x7), (8, .int x8), (9, .int x9), (10, .int x10), (11, .int x11)]) hx hb d_M_ripemd_146 hl (by decide) rfl (fun ls hl => ?_)
    refine lv_iload hx hb d_M_ripemd_148 (lv_at hl 6 rfl) ?_
    refine lv_istore (lv' := [(14, .int x8), (13, .int x7), (12, .int x6), (0, .ref o), (4, .int x4), (6, .int x6), (7, .int x7), (8, .int x8), (9, .int x9), (10, .int x10), (11, .int x11)]) hx hb d_M_ripemd_150 hl (by decide) rfl (fun ls hl => ?_)
    refine lv_iload hx hb d_M_ripemd_152 (lv_at hl 8 rfl) ?_
    refine lv_istore (lv' := [(15, .int x9), (14, .int x8), (13, .int x7), (12, .int x6), (0, .ref o), (4, .int x4), (6, .int x6), (7, .int x7), (8, .int x8), (9, .int x9), (10, .int x10), (11, .int x11)]) hx hb d_M_ripemd_154 hl (by decide) rfl (fun ls hl => ?_)
    refine lv_iload hx hb d_M_ripemd_156 (lv_at hl 10 rfl) ?_
    refine lv_istore (lv' := [(16, .int x10), (15, .int x9), (14, .int x8), (13, .int x7), (12, .int x6), (0, .ref o), (4, .int x4), (6, .int x6), (7, .int x7), (8, .int x8), (9, .int x9), (10, .int x10), (11, .int x11)]) hx hb d_M_ripemd_158 hl (by decide) rfl (fun ls hl => ?_)
    refine lv_iload hx hb d_M_ripemd_160 (lv_at hl 7 rfl) ?_
    refine lv_istore (lv' := [(17, .int x6), (16, .int x10), (15, .int x9), (14, .int x8), (13, .int x7), (12, .int x6), (0, .ref o), (4, .int x4), (6, .int x6), (7, .int x7), (8, .int x8), (9, .int x9), (10, .int x10), (11, .int x11)]) hx hb d_M_ripemd_162 hl (by decide) rfl (fun ls hl => ?_)
    refine lv_iload hx hb d_M_ripemd_164 (lv_at hl 9 rfl) ?_
    refine lv_istore (lv' := [(18, .int x7), (17, .int x6), (16, .int x10), (15, .int x9), (14, .int x8), (13, .int x7), (12, .int x6), (0, .ref o), (4, .int x4), (6, .int x6), (7, .int x7), (8, .int x8), (9, .int x9), (10, .int x10), (11, .int x11)]) hx hb d_M_ripemd_166 hl (by decide) rfl (fun ls hl => ?_)
    refine lv_iload hx hb d_M_ripemd_168 (lv_at hl 11 rfl) ?_
    refine lv_istore (lv' := [(19, .int x8), (18, .int x7), (17, .int x6), (16, .int x10), (15, .int x9), (14, .int x8), (13, .int x7), (12, .int x6), (0, .ref o), (4, .int x4), (6, .int x6), (7, .int x7), (8, .int x8), (9, .int x9), (10, .int x10), (11, .int x11)]) hx hb d_M_ripemd_170 hl (by decide) rfl (fun ls hl => ?_)
    refine lv_iload hx hb d_M_ripemd_172 (lv_at hl 13 rfl) ?_
    refine lv_istore (lv' := [(20, .int x9), (19, .int x8), (18, .int x7), (17, .int x6), (16, .int x10), (15, .int x9), (14, .int x8), (13, .int x7), (12, .int x6), (0, .ref o), (4, .int x4), (6, .int x6), (7, .int x7), (8, .int x8), (9, .int x9), (10, .int x10), (11, .int x11)]) hx hb d_M_ripemd_174 hl (by decide) rfl (fun ls hl => ?_)
    refine lv_iload hx hb d_M_ripemd_176 (lv_at hl 15 rfl) ?_
    refine lv_istore (lv' := [(21, .int x10), (20, .int x9), (19, .int x8), (18, .int x7), (17, .int x6), (16, .int x10), (15, .int x9), (14, .int x8), (13, .int x7), (12, .int x6), (0, .ref o), (4, .int x4), (6, .int x6), (7, .int x7), (8, .int x8), (9, .int x9), (10, .int x10), (11, .int x11)]) hx hb d_M_ripemd_178 hl (by decide) rfl (fun ls hl => ?_)
    refine lv_iconst (v := 0) hx hb d_M_ripemd_180 (by decide) ?_
    refine lv_istore (lv' := [(22, .int (0 : Int32)), (21, .int x10), (20, .int x9), (19, .int x8), (18, .int x7), (17, .int x6), (16, .int x10), (15, .int x9), (14, .int x8), (13, .int x7), (12, .int x6), (0, .ref o), (4, .int x4), (6, .int x6), (7, .int x7), (8, .int x8), (9, .int x9), (10, .int x10), (11, .int x11)]) hx hb d_M_ripemd_181 hl (by decide) rfl (fun ls hl => ?_)
    exact w_M_ripemd_183 F hk_133 fu _ _ _ _ _ _ _ _ _ _ _ _ _ _ _ _ _ _ _ _ _ hf _ _ _ hP hD hS (lv_sub hl [11, 12, 13, 14, 15, 16, 17, 18, 10, 9, 8, 7, 6, 5, 4, 3, 2, 1, 0] rfl)
theorem w_M_ripemd_133 {p : Program} {l : Launch} {e : Env} {s : State} {m : MethodId} {args : Array Value} {below : List Frame} {meth : Method} {c : Code} {D : va_G} {cy : Nat → ClassId} {A : Nat → Prop} {ad : Nat → Nat} {o : Nat} {q : Nat → Nat} {b1 : Nat} {z : Nat → Int32} {n1 : Nat} {h1 : Nat → Int32} {fu : Nat} (F : Fx p s m args meth c b_M_ripemd 25 "CoinKeeperModel" "ripemd" none D cy ad A) : ∀ n : Nat, I_M_ripemd_133 p l e s m args below meth c D cy A ad o q b1 z n1 h1 (x_M_ripemd_133 fu z n1 h1 n)
  | 0 => fun _ _ _ _ _ _ _ _ _ _ hf => nomatch (show (none : Option ((Nat → Int32) × (Nat → Int32))) = some _ from hf)
  | n + 1 => wb_M_ripemd_133 F (w_M_ripemd_133 F n)
set_option maxHeartbeats 8000000 in
set_option maxRecDepth 100000 in
theorem wb_M_ripemd_65 {p : Program} {l : Launch} {e : Env} {s : State} {m : MethodId} {args : Array Value} {below : List Frame} {meth : Method} {c : Code} {D : va_G} {cy : Nat → ClassId} {A : Nat → Prop} {ad : Nat → Nat} {o : Nat} {q : Nat → Nat} {b1 : Nat} {z : Nat → Int32} {n1 : Nat} {h1 : Nat → Int32} {fu : Nat} {k_65 : Int32 → Int32 → Int32 → Int32 → (Nat → Int32) → (Nat → Int32) → Option ((Nat → Int32) × (Nat → Int32))} (F : Fx p s m args meth c b_M_ripemd 25 "CoinKeeperModel" "ripemd" none D cy ad A) (hk_65 : I_M_ripemd_65 p l e s m args below meth c D cy A ad o q b1 z n1 h1 k_65) : I_M_ripemd_65 p l e s m args below meth c D cy A ad o q b1 z n1 h1 (xb_M_ripemd_65 fu z n1 h1 k_65) := by
  obtain ⟨hx, hb, hr, hml, hown, hts, hlocks, hK, hA, hSt, hnm, hex⟩ := id F
  intro x3 x4 x5 x6 u0 u1 res hf H locs ls hP hD hS hl
  unfold xb_M_ripemd_65 at hf
  refine lv_iload hx hb d_M_ripemd_65 (lv_at hl 4 rfl) ?_
  refine lv_bipush (v := 8) hx hb d_M_ripemd_67 (by decide) ?_
  refine lv_icmp_ge (tgt := 105) hx hb d_M_ripemd_69 (by decide) (fun cx => ?_) (fun cx => ?_)
  · have hf := ifp cx hf
    refine lv_ldcw (v := 1732584193) hx hb hown (hts _ gw_1931) d_M_ripemd_105 ?_
    refine lv_istore (lv' := [(6, .int (1732584193 : Int32)), (0, .ref o), (3, .int x3), (4, .int x4), (5, .int x5)]) hx hb d_M_ripemd_108 hl (by decide) rfl (fun ls hl => ?_)
    refine lv_ldcw (v := (-271733879)) hx hb hown (hts _ gw_1932) d_M_ripemd_110 ?_
    refine lv_istore (lv' := [(7, .int (-271733879 : Int32)), (6, .int (1732584193 : Int32)), (0, .ref o), (3, .int x3), (4, .int x4), (5, .int x5)]) hx hb d_M_ripemd_113 hl (by decide) rfl (fun ls hl => ?_)
    refine lv_ldcw (v := (-1732584194)) hx hb hown (hts _ gw_1933) d_M_ripemd_115 ?_
    refine lv_istore (lv' := [(8, .int (-1732584194 : Int32)), (7, .int (-271733879 : Int32)), (6, .int (1732584193 : Int32)), (0, .ref o), (3, .int x3), (4, .int x4), (5, .int x5)]) hx hb d_M_ripemd_118 hl (by decide) rfl (fun ls hl => ?_)
    refine lv_ldcw (v := 271733878) hx hb hown (hts _ gw_1934) d_M_ripemd_120 ?_
    refine lv_istore (lv' := [(9, .int (271733878 : Int32)), (8, .int (-1732584194 : Int32)), (7, .int (-271733879 : Int32)), (6, .int (1732584193 : Int32)), (0, .ref o), (3, .int x3), (4, .int x4), (5, .int x5)]) hx hb d_M_ripemd_123 hl (by decide) rfl (fun ls hl => ?_)
    refine lv_ldcw (v := (-1009589776)) hx hb hown (hts _ gw_1935) d_M_ripemd_125 ?_
    refine lv_istore (lv' := [(10, .int (-1009589776 : Int32)), (9, .int (271733878 : Int32)), (8, .int (-1732584194 : Int32)), (7, .int (-271733879 : Int32)), (6, .int (1732584193 : Int32)), (0, .ref o), (3, .int x3), (4, .int x4), (5, .int x5)]) hx hb d_M_ripemd_128 hl (by decide) rfl (fun ls hl => ?_)
    refine lv_iconst (v := 0) hx hb d_M_ripemd_130 (by decide) ?_
    refine lv_istore (lv' := [(11, .int (0 : Int32)), (10, .int (-1009589776 : Int32)), (9, .int (271733878 : Int32)), (8, .int (-1732584194 : Int32)), (7, .int (-271733879 : Int32)), (6, .int (1732584193 : Int32)), (0, .ref o), (3, .int x3), (4, .int x4), (5, .int x5)]) hx hb d_M_ripemd_131 hl (by decide) rfl (fun ls hl => ?_)
    exact w_M_ripemd_133 F fu _ _ _ _ _ _ _ _ _ _ hf _ _ _ hP hD hS (lv_sub hl [6, 8, 5, 4, 3, 2, 1, 0] rfl)
  · have hf := ifn cx hf
    refine lv_aload_n hx hb d_M_ripemd_72 rfl (lv_at hl 0 rfl) ?_
    refine va_get (D := D) (ci := 12) (v := .ref (q 37)) (C := "CoinKeeperModel") (T := F_12) (N := 98) hx hb hts i_12 hown hK hP 0 rfl rfl 45 (by decide) (hts _ gw_1464) (fun _ h9 => h9) rfl d_M_ripemd_73 ?_
    refine lv_iload hx hb d_M_ripemd_76 (lv_at hl 3 rfl) ?_
    refine lv_bipush (v := 8) hx hb d_M_ripemd_78 (by decide) ?_
    refine lv_isub hx hb d_M_ripemd_80 ?_
    refine lv_topi (fun v1 ev => ?_)
    have hf := bn ev hf
    clear ev
    refine lv_iload hx hb d_M_ripemd_81 (lv_at hl 4 rfl) ?_
    refine lv_iadd hx hb d_M_ripemd_83 ?_
    refine lv_topi (fun v2 ev => ?_)
    have hf := bn ev hf
    clear ev
    refine lv_ldc2 (v := 8) hx hb hown (hts _ gw_1766) d_M_ripemd_84 ?_
    refine lv_iload_n hx hb d_M_ripemd_87 rfl (lv_at hl 1 rfl) ?_
    refine lv_i2l hx hb d_M_ripemd_88 rfl ?_
    refine lv_lmul hx hb d_M_ripemd_89 ?_
    refine lv_topl (fun v3 ev => ?_)
    have hf := bn ev hf
    clear ev
    refine lv_bipush (v := 8) hx hb d_M_ripemd_90 (by decide) ?_
    refine lv_iload hx hb d_M_ripemd_92 (lv_at hl 4 rfl) ?_
    refine lv_imul hx hb d_M_ripemd_94 ?_
    refine lv_lshr hx hb d_M_ripemd_95 rfl ?_
    refine lv_l2i hx hb d_M_ripemd_96 rfl ?_
    refine lv_i2b hx hb d_M_ripemd_97 rfl ?_
    refine lv_topi (fun v4 ev => ?_)
    have hf := bn ev hf
    clear ev
    obtain ⟨hg, hf⟩ := gdp hf
    refine va_bast hx hb hK hP hD hS 2 0 rfl rfl (inb_in hg) d_M_ripemd_98 (fun H locs hP hD hS => ?_)
    obtain ⟨f5, ev, hf⟩ := bne hf
    have hP : va_P D classes [(o, .inr (12, mo q z)), ((q 36), .inl (cy 0, 32, .inl u0)), ((q 37), .inl (cy 0, 100200, .inl f5)), (b1, .inl (cy 0, n1, .inl h1))] H := by rw [ev]; exact hP
    have hD : va_D A [(o, .inr (12, mo q z)), ((q 36), .inl (cy 0, 32, .inl u0)), ((q 37), .inl (cy 0, 100200, .inl f5)), (b1, .inl (cy 0, n1, .inl h1))] := by rw [ev]; exact hD
    clear ev
    obtain ⟨v6, ev, hf⟩ := bne hf
    refine lv_iinc (v := v6) (lv' := [(6, .int v6), (0, .ref o), (3, .int x3), (4, .int x4), (5, .int x5)]) hx hb d_M_ripemd_99 hl (k := 4) rfl (by rw [ev]; rfl) (by decide) rfl (fun ls hl => ?_)
    clear ev
    refine lv_goto (tgt := 65) hx hb d_M_ripemd_102 (by decide) ?_
    exact hk_65 _ _ _ _ _ _ _ hf _ _ _ hP hD hS (lv_sub hl [1, 2, 3, 4, 0] rfl)
theorem w_M_ripemd_65 {p : Program} {l : Launch} {e : Env} {s : State} {m : MethodId} {args : Array Value} {below : List Frame} {meth : Method} {c : Code} {D : va_G} {cy : Nat → ClassId} {A : Nat → Prop} {ad : Nat → Nat} {o : Nat} {q : Nat → Nat} {b1 : Nat} {z : Nat → Int32} {n1 : Nat} {h1 : Nat → Int32} {fu : Nat} (F : Fx p s m args meth c b_M_ripemd 25 "CoinKeeperModel" "ripemd" none D cy ad A) : ∀ n : Nat, I_M_ripemd_65 p l e s m args below meth c D cy A ad o q b1 z n1 h1 (x_M_ripemd_65 fu z n1 h1 n)
  | 0 => fun _ _ _ _ _ _ _ hf => nomatch (show (none : Option ((Nat → Int32) × (Nat → Int32))) = some _ from hf)
  | n + 1 => wb_M_ripemd_65 F (w_M_ripemd_65 F n)
set_option maxHeartbeats 8000000 in
set_option maxRecDepth 100000 in
theorem wb_M_ripemd_33 {p : Program} {l : Launch} {e : Env} {s : State} {m : MethodId} {args : Array Value} {below : List Frame} {meth : Method} {c : Code} {D : va_G} {cy : Nat → ClassId} {A : Nat → Prop} {ad : Nat → Nat} {o : Nat} {q : Nat → Nat} {b1 : Nat} {z : Nat → Int32} {n1 : Nat} {h1 : Nat → Int32} {fu : Nat} {k_33 : Int32 → Int32 → Int32 → Int32 → (Nat → Int32) → (Nat → Int32) → Option ((Nat → Int32) × (Nat → Int32))} (F : Fx p s m args meth c b_M_ripemd 25 "CoinKeeperModel" "ripemd" none D cy ad A) (hk_33 : I_M_ripemd_33 p l e s m args below meth c D cy A ad o q b1 z n1 h1 k_33) : I_M_ripemd_33 p l e s m args below meth c D cy A ad o q b1 z n1 h1 (xb_M_ripemd_33 fu z n1 h1 k_33) := by
  obtain ⟨hx, hb, hr, hml, hown, hts, hlocks, hK, hA, hSt, hnm, hex⟩ := id F
  intro x3 x4 x5 x6 u0 u1 res hf H locs ls hP hD hS hl
  unfold xb_M_ripemd_33 at hf
  refine lv_iload hx hb d_M_ripemd_33 (lv_at hl 4 rfl) ?_
  refine lv_iload hx hb d_M_ripemd_35 (lv_at hl 3 rfl) ?_
  refine lv_icmp_ge (tgt := 54) hx hb d_M_ripemd_37 (by decide) (fun cx => ?_) (fun cx => ?_)
  · have hf := ifp cx hf
    refine lv_aload_n hx hb d_M_ripemd_54 rfl (lv_at hl 0 rfl) ?_
    refine va_get (D := D) (ci := 12) (v := .ref (q 37)) (C := "CoinKeeperModel") (T := F_12) (N := 98) hx hb hts i_12 hown hK hP 0 rfl rfl 45 (by decide) (hts _ gw_1464) (fun _ h9 => h9) rfl d_M_ripemd_55 ?_
    refine lv_iload_n hx hb d_M_ripemd_58 rfl (lv_at hl 1 rfl) ?_
    refine lv_bipush (v := (-128)) hx hb d_M_ripemd_59 (by decide) ?_
    obtain ⟨hg, hf⟩ := gdp hf
    refine va_bast hx hb hK hP hD hS 2 0 rfl rfl (inb_in hg) d_M_ripemd_61 (fun H locs hP hD hS => ?_)
    obtain ⟨f1, ev, hf⟩ := bne hf
    have hP : va_P D classes [(o, .inr (12, mo q z)), ((q 36), .inl (cy 0, 32, .inl u0)), ((q 37), .inl (cy 0, 100200, .inl f1)), (b1, .inl (cy 0, n1, .inl h1))] H := by rw [ev]; exact hP
    have hD : va_D A [(o, .inr (12, mo q z)), ((q 36), .inl (cy 0, 32, .inl u0)), ((q 37), .inl (cy 0, 100200, .inl f1)), (b1, .inl (cy 0, n1, .inl h1))] := by rw [ev]; exact hD
    clear ev
    refine lv_iconst (v := 0) hx hb d_M_ripemd_62 (by decide) ?_
    refine lv_istore (lv' := [(6, .int (0 : Int32)), (0, .ref o), (3, .int x3), (4, .int x4), (5, .int x5)]) hx hb d_M_ripemd_63 hl (by decide) rfl (fun ls hl => ?_)
    exact w_M_ripemd_65 F fu _ _ _ _ _ _ _ hf _ _ _ hP hD hS (lv_sub hl [1, 2, 3, 4, 0] rfl)
  · have hf := ifn cx hf
    refine lv_aload_n hx hb d_M_ripemd_40 rfl (lv_at hl 0 rfl) ?_
    refine va_get (D := D) (ci := 12) (v := .ref (q 37)) (C := "CoinKeeperModel") (T := F_12) (N := 98) hx hb hts i_12 hown hK hP 0 rfl rfl 45 (by decide) (hts _ gw_1464) (fun _ h9 => h9) rfl d_M_ripemd_41 ?_
    refine lv_iload hx hb d_M_ripemd_44 (lv_at hl 4 rfl) ?_
    refine lv_iconst (v := 0) hx hb d_M_ripemd_46 (by decide) ?_
    obtain ⟨hg, hf⟩ := gdp hf
    refine va_bast hx hb hK hP hD hS 2 0 rfl rfl (inb_in hg) d_M_ripemd_47 (fun H locs hP hD hS => ?_)
    obtain ⟨f2, ev, hf⟩ := bne hf
    have hP : va_P D classes [(o, .inr (12, mo q z)), ((q 36), .inl (cy 0, 32, .inl u0)), ((q 37), .inl (cy 0, 100200, .inl f2)), (b1, .inl (cy 0, n1, .inl h1))] H := by rw [ev]; exact hP
    have hD : va_D A [(o, .inr (12, mo q z)), ((q 36), .inl (cy 0, 32, .inl u0)), ((q 37), .inl (cy 0, 100200, .inl f2)), (b1, .inl (cy 0, n1, .inl h1))] := by rw [ev]; exact hD
    clear ev
    obtain ⟨v3, ev, hf⟩ := bne hf
    refine lv_iinc (v := v3) (lv' := [(6, .int v3), (0, .ref o), (3, .int x3), (4, .int x4), (5, .int x5)]) hx hb d_M_ripemd_48 hl (k := 4) rfl (by rw [ev]; rfl) (by decide) rfl (fun ls hl => ?_)
    clear ev
    refine lv_goto (tgt := 33) hx hb d_M_ripemd_51 (by decide) ?_
    exact hk_33 _ _ _ _ _ _ _ hf _ _ _ hP hD hS (lv_sub hl [1, 2, 3, 4, 0] rfl)
theorem w_M_ripemd_33 {p : Program} {l : Launch} {e : Env} {s : State} {m : MethodId} {args : Array Value} {below : List Frame} {meth : Method} {c : Code} {D : va_G} {cy : Nat → ClassId} {A : Nat → Prop} {ad : Nat → Nat} {o : Nat} {q : Nat → Nat} {b1 : Nat} {z : Nat → Int32} {n1 : Nat} {h1 : Nat → Int32} {fu : Nat} (F : Fx p s m args meth c b_M_ripemd 25 "CoinKeeperModel" "ripemd" none D cy ad A) : ∀ n : Nat, I_M_ripemd_33 p l e s m args below meth c D cy A ad o q b1 z n1 h1 (x_M_ripemd_33 fu z n1 h1 n)
  | 0 => fun _ _ _ _ _ _ _ hf => nomatch (show (none : Option ((Nat → Int32) × (Nat → Int32))) = some _ from hf)
  | n + 1 => wb_M_ripemd_33 F (w_M_ripemd_33 F n)
set_option maxHeartbeats 8000000 in
set_option maxRecDepth 100000 in
theorem we_M_ripemd {p : Program} {l : Launch} {e : Env} {s : State} {m : MethodId} {args : Array Value} {below : List Frame} {meth : Method} {c : Code} {D : va_G} {cy : Nat → ClassId} {A : Nat → Prop} {ad : Nat → Nat} {o : Nat} {q : Nat → Nat} {b1 : Nat} {z : Nat → Int32} {n1 : Nat} {h1 : Nat → Int32} {fu : Nat} (F : Fx p s m args meth c b_M_ripemd 25 "CoinKeeperModel" "ripemd" none D cy ad A) : I_M_ripemd_e p l e s m args below meth c D cy A ad o q b1 z n1 h1 (x_M_ripemd fu z n1 h1) := by
  obtain ⟨hx, hb, hr, hml, hown, hts, hlocks, hK, hA, hSt, hnm, hex⟩ := id F
  intro a2 a3 u0 u1 res hf H locs ls hP hD hS hl
  unfold x_M_ripemd at hf
  refine lv_iload_n hx hb d_M_ripemd_0 rfl (lv_at hl 3 rfl) ?_
  refine lv_bipush (v := 9) hx hb d_M_ripemd_1 (by decide) ?_
  refine lv_iadd hx hb d_M_ripemd_3 ?_
  refine lv_topi (fun v1 ev => ?_)
  have hf := bn ev hf
  clear ev
  refine lv_bipush (v := 63) hx hb d_M_ripemd_4 (by decide) ?_
  refine lv_iadd hx hb d_M_ripemd_6 ?_
  refine lv_topi (fun v2 ev => ?_)
  have hf := bn ev hf
  clear ev
  refine lv_bipush (v := 64) hx hb d_M_ripemd_7 (by decide) ?_
  refine lv_idiv hx hb d_M_ripemd_9 (by decide) ?_
  refine lv_topi (fun v3 ev => ?_)
  have hf := bn ev hf
  clear ev
  refine lv_istore (lv' := [(4, .int v3), (0, .ref o), (1, .ref b1), (2, .int a2), (3, .int a3)]) hx hb d_M_ripemd_10 hl (by decide) rfl (fun ls hl => ?_)
  refine lv_bipush (v := 64) hx hb d_M_ripemd_12 (by decide) ?_
  refine lv_iload hx hb d_M_ripemd_14 (lv_at hl 0 rfl) ?_
  refine lv_imul hx hb d_M_ripemd_16 ?_
  refine lv_topi (fun v4 ev => ?_)
  have hf := bn ev hf
  clear ev
  refine lv_istore (lv' := [(5, .int v4), (4, .int v3), (0, .ref o), (1, .ref b1), (2, .int a2), (3, .int a3)]) hx hb d_M_ripemd_17 hl (by decide) rfl (fun ls hl => ?_)
  refine lv_aload_n hx hb d_M_ripemd_19 rfl (lv_at hl 3 rfl) ?_
  refine lv_iload_n hx hb d_M_ripemd_20 rfl (lv_at hl 4 rfl) ?_
  refine lv_aload_n hx hb d_M_ripemd_21 rfl (lv_at hl 2 rfl) ?_
  refine va_get (D := D) (ci := 12) (v := .ref (q 37)) (C := "CoinKeeperModel") (T := F_12) (N := 98) hx hb hts i_12 hown hK hP 0 rfl rfl 45 (by decide) (hts _ gw_1464) (fun _ h9 => h9) rfl d_M_ripemd_22 ?_
  refine lv_iconst (v := 0) hx hb d_M_ripemd_25 (by decide) ?_
  refine lv_iload_n hx hb d_M_ripemd_26 rfl (lv_at hl 5 rfl) ?_
  obtain ⟨hg, hf⟩ := gdp hf
  obtain ⟨hg2, hf⟩ := gdp hf
  refine va_copyi (rest := []) hx hb (hml.trans hl.1.symm) hown (hts _ gw_1398) (hts _ gw_497) (hts _ gw_496) (hts _ gw_17) hK hP hD hS 3 2 0 0 rfl rfl rfl rfl rfl (cpk_p hg).1 (cpk_p hg).2.1 (cpk_p hg).2.2.1 (cpk_p hg).2.2.2.1 (cpk_p hg).2.2.2.2 (bfit_p hg2) (by decide) (by decide) d_M_ripemd_27 (fun H locs hP hD hS => ?_)
  obtain ⟨f5, ev, hf⟩ := bne hf
  have hP : va_P D classes [(o, .inr (12, mo q z)), ((q 36), .inl (cy 0, 32, .inl u0)), ((q 37), .inl (cy 0, 100200, .inl f5)), (b1, .inl (cy 0, n1, .inl h1))] H := by rw [ev]; exact hP
  have hD : va_D A [(o, .inr (12, mo q z)), ((q 36), .inl (cy 0, 32, .inl u0)), ((q 37), .inl (cy 0, 100200, .inl f5)), (b1, .inl (cy 0, n1, .inl h1))] := by rw [ev]; exact hD
  clear ev
  refine lv_iload_n hx hb d_M_ripemd_30 rfl (lv_at hl 5 rfl) ?_
  refine lv_istore (lv' := [(6, .int a3), (5, .int v4), (4, .int v3), (0, .ref o), (1, .ref b1), (2, .int a2), (3, .int a3)]) hx hb d_M_ripemd_31 hl (by decide) rfl (fun ls hl => ?_)
  exact w_M_ripemd_33 F fu _ _ _ _ _ _ _ hf _ _ _ hP hD hS (lv_sub hl [3, 6, 2, 1, 0] rfl)
theorem c_M_ripemd (l : Launch) (D : va_G) (cy : Nat → ClassId) (ad : Nat → Nat) (fu : Nat) (o : Nat) (q : Nat → Nat) (b1 : Nat) (z : Nat → Int32) (n1 : Nat) (h1 : Nat → Int32) (a2 : Int32) (a3 : Int32) (u0 : Nat → Int32) (u1 : Nat → Int32) (res : (Nat → Int32) × (Nat → Int32)) (hf : x_M_ripemd fu z n1 h1 a2 a3 u0 u1 = some res) (sz : Nat) : Met l ({ cls := "CoinKeeperModel", name := "ripemd", desc := "([BII)V" } : Jvm.MethodName) (.code ({ cls := "CoinKeeperModel", name := "ripemd", desc := "([BII)V" } : Jvm.MethodName) b_M_ripemd 25 none :: gw) rm_M_ripemd (va_Pc [.ref o, .ref b1, .int a2, .int a3] (Pr D cy ad [(o, .inr (12, mo q z)), ((q 36), .inl (cy 0, 32, .inl u0)), ((q 37), .inl (cy 0, 100200, .inl u1)), (b1, .inl (cy 0, n1, .inl h1))] sz)) (q_M_ripemd D cy (va_A [(o, .inr (12, mo q z)), ((q 36), .inl (cy 0, 32, .inl u0)), ((q 37), .inl (cy 0, 100200, .inl u1)), (b1, .inl (cy 0, n1, .inl h1))] sz) o q b1 z n1 h1 res) 0 0 (va_A [(o, .inr (12, mo q z)), ((q 36), .inl (cy 0, 32, .inl u0)), ((q 37), .inl (cy 0, 100200, .inl u1)), (b1, .inl (cy 0, n1, .inl h1))] sz) :=
  q_met (Qc := fun A => q_M_ripemd D cy A o q b1 z n1 h1 res) (by decide) rfl rfl (Nat.le_of_ble_eq_true rfl) (fun p e s m below meth c ls F hP hD hS hl => we_M_ripemd (fu := fu) F a2 a3 u0 u1 res hf _ _ _ hP hD hS hl) sz
abbrev rm_M_ripemd_f1hash : Room := { frames := 1, cells := 0, slots := 0, locals := 26 }
abbrev q_M_ripemd_f1hash (D : va_G) (cy : Nat → ClassId) (A : Nat → Prop) (o : Nat) (q : Nat → Nat) (z : Nat → Int32) (res : (Nat → Int32) × (Nat → Int32)) : Array Value → State → Outcome → State → Prop := va_Qv (fun (_ : Unit) => True) (fun _ t => Po D cy A [(o, .inr (12, mo q z)), ((q 36), .inl (cy 0, 32, .inl res.1)), ((q 37), .inl (cy 0, 100200, .inl res.2))] t) A
def I_M_ripemd_f1hash_532 (p : Program) (l : Launch) (e : Env) (s : State) (m : MethodId) (args : Array Value) (below : List Frame) (meth : Method) (c : Code) (D : va_G) (cy : Nat → ClassId) (A : Nat → Prop) (ad : Nat → Nat) (o : Nat) (q : Nat → Nat) (z : Nat → Int32) (k : Int32 → Int32 → Int32 → Int32 → Int32 → Int32 → Int32 → Int32 → (Nat → Int32) → (Nat → Int32) → Option ((Nat → Int32) × (Nat → Int32))) : Prop :=
  ∀ (x6 : Int32) (x7 : Int32) (x8 : Int32) (x9 : Int32) (x10 : Int32) (x11 : Int32) (y0 : Int32) (y1 : Int32) (u0 : Nat → Int32) (u1 : Nat → Int32) (res : (Nat → Int32) × (Nat → Int32)), k x6 x7 x8 x9 x10 x11 y0 y1 u0 u1 = some res → ∀ (H : Heap) (locs : List Loc) (ls : Array Slot), va_P D classes [(o, .inr (12, mo q z)), ((q 36), .inl (cy 0, 32, .inl u0)), ((q 37), .inl (cy 0, 100200, .inl u1))] H → va_D A [(o, .inr (12, mo q z)), ((q 36), .inl (cy 0, 32, .inl u0)), ((q 37), .inl (cy 0, 100200, .inl u1))] → va_S A s.heap H locs → lv_has ls 25 [(0, .ref o), (6, .int x6), (7, .int x7), (8, .int x8), (9, .int x9), (10, .int x10), (11, .int x11)] → W p l e rm_M_ripemd_f1hash s m args below meth c H locs 0 0 (MQ below (q_M_ripemd_f1hash D cy A o q z res) args s 0 0 A) (F0 m 532 ls [.int y0, .int y1, .ref (q 36)])
def I_M_ripemd_f1hash_470 (p : Program) (l : Launch) (e : Env) (s : State) (m : MethodId) (args : Array Value) (below : List Frame) (meth : Method) (c : Code) (D : va_G) (cy : Nat → ClassId) (A : Nat → Prop) (ad : Nat → Nat) (o : Nat) (q : Nat → Nat) (z : Nat → Int32) (k : Int32 → Int32 → Int32 → Int32 → Int32 → Int32 → (Nat → Int32) → (Nat → Int32) → Option ((Nat → Int32) × (Nat → Int32))) : Prop :=
  ∀ (x6 : Int32) (x7 : Int32) (x8 : Int32) (x9 : Int32) (x10 : Int32) (x11 : Int32) (u0 : Nat → Int32) (u1 : Nat → Int32) (res : (Nat → Int32) × (Nat → Int32)), k x6 x7 x8 x9 x10 x11 u0 u1 = some res → ∀ (H : Heap) (locs : List Loc) (ls : Array Slot), va_P D classes [(o, .inr (12, mo q z)), ((q 36), .inl (cy 0, 32, .inl u0)), ((q 37), .inl (cy 0, 100200, .inl u1))] H → va_D A [(o, .inr (12, mo q z)), ((q 36), .inl (cy 0, 32, .inl u0)), ((q 37), .inl (cy 0, 100200, .inl u1))] → va_S A s.heap H locs → lv_has ls 25 [(0, .ref o), (6, .int x6), (7, .int x7), (8, .int x8), (9, .int x9), (10, .int x10), (11, .int x11)] → W p l e rm_M_ripemd_f1hash s m args below meth c H locs 0 0 (MQ below (q_M_ripemd_f1hash D cy A o q z res) args s 0 0 A) (F0 m 470 ls [])
def I_M_ripemd_f1hash_183 (p : Program) (l : Launch) (e : Env) (s : State) (m : MethodId) (args : Array Value) (below : List Frame) (meth : Method) (c : Code) (D : va_G) (cy : Nat → ClassId) (A : Nat → Prop) (ad : Nat → Nat) (o : Nat) (q : Nat → Nat) (z : Nat → Int32) (k : Int32 → Int32 → Int32 → Int32 → Int32 → Int32 → Int32 → Int32 → Int32 → Int32 → Int32 → Int32 → Int32 → Int32 → Int32 → Int32 → Int32 → Int32 → (Nat → Int32) → (Nat → Int32) → Option ((Nat → Int32) × (Nat → Int32))) : Prop :=
  ∀ (x4 : Int32) (x6 : Int32) (x7 : Int32) (x8 : Int32) (x9 : Int32) (x10 : Int32) (x11 : Int32) (x12 : Int32) (x13 : Int32) (x14 : Int32) (x15 : Int32) (x16 : Int32) (x17 : Int32) (x18 : Int32) (x19 : Int32) (x20 : Int32) (x21 : Int32) (x22 : Int32) (u0 : Nat → Int32) (u1 : Nat → Int32) (res : (Nat → Int32) × (Nat → Int32)), k x4 x6 x7 x8 x9 x10 x11 x12 x13 x14 x15 x16 x17 x18 x19 x20 x21 x22 u0 u1 = some res → ∀ (H : Heap) (locs : List Loc) (ls : Array Slot), va_P D classes [(o, .inr (12, mo q z)), ((q 36), .inl (cy 0, 32, .inl u0)), ((q 37), .inl (cy 0, 100200, .inl u1))] H → va_D A [(o, .inr (12, mo q z)), ((q 36), .inl (cy 0, 32, .inl u0)), ((q 37), .inl (cy 0, 100200, .inl u1))] → va_S A s.heap H locs → lv_has ls 25 [(0, .ref o), (4, .int x4), (6, .int x6), (7, .int x7), (8, .int x8), (9, .int x9), (10, .int x10), (11, .int x11), (12, .int x12), (13, .int x13), (14, .int x14), (15, .int x15), (16, .int x16), (17, .int x17), (18, .int x18), (19, .int x19), (20, .int x20), (21, .int x21), (22, .int x22)] → W p l e rm_M_ripemd_f1hash s m args below meth c H locs 0 0 (MQ below (q_M_ripemd_f1hash D cy A o q z res) args s 0 0 A) (F0 m 183 ls [])
def I_M_ripemd_f1hash_133 (p : Program) (l : Launch) (e : Env) (s : State) (m : MethodId) (args : Array Value) (below : List Frame) (meth : Method) (c : Code) (D : va_G) (cy : Nat → ClassId) (A : Nat → Prop) (ad : Nat → Nat) (o : Nat) (q : Nat → Nat) (z : Nat → Int32) (k : Int32 → Int32 → Int32 → Int32 → Int32 → Int32 → Int32 → (Nat → Int32) → (Nat → Int32) → Option ((Nat → Int32) × (Nat → Int32))) : Prop :=
  ∀ (x4 : Int32) (x6 : Int32) (x7 : Int32) (x8 : Int32) (x9 : Int32) (x10 : Int32) (x11 : Int32) (u0 : Nat → Int32) (u1 : Nat → Int32) (res : (Nat → Int32) × (Nat → Int32)), k x4 x6 x7 x8 x9 x10 x11 u0 u1 = some res → ∀ (H : Heap) (locs : List Loc) (ls : Array Slot), va_P D classes [(o, .inr (12, mo q z)), ((q 36), .inl (cy 0, 32, .inl u0)), ((q 37), .inl (cy 0, 100200, .inl u1))] H → va_D A [(o, .inr (12, mo q z)), ((q 36), .inl (cy 0, 32, .inl u0)), ((q 37), .inl (cy 0, 100200, .inl u1))] → va_S A s.heap H locs → lv_has ls 25 [(0, .ref o), (4, .int x4), (6, .int x6), (7, .int x7), (8, .int x8), (9, .int x9), (10, .int x10), (11, .int x11)] → W p l e rm_M_ripemd_f1hash s m args below meth c H locs 0 0 (MQ below (q_M_ripemd_f1hash D cy A o q z res) args s 0 0 A) (F0 m 133 ls [])
def I_M_ripemd_f1hash_65 (p : Program) (l : Launch) (e : Env) (s : State) (m : MethodId) (args : Array Value) (below : List Frame) (meth : Method) (c : Code) (D : va_G) (cy : Nat → ClassId) (A : Nat → Prop) (ad : Nat → Nat) (o : Nat) (q : Nat → Nat) (z : Nat → Int32) (k : Int32 → Int32 → Int32 → Int32 → (Nat → Int32) → (Nat → Int32) → Option ((Nat → Int32) × (Nat → Int32))) : Prop :=
  ∀ (x3 : Int32) (x4 : Int32) (x5 : Int32) (x6 : Int32) (u0 : Nat → Int32) (u1 : Nat → Int32) (res : (Nat → Int32) × (Nat → Int32)), k x3 x4 x5 x6 u0 u1 = some res → ∀ (H : Heap) (locs : List Loc) (ls : Array Slot), va_P D classes [(o, .inr (12, mo q z)), ((q 36), .inl (cy 0, 32, .inl u0)), ((q 37), .inl (cy 0, 100200, .inl u1))] H → va_D A [(o, .inr (12, mo q z)), ((q 36), .inl (cy 0, 32, .inl u0)), ((q 37), .inl (cy 0, 100200, .inl u1))] → va_S A s.heap H locs → lv_has ls 25 [(0, .ref o), (3, .int x3), (4, .int x4), (5, .int x5), (6, .int x6)] → W p l e rm_M_ripemd_f1hash s m args below meth c H locs 0 0 (MQ below (q_M_ripemd_f1hash D cy A o q z res) args s 0 0 A) (F0 m 65 ls [])
def I_M_ripemd_f1hash_33 (p : Program) (l : Launch) (e : Env) (s : State) (m : MethodId) (args : Array Value) (below : List Frame) (meth : Method) (c : Code) (D : va_G) (cy : Nat → ClassId) (A : Nat → Prop) (ad : Nat → Nat) (o : Nat) (q : Nat → Nat) (z : Nat → Int32) (k : Int32 → Int32 → Int32 → Int32 → (Nat → Int32) → (Nat → Int32) → Option ((Nat → Int32) × (Nat → Int32))) : Prop :=
  ∀ (x3 : Int32) (x4 : Int32) (x5 : Int32) (x6 : Int32) (u0 : Nat → Int32) (u1 : Nat → Int32) (res : (Nat → Int32) × (Nat → Int32)), k x3 x4 x5 x6 u0 u1 = some res → ∀ (H : Heap) (locs : List Loc) (ls : Array Slot), va_P D classes [(o, .inr (12, mo q z)), ((q 36), .inl (cy 0, 32, .inl u0)), ((q 37), .inl (cy 0, 100200, .inl u1))] H → va_D A [(o, .inr (12, mo q z)), ((q 36), .inl (cy 0, 32, .inl u0)), ((q 37), .inl (cy 0, 100200, .inl u1))] → va_S A s.heap H locs → lv_has ls 25 [(0, .ref o), (3, .int x3), (4, .int x4), (5, .int x5), (6, .int x6)] → W p l e rm_M_ripemd_f1hash s m args below meth c H locs 0 0 (MQ below (q_M_ripemd_f1hash D cy A o q z res) args s 0 0 A) (F0 m 33 ls [])
def I_M_ripemd_f1hash_e (p : Program) (l : Launch) (e : Env) (s : State) (m : MethodId) (args : Array Value) (below : List Frame) (meth : Method) (c : Code) (D : va_G) (cy : Nat → ClassId) (A : Nat → Prop) (ad : Nat → Nat) (o : Nat) (q : Nat → Nat) (z : Nat → Int32) (k : Int32 → Int32 → (Nat → Int32) → (Nat → Int32) → Option ((Nat → Int32) × (Nat → Int32))) : Prop :=
  ∀ (a2 : Int32) (a3 : Int32) (u0 : Nat → Int32) (u1 : Nat → Int32) (res : (Nat → Int32) × (Nat → Int32)), k a2 a3 u0 u1 = some res → ∀ (H : Heap) (locs : List Loc) (ls : Array Slot), va_P D classes [(o, .inr (12, mo q z)), ((q 36), .inl (cy 0, 32, .inl u0)), ((q 37), .inl (cy 0, 100200, .inl u1))] H → va_D A [(o, .inr (12, mo q z)), ((q 36), .inl (cy 0, 32, .inl u0)), ((q 37), .inl (cy 0, 100200, .inl u1))] → va_S A s.heap H locs → lv_has ls 25 [(0, .ref o), (1, .ref (q 36)), (2, .int a2), (3, .int a3)] → W p l e rm_M_ripemd_f1hash s m args below meth c H locs 0 0 (MQ below (q_M_ripemd_f1hash D cy A o q z res) args s 0 0 A) (F0 m 0 ls [])
set_option maxHeartbeats 8000000 in
set_option maxRecDepth 100000 in
theorem wb_M_ripemd_f1hash_532 {p : Program} {l : Launch} {e : Env} {s : State} {m : MethodId} {args : Array Value} {below : List Frame} {meth : Method} {c : Code} {D : va_G} {cy : Nat → ClassId} {A : Nat → Prop} {ad : Nat → Nat} {o : Nat} {q : Nat → Nat} {z : Nat → Int32} {fu : Nat} {k_470 : Int32 → Int32 → Int32 → Int32 → Int32 → Int32 → (Nat → Int32) → (Nat → Int32) → Option ((Nat → Int32) × (Nat → Int32))} (F : Fx p s m args meth c b_M_ripemd 25 "CoinKeeperModel" "ripemd" none D cy ad A) (hk_470 : I_M_ripemd_f1hash_470 p l e s m args below meth c D cy A ad o q z k_470) : I_M_ripemd_f1hash_532 p l e s m args below meth c D cy A ad o q z (xb_M_ripemd_f1hash_532 fu z k_470) := by
  obtain ⟨hx, hb, hr, hml, hown, hts, hlocks, hK, hA, hSt, hnm, hex⟩ := id F
  intro x6 x7 x8 x9 x10 x11 y0 y1 u0 u1 res hf H locs ls hP hD hS hl
  unfold xb_M_ripemd_f1hash_532 at hf
  refine lv_bipush (v := 8) hx hb d_M_ripemd_532 (by decide) ?_
  refine lv_iload hx hb d_M_ripemd_534 (lv_at hl 6 rfl) ?_
  refine lv_iconst (v := 4) hx hb d_M_ripemd_536 (by decide) ?_
  refine lv_irem hx hb d_M_ripemd_537 (by decide) ?_
  refine lv_imul hx hb d_M_ripemd_538 ?_
  refine lv_ishr hx hb d_M_ripemd_539 ?_
  refine lv_i2b hx hb d_M_ripemd_540 rfl ?_
  refine lv_topi (fun v1 ev => ?_)
  have hf := bn ev hf
  clear ev
  obtain ⟨hg, hf⟩ := gdp hf
  refine va_bast hx hb hK hP hD hS 1 0 rfl rfl (inb_in hg) d_M_ripemd_541 (fun H locs hP hD hS => ?_)
  obtain ⟨f2, ev, hf⟩ := bne hf
  have hP : va_P D classes [(o, .inr (12, mo q z)), ((q 36), .inl (cy 0, 32, .inl f2)), ((q 37), .inl (cy 0, 100200, .inl u1))] H := by rw [ev]; exact hP
  have hD : va_D A [(o, .inr (12, mo q z)), ((q 36), .inl (cy 0, 32, .inl f2)), ((q 37), .inl (cy 0, 100200, .inl u1))] := by rw [ev]; exact hD
  clear ev
  obtain ⟨v3, ev, hf⟩ := bne hf
  refine lv_iinc (v := v3) (lv' := [(11, .int v3), (0, .ref o), (6, .int x6), (7, .int x7), (8, .int x8), (9, .int x9), (10, .int x10)]) hx hb d_M_ripemd_542 hl (k := 6) rfl (by rw [ev]; rfl) (by decide) rfl (fun ls hl => ?_)
  clear ev
  refine lv_goto (tgt := 470) hx hb d_M_ripemd_545 (by decide) ?_
  exact hk_470 _ _ _ _ _ _ _ _ _ hf _ _ _ hP hD hS (lv_sub hl [1, 2, 3, 4, 5, 6, 0] rfl)
set_option maxHeartbeats 8000000 in
set_option maxRecDepth 100000 in
theorem wb_M_ripemd_f1hash_470 {p : Program} {l : Launch} {e : Env} {s : State} {m : MethodId} {args : Array Value} {below : List Frame} {meth : Method} {c : Code} {D : va_G} {cy : Nat → ClassId} {A : Nat → Prop} {ad : Nat → Nat} {o : Nat} {q : Nat → Nat} {z : Nat → Int32} {fu : Nat} {k_470 : Int32 → Int32 → Int32 → Int32 → Int32 → Int32 → (Nat → Int32) → (Nat → Int32) → Option ((Nat → Int32) × (Nat → Int32))} (F : Fx p s m args meth c b_M_ripemd 25 "CoinKeeperModel" "ripemd" none D cy ad A) (hk_470 : I_M_ripemd_f1hash_470 p l e s m args below meth c D cy A ad o q z k_470) : I_M_ripemd_f1hash_470 p l e s m args below meth c D cy A ad o q z (xb_M_ripemd_f1hash_470 fu z k_470) := by
  obtain ⟨hx, hb, hr, hml, hown, hts, hlocks, hK, hA, hSt, hnm, hex⟩ := id F
  intro x6 x7 x8 x9 x10 x11 u0 u1 res hf H locs ls hP hD hS hl
  unfold xb_M_ripemd_f1hash_470 at hf
  refine lv_iload hx hb d_M_ripemd_470 (lv_at hl 6 rfl) ?_
  refine lv_bipush (v := 20) hx hb d_M_ripemd_472 (by decide) ?_
  refine lv_icmp_ge (tgt := 548) hx hb d_M_ripemd_474 (by decide) (fun cx => ?_) (fun cx => ?_)
  · have hf := ifp cx hf
    obtain rfl := Option.some.inj hf
    exact q_rv hx hb hr hlocks hK hP hD hS d_M_ripemd_548
  · have hf := ifn cx hf
    refine lv_aload_n hx hb d_M_ripemd_477 rfl (lv_at hl 0 rfl) ?_
    refine va_get (D := D) (ci := 12) (v := .ref (q 36)) (C := "CoinKeeperModel") (T := F_12) (N := 98) hx hb hts i_12 hown hK hP 0 rfl rfl 44 (by decide) (hts _ gw_1463) (fun _ h9 => h9) rfl d_M_ripemd_478 ?_
    refine lv_iload hx hb d_M_ripemd_481 (lv_at hl 6 rfl) ?_
    refine lv_iload hx hb d_M_ripemd_483 (lv_at hl 6 rfl) ?_
    refine lv_iconst (v := 4) hx hb d_M_ripemd_485 (by decide) ?_
    refine lv_icmp_ge (tgt := 494) hx hb d_M_ripemd_486 (by decide) (fun cx => ?_) (fun cx => ?_)
    · have hf := ifp cx hf
      refine lv_iload hx hb d_M_ripemd_494 (lv_at hl 6 rfl) ?_
      refine lv_bipush (v := 8) hx hb d_M_ripemd_496 (by decide) ?_
      refine lv_icmp_ge (tgt := 506) hx hb d_M_ripemd_498 (by decide) (fun cx => ?_) (fun cx => ?_)
      · have hf := ifp cx hf
        refine lv_iload hx hb d_M_ripemd_506 (lv_at hl 6 rfl) ?_
        refine lv_bipush (v := 12) hx hb d_M_ripemd_508 (by decide) ?_
        refine lv_icmp_ge (tgt := 518) hx hb d_M_ripemd_510 (by decide) (fun cx => ?_) (fun cx => ?_)
        · have hf := ifp cx hf
          refine lv_iload hx hb d_M_ripemd_518 (lv_at hl 6 rfl) ?_
          refine lv_bipush (v := 16) hx hb d_M_ripemd_520 (by decide) ?_
          refine lv_icmp_ge (tgt := 530) hx hb d_M_ripemd_522 (by decide) (fun cx => ?_) (fun cx => ?_)
          · have hf := ifp cx hf
            refine lv_iload hx hb d_M_ripemd_530 (lv_at hl 5 rfl) ?_
            exact wb_M_ripemd_f1hash_532 (fu := fu) F hk_470 _ _ _ _ _ _ _ _ _ _ _ hf _ _ _ hP hD hS (lv_sub hl [0, 1, 2, 3, 4, 5, 6] rfl)
          · have hf := ifn cx hf
            refine lv_iload hx hb d_M_ripemd_525 (lv_at hl 4 rfl) ?_
            refine lv_goto (tgt := 532) hx hb d_M_ripemd_527 (by decide) ?_
            exact wb_M_ripemd_f1hash_532 (fu := fu) F hk_470 _ _ _ _ _ _ _ _ _ _ _ hf _ _ _ hP hD hS (lv_sub hl [0, 1, 2, 3, 4, 5, 6] rfl)
        · have hf := ifn cx hf
          refine lv_iload hx hb d_M_ripemd_513 (lv_at hl 3 rfl) ?_
          refine lv_goto (tgt := 532) hx hb d_M_ripemd_515 (by decide) ?_
          exact wb_M_ripemd_f1hash_532 (fu := fu) F hk_470 _ _ _ _ _ _ _ _ _ _ _ hf _ _ _ hP hD hS (lv_sub hl [0, 1, 2, 3, 4, 5, 6] rfl)
      · have hf := ifn cx hf
        refine lv_iload hx hb d_M_ripemd_501 (lv_at hl 2 rfl) ?_
        refine lv_goto (tgt := 532) hx hb d_M_ripemd_503 (by decide) ?_
        exact wb_M_ripemd_f1hash_532 (fu := fu) F hk_470 _ _ _ _ _ _ _ _ _ _ _ hf _ _ _ hP hD hS (lv_sub hl [0, 1, 2, 3, 4, 5, 6] rfl)
    · have hf := ifn cx hf
      refine lv_iload hx hb d_M_ripemd_489 (lv_at hl 1 rfl) ?_
      refine lv_goto (tgt := 532) hx hb d_M_ripemd_491 (by decide) ?_
      exact wb_M_ripemd_f1hash_532 (fu := fu) F hk_470 _ _ _ _ _ _ _ _ _ _ _ hf _ _ _ hP hD hS (lv_sub hl [0, 1, 2, 3, 4, 5, 6] rfl)
theorem w_M_ripemd_f1hash_470 {p : Program} {l : Launch} {e : Env} {s : State} {m : MethodId} {args : Array Value} {below : List Frame} {meth : Method} {c : Code} {D : va_G} {cy : Nat → ClassId} {A : Nat → Prop} {ad : Nat → Nat} {o : Nat} {q : Nat → Nat} {z : Nat → Int32} {fu : Nat} (F : Fx p s m args meth c b_M_ripemd 25 "CoinKeeperModel" "ripemd" none D cy ad A) : ∀ n : Nat, I_M_ripemd_f1hash_470 p l e s m args below meth c D cy A ad o q z (x_M_ripemd_f1hash_470 fu z n)
  | 0 => fun _ _ _ _ _ _ _ _ _ hf => nomatch (show (none : Option ((Nat → Int32) × (Nat → Int32))) = some _ from hf)
  | n + 1 => wb_M_ripemd_f1hash_470 F (w_M_ripemd_f1hash_470 F n)
set_option maxHeartbeats 8000000 in
set_option maxRecDepth 100000 in
theorem wb_M_ripemd_f1hash_183 {p : Program} {l : Launch} {e : Env} {s : State} {m : MethodId} {args : Array Value} {below : List Frame} {meth : Method} {c : Code} {D : va_G} {cy : Nat → ClassId} {A : Nat → Prop} {ad : Nat → Nat} {o : Nat} {q : Nat → Nat} {z : Nat → Int32} {fu : Nat} {k_133 : Int32 → Int32 → Int32 → Int32 → Int32 → Int32 → Int32 → (Nat → Int32) → (Nat → Int32) → Option ((Nat → Int32) × (Nat → Int32))} {k_183 : Int32 → Int32 → Int32 → Int32 → Int32 → Int32 → Int32 → Int32 → Int32 → Int32 → Int32 → Int32 → Int32 → Int32 → Int32 → Int32 → Int32 → Int32 → (Nat → Int32) → (Nat → Int32) → Option ((Nat → Int32) × (Nat → Int32))} (F : Fx p s m args meth c b_M_ripemd 25 "CoinKeeperModel" "ripemd" none D cy ad A) (hk_133 : I_M_ripemd_f1hash_133 p l e s m args below meth c D cy A ad o q z k_133) (hk_183 : I_M_ripemd_f1hash_183 p l e s m args below meth c D cy A ad o q z k_183) : I_M_ripemd_f1hash_183 p l e s m args below meth c D cy A ad o q z (xb_M_ripemd_f1hash_183 fu z k_133 k_183) := by
  obtain ⟨hx, hb, hr, hml, hown, hts, hlocks, hK, hA, hSt, hnm, hex⟩ := id F
  intro x4 x6 x7 x8 x9 x10 x11 x12 x13 x14 x15 x16 x17 x18 x19 x20 x21 x22 u0 u1 res hf H locs ls hP hD hS hl
  unfold xb_M_ripemd_f1hash_183 at hf
  refine lv_iload hx hb d_M_ripemd_183 (lv_at hl 18 rfl) ?_
  refine lv_bipush (v := 80) hx hb d_M_ripemd_185 (by decide) ?_
  refine lv_icmp_ge (tgt := 407) hx hb d_M_ripemd_187 (by decide) (fun cx => ?_) (fun cx => ?_)
  · have hf := ifp cx hf
    refine lv_iload hx hb d_M_ripemd_407 (lv_at hl 3 rfl) ?_
    refine lv_iload hx hb d_M_ripemd_409 (lv_at hl 10 rfl) ?_
    refine lv_iadd hx hb d_M_ripemd_411 ?_
    refine lv_topi (fun v1 ev => ?_)
    have hf := bn ev hf
    clear ev
    refine lv_iload hx hb d_M_ripemd_412 (lv_at hl 16 rfl) ?_
    refine lv_iadd hx hb d_M_ripemd_414 ?_
    refine lv_topi (fun v2 ev => ?_)
    have hf := bn ev hf
    clear ev
    refine lv_istore (lv' := [(22, .int v2), (0, .ref o), (4, .int x4), (6, .int x6), (7, .int x7), (8, .int x8), (9, .int x9), (10, .int x10), (11, .int x11), (12, .int x12), (13, .int x13), (14, .int x14), (15, .int x15), (16, .int x16), (17, .int x17), (18, .int x18), (19, .int x19), (20, .int x20), (21, .int x21)]) hx hb d_M_ripemd_415 hl (by decide) rfl (fun ls hl => ?_)
    refine lv_iload hx hb d_M_ripemd_417 (lv_at hl 5 rfl) ?_
    refine lv_iload hx hb d_M_ripemd_419 (lv_at hl 12 rfl) ?_
    refine lv_iadd hx hb d_M_ripemd_421 ?_
    refine lv_topi (fun v3 ev => ?_)
    have hf := bn ev hf
    clear ev
    refine lv_iload hx hb d_M_ripemd_422 (lv_at hl 18 rfl) ?_
    refine lv_iadd hx hb d_M_ripemd_424 ?_
    refine lv_topi (fun v4 ev => ?_)
    have hf := bn ev hf
    clear ev
    refine lv_istore (lv' := [(7, .int v4), (22, .int v2), (0, .ref o), (4, .int x4), (6, .int x6), (8, .int x8), (9, .int x9), (10, .int x10), (11, .int x11), (12, .int x12), (13, .int x13), (14, .int x14), (15, .int x15), (16, .int x16), (17, .int x17), (18, .int x18), (19, .int x19), (20, .int x20), (21, .int x21)]) hx hb d_M_ripemd_425 hl (by decide) rfl (fun ls hl => ?_)
    refine lv_iload hx hb d_M_ripemd_427 (lv_at hl 6 rfl) ?_
    refine lv_iload hx hb d_M_ripemd_429 (lv_at hl 13 rfl) ?_
    refine lv_iadd hx hb d_M_ripemd_431 ?_
    refine lv_topi (fun v5 ev => ?_)
    have hf := bn ev hf
    clear ev
    refine lv_iload hx hb d_M_ripemd_432 (lv_at hl 14 rfl) ?_
    refine lv_iadd hx hb d_M_ripemd_434 ?_
    refine lv_topi (fun v6 ev => ?_)
    have hf := bn ev hf
    clear ev
    refine lv_istore (lv' := [(8, .int v6), (7, .int v4), (22, .int v2), (0, .ref o), (4, .int x4), (6, .int x6), (9, .int x9), (10, .int x10), (11, .int x11), (12, .int x12), (13, .int x13), (14, .int x14), (15, .int x15), (16, .int x16), (17, .int x17), (18, .int x18), (19, .int x19), (20, .int x20), (21, .int x21)]) hx hb d_M_ripemd_435 hl (by decide) rfl (fun ls hl => ?_)
    refine lv_iload hx hb d_M_ripemd_437 (lv_at hl 7 rfl) ?_
    refine lv_iload hx hb d_M_ripemd_439 (lv_at hl 9 rfl) ?_
    refine lv_iadd hx hb d_M_ripemd_441 ?_
    refine lv_topi (fun v7 ev => ?_)
    have hf := bn ev hf
    clear ev
    refine lv_iload hx hb d_M_ripemd_442 (lv_at hl 15 rfl) ?_
    refine lv_iadd hx hb d_M_ripemd_444 ?_
    refine lv_topi (fun v8 ev => ?_)
    have hf := bn ev hf
    clear ev
    refine lv_istore (lv' := [(9, .int v8), (8, .int v6), (7, .int v4), (22, .int v2), (0, .ref o), (4, .int x4), (6, .int x6), (10, .int x10), (11, .int x11), (12, .int x12), (13, .int x13), (14, .int x14), (15, .int x15), (16, .int x16), (17, .int x17), (18, .int x18), (19, .int x19), (20, .int x20), (21, .int x21)]) hx hb d_M_ripemd_445 hl (by decide) rfl (fun ls hl => ?_)
    refine lv_iload hx hb d_M_ripemd_447 (lv_at hl 6 rfl) ?_
    refine lv_iload hx hb d_M_ripemd_449 (lv_at hl 10 rfl) ?_
    refine lv_iadd hx hb d_M_ripemd_451 ?_
    refine lv_topi (fun v9 ev => ?_)
    have hf := bn ev hf
    clear ev
    refine lv_iload hx hb d_M_ripemd_452 (lv_at hl 16 rfl) ?_
    refine lv_iadd hx hb d_M_ripemd_454 ?_
    refine lv_topi (fun v10 ev => ?_)
    have hf := bn ev hf
    clear ev
    refine lv_istore (lv' := [(10, .int v10), (9, .int v8), (8, .int v6), (7, .int v4), (22, .int v2), (0, .ref o), (4, .int x4), (6, .int x6), (11, .int x11), (12, .int x12), (13, .int x13), (14, .int x14), (15, .int x15), (16, .int x16), (17, .int x17), (18, .int x18), (19, .int x19), (20, .int x20), (21, .int x21)]) hx hb d_M_ripemd_455 hl (by decide) rfl (fun ls hl => ?_)
    refine lv_iload hx hb d_M_ripemd_457 (lv_at hl 4 rfl) ?_
    refine lv_istore (lv' := [(6, .int v2), (10, .int v10), (9, .int v8), (8, .int v6), (7, .int v4), (22, .int v2), (0, .ref o), (4, .int x4), (11, .int x11), (12, .int x12), (13, .int x13), (14, .int x14), (15, .int x15), (16, .int x16), (17, .int x17), (18, .int x18), (19, .int x19), (20, .int x20), (21, .int x21)]) hx hb d_M_ripemd_459 hl (by decide) rfl (fun ls hl => ?_)
    obtain ⟨v11, ev, hf⟩ := bne hf
    refine lv_iinc (v := v11) (lv' := [(11, .int v11), (6, .int v2), (10, .int v10), (9, .int v8), (8, .int v6), (7, .int v4), (22, .int v2), (0, .ref o), (4, .int x4), (12, .int x12), (13, .int x13), (14, .int x14), (15, .int x15), (16, .int x16), (17, .int x17), (18, .int x18), (19, .int x19), (20, .int x20), (21, .int x21)]) hx hb d_M_ripemd_461 hl (k := 8) rfl (by rw [ev]; rfl) (by decide) rfl (fun ls hl => ?_)
    clear ev
    refine lv_goto (tgt := 133) hx hb d_M_ripemd_464 (by decide) ?_
    exact hk_133 _ _ _ _ _ _ _ _ _ _ hf _ _ _ hP hD hS (lv_sub hl [7, 8, 1, 5, 4, 3, 2, 0] rfl)
  · have hf := ifn cx hf
    refine lv_iload hx hb d_M_ripemd_190 (lv_at hl 18 rfl) ?_
    refine lv_bipush (v := 16) hx hb d_M_ripemd_192 (by decide) ?_
    refine lv_idiv hx hb d_M_ripemd_194 (by decide) ?_
    refine lv_topi (fun v12 ev => ?_)
    have hf := bn ev hf
    clear ev
    refine lv_istore (lv' := [(23, .int v12), (0, .ref o), (4, .int x4), (6, .int x6), (7, .int x7), (8, .int x8), (9, .int x9), (10, .int x10), (11, .int x11), (12, .int x12), (13, .int x13), (14, .int x14), (15, .int x15), (16, .int x16), (17, .int x17), (18, .int x18), (19, .int x19), (20, .int x20), (21, .int x21), (22, .int x22)]) hx hb d_M_ripemd_195 hl (by decide) rfl (fun ls hl => ?_)
    refine lv_iload hx hb d_M_ripemd_197 (lv_at hl 9 rfl) ?_
    refine lv_iload hx hb d_M_ripemd_199 (lv_at hl 0 rfl) ?_
    refine lv_iload hx hb d_M_ripemd_201 (lv_at hl 10 rfl) ?_
    refine lv_iload hx hb d_M_ripemd_203 (lv_at hl 11 rfl) ?_
    refine lv_iload hx hb d_M_ripemd_205 (lv_at hl 12 rfl) ?_
    obtain ⟨v13, hc, hf⟩ := bdp1 hf
    refine q_ai (wr := [(o, .inr (12, mo q z)), ((q 36), .inl (cy 0, 32, .inl u0)), ((q 37), .inl (cy 0, 100200, .inl u1))]) (va_runS (As := [.int v12, .int x13, .int x14, .int x15]) (rest := [.int x12]) ⟨hx, hb, hml, hown, hts⟩ (c_M_mix l D cy ad fu v12 x13 x14 x15 _ hc H.size) ⟨q_cB hts gw_1938 gw_18 gw_1936 hdm_46 ⟨by decide, by decide⟩, hts _ gw_1937⟩ (q_pre (hP.sub [] rfl) (hD.sub [] (by decide) rfl) hK hSt hS (va_free hD hS hA [] rfl) _) rfl rfl hl.1 rfl (lv_room (Nat.le_of_ble_eq_true rfl)) d_M_ripemd_207 ⟨Nat.le_of_ble_eq_true rfl, Nat.le_of_ble_eq_true rfl⟩) hP hD hS hA [] [0, 1, 2] rfl rfl (by decide) (by decide) (fun H locs hP hD hS => ?_)
    clear hc
    have hP : va_P D classes [(o, .inr (12, mo q z)), ((q 36), .inl (cy 0, 32, .inl u0)), ((q 37), .inl (cy 0, 100200, .inl u1))] H := hP
    have hD : va_D A [(o, .inr (12, mo q z)), ((q 36), .inl (cy 0, 32, .inl u0)), ((q 37), .inl (cy 0, 100200, .inl u1))] := hD
    refine lv_iadd hx hb d_M_ripemd_210 ?_
    refine lv_topi (fun v14 ev => ?_)
    have hf := bn ev hf
    clear ev
    refine lv_aload_n hx hb d_M_ripemd_211 rfl (lv_at hl 1 rfl) ?_
    refine va_get (D := D) (ci := 12) (v := .ref (q 37)) (C := "CoinKeeperModel") (T := F_12) (N := 98) hx hb hts i_12 hown hK hP 0 rfl rfl 45 (by decide) (hts _ gw_1464) (fun _ h9 => h9) rfl d_M_ripemd_212 ?_
    refine lv_bipush (v := 64) hx hb d_M_ripemd_215 (by decide) ?_
    refine lv_iload hx hb d_M_ripemd_217 (lv_at hl 8 rfl) ?_
    refine lv_imul hx hb d_M_ripemd_219 ?_
    refine lv_topi (fun v15 ev => ?_)
    have hf := bn ev hf
    clear ev
    refine lv_iconst (v := 4) hx hb d_M_ripemd_220 (by decide) ?_
    refine va_gets hx hb (hSt.1 16 _ rfl).1 hS hown (hts _ gw_1939) (fun _ h9 => h9) d_M_ripemd_221 ?_
    refine lv_iload hx hb d_M_ripemd_224 (lv_at hl 19 rfl) ?_
    obtain ⟨hg, hf⟩ := gdp hf
    refine va_ti (v := .int (tb_16.getD x22.toNatClampNeg 0)) hx hb (hSt.1 16 _ rfl).2 hS (inb_in hg) rfl d_M_ripemd_226 ?_
    refine lv_topi (fun v16 ev => ?_)
    have hf := bn ev hf
    clear ev
    refine lv_imul hx hb d_M_ripemd_227 ?_
    refine lv_iadd hx hb d_M_ripemd_228 ?_
    refine lv_topi (fun v17 ev => ?_)
    have hf := bn ev hf
    clear ev
    obtain ⟨v18, hc, hf⟩ := bdp1 hf
    refine q_ai (wr := [(o, .inr (12, mo q z)), ((q 36), .inl (cy 0, 32, .inl u0))]) (va_runS (As := [.ref (q 37), .int v17]) (rest := [.int v14]) ⟨hx, hb, hml, hown, hts⟩ (c_M_small l D cy ad fu (q 37) 100200 u1 v17 _ hc H.size) ⟨q_cB hts gw_1779 gw_18 gw_1777 hdm_4 ⟨by decide, by decide⟩, hts _ gw_1778⟩ (q_pre (hP.sub [2] rfl) (hD.sub [2] (by decide) rfl) hK hSt hS (va_free hD hS hA [2] rfl) _) rfl rfl hl.1 rfl (lv_room (Nat.le_of_ble_eq_true rfl)) d_M_ripemd_229 ⟨Nat.le_of_ble_eq_true rfl, Nat.le_of_ble_eq_true rfl⟩) hP hD hS hA [2] [0, 1] rfl rfl (by decide) (by decide) (fun H locs hP hD hS => ?_)
    clear hc
    have hP : va_P D classes [(o, .inr (12, mo q z)), ((q 36), .inl (cy 0, 32, .inl u0)), ((q 37), .inl (cy 0, 100200, .inl u1))] H := hP
    have hD : va_D A [(o, .inr (12, mo q z)), ((q 36), .inl (cy 0, 32, .inl u0)), ((q 37), .inl (cy 0, 100200, .inl u1))] := hD
    refine lv_iadd hx hb d_M_ripemd_232 ?_
    refine lv_topi (fun v19 ev => ?_)
    have hf := bn ev hf
    clear ev
    refine va_gets hx hb (hSt.1 17 _ rfl).1 hS hown (hts _ gw_1941) (fun _ h9 => h9) d_M_ripemd_233 ?_
    refine lv_iload hx hb d_M_ripemd_236 (lv_at hl 0 rfl) ?_
    obtain ⟨hg, hf⟩ := gdp hf
    refine va_ti (v := .int (tb_17.getD v12.toNatClampNeg 0)) hx hb (hSt.1 17 _ rfl).2 hS (inb_in hg) rfl d_M_ripemd_238 ?_
    refine lv_topi (fun v20 ev => ?_)
    have hf := bn ev hf
    clear ev
    refine lv_iadd hx hb d_M_ripemd_239 ?_
    refine lv_topi (fun v21 ev => ?_)
    have hf := bn ev hf
    clear ev
    refine lv_istore (lv' := [(24, .int v21), (23, .int v12), (0, .ref o), (4, .int x4), (6, .int x6), (7, .int x7), (8, .int x8), (9, .int x9), (10, .int x10), (11, .int x11), (12, .int x12), (13, .int x13), (14, .int x14), (15, .int x15), (16, .int x16), (17, .int x17), (18, .int x18), (19, .int x19), (20, .int x20), (21, .int x21), (22, .int x22)]) hx hb d_M_ripemd_240 hl (by decide) rfl (fun ls hl => ?_)
    refine lv_iload hx hb d_M_ripemd_242 (lv_at hl 0 rfl) ?_
    refine va_gets hx hb (hSt.1 18 _ rfl).1 hS hown (hts _ gw_1943) (fun _ h9 => h9) d_M_ripemd_244 ?_
    refine lv_iload hx hb d_M_ripemd_247 (lv_at hl 20 rfl) ?_
    obtain ⟨hg, hf⟩ := gdp hf
    refine va_ti (v := .int (tb_18.getD x22.toNatClampNeg 0)) hx hb (hSt.1 18 _ rfl).2 hS (inb_in hg) rfl d_M_ripemd_249 ?_
    refine lv_topi (fun v22 ev => ?_)
    have hf := bn ev hf
    clear ev
    refine lv_ishl hx hb d_M_ripemd_250 ?_
    refine lv_topi (fun v23 ev => ?_)
    have hf := bn ev hf
    clear ev
    refine lv_iload hx hb d_M_ripemd_251 (lv_at hl 0 rfl) ?_
    refine lv_bipush (v := 32) hx hb d_M_ripemd_253 (by decide) ?_
    refine va_gets hx hb (hSt.1 18 _ rfl).1 hS hown (hts _ gw_1943) (fun _ h9 => h9) d_M_ripemd_255 ?_
    refine lv_iload hx hb d_M_ripemd_258 (lv_at hl 20 rfl) ?_
    obtain ⟨hg, hf⟩ := gdp hf
    refine va_ti (v := .int (tb_18.getD x22.toNatClampNeg 0)) hx hb (hSt.1 18 _ rfl).2 hS (inb_in hg) rfl d_M_ripemd_260 ?_
    refine lv_topi (fun v24 ev => ?_)
    have hf := bn ev hf
    clear ev
    refine lv_isub hx hb d_M_ripemd_261 ?_
    refine lv_iushr hx hb d_M_ripemd_262 rfl ?_
    refine lv_ior hx hb d_M_ripemd_263 ?_
    refine lv_topi (fun v25 ev => ?_)
    have hf := bn ev hf
    clear ev
    refine lv_iload hx hb d_M_ripemd_264 (lv_at hl 14 rfl) ?_
    refine lv_iadd hx hb d_M_ripemd_266 ?_
    refine lv_topi (fun v26 ev => ?_)
    have hf := bn ev hf
    clear ev
    refine lv_istore (lv' := [(24, .int v26), (23, .int v12), (0, .ref o), (4, .int x4), (6, .int x6), (7, .int x7), (8, .int x8), (9, .int x9), (10, .int x10), (11, .int x11), (12, .int x12), (13, .int x13), (14, .int x14), (15, .int x15), (16, .int x16), (17, .int x17), (18, .int x18), (19, .int x19), (20, .int x20), (21, .int x21), (22, .int x22)]) hx hb d_M_ripemd_267 hl (by decide) rfl (fun ls hl => ?_)
    refine lv_iload hx hb d_M_ripemd_269 (lv_at hl 14 rfl) ?_
    refine lv_istore (lv' := [(12, .int x16), (24, .int v26), (23, .int v12), (0, .ref o), (4, .int x4), (6, .int x6), (7, .int x7), (8, .int x8), (9, .int x9), (10, .int x10), (11, .int x11), (13, .int x13), (14, .int x14), (15, .int x15), (16, .int x16), (17, .int x17), (18, .int x18), (19, .int x19), (20, .int x20), (21, .int x21), (22, .int x22)]) hx hb d_M_ripemd_271 hl (by decide) rfl (fun ls hl => ?_)
    refine lv_iload hx hb d_M_ripemd_273 (lv_at hl 13 rfl) ?_
    refine lv_istore (lv' := [(16, .int x15), (12, .int x16), (24, .int v26), (23, .int v12), (0, .ref o), (4, .int x4), (6, .int x6), (7, .int x7), (8, .int x8), (9, .int x9), (10, .int x10), (11, .int x11), (13, .int x13), (14, .int x14), (15, .int x15), (17, .int x17), (18, .int x18), (19, .int x19), (20, .int x20), (21, .int x21), (22, .int x22)]) hx hb d_M_ripemd_275 hl (by decide) rfl (fun ls hl => ?_)
    refine lv_iload hx hb d_M_ripemd_277 (lv_at hl 13 rfl) ?_
    refine lv_bipush (v := 10) hx hb d_M_ripemd_279 (by decide) ?_
    refine lv_ishl hx hb d_M_ripemd_281 ?_
    refine lv_topi (fun v27 ev => ?_)
    have hf := bn ev hf
    clear ev
    refine lv_iload hx hb d_M_ripemd_282 (lv_at hl 13 rfl) ?_
    refine lv_bipush (v := 22) hx hb d_M_ripemd_284 (by decide) ?_
    refine lv_iushr hx hb d_M_ripemd_286 rfl ?_
    refine lv_ior hx hb d_M_ripemd_287 ?_
    refine lv_topi (fun v28 ev => ?_)
    have hf := bn ev hf
    clear ev
    refine lv_istore (lv' := [(15, .int v28), (16, .int x15), (12, .int x16), (24, .int v26), (23, .int v12), (0, .ref o), (4, .int x4), (6, .int x6), (7, .int x7), (8, .int x8), (9, .int x9), (10, .int x10), (11, .int x11), (13, .int x13), (14, .int x14), (17, .int x17), (18, .int x18), (19, .int x19), (20, .int x20), (21, .int x21), (22, .int x22)]) hx hb d_M_ripemd_288 hl (by decide) rfl (fun ls hl => ?_)
    refine lv_iload hx hb d_M_ripemd_290 (lv_at hl 13 rfl) ?_
    refine lv_istore (lv' := [(14, .int x13), (15, .int v28), (16, .int x15), (12, .int x16), (24, .int v26), (23, .int v12), (0, .ref o), (4, .int x4), (6, .int x6), (7, .int x7), (8, .int x8), (9, .int x9), (10, .int x10), (11, .int x11), (13, .int x13), (17, .int x17), (18, .int x18), (19, .int x19), (20, .int x20), (21, .int x21), (22, .int x22)]) hx hb d_M_ripemd_292 hl (by decide) rfl (fun ls hl => ?_)
    refine lv_iload hx hb d_M_ripemd_294 (lv_at hl 4 rfl) ?_
    refine lv_istore (lv' := [(13, .int v26), (14, .int x13), (15, .int v28), (16, .int x15), (12, .int x16), (24, .int v26), (23, .int v12), (0, .ref o), (4, .int x4), (6, .int x6), (7, .int x7), (8, .int x8), (9, .int x9), (10, .int x10), (11, .int x11), (17, .int x17), (18, .int x18), (19, .int x19), (20, .int x20), (21, .int x21), (22, .int x22)]) hx hb d_M_ripemd_296 hl (by decide) rfl (fun ls hl => ?_)
    refine lv_iload hx hb d_M_ripemd_298 (lv_at hl 15 rfl) ?_
    refine lv_iconst (v := 4) hx hb d_M_ripemd_300 (by decide) ?_
    refine lv_iload hx hb d_M_ripemd_301 (lv_at hl 6 rfl) ?_
    refine lv_isub hx hb d_M_ripemd_303 ?_
    refine lv_topi (fun v29 ev => ?_)
    have hf := bn ev hf
    clear ev
    refine lv_iload hx hb d_M_ripemd_304 (lv_at hl 16 rfl) ?_
    refine lv_iload hx hb d_M_ripemd_306 (lv_at hl 17 rfl) ?_
    refine lv_iload hx hb d_M_ripemd_308 (lv_at hl 18 rfl) ?_
    obtain ⟨v30, hc, hf⟩ := bdp1 hf
    refine q_ai (wr := [(o, .inr (12, mo q z)), ((q 36), .inl (cy 0, 32, .inl u0)), ((q 37), .inl (cy 0, 100200, .inl u1))]) (va_runS (As := [.int v29, .int x18, .int x19, .int x20]) (rest := [.int x17]) ⟨hx, hb, hml, hown, hts⟩ (c_M_mix l D cy ad fu v29 x18 x19 x20 _ hc H.size) ⟨q_cB hts gw_1938 gw_18 gw_1936 hdm_46 ⟨by decide, by decide⟩, hts _ gw_1937⟩ (q_pre (hP.sub [] rfl) (hD.sub [] (by decide) rfl) hK hSt hS (va_free hD hS hA [] rfl) _) rfl rfl hl.1 rfl (lv_room (Nat.le_of_ble_eq_true rfl)) d_M_ripemd_310 ⟨Nat.le_of_ble_eq_true rfl, Nat.le_of_ble_eq_true rfl⟩) hP hD hS hA [] [0, 1, 2] rfl rfl (by decide) (by decide) (fun H locs hP hD hS => ?_)
    clear hc
    have hP : va_P D classes [(o, .inr (12, mo q z)), ((q 36), .inl (cy 0, 32, .inl u0)), ((q 37), .inl (cy 0, 100200, .inl u1))] H := hP
    have hD : va_D A [(o, .inr (12, mo q z)), ((q 36), .inl (cy 0, 32, .inl u0)), ((q 37), .inl (cy 0, 100200, .inl u1))] := hD
    refine lv_iadd hx hb d_M_ripemd_313 ?_
    refine lv_topi (fun v31 ev => ?_)
    have hf := bn ev hf
    clear ev
    refine lv_aload_n hx hb d_M_ripemd_314 rfl (lv_at hl 7 rfl) ?_
    refine va_get (D := D) (ci := 12) (v := .ref (q 37)) (C := "CoinKeeperModel") (T := F_12) (N := 98) hx hb hts i_12 hown hK hP 0 rfl rfl 45 (by decide) (hts _ gw_1464) (fun _ h9 => h9) rfl d_M_ripemd_315 ?_
    refine lv_bipush (v := 64) hx hb d_M_ripemd_318 (by decide) ?_
    refine lv_iload hx hb d_M_ripemd_320 (lv_at hl 14 rfl) ?_
    refine lv_imul hx hb d_M_ripemd_322 ?_
    refine lv_topi (fun v32 ev => ?_)
    have hf := bn ev hf
    clear ev
    refine lv_iconst (v := 4) hx hb d_M_ripemd_323 (by decide) ?_
    refine va_gets hx hb (hSt.1 19 _ rfl).1 hS hown (hts _ gw_1945) (fun _ h9 => h9) d_M_ripemd_324 ?_
    refine lv_iload hx hb d_M_ripemd_327 (lv_at hl 20 rfl) ?_
    obtain ⟨hg, hf⟩ := gdp hf
    refine va_ti (v := .int (tb_19.getD x22.toNatClampNeg 0)) hx hb (hSt.1 19 _ rfl).2 hS (inb_in hg) rfl d_M_ripemd_329 ?_
    refine lv_topi (fun v33 ev => ?_)
    have hf := bn ev hf
    clear ev
    refine lv_imul hx hb d_M_ripemd_330 ?_
    refine lv_iadd hx hb d_M_ripemd_331 ?_
    refine lv_topi (fun v34 ev => ?_)
    have hf := bn ev hf
    clear ev
    obtain ⟨v35, hc, hf⟩ := bdp1 hf
    refine q_ai (wr := [(o, .inr (12, mo q z)), ((q 36), .inl (cy 0, 32, .inl u0))]) (va_runS (As := [.ref (q 37), .int v34]) (rest := [.int v31]) ⟨hx, hb, hml, hown, hts⟩ (c_M_small l D cy ad fu (q 37) 100200 u1 v34 _ hc H.size) ⟨q_cB hts gw_1779 gw_18 gw_1777 hdm_4 ⟨by decide, by decide⟩, hts _ gw_1778⟩ (q_pre (hP.sub [2] rfl) (hD.sub [2] (by decide) rfl) hK hSt hS (va_free hD hS hA [2] rfl) _) rfl rfl hl.1 rfl (lv_room (Nat.le_of_ble_eq_true rfl)) d_M_ripemd_332 ⟨Nat.le_of_ble_eq_true rfl, Nat.le_of_ble_eq_true rfl⟩) hP hD hS hA [2] [0, 1] rfl rfl (by decide) (by decide) (fun H locs hP hD hS => ?_)
    clear hc
    have hP : va_P D classes [(o, .inr (12, mo q z)), ((q 36), .inl (cy 0, 32, .inl u0)), ((q 37), .inl (cy 0, 100200, .inl u1))] H := hP
    have hD : va_D A [(o, .inr (12, mo q z)), ((q 36), .inl (cy 0, 32, .inl u0)), ((q 37), .inl (cy 0, 100200, .inl u1))] := hD
    refine lv_iadd hx hb d_M_ripemd_335 ?_
    refine lv_topi (fun v36 ev => ?_)
    have hf := bn ev hf
    clear ev
    refine va_gets hx hb (hSt.1 20 _ rfl).1 hS hown (hts _ gw_1947) (fun _ h9 => h9) d_M_ripemd_336 ?_
    refine lv_iload hx hb d_M_ripemd_339 (lv_at hl 6 rfl) ?_
    obtain ⟨hg, hf⟩ := gdp hf
    refine va_ti (v := .int (tb_20.getD v12.toNatClampNeg 0)) hx hb (hSt.1 20 _ rfl).2 hS (inb_in hg) rfl d_M_ripemd_341 ?_
    refine lv_topi (fun v37 ev => ?_)
    have hf := bn ev hf
    clear ev
    refine lv_iadd hx hb d_M_ripemd_342 ?_
    refine lv_topi (fun v38 ev => ?_)
    have hf := bn ev hf
    clear ev
    refine lv_istore (lv' := [(24, .int v38), (13, .int v26), (14, .int x13), (15, .int v28), (16, .int x15), (12, .int x16), (23, .int v12), (0, .ref o), (4, .int x4), (6, .int x6), (7, .int x7), (8, .int x8), (9, .int x9), (10, .int x10), (11, .int x11), (17, .int x17), (18, .int x18), (19, .int x19), (20, .int x20), (21, .int x21), (22, .int x22)]) hx hb d_M_ripemd_343 hl (by decide) rfl (fun ls hl => ?_)
    refine lv_iload hx hb d_M_ripemd_345 (lv_at hl 0 rfl) ?_
    refine va_gets hx hb (hSt.1 21 _ rfl).1 hS hown (hts _ gw_1949) (fun _ h9 => h9) d_M_ripemd_347 ?_
    refine lv_iload hx hb d_M_ripemd_350 (lv_at hl 20 rfl) ?_
    obtain ⟨hg, hf⟩ := gdp hf
    refine va_ti (v := .int (tb_21.getD x22.toNatClampNeg 0)) hx hb (hSt.1 21 _ rfl).2 hS (inb_in hg) rfl d_M_ripemd_352 ?_
    refine lv_topi (fun v39 ev => ?_)
    have hf := bn ev hf
    clear ev
    refine lv_ishl hx hb d_M_ripemd_353 ?_
    refine lv_topi (fun v40 ev => ?_)
    have hf := bn ev hf
    clear ev
    refine lv_iload hx hb d_M_ripemd_354 (lv_at hl 0 rfl) ?_
    refine lv_bipush (v := 32) hx hb d_M_ripemd_356 (by decide) ?_
    refine va_gets hx hb (hSt.1 21 _ rfl).1 hS hown (hts _ gw_1949) (fun _ h9 => h9) d_M_ripemd_358 ?_
    refine lv_iload hx hb d_M_ripemd_361 (lv_at hl 20 rfl) ?_
    obtain ⟨hg, hf⟩ := gdp hf
    refine va_ti (v := .int (tb_21.getD x22.toNatClampNeg 0)) hx hb (hSt.1 21 _ rfl).2 hS (inb_in hg) rfl d_M_ripemd_363 ?_
    refine lv_topi (fun v41 ev => ?_)
    have hf := bn ev hf
    clear ev
    refine lv_isub hx hb d_M_ripemd_364 ?_
    refine lv_iushr hx hb d_M_ripemd_365 rfl ?_
    refine lv_ior hx hb d_M_ripemd_366 ?_
    refine lv_topi (fun v42 ev => ?_)
    have hf := bn ev hf
    clear ev
    refine lv_iload hx hb d_M_ripemd_367 (lv_at hl 19 rfl) ?_
    refine lv_iadd hx hb d_M_ripemd_369 ?_
    refine lv_topi (fun v43 ev => ?_)
    have hf := bn ev hf
    clear ev
    refine lv_istore (lv' := [(24, .int v43), (13, .int v26), (14, .int x13), (15, .int v28), (16, .int x15), (12, .int x16), (23, .int v12), (0, .ref o), (4, .int x4), (6, .int x6), (7, .int x7), (8, .int x8), (9, .int x9), (10, .int x10), (11, .int x11), (17, .int x17), (18, .int x18), (19, .int x19), (20, .int x20), (21, .int x21), (22, .int x22)]) hx hb d_M_ripemd_370 hl (by decide) rfl (fun ls hl => ?_)
    refine lv_iload hx hb d_M_ripemd_372 (lv_at hl 19 rfl) ?_
    refine lv_istore (lv' := [(17, .int x21), (24, .int v43), (13, .int v26), (14, .int x13), (15, .int v28), (16, .int x15), (12, .int x16), (23, .int v12), (0, .ref o), (4, .int x4), (6, .int x6), (7, .int x7), (8, .int x8), (9, .int x9), (10, .int x10), (11, .int x11), (18, .int x18), (19, .int x19), (20, .int x20), (21, .int x21), (22, .int x22)]) hx hb d_M_ripemd_374 hl (by decide) rfl (fun ls hl => ?_)
    refine lv_iload hx hb d_M_ripemd_376 (lv_at hl 18 rfl) ?_
    refine lv_istore (lv' := [(21, .int x20), (17, .int x21), (24, .int v43), (13, .int v26), (14, .int x13), (15, .int v28), (16, .int x15), (12, .int x16), (23, .int v12), (0, .ref o), (4, .int x4), (6, .int x6), (7, .int x7), (8, .int x8), (9, .int x9), (10, .int x10), (11, .int x11), (18, .int x18), (19, .int x19), (20, .int x20), (22, .int x22)]) hx hb d_M_ripemd_378 hl (by decide) rfl (fun ls hl => ?_)
    refine lv_iload hx hb d_M_ripemd_380 (lv_at hl 18 rfl) ?_
    refine lv_bipush (v := 10) hx hb d_M_ripemd_382 (by decide) ?_
    refine lv_ishl hx hb d_M_ripemd_384 ?_
    refine lv_topi (fun v44 ev => ?_)
    have hf := bn ev hf
    clear ev
    refine lv_iload hx hb d_M_ripemd_385 (lv_at hl 18 rfl) ?_
    refine lv_bipush (v := 22) hx hb d_M_ripemd_387 (by decide) ?_
    refine lv_iushr hx hb d_M_ripemd_389 rfl ?_
    refine lv_ior hx hb d_M_ripemd_390 ?_
    refine lv_topi (fun v45 ev => ?_)
    have hf := bn ev hf
    clear ev
    refine lv_istore (lv' := [(20, .int v45), (21, .int x20), (17, .int x21), (24, .int v43), (13, .int v26), (14, .int x13), (15, .int v28), (16, .int x15), (12, .int x16), (23, .int v12), (0, .ref o), (4, .int x4), (6, .int x6), (7, .int x7), (8, .int x8), (9, .int x9), (10, .int x10), (11, .int x11), (18, .int x18), (19, .int x19), (22, .int x22)]) hx hb d_M_ripemd_391 hl (by decide) rfl (fun ls hl => ?_)
    refine lv_iload hx hb d_M_ripemd_393 (lv_at hl 18 rfl) ?_
    refine lv_istore (lv' := [(19, .int x18), (20, .int v45), (21, .int x20), (17, .int x21), (24, .int v43), (13, .int v26), (14, .int x13), (15, .int v28), (16, .int x15), (12, .int x16), (23, .int v12), (0, .ref o), (4, .int x4), (6, .int x6), (7, .int x7), (8, .int x8), (9, .int x9), (10, .int x10), (11, .int x11), (18, .int x18), (22, .int x22)]) hx hb d_M_ripemd_395 hl (by decide) rfl (fun ls hl => ?_)
    refine lv_iload hx hb d_M_ripemd_397 (lv_at hl 4 rfl) ?_
    refine lv_istore (lv' := [(18, .int v43), (19, .int x18), (20, .int v45), (21, .int x20), (17, .int x21), (24, .int v43), (13, .int v26), (14, .int x13), (15, .int v28), (16, .int x15), (12, .int x16), (23, .int v12), (0, .ref o), (4, .int x4), (6, .int x6), (7, .int x7), (8, .int x8), (9, .int x9), (10, .int x10), (11, .int x11), (22, .int x22)]) hx hb d_M_ripemd_399 hl (by decide) rfl (fun ls hl => ?_)
    obtain ⟨v46, ev, hf⟩ := bne hf
    refine lv_iinc (v := v46) (lv' := [(22, .int v46), (18, .int v43), (19, .int x18), (20, .int v45), (21, .int x20), (17, .int x21), (24, .int v43), (13, .int v26), (14, .int x13), (15, .int v28), (16, .int x15), (12, .int x16), (23, .int v12), (0, .ref o), (4, .int x4), (6, .int x6), (7, .int x7), (8, .int x8), (9, .int x9), (10, .int x10), (11, .int x11)]) hx hb d_M_ripemd_401 hl (k := 20) rfl (by rw [ev]; rfl) (by decide) rfl (fun ls hl => ?_)
    clear ev
    refine lv_goto (tgt := 183) hx hb d_M_ripemd_404 (by decide) ?_
    exact hk_183 _ _ _ _ _ _ _ _ _ _ _ _ _ _ _ _ _ _ _ _ _ hf _ _ _ hP hD hS (lv_sub hl [13, 14, 15, 16, 17, 18, 19, 20, 11, 7, 8, 9, 10, 5, 1, 2, 3, 4, 0] rfl)
theorem w_M_ripemd_f1hash_183 {p : Program} {l : Launch} {e : Env} {s : State} {m : MethodId} {args : Array Value} {below : List Frame} {meth : Method} {c : Code} {D : va_G} {cy : Nat → ClassId} {A : Nat → Prop} {ad : Nat → Nat} {o : Nat} {q : Nat → Nat} {z : Nat → Int32} {fu : Nat} {k_133 : Int32 → Int32 → Int32 → Int32 → Int32 → Int32 → Int32 → (Nat → Int32) → (Nat → Int32) → Option ((Nat → Int32) × (Nat → Int32))} (F : Fx p s m args meth c b_M_ripemd 25 "CoinKeeperModel" "ripemd" none D cy ad A) (hk_133 : I_M_ripemd_f1hash_133 p l e s m args below meth c D cy A ad o q z k_133) : ∀ n : Nat, I_M_ripemd_f1hash_183 p l e s m args below meth c D cy A ad o q z (x_M_ripemd_f1hash_183 fu z k_133 n)
  | 0 => fun _ _ _ _ _ _ _ _ _ _ _ _ _ _ _ _ _ _ _ _ _ hf => nomatch (show (none : Option ((Nat → Int32) × (Nat → Int32))) = some _ from hf)
  | n + 1 => wb_M_ripemd_f1hash_183 F hk_133 (w_M_ripemd_f1hash_183 F hk_133 n)
set_option maxHeartbeats 8000000 in
set_option maxRecDepth 100000 in
theorem wb_M_ripemd_f1hash_133 {p : Program} {l : Launch} {e : Env} {s : State} {m : MethodId} {args : Array Value} {below : List Frame} {meth : Method} {c : Code} {D : va_G} {cy : Nat → ClassId} {A : Nat → Prop} {ad : Nat → Nat} {o : Nat} {q : Nat → Nat} {z : Nat → Int32} {fu : Nat} {k_133 : Int32 → Int32 → Int32 → Int32 → Int32 → Int32 → Int32 → (Nat → Int32) → (Nat → Int32) → Option ((Nat → Int32) × (Nat → Int32))} (F : Fx p s m args meth c b_M_ripemd 25 "CoinKeeperModel" "ripemd" none D cy ad A) (hk_133 : I_M_ripemd_f1hash_133 p l e s m args below meth c D cy A ad o q z k_133) : I_M_ripemd_f1hash_133 p l e s m args below meth c D cy A ad o q z (xb_M_ripemd_f1hash_133 fu z k_133) := by
  obtain ⟨hx, hb, hr, hml, hown, hts, hlocks, hK, hA, hSt, hnm, hex⟩ := id F
  intro x4 x6 x7 x8 x9 x10 x11 u0 u1 res hf H locs ls hP hD hS hl
  unfold xb_M_ripemd_f1hash_133 at hf
  refine lv_iload hx hb d_M_ripemd_133 (lv_at hl 7 rfl) ?_
  refine lv_iload hx hb d_M_ripemd_135 (lv_at hl 1 rfl) ?_
  refine lv_icmp_ge (tgt := 467) hx hb d_M_ripemd_137 (by decide) (fun cx => ?_) (fun cx => ?_)
  · have hf := ifp cx hf
    refine lv_iconst (v := 0) hx hb d_M_ripemd_467 (by decide) ?_
    refine lv_istore (lv' := [(11, .int (0 : Int32)), (0, .ref o), (4, .int x4), (6, .int x6), (7, .int x7), (8, .int x8), (9, .int x9), (10, .int x10)]) hx hb d_M_ripemd_468 hl (by decide) rfl (fun ls hl => ?_)
    exact w_M_ripemd_f1hash_470 F fu _ _ _ _ _ _ _ _ _ hf _ _ _ hP hD hS (lv_sub hl [1, 3, 4, 5, 6, 7, 0] rfl)
  · have hf := ifn cx hf
    refine lv_iload hx hb d_M_ripemd_140 (lv_at hl 2 rfl) ?_
    refine lv_istore (lv' := [(12, .int x6), (0, .ref o), (4, .int x4), (6, .int x6), (7, .int x7), (8, .int x8), (9, .int x9), (10, .int x10), (11, .int x11)]) hx hb d_M_ripemd_142 hl (by decide) rfl (fun ls hl => ?_)
    refine lv_iload hx hb d_M_ripemd_144 (lv_at hl 4 rfl) ?_
    refine lv_istore (lv' := [(13, .int x7), (12, .int x6), (0, .ref o), (4, .int x4), (6, .int x6), (7, .int x7), (8, .int x8), (9, .int x9), (10, .int x10), (11, .int x11)]) hx hb d_M_ripemd_146 hl (by decide) rfl (fun ls hl => ?_)
    refine lv_iload hx hb d_M_ripemd_148 (lv_at hl 6 rfl) ?_
    refine lv_istore (lv' := [(14, .int x8), (13, .int x7), (12, .int x6), (0, .ref o), (4, .int x4), (6, .int x6), (7, .int x7), (8, .int x8), (9, .int x9), (10, .int x10), (11, .int x11)]) hx hb d_M_ripemd_150 hl (by decide) rfl (fun ls hl => ?_)
    refine lv_iload hx hb d_M_ripemd_152 (lv_at hl 8 rfl) ?_
    refine lv_istore (lv' := [(15, .int x9), (14, .int x8), (13, .int x7), (12, .int x6), (0, .ref o), (4, .int x4), (6, .int x6), (7, .int x7), (8, .int x8), (9, .int x9), (10, .int x10), (11, .int x11)]) hx hb d_M_ripemd_154 hl (by decide) rfl (fun ls hl => ?_)
    refine lv_iload hx hb d_M_ripemd_156 (lv_at hl 10 rfl) ?_
    refine lv_istore (lv' := [(16, .int x10), (15, .int x9), (14, .int x8), (13, .int x7), (12, .int x6), (0, .ref o), (4, .int x4), (6, .int x6), (7, .int x7), (8, .int x8), (9, .int x9), (10, .int x10), (11, .int x11)]) hx hb d_M_ripemd_158 hl (by decide) rfl (fun ls hl => ?_)
    refine lv_iload hx hb d_M_ripemd_160 (lv_at hl 7 rfl) ?_
    refine lv_istore (lv' := [(17, .int x6), (16, .int x10), (15, .int x9), (14, .int x8), (13, .int x7), (12, .int x6), (0, .ref o), (4, .int x4), (6, .int x6), (7, .int x7), (8, .int x8), (9, .int x9), (10, .int x10), (11, .int x11)]) hx hb d_M_ripemd_162 hl (by decide) rfl (fun ls hl => ?_)
    refine lv_iload hx hb d_M_ripemd_164 (lv_at hl 9 rfl) ?_
    refine lv_istore (lv' := [(18, .int x7), (17, .int x6), (16, .int x10), (15, .int x9), (14, .int x8), (13, .int x7), (12, .int x6), (0, .ref o), (4, .int x4), (6, .int x6), (7, .int x7), (8, .int x8), (9, .int x9), (10, .int x10), (11, .int x11)]) hx hb d_M_ripemd_166 hl (by decide) rfl (fun ls hl => ?_)
    refine lv_iload hx hb d_M_ripemd_168 (lv_at hl 11 rfl) ?_
    refine lv_istore (lv' := [(19, .int x8), (18, .int x7), (17, .int x6), (16, .int x10), (15, .int x9), (14, .int x8), (13, .int x7), (12, .int x6), (0, .ref o), (4, .int x4), (6, .int x6), (7, .int x7), (8, .int x8), (9, .int x9), (10, .int x10), (11, .int x11)]) hx hb d_M_ripemd_170 hl (by decide) rfl (fun ls hl => ?_)
    refine lv_iload hx hb d_M_ripemd_172 (lv_at hl 13 rfl) ?_
    refine lv_istore (lv' := [(20, .int x9), (19, .int x8), (18, .int x7), (17, .int x6), (16, .int x10), (15, .int x9), (14, .int x8), (13, .int x7), (12, .int x6), (0, .ref o), (4, .int x4), (6, .int x6), (7, .int x7), (8, .int x8), (9, .int x9), (10, .int x10), (11, .int x11)]) hx hb d_M_ripemd_174 hl (by decide) rfl (fun ls hl => ?_)
    refine lv_iload hx hb d_M_ripemd_176 (lv_at hl 15 rfl) ?_
    refine lv_istore (lv' := [(21, .int x10), (20, .int x9), (19, .int x8), (18, .int x7), (17, .int x6), (16, .int x10), (15, .int x9), (14, .int x8), (13, .int x7), (12, .int x6), (0, .ref o), (4, .int x4), (6, .int x6), (7, .int x7), (8, .int x8), (9, .int x9), (10, .int x10), (11, .int x11)]) hx hb d_M_ripemd_178 hl (by decide) rfl (fun ls hl => ?_)
    refine lv_iconst (v := 0) hx hb d_M_ripemd_180 (by decide) ?_
    refine lv_istore (lv' := [(22, .int (0 : Int32)), (21, .int x10), (20, .int x9), (19, .int x8), (18, .int x7), (17, .int x6), (16, .int x10), (15, .int x9), (14, .int x8), (13, .int x7), (12, .int x6), (0, .ref o), (4, .int x4), (6, .int x6), (7, .int x7), (8, .int x8), (9, .int x9), (10, .int x10), (11, .int x11)]) hx hb d_M_ripemd_181 hl (by decide) rfl (fun ls hl => ?_)
    exact w_M_ripemd_f1hash_183 F hk_133 fu _ _ _ _ _ _ _ _ _ _ _ _ _ _ _ _ _ _ _ _ _ hf _ _ _ hP hD hS (lv_sub hl [11, 12, 13, 14, 15, 16, 17, 18, 10, 9, 8, 7, 6, 5, 4, 3, 2, 1, 0] rfl)
theorem w_M_ripemd_f1hash_133 {p : Program} {l : Launch} {e : Env} {s : State} {m : MethodId} {args : Array Value} {below : List Frame} {meth : Method} {c : Code} {D : va_G} {cy : Nat → ClassId} {A : Nat → Prop} {ad : Nat → Nat} {o : Nat} {q : Nat → Nat} {z : Nat → Int32} {fu : Nat} (F : Fx p s m args meth c b_M_ripemd 25 "CoinKeeperModel" "ripemd" none D cy ad A) : ∀ n : Nat, I_M_ripemd_f1hash_133 p l e s m args below meth c D cy A ad o q z (x_M_ripemd_f1hash_133 fu z n)
  | 0 => fun _ _ _ _ _ _ _ _ _ _ hf => nomatch (show (none : Option ((Nat → Int32) × (Nat → Int32))) = some _ from hf)
  | n + 1 => wb_M_ripemd_f1hash_133 F (w_M_ripemd_f1hash_133 F n)
set_option maxHeartbeats 8000000 in
set_option maxRecDepth 100000 in
theorem wb_M_ripemd_f1hash_65 {p : Program} {l : Launch} {e : Env} {s : State} {m : MethodId} {args : Array Value} {below : List Frame} {meth : Method} {c : Code} {D : va_G} {cy : Nat → ClassId} {A : Nat → Prop} {ad : Nat → Nat} {o : Nat} {q : Nat → Nat} {z : Nat → Int32} {fu : Nat} {k_65 : Int32 → Int32 → Int32 → Int32 → (Nat → Int32) → (Nat → Int32) → Option ((Nat → Int32) × (Nat → Int32))} (F : Fx p s m args meth c b_M_ripemd 25 "CoinKeeperModel" "ripemd" none D cy ad A) (hk_65 : I_M_ripemd_f1hash_65 p l e s m args below meth c D cy A ad o q z k_65) : I_M_ripemd_f1hash_65 p l e s m args below meth c D cy A ad o q z (xb_M_ripemd_f1hash_65 fu z k_65) := by
  obtain ⟨hx, hb, hr, hml, hown, hts, hlocks, hK, hA, hSt, hnm, hex⟩ := id F
  intro x3 x4 x5 x6 u0 u1 res hf H locs ls hP hD hS hl
  unfold xb_M_ripemd_f1hash_65 at hf
  refine lv_iload hx hb d_M_ripemd_65 (lv_at hl 4 rfl) ?_
  refine lv_bipush (v := 8) hx hb d_M_ripemd_67 (by decide) ?_
  refine lv_icmp_ge (tgt := 105) hx hb d_M_ripemd_69 (by decide) (fun cx => ?_) (fun cx => ?_)
  · have hf := ifp cx hf
    refine lv_ldcw (v := 1732584193) hx hb hown (hts _ gw_1931) d_M_ripemd_105 ?_
    refine lv_istore (lv' := [(6, .int (1732584193 : Int32)), (0, .ref o), (3, .int x3), (4, .int x4), (5, .int x5)]) hx hb d_M_ripemd_108 hl (by decide) rfl (fun ls hl => ?_)
    refine lv_ldcw (v := (-271733879)) hx hb hown (hts _ gw_1932) d_M_ripemd_110 ?_
    refine lv_istore (lv' := [(7, .int (-271733879 : Int32)), (6, .int (1732584193 : Int32)), (0, .ref o), (3, .int x3), (4, .int x4), (5, .int x5)]) hx hb d_M_ripemd_113 hl (by decide) rfl (fun ls hl => ?_)
    refine lv_ldcw (v := (-1732584194)) hx hb hown (hts _ gw_1933) d_M_ripemd_115 ?_
    refine lv_istore (lv' := [(8, .int (-1732584194 : Int32)), (7, .int (-271733879 : Int32)), (6, .int (1732584193 : Int32)), (0, .ref o), (3, .int x3), (4, .int x4), (5, .int x5)]) hx hb d_M_ripemd_118 hl (by decide) rfl (fun ls hl => ?_)
    refine lv_ldcw (v := 271733878) hx hb hown (hts _ gw_1934) d_M_ripemd_120 ?_
    refine lv_istore (lv' := [(9, .int (271733878 : Int32)), (8, .int (-1732584194 : Int32)), (7, .int (-271733879 : Int32)), (6, .int (1732584193 : Int32)), (0, .ref o), (3, .int x3), (4, .int x4), (5, .int x5)]) hx hb d_M_ripemd_123 hl (by decide) rfl (fun ls hl => ?_)
    refine lv_ldcw (v := (-1009589776)) hx hb hown (hts _ gw_1935) d_M_ripemd_125 ?_
    refine lv_istore (lv' := [(10, .int (-1009589776 : Int32)), (9, .int (271733878 : Int32)), (8, .int (-1732584194 : Int32)), (7, .int (-271733879 : Int32)), (6, .int (1732584193 : Int32)), (0, .ref o), (3, .int x3), (4, .int x4), (5, .int x5)]) hx hb d_M_ripemd_128 hl (by decide) rfl (fun ls hl => ?_)
    refine lv_iconst (v := 0) hx hb d_M_ripemd_130 (by decide) ?_
    refine lv_istore (lv' := [(11, .int (0 : Int32)), (10, .int (-1009589776 : Int32)), (9, .int (271733878 : Int32)), (8, .int (-1732584194 : Int32)), (7, .int (-271733879 : Int32)), (6, .int (1732584193 : Int32)), (0, .ref o), (3, .int x3), (4, .int x4), (5, .int x5)]) hx hb d_M_ripemd_131 hl (by decide) rfl (fun ls hl => ?_)
    exact w_M_ripemd_f1hash_133 F fu _ _ _ _ _ _ _ _ _ _ hf _ _ _ hP hD hS (lv_sub hl [6, 8, 5, 4, 3, 2, 1, 0] rfl)
  · have hf := ifn cx hf
    refine lv_aload_n hx hb d_M_ripemd_72 rfl (lv_at hl 0 rfl) ?_
    refine va_get (D := D) (ci := 12) (v := .ref (q 37)) (C := "CoinKeeperModel") (T := F_12) (N := 98) hx hb hts i_12 hown hK hP 0 rfl rfl 45 (by decide) (hts _ gw_1464) (fun _ h9 => h9) rfl d_M_ripemd_73 ?_
    refine lv_iload hx hb d_M_ripemd_76 (lv_at hl 3 rfl) ?_
    refine lv_bipush (v := 8) hx hb d_M_ripemd_78 (by decide) ?_
    refine lv_isub hx hb d_M_ripemd_80 ?_
    refine lv_topi (fun v1 ev => ?_)
    have hf := bn ev hf
    clear ev
    refine lv_iload hx hb d_M_ripemd_81 (lv_at hl 4 rfl) ?_
    refine lv_iadd hx hb d_M_ripemd_83 ?_
    refine lv_topi (fun v2 ev => ?_)
    have hf := bn ev hf
    clear ev
    refine lv_ldc2 (v := 8) hx hb hown (hts _ gw_1766) d_M_ripemd_84 ?_
    refine lv_iload_n hx hb d_M_ripemd_87 rfl (lv_at hl 1 rfl) ?_
    refine lv_i2l hx hb d_M_ripemd_88 rfl ?_
    refine lv_lmul hx hb d_M_ripemd_89 ?_
    refine lv_topl (fun v3 ev => ?_)
    have hf := bn ev hf
    clear ev
    refine lv_bipush (v := 8) hx hb d_M_ripemd_90 (by decide) ?_
    refine lv_iload hx hb d_M_ripemd_92 (lv_at hl 4 rfl) ?_
    refine lv_imul hx hb d_M_ripemd_94 ?_
    refine lv_lshr hx hb d_M_ripemd_95 rfl ?_
    refine lv_l2i hx hb d_M_ripemd_96 rfl ?_
    refine lv_i2b hx hb d_M_ripemd_97 rfl ?_
    refine lv_topi (fun v4 ev => ?_)
    have hf := bn ev hf
    clear ev
    obtain ⟨hg, hf⟩ := gdp hf
    refine va_bast hx hb hK hP hD hS 2 0 rfl rfl (inb_in hg) d_M_ripemd_98 (fun H locs hP hD hS => ?_)
    obtain ⟨f5, ev, hf⟩ := bne hf
    have hP : va_P D classes [(o, .inr (12, mo q z)), ((q 36), .inl (cy 0, 32, .inl u0)), ((q 37), .inl (cy 0, 100200, .inl f5))] H := by rw [ev]; exact hP
    have hD : va_D A [(o, .inr (12, mo q z)), ((q 36), .inl (cy 0, 32, .inl u0)), ((q 37), .inl (cy 0, 100200, .inl f5))] := by rw [ev]; exact hD
    clear ev
    obtain ⟨v6, ev, hf⟩ := bne hf
    refine lv_iinc (v := v6) (lv' := [(6, .int v6), (0, .ref o), (3, .int x3), (4, .int x4), (5, .int x5)]) hx hb d_M_ripemd_99 hl (k := 4) rfl (by rw [ev]; rfl) (by decide) rfl (fun ls hl => ?_)
    clear ev
    refine lv_goto (tgt := 65) hx hb d_M_ripemd_102 (by decide) ?_
    exact hk_65 _ _ _ _ _ _ _ hf _ _ _ hP hD hS (lv_sub hl [1, 2, 3, 4, 0] rfl)
theorem w_M_ripemd_f1hash_65 {p : Program} {l : Launch} {e : Env} {s : State} {m : MethodId} {args : Array Value} {below : List Frame} {meth : Method} {c : Code} {D : va_G} {cy : Nat → ClassId} {A : Nat → Prop} {ad : Nat → Nat} {o : Nat} {q : Nat → Nat} {z : Nat → Int32} {fu : Nat} (F : Fx p s m args meth c b_M_ripemd 25 "CoinKeeperModel" "ripemd" none D cy ad A) : ∀ n : Nat, I_M_ripemd_f1hash_65 p l e s m args below meth c D cy A ad o q z (x_M_ripemd_f1hash_65 fu z n)
  | 0 => fun _ _ _ _ _ _ _ hf => nomatch (show (none : Option ((Nat → Int32) × (Nat → Int32))) = some _ from hf)
  | n + 1 => wb_M_ripemd_f1hash_65 F (w_M_ripemd_f1hash_65 F n)
set_option maxHeartbeats 8000000 in
set_option maxRecDepth 100000 in
theorem wb_M_ripemd_f1hash_33 {p : Program} {l : Launch} {e : Env} {s : State} {m : MethodId} {args : Array Value} {below : List Frame} {meth : Method} {c : Code} {D : va_G} {cy : Nat → ClassId} {A : Nat → Prop} {ad : Nat → Nat} {o : Nat} {q : Nat → Nat} {z : Nat → Int32} {fu : Nat} {k_33 : Int32 → Int32 → Int32 → Int32 → (Nat → Int32) → (Nat → Int32) → Option ((Nat → Int32) × (Nat → Int32))} (F : Fx p s m args meth c b_M_ripemd 25 "CoinKeeperModel" "ripemd" none D cy ad A) (hk_33 : I_M_ripemd_f1hash_33 p l e s m args below meth c D cy A ad o q z k_33) : I_M_ripemd_f1hash_33 p l e s m args below meth c D cy A ad o q z (xb_M_ripemd_f1hash_33 fu z k_33) := by
  obtain ⟨hx, hb, hr, hml, hown, hts, hlocks, hK, hA, hSt, hnm, hex⟩ := id F
  intro x3 x4 x5 x6 u0 u1 res hf H locs ls hP hD hS hl
  unfold xb_M_ripemd_f1hash_33 at hf
  refine lv_iload hx hb d_M_ripemd_33 (lv_at hl 4 rfl) ?_
  refine lv_iload hx hb d_M_ripemd_35 (lv_at hl 3 rfl) ?_
  refine lv_icmp_ge (tgt := 54) hx hb d_M_ripemd_37 (by decide) (fun cx => ?_) (fun cx => ?_)
  · have hf := ifp cx hf
    refine lv_aload_n hx hb d_M_ripemd_54 rfl (lv_at hl 0 rfl) ?_
    refine va_get (D := D) (ci := 12) (v := .ref (q 37)) (C := "CoinKeeperModel") (T := F_12) (N := 98) hx hb hts i_12 hown hK hP 0 rfl rfl 45 (by decide) (hts _ gw_1464) (fun _ h9 => h9) rfl d_M_ripemd_55 ?_
    refine lv_iload_n hx hb d_M_ripemd_58 rfl (lv_at hl 1 rfl) ?_
    refine lv_bipush (v := (-128)) hx hb d_M_ripemd_59 (by decide) ?_
    obtain ⟨hg, hf⟩ := gdp hf
    refine va_bast hx hb hK hP hD hS 2 0 rfl rfl (inb_in hg) d_M_ripemd_61 (fun H locs hP hD hS => ?_)
    obtain ⟨f1, ev, hf⟩ := bne hf
    have hP : va_P D classes [(o, .inr (12, mo q z)), ((q 36), .inl (cy 0, 32, .inl u0)), ((q 37), .inl (cy 0, 100200, .inl f1))] H := by rw [ev]; exact hP
    have hD : va_D A [(o, .inr (12, mo q z)), ((q 36), .inl (cy 0, 32, .inl u0)), ((q 37), .inl (cy 0, 100200, .inl f1))] := by rw [ev]; exact hD
    clear ev
    refine lv_iconst (v := 0) hx hb d_M_ripemd_62 (by decide) ?_
    refine lv_istore (lv' := [(6, .int (0 : Int32)), (0, .ref o), (3, .int x3), (4, .int x4), (5, .int x5)]) hx hb d_M_ripemd_63 hl (by decide) rfl (fun ls hl => ?_)
    exact w_M_ripemd_f1hash_65 F fu _ _ _ _ _ _ _ hf _ _ _ hP hD hS (lv_sub hl [1, 2, 3, 4, 0] rfl)
  · have hf := ifn cx hf
    refine lv_aload_n hx hb d_M_ripemd_40 rfl (lv_at hl 0 rfl) ?_
    refine va_get (D := D) (ci := 12) (v := .ref (q 37)) (C := "CoinKeeperModel") (T := F_12) (N := 98) hx hb hts i_12 hown hK hP 0 rfl rfl 45 (by decide) (hts _ gw_1464) (fun _ h9 => h9) rfl d_M_ripemd_41 ?_
    refine lv_iload hx hb d_M_ripemd_44 (lv_at hl 4 rfl) ?_
    refine lv_iconst (v := 0) hx hb d_M_ripemd_46 (by decide) ?_
    obtain ⟨hg, hf⟩ := gdp hf
    refine va_bast hx hb hK hP hD hS 2 0 rfl rfl (inb_in hg) d_M_ripemd_47 (fun H locs hP hD hS => ?_)
    obtain ⟨f2, ev, hf⟩ := bne hf
    have hP : va_P D classes [(o, .inr (12, mo q z)), ((q 36), .inl (cy 0, 32, .inl u0)), ((q 37), .inl (cy 0, 100200, .inl f2))] H := by rw [ev]; exact hP
    have hD : va_D A [(o, .inr (12, mo q z)), ((q 36), .inl (cy 0, 32, .inl u0)), ((q 37), .inl (cy 0, 100200, .inl f2))] := by rw [ev]; exact hD
    clear ev
    obtain ⟨v3, ev, hf⟩ := bne hf
    refine lv_iinc (v := v3) (lv' := [(6, .int v3), (0, .ref o), (3, .int x3), (4, .int x4), (5, .int x5)]) hx hb d_M_ripemd_48 hl (k := 4) rfl (by rw [ev]; rfl) (by decide) rfl (fun ls hl => ?_)
    clear ev
    refine lv_goto (tgt := 33) hx hb d_M_ripemd_51 (by decide) ?_
    exact hk_33 _ _ _ _ _ _ _ hf _ _ _ hP hD hS (lv_sub hl [1, 2, 3, 4, 0] rfl)
theorem w_M_ripemd_f1hash_33 {p : Program} {l : Launch} {e : Env} {s : State} {m : MethodId} {args : Array Value} {below : List Frame} {meth : Method} {c : Code} {D : va_G} {cy : Nat → ClassId} {A : Nat → Prop} {ad : Nat → Nat} {o : Nat} {q : Nat → Nat} {z : Nat → Int32} {fu : Nat} (F : Fx p s m args meth c b_M_ripemd 25 "CoinKeeperModel" "ripemd" none D cy ad A) : ∀ n : Nat, I_M_ripemd_f1hash_33 p l e s m args below meth c D cy A ad o q z (x_M_ripemd_f1hash_33 fu z n)
  | 0 => fun _ _ _ _ _ _ _ hf => nomatch (show (none : Option ((Nat → Int32) × (Nat → Int32))) = some _ from hf)
  | n + 1 => wb_M_ripemd_f1hash_33 F (w_M_ripemd_f1hash_33 F n)
set_option maxHeartbeats 8000000 in
set_option maxRecDepth 100000 in
theorem we_M_ripemd_f1hash {p : Program} {l : Launch} {e : Env} {s : State} {m : MethodId} {args : Array Value} {below : List Frame} {meth : Method} {c : Code} {D : va_G} {cy : Nat → ClassId} {A : Nat → Prop} {ad : Nat → Nat} {o : Nat} {q : Nat → Nat} {z : Nat → Int32} {fu : Nat} (F : Fx p s m args meth c b_M_ripemd 25 "CoinKeeperModel" "ripemd" none D cy ad A) : I_M_ripemd_f1hash_e p l e s m args below meth c D cy A ad o q z (x_M_ripemd_f1hash fu z) := by
  obtain ⟨hx, hb, hr, hml, hown, hts, hlocks, hK, hA, hSt, hnm, hex⟩ := id F
  intro a2 a3 u0 u1 res hf H locs ls hP hD hS hl
  unfold x_M_ripemd_f1hash at hf
  refine lv_iload_n hx hb d_M_ripemd_0 rfl (lv_at hl 3 rfl) ?_
  refine lv_bipush (v := 9) hx hb d_M_ripemd_1 (by decide) ?_
  refine lv_iadd hx hb d_M_ripemd_3 ?_
  refine lv_topi (fun v1 ev => ?_)
  have hf := bn ev hf
  clear ev
  refine lv_bipush (v := 63) hx hb d_M_ripemd_4 (by decide) ?_
  refine lv_iadd hx hb d_M_ripemd_6 ?_
  refine lv_topi (fun v2 ev => ?_)
  have hf := bn ev hf
  clear ev
  refine lv_bipush (v := 64) hx hb d_M_ripemd_7 (by decide) ?_
  refine lv_idiv hx hb d_M_ripemd_9 (by decide) ?_
  refine lv_topi (fun v3 ev => ?_)
  have hf := bn ev hf
  clear ev
  refine lv_istore (lv' := [(4, .int v3), (0, .ref o), (1, .ref (q 36)), (2, .int a2), (3, .int a3)]) hx hb d_M_ripemd_10 hl (by decide) rfl (fun ls hl => ?_)
  refine lv_bipush (v := 64) hx hb d_M_ripemd_12 (by decide) ?_
  refine lv_iload hx hb d_M_ripemd_14 (lv_at hl 0 rfl) ?_
  refine lv_imul hx hb d_M_ripemd_16 ?_
  refine lv_topi (fun v4 ev => ?_)
  have hf := bn ev hf
  clear ev
  refine lv_istore (lv' := [(5, .int v4), (4, .int v3), (0, .ref o), (1, .ref (q 36)), (2, .int a2), (3, .int a3)]) hx hb d_M_ripemd_17 hl (by decide) rfl (fun ls hl => ?_)
  refine lv_aload_n hx hb d_M_ripemd_19 rfl (lv_at hl 3 rfl) ?_
  refine lv_iload_n hx hb d_M_ripemd_20 rfl (lv_at hl 4 rfl) ?_
  refine lv_aload_n hx hb d_M_ripemd_21 rfl (lv_at hl 2 rfl) ?_
  refine va_get (D := D) (ci := 12) (v := .ref (q 37)) (C := "CoinKeeperModel") (T := F_12) (N := 98) hx hb hts i_12 hown hK hP 0 rfl rfl 45 (by decide) (hts _ gw_1464) (fun _ h9 => h9) rfl d_M_ripemd_22 ?_
  refine lv_iconst (v := 0) hx hb d_M_ripemd_25 (by decide) ?_
  refine lv_iload_n hx hb d_M_ripemd_26 rfl (lv_at hl 5 rfl) ?_
  obtain ⟨hg, hf⟩ := gdp hf
  obtain ⟨hg2, hf⟩ := gdp hf
  refine va_copyi (rest := []) hx hb (hml.trans hl.1.symm) hown (hts _ gw_1398) (hts _ gw_497) (hts _ gw_496) (hts _ gw_17) hK hP hD hS 1 2 0 0 rfl rfl rfl rfl rfl (cpk_p hg).1 (cpk_p hg).2.1 (cpk_p hg).2.2.1 (cpk_p hg).2.2.2.1 (cpk_p hg).2.2.2.2 (bfit_p hg2) (by decide) (by decide) d_M_ripemd_27 (fun H locs hP hD hS => ?_)
  obtain ⟨f5, ev, hf⟩ := bne hf
  have hP : va_P D classes [(o, .inr (12, mo q z)), ((q 36), .inl (cy 0, 32, .inl u0)), ((q 37), .inl (cy 0, 100200, .inl f5))] H := by rw [ev]; exact hP
  have hD : va_D A [(o, .inr (12, mo q z)), ((q 36), .inl (cy 0, 32, .inl u0)), ((q 37), .inl (cy 0, 100200, .inl f5))] := by rw [ev]; exact hD
  clear ev
  refine lv_iload_n hx hb d_M_ripemd_30 rfl (lv_at hl 5 rfl) ?_
  refine lv_istore (lv' := [(6, .int a3), (5, .int v4), (4, .int v3), (0, .ref o), (1, .ref (q 36)), (2, .int a2), (3, .int a3)]) hx hb d_M_ripemd_31 hl (by decide) rfl (fun ls hl => ?_)
  exact w_M_ripemd_f1hash_33 F fu _ _ _ _ _ _ _ hf _ _ _ hP hD hS (lv_sub hl [3, 6, 2, 1, 0] rfl)
theorem c_M_ripemd_f1hash (l : Launch) (D : va_G) (cy : Nat → ClassId) (ad : Nat → Nat) (fu : Nat) (o : Nat) (q : Nat → Nat) (z : Nat → Int32) (a2 : Int32) (a3 : Int32) (u0 : Nat → Int32) (u1 : Nat → Int32) (res : (Nat → Int32) × (Nat → Int32)) (hf : x_M_ripemd_f1hash fu z a2 a3 u0 u1 = some res) (sz : Nat) : Met l ({ cls := "CoinKeeperModel", name := "ripemd", desc := "([BII)V" } : Jvm.MethodName) (.code ({ cls := "CoinKeeperModel", name := "ripemd", desc := "([BII)V" } : Jvm.MethodName) b_M_ripemd 25 none :: gw) rm_M_ripemd_f1hash (va_Pc [.ref o, .ref (q 36), .int a2, .int a3] (Pr D cy ad [(o, .inr (12, mo q z)), ((q 36), .inl (cy 0, 32, .inl u0)), ((q 37), .inl (cy 0, 100200, .inl u1))] sz)) (q_M_ripemd_f1hash D cy (va_A [(o, .inr (12, mo q z)), ((q 36), .inl (cy 0, 32, .inl u0)), ((q 37), .inl (cy 0, 100200, .inl u1))] sz) o q z res) 0 0 (va_A [(o, .inr (12, mo q z)), ((q 36), .inl (cy 0, 32, .inl u0)), ((q 37), .inl (cy 0, 100200, .inl u1))] sz) :=
  q_met (Qc := fun A => q_M_ripemd_f1hash D cy A o q z res) (by decide) rfl rfl (Nat.le_of_ble_eq_true rfl) (fun p e s m below meth c ls F hP hD hS hl => we_M_ripemd_f1hash (fu := fu) F a2 a3 u0 u1 res hf _ _ _ hP hD hS hl) sz
abbrev b_M_hashed : ByteArray := prog_14_method_54_code
theorem d_M_hashed_0 : decode b_M_hashed 0 = .ok (.aload_n 0, 1) := by decide +kernel
theorem d_M_hashed_1 : decode b_M_hashed 1 = .ok (.iconst 1, 1) := by decide +kernel
theorem d_M_hashed_2 : decode b_M_hashed 2 = .ok (.invokevirtual 468, 3) := by decide +kernel
theorem d_M_hashed_5 : decode b_M_hashed 5 = .ok (.ifCond .ne 5, 3) := by decide +kernel
theorem d_M_hashed_8 : decode b_M_hashed 8 = .ok (.iconst 0, 1) := by decide +kernel
theorem d_M_hashed_9 : decode b_M_hashed 9 = .ok (.ireturn, 1) := by decide +kernel
theorem d_M_hashed_10 : decode b_M_hashed 10 = .ok (.aload_n 0, 1) := by decide +kernel
theorem d_M_hashed_11 : decode b_M_hashed 11 = .ok (.dup, 1) := by decide +kernel
theorem d_M_hashed_12 : decode b_M_hashed 12 = .ok (.getfield 439, 3) := by decide +kernel
theorem d_M_hashed_15 : decode b_M_hashed 15 = .ok (.iconst 1, 1) := by decide +kernel
theorem d_M_hashed_16 : decode b_M_hashed 16 = .ok (.isub, 1) := by decide +kernel
theorem d_M_hashed_17 : decode b_M_hashed 17 = .ok (.putfield 439, 3) := by decide +kernel
theorem d_M_hashed_20 : decode b_M_hashed 20 = .ok (.sipush 256, 3) := by decide +kernel
theorem d_M_hashed_23 : decode b_M_hashed 23 = .ok (.aload_n 0, 1) := by decide +kernel
theorem d_M_hashed_24 : decode b_M_hashed 24 = .ok (.getfield 439, 3) := by decide +kernel
theorem d_M_hashed_27 : decode b_M_hashed 27 = .ok (.imul, 1) := by decide +kernel
theorem d_M_hashed_28 : decode b_M_hashed 28 = .ok (.istore_n 2, 1) := by decide +kernel
theorem d_M_hashed_29 : decode b_M_hashed 29 = .ok (.aload_n 0, 1) := by decide +kernel
theorem d_M_hashed_30 : decode b_M_hashed 30 = .ok (.getfield 224, 3) := by decide +kernel
theorem d_M_hashed_33 : decode b_M_hashed 33 = .ok (.aload_n 0, 1) := by decide +kernel
theorem d_M_hashed_34 : decode b_M_hashed 34 = .ok (.getfield 439, 3) := by decide +kernel
theorem d_M_hashed_37 : decode b_M_hashed 37 = .ok (.iaload, 1) := by decide +kernel
theorem d_M_hashed_38 : decode b_M_hashed 38 = .ok (.istore_n 3, 1) := by decide +kernel
theorem d_M_hashed_39 : decode b_M_hashed 39 = .ok (.iload_n 1, 1) := by decide +kernel
theorem d_M_hashed_40 : decode b_M_hashed 40 = .ok (.sipush 166, 3) := by decide +kernel
theorem d_M_hashed_43 : decode b_M_hashed 43 = .ok (.if_icmp .ne 16, 3) := by decide +kernel
theorem d_M_hashed_46 : decode b_M_hashed 46 = .ok (.aload_n 0, 1) := by decide +kernel
theorem d_M_hashed_47 : decode b_M_hashed 47 = .ok (.aload_n 0, 1) := by decide +kernel
theorem d_M_hashed_48 : decode b_M_hashed 48 = .ok (.getfield 221, 3) := by decide +kernel
theorem d_M_hashed_51 : decode b_M_hashed 51 = .ok (.iload_n 2, 1) := by decide +kernel
theorem d_M_hashed_52 : decode b_M_hashed 52 = .ok (.iload_n 3, 1) := by decide +kernel
theorem d_M_hashed_53 : decode b_M_hashed 53 = .ok (.invokevirtual 510, 3) := by decide +kernel
theorem d_M_hashed_56 : decode b_M_hashed 56 = .ok (.goto 49, 3) := by decide +kernel
theorem d_M_hashed_59 : decode b_M_hashed 59 = .ok (.aload_n 0, 1) := by decide +kernel
theorem d_M_hashed_60 : decode b_M_hashed 60 = .ok (.aload_n 0, 1) := by decide +kernel
theorem d_M_hashed_61 : decode b_M_hashed 61 = .ok (.getfield 221, 3) := by decide +kernel
theorem d_M_hashed_64 : decode b_M_hashed 64 = .ok (.iload_n 2, 1) := by decide +kernel
theorem d_M_hashed_65 : decode b_M_hashed 65 = .ok (.iload_n 3, 1) := by decide +kernel
theorem d_M_hashed_66 : decode b_M_hashed 66 = .ok (.invokevirtual 293, 3) := by decide +kernel
theorem d_M_hashed_69 : decode b_M_hashed 69 = .ok (.iload_n 1, 1) := by decide +kernel
theorem d_M_hashed_70 : decode b_M_hashed 70 = .ok (.sipush 169, 3) := by decide +kernel
theorem d_M_hashed_73 : decode b_M_hashed 73 = .ok (.if_icmp .ne 14, 3) := by decide +kernel
theorem d_M_hashed_76 : decode b_M_hashed 76 = .ok (.aload_n 0, 1) := by decide +kernel
theorem d_M_hashed_77 : decode b_M_hashed 77 = .ok (.aload_n 0, 1) := by decide +kernel
theorem d_M_hashed_78 : decode b_M_hashed 78 = .ok (.getfield 123, 3) := by decide +kernel
theorem d_M_hashed_81 : decode b_M_hashed 81 = .ok (.iconst 0, 1) := by decide +kernel
theorem d_M_hashed_82 : decode b_M_hashed 82 = .ok (.bipush 32, 2) := by decide +kernel
theorem d_M_hashed_84 : decode b_M_hashed 84 = .ok (.invokevirtual 510, 3) := by decide +kernel
theorem d_M_hashed_87 : decode b_M_hashed 87 = .ok (.iload_n 1, 1) := by decide +kernel
theorem d_M_hashed_88 : decode b_M_hashed 88 = .ok (.sipush 170, 3) := by decide +kernel
theorem d_M_hashed_91 : decode b_M_hashed 91 = .ok (.if_icmp .ne 14, 3) := by decide +kernel
theorem d_M_hashed_94 : decode b_M_hashed 94 = .ok (.aload_n 0, 1) := by decide +kernel
theorem d_M_hashed_95 : decode b_M_hashed 95 = .ok (.aload_n 0, 1) := by decide +kernel
theorem d_M_hashed_96 : decode b_M_hashed 96 = .ok (.getfield 123, 3) := by decide +kernel
theorem d_M_hashed_99 : decode b_M_hashed 99 = .ok (.iconst 0, 1) := by decide +kernel
theorem d_M_hashed_100 : decode b_M_hashed 100 = .ok (.bipush 32, 2) := by decide +kernel
theorem d_M_hashed_102 : decode b_M_hashed 102 = .ok (.invokevirtual 293, 3) := by decide +kernel
theorem d_M_hashed_105 : decode b_M_hashed 105 = .ok (.aload_n 0, 1) := by decide +kernel
theorem d_M_hashed_106 : decode b_M_hashed 106 = .ok (.aload_n 0, 1) := by decide +kernel
theorem d_M_hashed_107 : decode b_M_hashed 107 = .ok (.getfield 123, 3) := by decide +kernel
theorem d_M_hashed_110 : decode b_M_hashed 110 = .ok (.iconst 0, 1) := by decide +kernel
theorem d_M_hashed_111 : decode b_M_hashed 111 = .ok (.iload_n 1, 1) := by decide +kernel
theorem d_M_hashed_112 : decode b_M_hashed 112 = .ok (.sipush 166, 3) := by decide +kernel
theorem d_M_hashed_115 : decode b_M_hashed 115 = .ok (.if_icmp .eq 10, 3) := by decide +kernel
theorem d_M_hashed_118 : decode b_M_hashed 118 = .ok (.iload_n 1, 1) := by decide +kernel
theorem d_M_hashed_119 : decode b_M_hashed 119 = .ok (.sipush 169, 3) := by decide +kernel
theorem d_M_hashed_122 : decode b_M_hashed 122 = .ok (.if_icmp .ne 8, 3) := by decide +kernel
theorem d_M_hashed_125 : decode b_M_hashed 125 = .ok (.bipush 20, 2) := by decide +kernel
theorem d_M_hashed_127 : decode b_M_hashed 127 = .ok (.goto 5, 3) := by decide +kernel
theorem d_M_hashed_130 : decode b_M_hashed 130 = .ok (.bipush 32, 2) := by decide +kernel
theorem d_M_hashed_132 : decode b_M_hashed 132 = .ok (.invokevirtual 456, 3) := by decide +kernel
theorem d_M_hashed_135 : decode b_M_hashed 135 = .ok (.iconst 1, 1) := by decide +kernel
theorem d_M_hashed_136 : decode b_M_hashed 136 = .ok (.ireturn, 1) := by decide +kernel
abbrev rm_M_hashed : Room := { frames := 2, cells := 0, slots := 0, locals := 70 }
abbrev q_M_hashed (D : va_G) (cy : Nat → ClassId) (A : Nat → Prop) (o : Nat) (q : Nat → Nat) (res : Int32 × (Nat → Int32) × (Nat → Int32) × (Nat → Int32) × (Nat → Int32) × (Nat → Int32) × (Nat → Int32) × (Nat → Int32)) : Array Value → State → Outcome → State → Prop := va_Qi (fun r' (_ : Unit) => r' = res.1) (fun _ t => Po D cy A [(o, .inr (12, mo q res.2.1)), ((q 34), .inl (cy 1, 8, .inl res.2.2.1)), ((q 35), .inl (cy 1, 64, .inl res.2.2.2.1)), ((q 36), .inl (cy 0, 32, .inl res.2.2.2.2.1)), ((q 37), .inl (cy 0, 100200, .inl res.2.2.2.2.2.1)), ((q 68), .inl (cy 0, 104448, .inl res.2.2.2.2.2.2.1)), ((q 69), .inl (cy 1, 408, .inl res.2.2.2.2.2.2.2))] t) A
def I_M_hashed_132 (p : Program) (l : Launch) (e : Env) (s : State) (m : MethodId) (args : Array Value) (below : List Frame) (meth : Method) (c : Code) (D : va_G) (cy : Nat → ClassId) (A : Nat → Prop) (ad : Nat → Nat) (o : Nat) (q : Nat → Nat) (k : Int32 → Int32 → (Nat → Int32) → (Nat → Int32) → (Nat → Int32) → (Nat → Int32) → (Nat → Int32) → (Nat → Int32) → (Nat → Int32) → Option (Int32 × (Nat → Int32) × (Nat → Int32) × (Nat → Int32) × (Nat → Int32) × (Nat → Int32) × (Nat → Int32) × (Nat → Int32))) : Prop :=
  ∀ (y0 : Int32) (y1 : Int32) (u0 : Nat → Int32) (u1 : Nat → Int32) (u2 : Nat → Int32) (u3 : Nat → Int32) (u4 : Nat → Int32) (u5 : Nat → Int32) (u6 : Nat → Int32) (res : Int32 × (Nat → Int32) × (Nat → Int32) × (Nat → Int32) × (Nat → Int32) × (Nat → Int32) × (Nat → Int32) × (Nat → Int32)), k y0 y1 u0 u1 u2 u3 u4 u5 u6 = some res → ∀ (H : Heap) (locs : List Loc) (ls : Array Slot), va_P D classes [(o, .inr (12, mo q u0)), ((q 34), .inl (cy 1, 8, .inl u1)), ((q 35), .inl (cy 1, 64, .inl u2)), ((q 36), .inl (cy 0, 32, .inl u3)), ((q 37), .inl (cy 0, 100200, .inl u4)), ((q 68), .inl (cy 0, 104448, .inl u5)), ((q 69), .inl (cy 1, 408, .inl u6))] H → va_D A [(o, .inr (12, mo q u0)), ((q 34), .inl (cy 1, 8, .inl u1)), ((q 35), .inl (cy 1, 64, .inl u2)), ((q 36), .inl (cy 0, 32, .inl u3)), ((q 37), .inl (cy 0, 100200, .inl u4)), ((q 68), .inl (cy 0, 104448, .inl u5)), ((q 69), .inl (cy 1, 408, .inl u6))] → va_S A s.heap H locs → lv_has ls 4 [] → W p l e rm_M_hashed s m args below meth c H locs 0 0 (MQ below (q_M_hashed D cy A o q res) args s 0 0 A) (F0 m 132 ls [.int y0, .int y1, .ref (q 36), .ref o])
def I_M_hashed_125 (p : Program) (l : Launch) (e : Env) (s : State) (m : MethodId) (args : Array Value) (below : List Frame) (meth : Method) (c : Code) (D : va_G) (cy : Nat → ClassId) (A : Nat → Prop) (ad : Nat → Nat) (o : Nat) (q : Nat → Nat) (k : Int32 → (Nat → Int32) → (Nat → Int32) → (Nat → Int32) → (Nat → Int32) → (Nat → Int32) → (Nat → Int32) → (Nat → Int32) → Option (Int32 × (Nat → Int32) × (Nat → Int32) × (Nat → Int32) × (Nat → Int32) × (Nat → Int32) × (Nat → Int32) × (Nat → Int32))) : Prop :=
  ∀ (y0 : Int32) (u0 : Nat → Int32) (u1 : Nat → Int32) (u2 : Nat → Int32) (u3 : Nat → Int32) (u4 : Nat → Int32) (u5 : Nat → Int32) (u6 : Nat → Int32) (res : Int32 × (Nat → Int32) × (Nat → Int32) × (Nat → Int32) × (Nat → Int32) × (Nat → Int32) × (Nat → Int32) × (Nat → Int32)), k y0 u0 u1 u2 u3 u4 u5 u6 = some res → ∀ (H : Heap) (locs : List Loc) (ls : Array Slot), va_P D classes [(o, .inr (12, mo q u0)), ((q 34), .inl (cy 1, 8, .inl u1)), ((q 35), .inl (cy 1, 64, .inl u2)), ((q 36), .inl (cy 0, 32, .inl u3)), ((q 37), .inl (cy 0, 100200, .inl u4)), ((q 68), .inl (cy 0, 104448, .inl u5)), ((q 69), .inl (cy 1, 408, .inl u6))] H → va_D A [(o, .inr (12, mo q u0)), ((q 34), .inl (cy 1, 8, .inl u1)), ((q 35), .inl (cy 1, 64, .inl u2)), ((q 36), .inl (cy 0, 32, .inl u3)), ((q 37), .inl (cy 0, 100200, .inl u4)), ((q 68), .inl (cy 0, 104448, .inl u5)), ((q 69), .inl (cy 1, 408, .inl u6))] → va_S A s.heap H locs → lv_has ls 4 [] → W p l e rm_M_hashed s m args below meth c H locs 0 0 (MQ below (q_M_hashed D cy A o q res) args s 0 0 A) (F0 m 125 ls [.int y0, .ref (q 36), .ref o])
def I_M_hashed_105 (p : Program) (l : Launch) (e : Env) (s : State) (m : MethodId) (args : Array Value) (below : List Frame) (meth : Method) (c : Code) (D : va_G) (cy : Nat → ClassId) (A : Nat → Prop) (ad : Nat → Nat) (o : Nat) (q : Nat → Nat) (k : Int32 → (Nat → Int32) → (Nat → Int32) → (Nat → Int32) → (Nat → Int32) → (Nat → Int32) → (Nat → Int32) → (Nat → Int32) → Option (Int32 × (Nat → Int32) × (Nat → Int32) × (Nat → Int32) × (Nat → Int32) × (Nat → Int32) × (Nat → Int32) × (Nat → Int32))) : Prop :=
  ∀ (x1 : Int32) (u0 : Nat → Int32) (u1 : Nat → Int32) (u2 : Nat → Int32) (u3 : Nat → Int32) (u4 : Nat → Int32) (u5 : Nat → Int32) (u6 : Nat → Int32) (res : Int32 × (Nat → Int32) × (Nat → Int32) × (Nat → Int32) × (Nat → Int32) × (Nat → Int32) × (Nat → Int32) × (Nat → Int32)), k x1 u0 u1 u2 u3 u4 u5 u6 = some res → ∀ (H : Heap) (locs : List Loc) (ls : Array Slot), va_P D classes [(o, .inr (12, mo q u0)), ((q 34), .inl (cy 1, 8, .inl u1)), ((q 35), .inl (cy 1, 64, .inl u2)), ((q 36), .inl (cy 0, 32, .inl u3)), ((q 37), .inl (cy 0, 100200, .inl u4)), ((q 68), .inl (cy 0, 104448, .inl u5)), ((q 69), .inl (cy 1, 408, .inl u6))] H → va_D A [(o, .inr (12, mo q u0)), ((q 34), .inl (cy 1, 8, .inl u1)), ((q 35), .inl (cy 1, 64, .inl u2)), ((q 36), .inl (cy 0, 32, .inl u3)), ((q 37), .inl (cy 0, 100200, .inl u4)), ((q 68), .inl (cy 0, 104448, .inl u5)), ((q 69), .inl (cy 1, 408, .inl u6))] → va_S A s.heap H locs → lv_has ls 4 [(0, .ref o), (1, .int x1)] → W p l e rm_M_hashed s m args below meth c H locs 0 0 (MQ below (q_M_hashed D cy A o q res) args s 0 0 A) (F0 m 105 ls [])
def I_M_hashed_87 (p : Program) (l : Launch) (e : Env) (s : State) (m : MethodId) (args : Array Value) (below : List Frame) (meth : Method) (c : Code) (D : va_G) (cy : Nat → ClassId) (A : Nat → Prop) (ad : Nat → Nat) (o : Nat) (q : Nat → Nat) (k : Int32 → (Nat → Int32) → (Nat → Int32) → (Nat → Int32) → (Nat → Int32) → (Nat → Int32) → (Nat → Int32) → (Nat → Int32) → Option (Int32 × (Nat → Int32) × (Nat → Int32) × (Nat → Int32) × (Nat → Int32) × (Nat → Int32) × (Nat → Int32) × (Nat → Int32))) : Prop :=
  ∀ (x1 : Int32) (u0 : Nat → Int32) (u1 : Nat → Int32) (u2 : Nat → Int32) (u3 : Nat → Int32) (u4 : Nat → Int32) (u5 : Nat → Int32) (u6 : Nat → Int32) (res : Int32 × (Nat → Int32) × (Nat → Int32) × (Nat → Int32) × (Nat → Int32) × (Nat → Int32) × (Nat → Int32) × (Nat → Int32)), k x1 u0 u1 u2 u3 u4 u5 u6 = some res → ∀ (H : Heap) (locs : List Loc) (ls : Array Slot), va_P D classes [(o, .inr (12, mo q u0)), ((q 34), .inl (cy 1, 8, .inl u1)), ((q 35), .inl (cy 1, 64, .inl u2)), ((q 36), .inl (cy 0, 32, .inl u3)), ((q 37), .inl (cy 0, 100200, .inl u4)), ((q 68), .inl (cy 0, 104448, .inl u5)), ((q 69), .inl (cy 1, 408, .inl u6))] H → va_D A [(o, .inr (12, mo q u0)), ((q 34), .inl (cy 1, 8, .inl u1)), ((q 35), .inl (cy 1, 64, .inl u2)), ((q 36), .inl (cy 0, 32, .inl u3)), ((q 37), .inl (cy 0, 100200, .inl u4)), ((q 68), .inl (cy 0, 104448, .inl u5)), ((q 69), .inl (cy 1, 408, .inl u6))] → va_S A s.heap H locs → lv_has ls 4 [(0, .ref o), (1, .int x1)] → W p l e rm_M_hashed s m args below meth c H locs 0 0 (MQ below (q_M_hashed D cy A o q res) args s 0 0 A) (F0 m 87 ls [])
def I_M_hashed_e (p : Program) (l : Launch) (e : Env) (s : State) (m : MethodId) (args : Array Value) (below : List Frame) (meth : Method) (c : Code) (D : va_G) (cy : Nat → ClassId) (A : Nat → Prop) (ad : Nat → Nat) (o : Nat) (q : Nat → Nat) (k : Int32 → (Nat → Int32) → (Nat → Int32) → (Nat → Int32) → (Nat → Int32) → (Nat → Int32) → (Nat → Int32) → (Nat → Int32) → Option (Int32 × (Nat → Int32) × (Nat → Int32) × (Nat → Int32) × (Nat → Int32) × (Nat → Int32) × (Nat → Int32) × (Nat → Int32))) : Prop :=
  ∀ (a1 : Int32) (u0 : Nat → Int32) (u1 : Nat → Int32) (u2 : Nat → Int32) (u3 : Nat → Int32) (u4 : Nat → Int32) (u5 : Nat → Int32) (u6 : Nat → Int32) (res : Int32 × (Nat → Int32) × (Nat → Int32) × (Nat → Int32) × (Nat → Int32) × (Nat → Int32) × (Nat → Int32) × (Nat → Int32)), k a1 u0 u1 u2 u3 u4 u5 u6 = some res → ∀ (H : Heap) (locs : List Loc) (ls : Array Slot), va_P D classes [(o, .inr (12, mo q u0)), ((q 34), .inl (cy 1, 8, .inl u1)), ((q 35), .inl (cy 1, 64, .inl u2)), ((q 36), .inl (cy 0, 32, .inl u3)), ((q 37), .inl (cy 0, 100200, .inl u4)), ((q 68), .inl (cy 0, 104448, .inl u5)), ((q 69), .inl (cy 1, 408, .inl u6))] H → va_D A [(o, .inr (12, mo q u0)), ((q 34), .inl (cy 1, 8, .inl u1)), ((q 35), .inl (cy 1, 64, .inl u2)), ((q 36), .inl (cy 0, 32, .inl u3)), ((q 37), .inl (cy 0, 100200, .inl u4)), ((q 68), .inl (cy 0, 104448, .inl u5)), ((q 69), .inl (cy 1, 408, .inl u6))] → va_S A s.heap H locs → lv_has ls 4 [(0, .ref o), (1, .int a1)] → W p l e rm_M_hashed s m args below meth c H locs 0 0 (MQ below (q_M_hashed D cy A o q res) args s 0 0 A) (F0 m 0 ls [])
theorem hdm_47 : ({ cls := "CoinKeeperModel", name := "push", desc := "([BII)V" } : Jvm.MethodName).cls ≠ "java/lang/invoke/MethodHandle" ∧ ({ cls := "CoinKeeperModel", name := "push", desc := "([BII)V" } : Jvm.MethodName).cls ≠ "java/lang/invoke/VarHandle" ∧ (parseMethodDescriptor ({ cls := "CoinKeeperModel", name := "push", desc := "([BII)V" } : Jvm.MethodName).desc).map (fun d => d.parameters.length) = some 3 := by decide +kernel
set_option maxHeartbeats 8000000 in
set_option maxRecDepth 100000 in
theorem wb_M_hashed_132 {p : Program} {l : Launch} {e : Env} {s : State} {m : MethodId} {args : Array Value} {below : List Frame} {meth : Method} {c : Code} {D : va_G} {cy : Nat → ClassId} {A : Nat → Prop} {ad : Nat → Nat} {o : Nat} {q : Nat → Nat} {fu : Nat} (F : Fx p s m args meth c b_M_hashed 4 "CoinKeeperModel" "hashed" (some .boolean) D cy ad A) : I_M_hashed_132 p l e s m args below meth c D cy A ad o q (xb_M_hashed_132 fu) := by
  obtain ⟨hx, hb, hr, hml, hown, hts, hlocks, hK, hA, hSt, hnm, hex⟩ := id F
  intro y0 y1 u0 u1 u2 u3 u4 u5 u6 res hf H locs ls hP hD hS hl
  unfold xb_M_hashed_132 at hf
  obtain ⟨f1, f2, f3, hc, hf⟩ := bdp3 hf
  refine q_av (wr := [((q 34), .inl (cy 1, 8, .inl u1)), ((q 35), .inl (cy 1, 64, .inl u2)), ((q 37), .inl (cy 0, 100200, .inl u4))]) (va_runV (C := "CoinKeeperModel") (As := [.ref (q 36), .int y1, .int y0]) (rest := []) ⟨hx, hb, hml, hown, hts⟩ (c_M_push l D cy ad fu o q (q 36) 32 u3 y1 y0 u0 u5 u6 _ hc H.size) ⟨q_cB hts gw_1873 gw_18 gw_1870 hdm_47 ⟨by decide, by decide⟩, hts _ gw_1872, hts _ gs_93⟩ (q_preV (q_pre (hP.sub [0, 5, 6, 3] rfl) (hD.sub [0, 5, 6, 3] (by decide) rfl) hK hSt hS (va_free hD hS hA [0, 5, 6, 3] rfl) _) (va_recv hK (hP.sub [0, 5, 6, 3] rfl) (ci := 12) (q0 := 0) rfl rfl)) rfl rfl hl.1 rfl (lv_room (Nat.le_of_ble_eq_true rfl)) d_M_hashed_132 ⟨Nat.le_of_ble_eq_true rfl, Nat.le_of_ble_eq_true rfl⟩) hP hD hS hA [0, 5, 6, 3] [1, 2, 4] rfl rfl (by decide) (by decide) (fun H locs hP hD hS => ?_)
  clear hc
  have hP : va_P D classes [((q 34), .inl (cy 1, 8, .inl u1)), ((q 35), .inl (cy 1, 64, .inl u2)), ((q 37), .inl (cy 0, 100200, .inl u4)), (o, .inr (12, mo q f1)), ((q 68), .inl (cy 0, 104448, .inl f2)), ((q 69), .inl (cy 1, 408, .inl f3)), ((q 36), .inl (cy 0, 32, .inl u3))] H := hP
  have hD : va_D A [((q 34), .inl (cy 1, 8, .inl u1)), ((q 35), .inl (cy 1, 64, .inl u2)), ((q 37), .inl (cy 0, 100200, .inl u4)), (o, .inr (12, mo q f1)), ((q 68), .inl (cy 0, 104448, .inl f2)), ((q 69), .inl (cy 1, 408, .inl f3)), ((q 36), .inl (cy 0, 32, .inl u3))] := hD
  refine lv_iconst (v := 1) hx hb d_M_hashed_135 (by decide) ?_
  obtain rfl := Option.some.inj hf
  exact q_rz hx hb hr hlocks hK (hP.sub [3, 0, 1, 6, 2, 4, 5] rfl) (hD.sub [3, 0, 1, 6, 2, 4, 5] (by decide) rfl) hS (isb_n (v := 1) (by decide)) d_M_hashed_136
set_option maxHeartbeats 8000000 in
set_option maxRecDepth 100000 in
theorem wb_M_hashed_125 {p : Program} {l : Launch} {e : Env} {s : State} {m : MethodId} {args : Array Value} {below : List Frame} {meth : Method} {c : Code} {D : va_G} {cy : Nat → ClassId} {A : Nat → Prop} {ad : Nat → Nat} {o : Nat} {q : Nat → Nat} {fu : Nat} (F : Fx p s m args meth c b_M_hashed 4 "CoinKeeperModel" "hashed" (some .boolean) D cy ad A) : I_M_hashed_125 p l e s m args below meth c D cy A ad o q (xb_M_hashed_125 fu) := by
  obtain ⟨hx, hb, hr, hml, hown, hts, hlocks, hK, hA, hSt, hnm, hex⟩ := id F
  intro y0 u0 u1 u2 u3 u4 u5 u6 res hf H locs ls hP hD hS hl
  unfold xb_M_hashed_125 at hf
  refine lv_bipush (v := 20) hx hb d_M_hashed_125 (by decide) ?_
  refine lv_goto (tgt := 132) hx hb d_M_hashed_127 (by decide) ?_
  exact wb_M_hashed_132 (fu := fu) F _ _ _ _ _ _ _ _ _ _ hf _ _ _ hP hD hS (lv_sub hl [] rfl)
set_option maxHeartbeats 8000000 in
set_option maxRecDepth 100000 in
theorem wb_M_hashed_105 {p : Program} {l : Launch} {e : Env} {s : State} {m : MethodId} {args : Array Value} {below : List Frame} {meth : Method} {c : Code} {D : va_G} {cy : Nat → ClassId} {A : Nat → Prop} {ad : Nat → Nat} {o : Nat} {q : Nat → Nat} {fu : Nat} (F : Fx p s m args meth c b_M_hashed 4 "CoinKeeperModel" "hashed" (some .boolean) D cy ad A) : I_M_hashed_105 p l e s m args below meth c D cy A ad o q (xb_M_hashed_105 fu) := by
  obtain ⟨hx, hb, hr, hml, hown, hts, hlocks, hK, hA, hSt, hnm, hex⟩ := id F
  intro x1 u0 u1 u2 u3 u4 u5 u6 res hf H locs ls hP hD hS hl
  unfold xb_M_hashed_105 at hf
  refine lv_aload_n hx hb d_M_hashed_105 rfl (lv_at hl 0 rfl) ?_
  refine lv_aload_n hx hb d_M_hashed_106 rfl (lv_at hl 0 rfl) ?_
  refine va_get (D := D) (ci := 12) (v := .ref (q 36)) (C := "CoinKeeperModel") (T := F_12) (N := 98) hx hb hts i_12 hown hK hP 0 rfl rfl 44 (by decide) (hts _ gw_1463) (fun _ h9 => h9) rfl d_M_hashed_107 ?_
  refine lv_iconst (v := 0) hx hb d_M_hashed_110 (by decide) ?_
  refine lv_iload_n hx hb d_M_hashed_111 rfl (lv_at hl 1 rfl) ?_
  refine lv_sipush (v := 166) hx hb d_M_hashed_112 (by decide) ?_
  refine lv_icmp_eq (tgt := 125) hx hb d_M_hashed_115 (by decide) (fun cx => ?_) (fun cx => ?_)
  · have hf := ifp cx hf
    exact wb_M_hashed_125 (fu := fu) F _ _ _ _ _ _ _ _ _ hf _ _ _ hP hD hS (lv_sub hl [] rfl)
  · have hf := ifn cx hf
    refine lv_iload_n hx hb d_M_hashed_118 rfl (lv_at hl 1 rfl) ?_
    refine lv_sipush (v := 169) hx hb d_M_hashed_119 (by decide) ?_
    refine lv_icmp_ne (tgt := 130) hx hb d_M_hashed_122 (by decide) (fun cx => ?_) (fun cx => ?_)
    · have hf := ifn cx hf
      refine lv_bipush (v := 32) hx hb d_M_hashed_130 (by decide) ?_
      exact wb_M_hashed_132 (fu := fu) F _ _ _ _ _ _ _ _ _ _ hf _ _ _ hP hD hS (lv_sub hl [] rfl)
    · have hf := ifp cx hf
      exact wb_M_hashed_125 (fu := fu) F _ _ _ _ _ _ _ _ _ hf _ _ _ hP hD hS (lv_sub hl [] rfl)
set_option maxHeartbeats 8000000 in
set_option maxRecDepth 100000 in
theorem wb_M_hashed_87 {p : Program} {l : Launch} {e : Env} {s : State} {m : MethodId} {args : Array Value} {below : List Frame} {meth : Method} {c : Code} {D : va_G} {cy : Nat → ClassId} {A : Nat → Prop} {ad : Nat → Nat} {o : Nat} {q : Nat → Nat} {fu : Nat} (F : Fx p s m args meth c b_M_hashed 4 "CoinKeeperModel" "hashed" (some .boolean) D cy ad A) : I_M_hashed_87 p l e s m args below meth c D cy A ad o q (xb_M_hashed_87 fu) := by
  obtain ⟨hx, hb, hr, hml, hown, hts, hlocks, hK, hA, hSt, hnm, hex⟩ := id F
  intro x1 u0 u1 u2 u3 u4 u5 u6 res hf H locs ls hP hD hS hl
  unfold xb_M_hashed_87 at hf
  refine lv_iload_n hx hb d_M_hashed_87 rfl (lv_at hl 1 rfl) ?_
  refine lv_sipush (v := 170) hx hb d_M_hashed_88 (by decide) ?_
  refine lv_icmp_ne (tgt := 105) hx hb d_M_hashed_91 (by decide) (fun cx => ?_) (fun cx => ?_)
  · have hf := ifn cx hf
    exact wb_M_hashed_105 (fu := fu) F _ _ _ _ _ _ _ _ _ hf _ _ _ hP hD hS (lv_sub hl [0, 1] rfl)
  · have hf := ifp cx hf
    refine lv_aload_n hx hb d_M_hashed_94 rfl (lv_at hl 0 rfl) ?_
    refine lv_aload_n hx hb d_M_hashed_95 rfl (lv_at hl 0 rfl) ?_
    refine va_get (D := D) (ci := 12) (v := .ref (q 36)) (C := "CoinKeeperModel") (T := F_12) (N := 98) hx hb hts i_12 hown hK hP 0 rfl rfl 44 (by decide) (hts _ gw_1463) (fun _ h9 => h9) rfl d_M_hashed_96 ?_
    refine lv_iconst (v := 0) hx hb d_M_hashed_99 (by decide) ?_
    refine lv_bipush (v := 32) hx hb d_M_hashed_100 (by decide) ?_
    obtain ⟨f1, f2, f3, f4, hc, hf⟩ := bdp4 hf
    refine q_av (wr := [((q 68), .inl (cy 0, 104448, .inl u5)), ((q 69), .inl (cy 1, 408, .inl u6))]) (va_runV (C := "CoinKeeperModel") (As := [.ref (q 36), .int (0 : Int32), .int (32 : Int32)]) (rest := []) ⟨hx, hb, hml, hown, hts⟩ (c_M_sha_f1hash l D cy ad fu o q u0 (0 : Int32) (32 : Int32) u1 u2 u3 u4 _ hc H.size) ⟨q_cB hts gw_1765 gw_18 gw_1762 hdm_2 ⟨by decide, by decide⟩, hts _ gw_1764, hts _ gs_73⟩ (q_preV (q_pre (hP.sub [0, 1, 2, 3, 4] rfl) (hD.sub [0, 1, 2, 3, 4] (by decide) rfl) hK hSt hS (va_free hD hS hA [0, 1, 2, 3, 4] rfl) _) (va_recv hK (hP.sub [0, 1, 2, 3, 4] rfl) (ci := 12) (q0 := 0) rfl rfl)) rfl rfl hl.1 rfl (lv_room (Nat.le_of_ble_eq_true rfl)) d_M_hashed_102 ⟨Nat.le_of_ble_eq_true rfl, Nat.le_of_ble_eq_true rfl⟩) hP hD hS hA [0, 1, 2, 3, 4] [5, 6] rfl rfl (by decide) (by decide) (fun H locs hP hD hS => ?_)
    clear hc
    have hP : va_P D classes [((q 68), .inl (cy 0, 104448, .inl u5)), ((q 69), .inl (cy 1, 408, .inl u6)), (o, .inr (12, mo q u0)), ((q 34), .inl (cy 1, 8, .inl f1)), ((q 35), .inl (cy 1, 64, .inl f2)), ((q 36), .inl (cy 0, 32, .inl f3)), ((q 37), .inl (cy 0, 100200, .inl f4))] H := hP
    have hD : va_D A [((q 68), .inl (cy 0, 104448, .inl u5)), ((q 69), .inl (cy 1, 408, .inl u6)), (o, .inr (12, mo q u0)), ((q 34), .inl (cy 1, 8, .inl f1)), ((q 35), .inl (cy 1, 64, .inl f2)), ((q 36), .inl (cy 0, 32, .inl f3)), ((q 37), .inl (cy 0, 100200, .inl f4))] := hD
    exact wb_M_hashed_105 (fu := fu) F _ _ _ _ _ _ _ _ _ hf _ _ _ (hP.sub (ws' := [(o, .inr (12, mo q u0)), ((q 34), .inl (cy 1, 8, .inl f1)), ((q 35), .inl (cy 1, 64, .inl f2)), ((q 36), .inl (cy 0, 32, .inl f3)), ((q 37), .inl (cy 0, 100200, .inl f4)), ((q 68), .inl (cy 0, 104448, .inl u5)), ((q 69), .inl (cy 1, 408, .inl u6))]) [2, 3, 4, 5, 6, 0, 1] rfl) (hD.sub (ws' := [(o, .inr (12, mo q u0)), ((q 34), .inl (cy 1, 8, .inl f1)), ((q 35), .inl (cy 1, 64, .inl f2)), ((q 36), .inl (cy 0, 32, .inl f3)), ((q 37), .inl (cy 0, 100200, .inl f4)), ((q 68), .inl (cy 0, 104448, .inl u5)), ((q 69), .inl (cy 1, 408, .inl u6))]) [2, 3, 4, 5, 6, 0, 1] (by decide) rfl) hS (lv_sub hl [0, 1] rfl)
theorem hdm_48 : ({ cls := "CoinKeeperModel", name := "ripemd", desc := "([BII)V" } : Jvm.MethodName).cls ≠ "java/lang/invoke/MethodHandle" ∧ ({ cls := "CoinKeeperModel", name := "ripemd", desc := "([BII)V" } : Jvm.MethodName).cls ≠ "java/lang/invoke/VarHandle" ∧ (parseMethodDescriptor ({ cls := "CoinKeeperModel", name := "ripemd", desc := "([BII)V" } : Jvm.MethodName).desc).map (fun d => d.parameters.length) = some 3 := by decide +kernel
set_option maxHeartbeats 8000000 in
set_option maxRecDepth 100000 in
theorem we_M_hashed {p : Program} {l : Launch} {e : Env} {s : State} {m : MethodId} {args : Array Value} {below : List Frame} {meth : Method} {c : Code} {D : va_G} {cy : Nat → ClassId} {A : Nat → Prop} {ad : Nat → Nat} {o : Nat} {q : Nat → Nat} {fu : Nat} (F : Fx p s m args meth c b_M_hashed 4 "CoinKeeperModel" "hashed" (some .boolean) D cy ad A) : I_M_hashed_e p l e s m args below meth c D cy A ad o q (x_M_hashed fu) := by
  obtain ⟨hx, hb, hr, hml, hown, hts, hlocks, hK, hA, hSt, hnm, hex⟩ := id F
  intro a1 u0 u1 u2 u3 u4 u5 u6 res hf H locs ls hP hD hS hl
  unfold x_M_hashed at hf
  refine lv_aload_n hx hb d_M_hashed_0 rfl (lv_at hl 0 rfl) ?_
  refine lv_iconst (v := 1) hx hb d_M_hashed_1 (by decide) ?_
  obtain ⟨v1, hc, hf⟩ := bdp1 hf
  refine q_ai (wr := [((q 34), .inl (cy 1, 8, .inl u1)), ((q 35), .inl (cy 1, 64, .inl u2)), ((q 36), .inl (cy 0, 32, .inl u3)), ((q 37), .inl (cy 0, 100200, .inl u4)), ((q 68), .inl (cy 0, 104448, .inl u5)), ((q 69), .inl (cy 1, 408, .inl u6))]) (va_runV (C := "CoinKeeperModel") (As := [.int (1 : Int32)]) (rest := []) ⟨hx, hb, hml, hown, hts⟩ (c_M_has l D cy ad fu o q u0 (1 : Int32) _ hc H.size) ⟨q_cB hts gw_1889 gw_18 gw_1886 hdm_40 ⟨by decide, by decide⟩, hts _ gw_1888, hts _ gs_97⟩ (q_preV (q_pre (hP.sub [0] rfl) (hD.sub [0] (by decide) rfl) hK hSt hS (va_free hD hS hA [0] rfl) _) (va_recv hK (hP.sub [0] rfl) (ci := 12) (q0 := 0) rfl rfl)) rfl rfl hl.1 rfl (lv_room (Nat.le_of_ble_eq_true rfl)) d_M_hashed_2 ⟨Nat.le_of_ble_eq_true rfl, Nat.le_of_ble_eq_true rfl⟩) hP hD hS hA [0] [1, 2, 3, 4, 5, 6] rfl rfl (by decide) (by decide) (fun H locs hP hD hS => ?_)
  clear hc
  have hP : va_P D classes [((q 34), .inl (cy 1, 8, .inl u1)), ((q 35), .inl (cy 1, 64, .inl u2)), ((q 36), .inl (cy 0, 32, .inl u3)), ((q 37), .inl (cy 0, 100200, .inl u4)), ((q 68), .inl (cy 0, 104448, .inl u5)), ((q 69), .inl (cy 1, 408, .inl u6)), (o, .inr (12, mo q u0))] H := hP
  have hD : va_D A [((q 34), .inl (cy 1, 8, .inl u1)), ((q 35), .inl (cy 1, 64, .inl u2)), ((q 36), .inl (cy 0, 32, .inl u3)), ((q 37), .inl (cy 0, 100200, .inl u4)), ((q 68), .inl (cy 0, 104448, .inl u5)), ((q 69), .inl (cy 1, 408, .inl u6)), (o, .inr (12, mo q u0))] := hD
  refine lv_if_ne (tgt := 10) hx hb d_M_hashed_5 (by decide) (fun cx => ?_) (fun cx => ?_)
  · have hf := ifn cx hf
    refine lv_aload_n hx hb d_M_hashed_10 rfl (lv_at hl 0 rfl) ?_
    refine lv_dup hx hb d_M_hashed_11 rfl ?_
    refine va_get (D := D) (ci := 12) (v := .int (u0 9)) (C := "CoinKeeperModel") (T := F_12) (N := 98) hx hb hts i_12 hown hK hP 6 rfl rfl 79 (by decide) (hts _ gw_1498) (fun _ h9 => h9) rfl d_M_hashed_12 ?_
    refine lv_iconst (v := 1) hx hb d_M_hashed_15 (by decide) ?_
    refine lv_isub hx hb d_M_hashed_16 ?_
    refine lv_topi (fun v2 ev => ?_)
    have hf := bn ev hf
    clear ev
    refine va_put (D := D) (ci := 12) (v := .int v2) (ty := .int) (C := "CoinKeeperModel") (T := F_12) (N := 98) hx hb hts i_12 t_12 t_12_ok n_12 hown hK hP hD hS 6 rfl rfl 79 (by decide) (hts _ gw_1498) (fun _ h9 => h9) rfl (by decide +kernel) rfl rfl (Nat.le_of_ble_eq_true rfl) d_M_hashed_17 (fun H locs hP hD hS => ?_)
    obtain ⟨z3, ev, hf⟩ := bne hf
    have hP : va_P D classes [((q 34), .inl (cy 1, 8, .inl u1)), ((q 35), .inl (cy 1, 64, .inl u2)), ((q 36), .inl (cy 0, 32, .inl u3)), ((q 37), .inl (cy 0, 100200, .inl u4)), ((q 68), .inl (cy 0, 104448, .inl u5)), ((q 69), .inl (cy 1, 408, .inl u6)), (o, .inr (12, mo q z3))] H := by rw [ev]; exact hP
    have hD : va_D A [((q 34), .inl (cy 1, 8, .inl u1)), ((q 35), .inl (cy 1, 64, .inl u2)), ((q 36), .inl (cy 0, 32, .inl u3)), ((q 37), .inl (cy 0, 100200, .inl u4)), ((q 68), .inl (cy 0, 104448, .inl u5)), ((q 69), .inl (cy 1, 408, .inl u6)), (o, .inr (12, mo q z3))] := by rw [ev]; exact hD
    clear ev
    refine lv_sipush (v := 256) hx hb d_M_hashed_20 (by decide) ?_
    refine lv_aload_n hx hb d_M_hashed_23 rfl (lv_at hl 0 rfl) ?_
    refine va_get (D := D) (ci := 12) (v := .int (z3 9)) (C := "CoinKeeperModel") (T := F_12) (N := 98) hx hb hts i_12 hown hK hP 6 rfl rfl 79 (by decide) (hts _ gw_1498) (fun _ h9 => h9) rfl d_M_hashed_24 ?_
    refine lv_imul hx hb d_M_hashed_27 ?_
    refine lv_topi (fun v4 ev => ?_)
    have hf := bn ev hf
    clear ev
    refine lv_istore_n (lv' := [(2, .int v4), (0, .ref o), (1, .int a1)]) hx hb d_M_hashed_28 rfl hl (by decide) rfl (fun ls hl => ?_)
    refine lv_aload_n hx hb d_M_hashed_29 rfl (lv_at hl 1 rfl) ?_
    refine va_get (D := D) (ci := 12) (v := .ref (q 69)) (C := "CoinKeeperModel") (T := F_12) (N := 98) hx hb hts i_12 hown hK hP 6 rfl rfl 78 (by decide) (hts _ gw_1497) (fun _ h9 => h9) rfl d_M_hashed_30 ?_
    refine lv_aload_n hx hb d_M_hashed_33 rfl (lv_at hl 1 rfl) ?_
    refine va_get (D := D) (ci := 12) (v := .int (z3 9)) (C := "CoinKeeperModel") (T := F_12) (N := 98) hx hb hts i_12 hown hK hP 6 rfl rfl 79 (by decide) (hts _ gw_1498) (fun _ h9 => h9) rfl d_M_hashed_34 ?_
    obtain ⟨hg, hf⟩ := gdp hf
    refine va_iald hx hb hK hP 5 1 rfl rfl (inb_in hg) d_M_hashed_37 ?_
    refine lv_topi (fun v5 ev => ?_)
    have hf := bn ev hf
    clear ev
    refine lv_istore_n (lv' := [(3, .int v5), (2, .int v4), (0, .ref o), (1, .int a1)]) hx hb d_M_hashed_38 rfl hl (by decide) rfl (fun ls hl => ?_)
    refine lv_iload_n hx hb d_M_hashed_39 rfl (lv_at hl 3 rfl) ?_
    refine lv_sipush (v := 166) hx hb d_M_hashed_40 (by decide) ?_
    refine lv_icmp_ne (tgt := 59) hx hb d_M_hashed_43 (by decide) (fun cx => ?_) (fun cx => ?_)
    · have hf := ifn cx hf
      refine lv_aload_n hx hb d_M_hashed_59 rfl (lv_at hl 2 rfl) ?_
      refine lv_aload_n hx hb d_M_hashed_60 rfl (lv_at hl 2 rfl) ?_
      refine va_get (D := D) (ci := 12) (v := .ref (q 68)) (C := "CoinKeeperModel") (T := F_12) (N := 98) hx hb hts i_12 hown hK hP 6 rfl rfl 77 (by decide) (hts _ gw_1496) (fun _ h9 => h9) rfl d_M_hashed_61 ?_
      refine lv_iload_n hx hb d_M_hashed_64 rfl (lv_at hl 1 rfl) ?_
      refine lv_iload_n hx hb d_M_hashed_65 rfl (lv_at hl 0 rfl) ?_
      obtain ⟨f6, f7, f8, f9, hc, hf⟩ := bdp4 hf
      refine q_av (wr := [((q 69), .inl (cy 1, 408, .inl u6))]) (va_runV (C := "CoinKeeperModel") (As := [.ref (q 68), .int v4, .int v5]) (rest := []) ⟨hx, hb, hml, hown, hts⟩ (c_M_sha l D cy ad fu o q (q 68) z3 104448 u5 v4 v5 u1 u2 u3 u4 _ hc H.size) ⟨q_cB hts gw_1765 gw_18 gw_1762 hdm_2 ⟨by decide, by decide⟩, hts _ gw_1764, hts _ gs_73⟩ (q_preV (q_pre (hP.sub [6, 0, 1, 2, 3, 4] rfl) (hD.sub [6, 0, 1, 2, 3, 4] (by decide) rfl) hK hSt hS (va_free hD hS hA [6, 0, 1, 2, 3, 4] rfl) _) (va_recv hK (hP.sub [6, 0, 1, 2, 3, 4] rfl) (ci := 12) (q0 := 0) rfl rfl)) rfl rfl hl.1 rfl (lv_room (Nat.le_of_ble_eq_true rfl)) d_M_hashed_66 ⟨Nat.le_of_ble_eq_true rfl, Nat.le_of_ble_eq_true rfl⟩) hP hD hS hA [6, 0, 1, 2, 3, 4] [5] rfl rfl (by decide) (by decide) (fun H locs hP hD hS => ?_)
      clear hc
      have hP : va_P D classes [((q 69), .inl (cy 1, 408, .inl u6)), (o, .inr (12, mo q z3)), ((q 34), .inl (cy 1, 8, .inl f6)), ((q 35), .inl (cy 1, 64, .inl f7)), ((q 36), .inl (cy 0, 32, .inl f8)), ((q 37), .inl (cy 0, 100200, .inl f9)), ((q 68), .inl (cy 0, 104448, .inl u5))] H := hP
      have hD : va_D A [((q 69), .inl (cy 1, 408, .inl u6)), (o, .inr (12, mo q z3)), ((q 34), .inl (cy 1, 8, .inl f6)), ((q 35), .inl (cy 1, 64, .inl f7)), ((q 36), .inl (cy 0, 32, .inl f8)), ((q 37), .inl (cy 0, 100200, .inl f9)), ((q 68), .inl (cy 0, 104448, .inl u5))] := hD
      refine lv_iload_n hx hb d_M_hashed_69 rfl (lv_at hl 3 rfl) ?_
      refine lv_sipush (v := 169) hx hb d_M_hashed_70 (by decide) ?_
      refine lv_icmp_ne (tgt := 87) hx hb d_M_hashed_73 (by decide) (fun cx => ?_) (fun cx => ?_)
      · have hf := ifn cx hf
        exact wb_M_hashed_87 (fu := fu) F _ _ _ _ _ _ _ _ _ hf _ _ _ (hP.sub (ws' := [(o, .inr (12, mo q z3)), ((q 34), .inl (cy 1, 8, .inl f6)), ((q 35), .inl (cy 1, 64, .inl f7)), ((q 36), .inl (cy 0, 32, .inl f8)), ((q 37), .inl (cy 0, 100200, .inl f9)), ((q 68), .inl (cy 0, 104448, .inl u5)), ((q 69), .inl (cy 1, 408, .inl u6))]) [1, 2, 3, 4, 5, 6, 0] rfl) (hD.sub (ws' := [(o, .inr (12, mo q z3)), ((q 34), .inl (cy 1, 8, .inl f6)), ((q 35), .inl (cy 1, 64, .inl f7)), ((q 36), .inl (cy 0, 32, .inl f8)), ((q 37), .inl (cy 0, 100200, .inl f9)), ((q 68), .inl (cy 0, 104448, .inl u5)), ((q 69), .inl (cy 1, 408, .inl u6))]) [1, 2, 3, 4, 5, 6, 0] (by decide) rfl) hS (lv_sub hl [2, 3] rfl)
      · have hf := ifp cx hf
        refine lv_aload_n hx hb d_M_hashed_76 rfl (lv_at hl 2 rfl) ?_
        refine lv_aload_n hx hb d_M_hashed_77 rfl (lv_at hl 2 rfl) ?_
        refine va_get (D := D) (ci := 12) (v := .ref (q 36)) (C := "CoinKeeperModel") (T := F_12) (N := 98) hx hb hts i_12 hown hK hP 1 rfl rfl 44 (by decide) (hts _ gw_1463) (fun _ h9 => h9) rfl d_M_hashed_78 ?_
        refine lv_iconst (v := 0) hx hb d_M_hashed_81 (by decide) ?_
        refine lv_bipush (v := 32) hx hb d_M_hashed_82 (by decide) ?_
        obtain ⟨f10, f11, hc, hf⟩ := bdp2 hf
        refine q_av (wr := [((q 69), .inl (cy 1, 408, .inl u6)), ((q 34), .inl (cy 1, 8, .inl f6)), ((q 35), .inl (cy 1, 64, .inl f7)), ((q 68), .inl (cy 0, 104448, .inl u5))]) (va_runV (C := "CoinKeeperModel") (As := [.ref (q 36), .int (0 : Int32), .int (32 : Int32)]) (rest := []) ⟨hx, hb, hml, hown, hts⟩ (c_M_ripemd_f1hash l D cy ad fu o q z3 (0 : Int32) (32 : Int32) f8 f9 _ hc H.size) ⟨q_cB hts gw_1930 gw_18 gw_1927 hdm_48 ⟨by decide, by decide⟩, hts _ gw_1929, hts _ gs_106⟩ (q_preV (q_pre (hP.sub [1, 4, 5] rfl) (hD.sub [1, 4, 5] (by decide) rfl) hK hSt hS (va_free hD hS hA [1, 4, 5] rfl) _) (va_recv hK (hP.sub [1, 4, 5] rfl) (ci := 12) (q0 := 0) rfl rfl)) rfl rfl hl.1 rfl (lv_room (Nat.le_of_ble_eq_true rfl)) d_M_hashed_84 ⟨Nat.le_of_ble_eq_true rfl, Nat.le_of_ble_eq_true rfl⟩) hP hD hS hA [1, 4, 5] [0, 2, 3, 6] rfl rfl (by decide) (by decide) (fun H locs hP hD hS => ?_)
        clear hc
        have hP : va_P D classes [((q 69), .inl (cy 1, 408, .inl u6)), ((q 34), .inl (cy 1, 8, .inl f6)), ((q 35), .inl (cy 1, 64, .inl f7)), ((q 68), .inl (cy 0, 104448, .inl u5)), (o, .inr (12, mo q z3)), ((q 36), .inl (cy 0, 32, .inl f10)), ((q 37), .inl (cy 0, 100200, .inl f11))] H := hP
        have hD : va_D A [((q 69), .inl (cy 1, 408, .inl u6)), ((q 34), .inl (cy 1, 8, .inl f6)), ((q 35), .inl (cy 1, 64, .inl f7)), ((q 68), .inl (cy 0, 104448, .inl u5)), (o, .inr (12, mo q z3)), ((q 36), .inl (cy 0, 32, .inl f10)), ((q 37), .inl (cy 0, 100200, .inl f11))] := hD
        exact wb_M_hashed_87 (fu := fu) F _ _ _ _ _ _ _ _ _ hf _ _ _ (hP.sub (ws' := [(o, .inr (12, mo q z3)), ((q 34), .inl (cy 1, 8, .inl f6)), ((q 35), .inl (cy 1, 64, .inl f7)), ((q 36), .inl (cy 0, 32, .inl f10)), ((q 37), .inl (cy 0, 100200, .inl f11)), ((q 68), .inl (cy 0, 104448, .inl u5)), ((q 69), .inl (cy 1, 408, .inl u6))]) [4, 1, 2, 5, 6, 3, 0] rfl) (hD.sub (ws' := [(o, .inr (12, mo q z3)), ((q 34), .inl (cy 1, 8, .inl f6)), ((q 35), .inl (cy 1, 64, .inl f7)), ((q 36), .inl (cy 0, 32, .inl f10)), ((q 37), .inl (cy 0, 100200, .inl f11)), ((q 68), .inl (cy 0, 104448, .inl u5)), ((q 69), .inl (cy 1, 408, .inl u6))]) [4, 1, 2, 5, 6, 3, 0] (by decide) rfl) hS (lv_sub hl [2, 3] rfl)
    · have hf := ifp cx hf
      refine lv_aload_n hx hb d_M_hashed_46 rfl (lv_at hl 2 rfl) ?_
      refine lv_aload_n hx hb d_M_hashed_47 rfl (lv_at hl 2 rfl) ?_
      refine va_get (D := D) (ci := 12) (v := .ref (q 68)) (C := "CoinKeeperModel") (T := F_12) (N := 98) hx hb hts i_12 hown hK hP 6 rfl rfl 77 (by decide) (hts _ gw_1496) (fun _ h9 => h9) rfl d_M_hashed_48 ?_
      refine lv_iload_n hx hb d_M_hashed_51 rfl (lv_at hl 1 rfl) ?_
      refine lv_iload_n hx hb d_M_hashed_52 rfl (lv_at hl 0 rfl) ?_
      obtain ⟨f12, f13, hc, hf⟩ := bdp2 hf
      refine q_av (wr := [((q 34), .inl (cy 1, 8, .inl u1)), ((q 35), .inl (cy 1, 64, .inl u2)), ((q 69), .inl (cy 1, 408, .inl u6))]) (va_runV (C := "CoinKeeperModel") (As := [.ref (q 68), .int v4, .int v5]) (rest := []) ⟨hx, hb, hml, hown, hts⟩ (c_M_ripemd l D cy ad fu o q (q 68) z3 104448 u5 v4 v5 u3 u4 _ hc H.size) ⟨q_cB hts gw_1930 gw_18 gw_1927 hdm_48 ⟨by decide, by decide⟩, hts _ gw_1929, hts _ gs_106⟩ (q_preV (q_pre (hP.sub [6, 2, 3, 4] rfl) (hD.sub [6, 2, 3, 4] (by decide) rfl) hK hSt hS (va_free hD hS hA [6, 2, 3, 4] rfl) _) (va_recv hK (hP.sub [6, 2, 3, 4] rfl) (ci := 12) (q0 := 0) rfl rfl)) rfl rfl hl.1 rfl (lv_room (Nat.le_of_ble_eq_true rfl)) d_M_hashed_53 ⟨Nat.le_of_ble_eq_true rfl, Nat.le_of_ble_eq_true rfl⟩) hP hD hS hA [6, 2, 3, 4] [0, 1, 5] rfl rfl (by decide) (by decide) (fun H locs hP hD hS => ?_)
      clear hc
      have hP : va_P D classes [((q 34), .inl (cy 1, 8, .inl u1)), ((q 35), .inl (cy 1, 64, .inl u2)), ((q 69), .inl (cy 1, 408, .inl u6)), (o, .inr (12, mo q z3)), ((q 36), .inl (cy 0, 32, .inl f12)), ((q 37), .inl (cy 0, 100200, .inl f13)), ((q 68), .inl (cy 0, 104448, .inl u5))] H := hP
      have hD : va_D A [((q 34), .inl (cy 1, 8, .inl u1)), ((q 35), .inl (cy 1, 64, .inl u2)), ((q 69), .inl (cy 1, 408, .inl u6)), (o, .inr (12, mo q z3)), ((q 36), .inl (cy 0, 32, .inl f12)), ((q 37), .inl (cy 0, 100200, .inl f13)), ((q 68), .inl (cy 0, 104448, .inl u5))] := hD
      refine lv_goto (tgt := 105) hx hb d_M_hashed_56 (by decide) ?_
      exact wb_M_hashed_105 (fu := fu) F _ _ _ _ _ _ _ _ _ hf _ _ _ (hP.sub (ws' := [(o, .inr (12, mo q z3)), ((q 34), .inl (cy 1, 8, .inl u1)), ((q 35), .inl (cy 1, 64, .inl u2)), ((q 36), .inl (cy 0, 32, .inl f12)), ((q 37), .inl (cy 0, 100200, .inl f13)), ((q 68), .inl (cy 0, 104448, .inl u5)), ((q 69), .inl (cy 1, 408, .inl u6))]) [3, 0, 1, 4, 5, 6, 2] rfl) (hD.sub (ws' := [(o, .inr (12, mo q z3)), ((q 34), .inl (cy 1, 8, .inl u1)), ((q 35), .inl (cy 1, 64, .inl u2)), ((q 36), .inl (cy 0, 32, .inl f12)), ((q 37), .inl (cy 0, 100200, .inl f13)), ((q 68), .inl (cy 0, 104448, .inl u5)), ((q 69), .inl (cy 1, 408, .inl u6))]) [3, 0, 1, 4, 5, 6, 2] (by decide) rfl) hS (lv_sub hl [2, 3] rfl)
  · have hf := ifp cx hf
    refine lv_iconst (v := 0) hx hb d_M_hashed_8 (by decide) ?_
    obtain rfl := Option.some.inj hf
    exact q_rz hx hb hr hlocks hK (hP.sub [6, 0, 1, 2, 3, 4, 5] rfl) (hD.sub [6, 0, 1, 2, 3, 4, 5] (by decide) rfl) hS (isb_n (v := 0) (by decide)) d_M_hashed_9
theorem c_M_hashed (l : Launch) (D : va_G) (cy : Nat → ClassId) (ad : Nat → Nat) (fu : Nat) (o : Nat) (q : Nat → Nat) (a1 : Int32) (u0 : Nat → Int32) (u1 : Nat → Int32) (u2 : Nat → Int32) (u3 : Nat → Int32) (u4 : Nat → Int32) (u5 : Nat → Int32) (u6 : Nat → Int32) (res : Int32 × (Nat → Int32) × (Nat → Int32) × (Nat → Int32) × (Nat → Int32) × (Nat → Int32) × (Nat → Int32) × (Nat → Int32)) (hf : x_M_hashed fu a1 u0 u1 u2 u3 u4 u5 u6 = some res) (sz : Nat) : Met l ({ cls := "CoinKeeperModel", name := "hashed", desc := "(I)Z" } : Jvm.MethodName) (.code ({ cls := "CoinKeeperModel", name := "hashed", desc := "(I)Z" } : Jvm.MethodName) b_M_hashed 4 (some .boolean) :: gw) rm_M_hashed (va_Pc [.ref o, .int a1] (Pr D cy ad [(o, .inr (12, mo q u0)), ((q 34), .inl (cy 1, 8, .inl u1)), ((q 35), .inl (cy 1, 64, .inl u2)), ((q 36), .inl (cy 0, 32, .inl u3)), ((q 37), .inl (cy 0, 100200, .inl u4)), ((q 68), .inl (cy 0, 104448, .inl u5)), ((q 69), .inl (cy 1, 408, .inl u6))] sz)) (q_M_hashed D cy (va_A [(o, .inr (12, mo q u0)), ((q 34), .inl (cy 1, 8, .inl u1)), ((q 35), .inl (cy 1, 64, .inl u2)), ((q 36), .inl (cy 0, 32, .inl u3)), ((q 37), .inl (cy 0, 100200, .inl u4)), ((q 68), .inl (cy 0, 104448, .inl u5)), ((q 69), .inl (cy 1, 408, .inl u6))] sz) o q res) 0 0 (va_A [(o, .inr (12, mo q u0)), ((q 34), .inl (cy 1, 8, .inl u1)), ((q 35), .inl (cy 1, 64, .inl u2)), ((q 36), .inl (cy 0, 32, .inl u3)), ((q 37), .inl (cy 0, 100200, .inl u4)), ((q 68), .inl (cy 0, 104448, .inl u5)), ((q 69), .inl (cy 1, 408, .inl u6))] sz) :=
  q_met (Qc := fun A => q_M_hashed D cy A o q res) (by decide) rfl rfl (Nat.le_of_ble_eq_true rfl) (fun p e s m below meth c ls F hP hD hS hl => we_M_hashed (fu := fu) F a1 u0 u1 u2 u3 u4 u5 u6 res hf _ _ _ hP hD hS hl) sz
abbrev b_M_isSame : ByteArray := prog_14_method_47_code
theorem d_M_isSame_0 : decode b_M_isSame 0 = .ok (.aload_n 0, 1) := by decide +kernel
theorem d_M_isSame_1 : decode b_M_isSame 1 = .ok (.getfield 224, 3) := by decide +kernel
theorem d_M_isSame_4 : decode b_M_isSame 4 = .ok (.iload_n 1, 1) := by decide +kernel
theorem d_M_isSame_5 : decode b_M_isSame 5 = .ok (.iaload, 1) := by decide +kernel
theorem d_M_isSame_6 : decode b_M_isSame 6 = .ok (.aload_n 0, 1) := by decide +kernel
theorem d_M_isSame_7 : decode b_M_isSame 7 = .ok (.getfield 224, 3) := by decide +kernel
theorem d_M_isSame_10 : decode b_M_isSame 10 = .ok (.iload_n 2, 1) := by decide +kernel
theorem d_M_isSame_11 : decode b_M_isSame 11 = .ok (.iaload, 1) := by decide +kernel
theorem d_M_isSame_12 : decode b_M_isSame 12 = .ok (.if_icmp .eq 5, 3) := by decide +kernel
theorem d_M_isSame_15 : decode b_M_isSame 15 = .ok (.iconst 0, 1) := by decide +kernel
theorem d_M_isSame_16 : decode b_M_isSame 16 = .ok (.ireturn, 1) := by decide +kernel
theorem d_M_isSame_17 : decode b_M_isSame 17 = .ok (.iconst 0, 1) := by decide +kernel
theorem d_M_isSame_18 : decode b_M_isSame 18 = .ok (.istore_n 3, 1) := by decide +kernel
theorem d_M_isSame_19 : decode b_M_isSame 19 = .ok (.iload_n 3, 1) := by decide +kernel
theorem d_M_isSame_20 : decode b_M_isSame 20 = .ok (.aload_n 0, 1) := by decide +kernel
theorem d_M_isSame_21 : decode b_M_isSame 21 = .ok (.getfield 224, 3) := by decide +kernel
theorem d_M_isSame_24 : decode b_M_isSame 24 = .ok (.iload_n 1, 1) := by decide +kernel
theorem d_M_isSame_25 : decode b_M_isSame 25 = .ok (.iaload, 1) := by decide +kernel
theorem d_M_isSame_26 : decode b_M_isSame 26 = .ok (.if_icmp .ge 38, 3) := by decide +kernel
theorem d_M_isSame_29 : decode b_M_isSame 29 = .ok (.aload_n 0, 1) := by decide +kernel
theorem d_M_isSame_30 : decode b_M_isSame 30 = .ok (.getfield 221, 3) := by decide +kernel
theorem d_M_isSame_33 : decode b_M_isSame 33 = .ok (.sipush 256, 3) := by decide +kernel
theorem d_M_isSame_36 : decode b_M_isSame 36 = .ok (.iload_n 1, 1) := by decide +kernel
theorem d_M_isSame_37 : decode b_M_isSame 37 = .ok (.imul, 1) := by decide +kernel
theorem d_M_isSame_38 : decode b_M_isSame 38 = .ok (.iload_n 3, 1) := by decide +kernel
theorem d_M_isSame_39 : decode b_M_isSame 39 = .ok (.iadd, 1) := by decide +kernel
theorem d_M_isSame_40 : decode b_M_isSame 40 = .ok (.baload, 1) := by decide +kernel
theorem d_M_isSame_41 : decode b_M_isSame 41 = .ok (.aload_n 0, 1) := by decide +kernel
theorem d_M_isSame_42 : decode b_M_isSame 42 = .ok (.getfield 221, 3) := by decide +kernel
theorem d_M_isSame_45 : decode b_M_isSame 45 = .ok (.sipush 256, 3) := by decide +kernel
theorem d_M_isSame_48 : decode b_M_isSame 48 = .ok (.iload_n 2, 1) := by decide +kernel
theorem d_M_isSame_49 : decode b_M_isSame 49 = .ok (.imul, 1) := by decide +kernel
theorem d_M_isSame_50 : decode b_M_isSame 50 = .ok (.iload_n 3, 1) := by decide +kernel
theorem d_M_isSame_51 : decode b_M_isSame 51 = .ok (.iadd, 1) := by decide +kernel
theorem d_M_isSame_52 : decode b_M_isSame 52 = .ok (.baload, 1) := by decide +kernel
theorem d_M_isSame_53 : decode b_M_isSame 53 = .ok (.if_icmp .eq 5, 3) := by decide +kernel
theorem d_M_isSame_56 : decode b_M_isSame 56 = .ok (.iconst 0, 1) := by decide +kernel
theorem d_M_isSame_57 : decode b_M_isSame 57 = .ok (.ireturn, 1) := by decide +kernel
theorem d_M_isSame_58 : decode b_M_isSame 58 = .ok (.iinc 3 1, 3) := by decide +kernel
theorem d_M_isSame_61 : decode b_M_isSame 61 = .ok (.goto (-42), 3) := by decide +kernel
theorem d_M_isSame_64 : decode b_M_isSame 64 = .ok (.iconst 1, 1) := by decide +kernel
theorem d_M_isSame_65 : decode b_M_isSame 65 = .ok (.ireturn, 1) := by decide +kernel
abbrev rm_M_isSame : Room := { frames := 0, cells := 0, slots := 0, locals := 0 }
abbrev q_M_isSame (D : va_G) (cy : Nat → ClassId) (A : Nat → Prop) (o : Nat) (q : Nat → Nat) (z : Nat → Int32) (g_thing : Nat → Int32) (g_size : Nat → Int32) (res : Int32) : Array Value → State → Outcome → State → Prop := va_Qi (fun r' (_ : Unit) => r' = res) (fun _ t => Po D cy A [(o, .inr (12, mo q z)), ((q 68), .inl (cy 0, 104448, .inl g_thing)), ((q 69), .inl (cy 1, 408, .inl g_size))] t) A
def I_M_isSame_19 (p : Program) (l : Launch) (e : Env) (s : State) (m : MethodId) (args : Array Value) (below : List Frame) (meth : Method) (c : Code) (D : va_G) (cy : Nat → ClassId) (A : Nat → Prop) (ad : Nat → Nat) (o : Nat) (q : Nat → Nat) (z : Nat → Int32) (g_thing : Nat → Int32) (g_size : Nat → Int32) (k : Int32 → Int32 → Int32 → Option (Int32)) : Prop :=
  ∀ (x1 : Int32) (x2 : Int32) (x3 : Int32) (res : Int32), k x1 x2 x3 = some res → ∀ (H : Heap) (locs : List Loc) (ls : Array Slot), va_P D classes [(o, .inr (12, mo q z)), ((q 68), .inl (cy 0, 104448, .inl g_thing)), ((q 69), .inl (cy 1, 408, .inl g_size))] H → va_D A [(o, .inr (12, mo q z)), ((q 68), .inl (cy 0, 104448, .inl g_thing)), ((q 69), .inl (cy 1, 408, .inl g_size))] → va_S A s.heap H locs → lv_has ls 4 [(0, .ref o), (1, .int x1), (2, .int x2), (3, .int x3)] → W p l e rm_M_isSame s m args below meth c H locs 0 0 (MQ below (q_M_isSame D cy A o q z g_thing g_size res) args s 0 0 A) (F0 m 19 ls [])
def I_M_isSame_e (p : Program) (l : Launch) (e : Env) (s : State) (m : MethodId) (args : Array Value) (below : List Frame) (meth : Method) (c : Code) (D : va_G) (cy : Nat → ClassId) (A : Nat → Prop) (ad : Nat → Nat) (o : Nat) (q : Nat → Nat) (z : Nat → Int32) (g_thing : Nat → Int32) (g_size : Nat → Int32) (k : Int32 → Int32 → Option (Int32)) : Prop :=
  ∀ (a1 : Int32) (a2 : Int32) (res : Int32), k a1 a2 = some res → ∀ (H : Heap) (locs : List Loc) (ls : Array Slot), va_P D classes [(o, .inr (12, mo q z)), ((q 68), .inl (cy 0, 104448, .inl g_thing)), ((q 69), .inl (cy 1, 408, .inl g_size))] H → va_D A [(o, .inr (12, mo q z)), ((q 68), .inl (cy 0, 104448, .inl g_thing)), ((q 69), .inl (cy 1, 408, .inl g_size))] → va_S A s.heap H locs → lv_has ls 4 [(0, .ref o), (1, .int a1), (2, .int a2)] → W p l e rm_M_isSame s m args below meth c H locs 0 0 (MQ below (q_M_isSame D cy A o q z g_thing g_size res) args s 0 0 A) (F0 m 0 ls [])
set_option maxHeartbeats 8000000 in
set_option maxRecDepth 100000 in
theorem wb_M_isSame_19 {p : Program} {l : Launch} {e : Env} {s : State} {m : MethodId} {args : Array Value} {below : List Frame} {meth : Method} {c : Code} {D : va_G} {cy : Nat → ClassId} {A : Nat → Prop} {ad : Nat → Nat} {o : Nat} {q : Nat → Nat} {z : Nat → Int32} {g_thing : Nat → Int32} {g_size : Nat → Int32} {fu : Nat} {k_19 : Int32 → Int32 → Int32 → Option (Int32)} (F : Fx p s m args meth c b_M_isSame 4 "CoinKeeperModel" "isSame" (some .boolean) D cy ad A) (hk_19 : I_M_isSame_19 p l e s m args below meth c D cy A ad o q z g_thing g_size k_19) : I_M_isSame_19 p l e s m args below meth c D cy A ad o q z g_thing g_size (xb_M_isSame_19 fu z g_thing g_size k_19) := by
  obtain ⟨hx, hb, hr, hml, hown, hts, hlocks, hK, hA, hSt, hnm, hex⟩ := id F
  intro x1 x2 x3 res hf H locs ls hP hD hS hl
  unfold xb_M_isSame_19 at hf
  refine lv_iload_n hx hb d_M_isSame_19 rfl (lv_at hl 3 rfl) ?_
  refine lv_aload_n hx hb d_M_isSame_20 rfl (lv_at hl 0 rfl) ?_
  refine va_get (D := D) (ci := 12) (v := .ref (q 69)) (C := "CoinKeeperModel") (T := F_12) (N := 98) hx hb hts i_12 hown hK hP 0 rfl rfl 78 (by decide) (hts _ gw_1497) (fun _ h9 => h9) rfl d_M_isSame_21 ?_
  refine lv_iload_n hx hb d_M_isSame_24 rfl (lv_at hl 1 rfl) ?_
  obtain ⟨hg, hf⟩ := gdp hf
  refine va_iald hx hb hK hP 2 1 rfl rfl (inb_in hg) d_M_isSame_25 ?_
  refine lv_topi (fun v1 ev => ?_)
  have hf := bn ev hf
  clear ev
  refine lv_icmp_ge (tgt := 64) hx hb d_M_isSame_26 (by decide) (fun cx => ?_) (fun cx => ?_)
  · have hf := ifp cx hf
    refine lv_iconst (v := 1) hx hb d_M_isSame_64 (by decide) ?_
    obtain rfl := Option.some.inj hf
    exact q_rz hx hb hr hlocks hK hP hD hS (isb_n (v := 1) (by decide)) d_M_isSame_65
  · have hf := ifn cx hf
    refine lv_aload_n hx hb d_M_isSame_29 rfl (lv_at hl 0 rfl) ?_
    refine va_get (D := D) (ci := 12) (v := .ref (q 68)) (C := "CoinKeeperModel") (T := F_12) (N := 98) hx hb hts i_12 hown hK hP 0 rfl rfl 77 (by decide) (hts _ gw_1496) (fun _ h9 => h9) rfl d_M_isSame_30 ?_
    refine lv_sipush (v := 256) hx hb d_M_isSame_33 (by decide) ?_
    refine lv_iload_n hx hb d_M_isSame_36 rfl (lv_at hl 1 rfl) ?_
    refine lv_imul hx hb d_M_isSame_37 ?_
    refine lv_topi (fun v2 ev => ?_)
    have hf := bn ev hf
    clear ev
    refine lv_iload_n hx hb d_M_isSame_38 rfl (lv_at hl 3 rfl) ?_
    refine lv_iadd hx hb d_M_isSame_39 ?_
    refine lv_topi (fun v3 ev => ?_)
    have hf := bn ev hf
    clear ev
    obtain ⟨hg, hf⟩ := gdp hf
    refine va_bald hx hb hK hP 1 0 rfl rfl (inb_in hg) d_M_isSame_40 ?_
    refine lv_topi (fun v4 ev => ?_)
    have hf := bn ev hf
    clear ev
    refine lv_aload_n hx hb d_M_isSame_41 rfl (lv_at hl 0 rfl) ?_
    refine va_get (D := D) (ci := 12) (v := .ref (q 68)) (C := "CoinKeeperModel") (T := F_12) (N := 98) hx hb hts i_12 hown hK hP 0 rfl rfl 77 (by decide) (hts _ gw_1496) (fun _ h9 => h9) rfl d_M_isSame_42 ?_
    refine lv_sipush (v := 256) hx hb d_M_isSame_45 (by decide) ?_
    refine lv_iload_n hx hb d_M_isSame_48 rfl (lv_at hl 2 rfl) ?_
    refine lv_imul hx hb d_M_isSame_49 ?_
    refine lv_topi (fun v5 ev => ?_)
    have hf := bn ev hf
    clear ev
    refine lv_iload_n hx hb d_M_isSame_50 rfl (lv_at hl 3 rfl) ?_
    refine lv_iadd hx hb d_M_isSame_51 ?_
    refine lv_topi (fun v6 ev => ?_)
    have hf := bn ev hf
    clear ev
    obtain ⟨hg, hf⟩ := gdp hf
    refine va_bald hx hb hK hP 1 0 rfl rfl (inb_in hg) d_M_isSame_52 ?_
    refine lv_topi (fun v7 ev => ?_)
    have hf := bn ev hf
    clear ev
    refine lv_icmp_eq (tgt := 58) hx hb d_M_isSame_53 (by decide) (fun cx => ?_) (fun cx => ?_)
    · have hf := ifp cx hf
      obtain ⟨v8, ev, hf⟩ := bne hf
      refine lv_iinc (v := v8) (lv' := [(3, .int v8), (0, .ref o), (1, .int x1), (2, .int x2)]) hx hb d_M_isSame_58 hl (k := 3) rfl (by rw [ev]; rfl) (by decide) rfl (fun ls hl => ?_)
      clear ev
      refine lv_goto (tgt := 19) hx hb d_M_isSame_61 (by decide) ?_
      exact hk_19 _ _ _ _ hf _ _ _ hP hD hS (lv_sub hl [1, 2, 3, 0] rfl)
    · have hf := ifn cx hf
      refine lv_iconst (v := 0) hx hb d_M_isSame_56 (by decide) ?_
      obtain rfl := Option.some.inj hf
      exact q_rz hx hb hr hlocks hK hP hD hS (isb_n (v := 0) (by decide)) d_M_isSame_57
theorem w_M_isSame_19 {p : Program} {l : Launch} {e : Env} {s : State} {m : MethodId} {args : Array Value} {below : List Frame} {meth : Method} {c : Code} {D : va_G} {cy : Nat → ClassId} {A : Nat → Prop} {ad : Nat → Nat} {o : Nat} {q : Nat → Nat} {z : Nat → Int32} {g_thing : Nat → Int32} {g_size : Nat → Int32} {fu : Nat} (F : Fx p s m args meth c b_M_isSame 4 "CoinKeeperModel" "isSame" (some .boolean) D cy ad A) : ∀ n : Nat, I_M_isSame_19 p l e s m args below meth c D cy A ad o q z g_thing g_size (x_M_isSame_19 fu z g_thing g_size n)
  | 0 => fun _ _ _ _ hf => nomatch (show (none : Option (Int32)) = some _ from hf)
  | n + 1 => wb_M_isSame_19 F (w_M_isSame_19 F n)
set_option maxHeartbeats 8000000 in
set_option maxRecDepth 100000 in
theorem we_M_isSame {p : Program} {l : Launch} {e : Env} {s : State} {m : MethodId} {args : Array Value} {below : List Frame} {meth : Method} {c : Code} {D : va_G} {cy : Nat → ClassId} {A : Nat → Prop} {ad : Nat → Nat} {o : Nat} {q : Nat → Nat} {z : Nat → Int32} {g_thing : Nat → Int32} {g_size : Nat → Int32} {fu : Nat} (F : Fx p s m args meth c b_M_isSame 4 "CoinKeeperModel" "isSame" (some .boolean) D cy ad A) : I_M_isSame_e p l e s m args below meth c D cy A ad o q z g_thing g_size (x_M_isSame fu z g_thing g_size) := by
  obtain ⟨hx, hb, hr, hml, hown, hts, hlocks, hK, hA, hSt, hnm, hex⟩ := id F
  intro a1 a2 res hf H locs ls hP hD hS hl
  unfold x_M_isSame at hf
  refine lv_aload_n hx hb d_M_isSame_0 rfl (lv_at hl 0 rfl) ?_
  refine va_get (D := D) (ci := 12) (v := .ref (q 69)) (C := "CoinKeeperModel") (T := F_12) (N := 98) hx hb hts i_12 hown hK hP 0 rfl rfl 78 (by decide) (hts _ gw_1497) (fun _ h9 => h9) rfl d_M_isSame_1 ?_
  refine lv_iload_n hx hb d_M_isSame_4 rfl (lv_at hl 1 rfl) ?_
  obtain ⟨hg, hf⟩ := gdp hf
  refine va_iald hx hb hK hP 2 1 rfl rfl (inb_in hg) d_M_isSame_5 ?_
  refine lv_topi (fun v1 ev => ?_)
  have hf := bn ev hf
  clear ev
  refine lv_aload_n hx hb d_M_isSame_6 rfl (lv_at hl 0 rfl) ?_
  refine va_get (D := D) (ci := 12) (v := .ref (q 69)) (C := "CoinKeeperModel") (T := F_12) (N := 98) hx hb hts i_12 hown hK hP 0 rfl rfl 78 (by decide) (hts _ gw_1497) (fun _ h9 => h9) rfl d_M_isSame_7 ?_
  refine lv_iload_n hx hb d_M_isSame_10 rfl (lv_at hl 2 rfl) ?_
  obtain ⟨hg, hf⟩ := gdp hf
  refine va_iald hx hb hK hP 2 1 rfl rfl (inb_in hg) d_M_isSame_11 ?_
  refine lv_topi (fun v2 ev => ?_)
  have hf := bn ev hf
  clear ev
  refine lv_icmp_eq (tgt := 17) hx hb d_M_isSame_12 (by decide) (fun cx => ?_) (fun cx => ?_)
  · have hf := ifp cx hf
    refine lv_iconst (v := 0) hx hb d_M_isSame_17 (by decide) ?_
    refine lv_istore_n (lv' := [(3, .int (0 : Int32)), (0, .ref o), (1, .int a1), (2, .int a2)]) hx hb d_M_isSame_18 rfl hl (by decide) rfl (fun ls hl => ?_)
    exact w_M_isSame_19 F fu _ _ _ _ hf _ _ _ hP hD hS (lv_sub hl [1, 2, 3, 0] rfl)
  · have hf := ifn cx hf
    refine lv_iconst (v := 0) hx hb d_M_isSame_15 (by decide) ?_
    obtain rfl := Option.some.inj hf
    exact q_rz hx hb hr hlocks hK hP hD hS (isb_n (v := 0) (by decide)) d_M_isSame_16
theorem c_M_isSame (l : Launch) (D : va_G) (cy : Nat → ClassId) (ad : Nat → Nat) (fu : Nat) (o : Nat) (q : Nat → Nat) (z : Nat → Int32) (g_thing : Nat → Int32) (g_size : Nat → Int32) (a1 : Int32) (a2 : Int32) (res : Int32) (hf : x_M_isSame fu z g_thing g_size a1 a2 = some res) (sz : Nat) : Met l ({ cls := "CoinKeeperModel", name := "isSame", desc := "(II)Z" } : Jvm.MethodName) (.code ({ cls := "CoinKeeperModel", name := "isSame", desc := "(II)Z" } : Jvm.MethodName) b_M_isSame 4 (some .boolean) :: gw) rm_M_isSame (va_Pc [.ref o, .int a1, .int a2] (Pr D cy ad [(o, .inr (12, mo q z)), ((q 68), .inl (cy 0, 104448, .inl g_thing)), ((q 69), .inl (cy 1, 408, .inl g_size))] sz)) (q_M_isSame D cy (va_A [(o, .inr (12, mo q z)), ((q 68), .inl (cy 0, 104448, .inl g_thing)), ((q 69), .inl (cy 1, 408, .inl g_size))] sz) o q z g_thing g_size res) 0 0 (va_A [(o, .inr (12, mo q z)), ((q 68), .inl (cy 0, 104448, .inl g_thing)), ((q 69), .inl (cy 1, 408, .inl g_size))] sz) :=
  q_met (Qc := fun A => q_M_isSame D cy A o q z g_thing g_size res) (by decide) rfl rfl (Nat.le_of_ble_eq_true rfl) (fun p e s m below meth c ls F hP hD hS hl => we_M_isSame (fu := fu) F a1 a2 res hf _ _ _ hP hD hS hl) sz
