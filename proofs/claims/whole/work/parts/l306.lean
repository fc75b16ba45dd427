abbrev b_M_isKey : ByteArray := prog_14_method_33_code
theorem d_M_isKey_0 : decode b_M_isKey 0 = .ok (.iload_n 3, 1) := by decide +kernel
theorem d_M_isKey_1 : decode b_M_isKey 1 = .ok (.ifCond .le 9, 3) := by decide +kernel
theorem d_M_isKey_4 : decode b_M_isKey 4 = .ok (.aload_n 1, 1) := by decide +kernel
theorem d_M_isKey_5 : decode b_M_isKey 5 = .ok (.iload_n 2, 1) := by decide +kernel
theorem d_M_isKey_6 : decode b_M_isKey 6 = .ok (.baload, 1) := by decide +kernel
theorem d_M_isKey_7 : decode b_M_isKey 7 = .ok (.goto 4, 3) := by decide +kernel
theorem d_M_isKey_10 : decode b_M_isKey 10 = .ok (.iconst 0, 1) := by decide +kernel
theorem d_M_isKey_11 : decode b_M_isKey 11 = .ok (.istore 4, 2) := by decide +kernel
theorem d_M_isKey_13 : decode b_M_isKey 13 = .ok (.iload_n 3, 1) := by decide +kernel
theorem d_M_isKey_14 : decode b_M_isKey 14 = .ok (.bipush 33, 2) := by decide +kernel
theorem d_M_isKey_16 : decode b_M_isKey 16 = .ok (.if_icmp .ne 15, 3) := by decide +kernel
theorem d_M_isKey_19 : decode b_M_isKey 19 = .ok (.iload 4, 2) := by decide +kernel
theorem d_M_isKey_21 : decode b_M_isKey 21 = .ok (.iconst 2, 1) := by decide +kernel
theorem d_M_isKey_22 : decode b_M_isKey 22 = .ok (.if_icmp .eq 23, 3) := by decide +kernel
theorem d_M_isKey_25 : decode b_M_isKey 25 = .ok (.iload 4, 2) := by decide +kernel
theorem d_M_isKey_27 : decode b_M_isKey 27 = .ok (.iconst 3, 1) := by decide +kernel
theorem d_M_isKey_28 : decode b_M_isKey 28 = .ok (.if_icmp .eq 17, 3) := by decide +kernel
theorem d_M_isKey_31 : decode b_M_isKey 31 = .ok (.iload_n 3, 1) := by decide +kernel
theorem d_M_isKey_32 : decode b_M_isKey 32 = .ok (.bipush 65, 2) := by decide +kernel
theorem d_M_isKey_34 : decode b_M_isKey 34 = .ok (.if_icmp .ne 9, 3) := by decide +kernel
theorem d_M_isKey_37 : decode b_M_isKey 37 = .ok (.iload 4, 2) := by decide +kernel
theorem d_M_isKey_39 : decode b_M_isKey 39 = .ok (.iconst 4, 1) := by decide +kernel
theorem d_M_isKey_40 : decode b_M_isKey 40 = .ok (.if_icmp .eq 5, 3) := by decide +kernel
theorem d_M_isKey_43 : decode b_M_isKey 43 = .ok (.iconst 0, 1) := by decide +kernel
theorem d_M_isKey_44 : decode b_M_isKey 44 = .ok (.ireturn, 1) := by decide +kernel
theorem d_M_isKey_45 : decode b_M_isKey 45 = .ok (.aload_n 0, 1) := by decide +kernel
theorem d_M_isKey_46 : decode b_M_isKey 46 = .ok (.getfield 181, 3) := by decide +kernel
theorem d_M_isKey_49 : decode b_M_isKey 49 = .ok (.aload_n 1, 1) := by decide +kernel
theorem d_M_isKey_50 : decode b_M_isKey 50 = .ok (.iload_n 2, 1) := by decide +kernel
theorem d_M_isKey_51 : decode b_M_isKey 51 = .ok (.iconst 1, 1) := by decide +kernel
theorem d_M_isKey_52 : decode b_M_isKey 52 = .ok (.iadd, 1) := by decide +kernel
theorem d_M_isKey_53 : decode b_M_isKey 53 = .ok (.bipush 32, 2) := by decide +kernel
theorem d_M_isKey_55 : decode b_M_isKey 55 = .ok (.invokestatic 405, 3) := by decide +kernel
theorem d_M_isKey_58 : decode b_M_isKey 58 = .ok (.aload_n 0, 1) := by decide +kernel
theorem d_M_isKey_59 : decode b_M_isKey 59 = .ok (.getfield 181, 3) := by decide +kernel
theorem d_M_isKey_62 : decode b_M_isKey 62 = .ok (.getstatic 375, 3) := by decide +kernel
theorem d_M_isKey_65 : decode b_M_isKey 65 = .ok (.invokestatic 346, 3) := by decide +kernel
theorem d_M_isKey_68 : decode b_M_isKey 68 = .ok (.ifCond .lt 5, 3) := by decide +kernel
theorem d_M_isKey_71 : decode b_M_isKey 71 = .ok (.iconst 0, 1) := by decide +kernel
theorem d_M_isKey_72 : decode b_M_isKey 72 = .ok (.ireturn, 1) := by decide +kernel
theorem d_M_isKey_73 : decode b_M_isKey 73 = .ok (.aload_n 0, 1) := by decide +kernel
theorem d_M_isKey_74 : decode b_M_isKey 74 = .ok (.aload_n 0, 1) := by decide +kernel
theorem d_M_isKey_75 : decode b_M_isKey 75 = .ok (.getfield 172, 3) := by decide +kernel
theorem d_M_isKey_78 : decode b_M_isKey 78 = .ok (.aload_n 0, 1) := by decide +kernel
theorem d_M_isKey_79 : decode b_M_isKey 79 = .ok (.getfield 181, 3) := by decide +kernel
theorem d_M_isKey_82 : decode b_M_isKey 82 = .ok (.aload_n 0, 1) := by decide +kernel
theorem d_M_isKey_83 : decode b_M_isKey 83 = .ok (.getfield 181, 3) := by decide +kernel
theorem d_M_isKey_86 : decode b_M_isKey 86 = .ok (.invokevirtual 392, 3) := by decide +kernel
theorem d_M_isKey_89 : decode b_M_isKey 89 = .ok (.aload_n 0, 1) := by decide +kernel
theorem d_M_isKey_90 : decode b_M_isKey 90 = .ok (.aload_n 0, 1) := by decide +kernel
theorem d_M_isKey_91 : decode b_M_isKey 91 = .ok (.getfield 172, 3) := by decide +kernel
theorem d_M_isKey_94 : decode b_M_isKey 94 = .ok (.aload_n 0, 1) := by decide +kernel
theorem d_M_isKey_95 : decode b_M_isKey 95 = .ok (.getfield 172, 3) := by decide +kernel
theorem d_M_isKey_98 : decode b_M_isKey 98 = .ok (.aload_n 0, 1) := by decide +kernel
theorem d_M_isKey_99 : decode b_M_isKey 99 = .ok (.getfield 181, 3) := by decide +kernel
theorem d_M_isKey_102 : decode b_M_isKey 102 = .ok (.invokevirtual 392, 3) := by decide +kernel
theorem d_M_isKey_105 : decode b_M_isKey 105 = .ok (.iconst 0, 1) := by decide +kernel
theorem d_M_isKey_106 : decode b_M_isKey 106 = .ok (.istore 5, 2) := by decide +kernel
theorem d_M_isKey_108 : decode b_M_isKey 108 = .ok (.iload 5, 2) := by decide +kernel
theorem d_M_isKey_110 : decode b_M_isKey 110 = .ok (.bipush 8, 2) := by decide +kernel
theorem d_M_isKey_112 : decode b_M_isKey 112 = .ok (.if_icmp .ge 27, 3) := by decide +kernel
theorem d_M_isKey_115 : decode b_M_isKey 115 = .ok (.aload_n 0, 1) := by decide +kernel
theorem d_M_isKey_116 : decode b_M_isKey 116 = .ok (.getfield 175, 3) := by decide +kernel
theorem d_M_isKey_119 : decode b_M_isKey 119 = .ok (.iload 5, 2) := by decide +kernel
theorem d_M_isKey_121 : decode b_M_isKey 121 = .ok (.iload 5, 2) := by decide +kernel
theorem d_M_isKey_123 : decode b_M_isKey 123 = .ok (.ifCond .ne 8, 3) := by decide +kernel
theorem d_M_isKey_126 : decode b_M_isKey 126 = .ok (.bipush 7, 2) := by decide +kernel
theorem d_M_isKey_128 : decode b_M_isKey 128 = .ok (.goto 4, 3) := by decide +kernel
theorem d_M_isKey_131 : decode b_M_isKey 131 = .ok (.iconst 0, 1) := by decide +kernel
theorem d_M_isKey_132 : decode b_M_isKey 132 = .ok (.iastore, 1) := by decide +kernel
theorem d_M_isKey_133 : decode b_M_isKey 133 = .ok (.iinc 5 1, 3) := by decide +kernel
theorem d_M_isKey_136 : decode b_M_isKey 136 = .ok (.goto (-28), 3) := by decide +kernel
theorem d_M_isKey_139 : decode b_M_isKey 139 = .ok (.aload_n 0, 1) := by decide +kernel
theorem d_M_isKey_140 : decode b_M_isKey 140 = .ok (.getfield 172, 3) := by decide +kernel
theorem d_M_isKey_143 : decode b_M_isKey 143 = .ok (.aload_n 0, 1) := by decide +kernel
theorem d_M_isKey_144 : decode b_M_isKey 144 = .ok (.getfield 172, 3) := by decide +kernel
theorem d_M_isKey_147 : decode b_M_isKey 147 = .ok (.aload_n 0, 1) := by decide +kernel
theorem d_M_isKey_148 : decode b_M_isKey 148 = .ok (.getfield 175, 3) := by decide +kernel
theorem d_M_isKey_151 : decode b_M_isKey 151 = .ok (.invokestatic 396, 3) := by decide +kernel
theorem d_M_isKey_154 : decode b_M_isKey 154 = .ok (.iload_n 3, 1) := by decide +kernel
theorem d_M_isKey_155 : decode b_M_isKey 155 = .ok (.bipush 65, 2) := by decide +kernel
theorem d_M_isKey_157 : decode b_M_isKey 157 = .ok (.if_icmp .ne 32, 3) := by decide +kernel
theorem d_M_isKey_160 : decode b_M_isKey 160 = .ok (.aload_n 0, 1) := by decide +kernel
theorem d_M_isKey_161 : decode b_M_isKey 161 = .ok (.getfield 184, 3) := by decide +kernel
theorem d_M_isKey_164 : decode b_M_isKey 164 = .ok (.aload_n 1, 1) := by decide +kernel
theorem d_M_isKey_165 : decode b_M_isKey 165 = .ok (.iload_n 2, 1) := by decide +kernel
theorem d_M_isKey_166 : decode b_M_isKey 166 = .ok (.bipush 33, 2) := by decide +kernel
theorem d_M_isKey_168 : decode b_M_isKey 168 = .ok (.iadd, 1) := by decide +kernel
theorem d_M_isKey_169 : decode b_M_isKey 169 = .ok (.bipush 32, 2) := by decide +kernel
theorem d_M_isKey_171 : decode b_M_isKey 171 = .ok (.invokestatic 405, 3) := by decide +kernel
theorem d_M_isKey_174 : decode b_M_isKey 174 = .ok (.aload_n 0, 1) := by decide +kernel
theorem d_M_isKey_175 : decode b_M_isKey 175 = .ok (.getfield 184, 3) := by decide +kernel
theorem d_M_isKey_178 : decode b_M_isKey 178 = .ok (.getstatic 375, 3) := by decide +kernel
theorem d_M_isKey_181 : decode b_M_isKey 181 = .ok (.invokestatic 346, 3) := by decide +kernel
theorem d_M_isKey_184 : decode b_M_isKey 184 = .ok (.ifCond .lt 138, 3) := by decide +kernel
theorem d_M_isKey_187 : decode b_M_isKey 187 = .ok (.iconst 0, 1) := by decide +kernel
theorem d_M_isKey_188 : decode b_M_isKey 188 = .ok (.ireturn, 1) := by decide +kernel
theorem d_M_isKey_189 : decode b_M_isKey 189 = .ok (.aload_n 0, 1) := by decide +kernel
theorem d_M_isKey_190 : decode b_M_isKey 190 = .ok (.getfield 178, 3) := by decide +kernel
theorem d_M_isKey_193 : decode b_M_isKey 193 = .ok (.getstatic 375, 3) := by decide +kernel
theorem d_M_isKey_196 : decode b_M_isKey 196 = .ok (.aload_n 0, 1) := by decide +kernel
theorem d_M_isKey_197 : decode b_M_isKey 197 = .ok (.getfield 133, 3) := by decide +kernel
theorem d_M_isKey_200 : decode b_M_isKey 200 = .ok (.invokestatic 338, 3) := by decide +kernel
theorem d_M_isKey_203 : decode b_M_isKey 203 = .ok (.pop, 1) := by decide +kernel
theorem d_M_isKey_204 : decode b_M_isKey 204 = .ok (.aload_n 0, 1) := by decide +kernel
theorem d_M_isKey_205 : decode b_M_isKey 205 = .ok (.getfield 178, 3) := by decide +kernel
theorem d_M_isKey_208 : decode b_M_isKey 208 = .ok (.iconst 0, 1) := by decide +kernel
theorem d_M_isKey_209 : decode b_M_isKey 209 = .ok (.invokestatic 381, 3) := by decide +kernel
theorem d_M_isKey_212 : decode b_M_isKey 212 = .ok (.aload_n 0, 1) := by decide +kernel
theorem d_M_isKey_213 : decode b_M_isKey 213 = .ok (.getfield 178, 3) := by decide +kernel
theorem d_M_isKey_216 : decode b_M_isKey 216 = .ok (.iconst 0, 1) := by decide +kernel
theorem d_M_isKey_217 : decode b_M_isKey 217 = .ok (.invokestatic 381, 3) := by decide +kernel
theorem d_M_isKey_220 : decode b_M_isKey 220 = .ok (.aload_n 0, 1) := by decide +kernel
theorem d_M_isKey_221 : decode b_M_isKey 221 = .ok (.getfield 184, 3) := by decide +kernel
theorem d_M_isKey_224 : decode b_M_isKey 224 = .ok (.aload_n 0, 1) := by decide +kernel
theorem d_M_isKey_225 : decode b_M_isKey 225 = .ok (.getfield 133, 3) := by decide +kernel
theorem d_M_isKey_228 : decode b_M_isKey 228 = .ok (.invokestatic 334, 3) := by decide +kernel
theorem d_M_isKey_231 : decode b_M_isKey 231 = .ok (.sipush 253, 3) := by decide +kernel
theorem d_M_isKey_234 : decode b_M_isKey 234 = .ok (.istore 5, 2) := by decide +kernel
theorem d_M_isKey_236 : decode b_M_isKey 236 = .ok (.iload 5, 2) := by decide +kernel
theorem d_M_isKey_238 : decode b_M_isKey 238 = .ok (.ifCond .lt 54, 3) := by decide +kernel
theorem d_M_isKey_241 : decode b_M_isKey 241 = .ok (.aload_n 0, 1) := by decide +kernel
theorem d_M_isKey_242 : decode b_M_isKey 242 = .ok (.aload_n 0, 1) := by decide +kernel
theorem d_M_isKey_243 : decode b_M_isKey 243 = .ok (.getfield 184, 3) := by decide +kernel
theorem d_M_isKey_246 : decode b_M_isKey 246 = .ok (.aload_n 0, 1) := by decide +kernel
theorem d_M_isKey_247 : decode b_M_isKey 247 = .ok (.getfield 184, 3) := by decide +kernel
theorem d_M_isKey_250 : decode b_M_isKey 250 = .ok (.aload_n 0, 1) := by decide +kernel
theorem d_M_isKey_251 : decode b_M_isKey 251 = .ok (.getfield 184, 3) := by decide +kernel
theorem d_M_isKey_254 : decode b_M_isKey 254 = .ok (.invokevirtual 392, 3) := by decide +kernel
theorem d_M_isKey_257 : decode b_M_isKey 257 = .ok (.aload_n 0, 1) := by decide +kernel
theorem d_M_isKey_258 : decode b_M_isKey 258 = .ok (.getfield 178, 3) := by decide +kernel
theorem d_M_isKey_261 : decode b_M_isKey 261 = .ok (.iload 5, 2) := by decide +kernel
theorem d_M_isKey_263 : decode b_M_isKey 263 = .ok (.invokestatic 342, 3) := by decide +kernel
theorem d_M_isKey_266 : decode b_M_isKey 266 = .ok (.iconst 1, 1) := by decide +kernel
theorem d_M_isKey_267 : decode b_M_isKey 267 = .ok (.if_icmp .ne 19, 3) := by decide +kernel
theorem d_M_isKey_270 : decode b_M_isKey 270 = .ok (.aload_n 0, 1) := by decide +kernel
theorem d_M_isKey_271 : decode b_M_isKey 271 = .ok (.aload_n 0, 1) := by decide +kernel
theorem d_M_isKey_272 : decode b_M_isKey 272 = .ok (.getfield 184, 3) := by decide +kernel
theorem d_M_isKey_275 : decode b_M_isKey 275 = .ok (.aload_n 0, 1) := by decide +kernel
theorem d_M_isKey_276 : decode b_M_isKey 276 = .ok (.getfield 184, 3) := by decide +kernel
theorem d_M_isKey_279 : decode b_M_isKey 279 = .ok (.aload_n 0, 1) := by decide +kernel
theorem d_M_isKey_280 : decode b_M_isKey 280 = .ok (.getfield 172, 3) := by decide +kernel
theorem d_M_isKey_283 : decode b_M_isKey 283 = .ok (.invokevirtual 392, 3) := by decide +kernel
theorem d_M_isKey_286 : decode b_M_isKey 286 = .ok (.iinc 5 (-1), 3) := by decide +kernel
theorem d_M_isKey_289 : decode b_M_isKey 289 = .ok (.goto (-53), 3) := by decide +kernel
theorem d_M_isKey_292 : decode b_M_isKey 292 = .ok (.aload_n 0, 1) := by decide +kernel
theorem d_M_isKey_293 : decode b_M_isKey 293 = .ok (.getfield 184, 3) := by decide +kernel
theorem d_M_isKey_296 : decode b_M_isKey 296 = .ok (.iconst 0, 1) := by decide +kernel
theorem d_M_isKey_297 : decode b_M_isKey 297 = .ok (.iaload, 1) := by decide +kernel
theorem d_M_isKey_298 : decode b_M_isKey 298 = .ok (.iconst 1, 1) := by decide +kernel
theorem d_M_isKey_299 : decode b_M_isKey 299 = .ok (.iand, 1) := by decide +kernel
theorem d_M_isKey_300 : decode b_M_isKey 300 = .ok (.iload 4, 2) := by decide +kernel
theorem d_M_isKey_302 : decode b_M_isKey 302 = .ok (.iconst 1, 1) := by decide +kernel
theorem d_M_isKey_303 : decode b_M_isKey 303 = .ok (.iand, 1) := by decide +kernel
theorem d_M_isKey_304 : decode b_M_isKey 304 = .ok (.if_icmp .eq 18, 3) := by decide +kernel
theorem d_M_isKey_307 : decode b_M_isKey 307 = .ok (.aload_n 0, 1) := by decide +kernel
theorem d_M_isKey_308 : decode b_M_isKey 308 = .ok (.getfield 184, 3) := by decide +kernel
theorem d_M_isKey_311 : decode b_M_isKey 311 = .ok (.getstatic 375, 3) := by decide +kernel
theorem d_M_isKey_314 : decode b_M_isKey 314 = .ok (.aload_n 0, 1) := by decide +kernel
theorem d_M_isKey_315 : decode b_M_isKey 315 = .ok (.getfield 184, 3) := by decide +kernel
theorem d_M_isKey_318 : decode b_M_isKey 318 = .ok (.invokestatic 350, 3) := by decide +kernel
theorem d_M_isKey_321 : decode b_M_isKey 321 = .ok (.pop, 1) := by decide +kernel
theorem d_M_isKey_322 : decode b_M_isKey 322 = .ok (.aload_n 0, 1) := by decide +kernel
theorem d_M_isKey_323 : decode b_M_isKey 323 = .ok (.aload_n 0, 1) := by decide +kernel
theorem d_M_isKey_324 : decode b_M_isKey 324 = .ok (.getfield 175, 3) := by decide +kernel
theorem d_M_isKey_327 : decode b_M_isKey 327 = .ok (.aload_n 0, 1) := by decide +kernel
theorem d_M_isKey_328 : decode b_M_isKey 328 = .ok (.getfield 184, 3) := by decide +kernel
theorem d_M_isKey_331 : decode b_M_isKey 331 = .ok (.aload_n 0, 1) := by decide +kernel
theorem d_M_isKey_332 : decode b_M_isKey 332 = .ok (.getfield 184, 3) := by decide +kernel
theorem d_M_isKey_335 : decode b_M_isKey 335 = .ok (.invokevirtual 392, 3) := by decide +kernel
theorem d_M_isKey_338 : decode b_M_isKey 338 = .ok (.aload_n 0, 1) := by decide +kernel
theorem d_M_isKey_339 : decode b_M_isKey 339 = .ok (.getfield 172, 3) := by decide +kernel
theorem d_M_isKey_342 : decode b_M_isKey 342 = .ok (.aload_n 0, 1) := by decide +kernel
theorem d_M_isKey_343 : decode b_M_isKey 343 = .ok (.getfield 175, 3) := by decide +kernel
theorem d_M_isKey_346 : decode b_M_isKey 346 = .ok (.invokestatic 346, 3) := by decide +kernel
theorem d_M_isKey_349 : decode b_M_isKey 349 = .ok (.ifCond .ne 7, 3) := by decide +kernel
theorem d_M_isKey_352 : decode b_M_isKey 352 = .ok (.iconst 1, 1) := by decide +kernel
theorem d_M_isKey_353 : decode b_M_isKey 353 = .ok (.goto 4, 3) := by decide +kernel
theorem d_M_isKey_356 : decode b_M_isKey 356 = .ok (.iconst 0, 1) := by decide +kernel
theorem d_M_isKey_357 : decode b_M_isKey 357 = .ok (.ireturn, 1) := by decide +kernel
abbrev rm_M_isKey : Room := { frames := 4, cells := 0, slots := 0, locals := 92 }
abbrev q_M_isKey (D : va_G) (cy : Nat → ClassId) (A : Nat → Prop) (o : Nat) (q : Nat → Nat) (b1 : Nat) (z : Nat → Int32) (g_one : Nat → Int32) (n1 : Nat) (h1 : Nat → Int32) (res : Int32 × (Nat → Int32) × (Nat → Int32) × (Nat → Int32) × (Nat → Int32) × (Nat → Int32) × (Nat → Int32)) : Array Value → State → Outcome → State → Prop := va_Qi (fun r' (_ : Unit) => r' = res.1) (fun _ t => Po D cy A [(o, .inr (12, mo q z)), ((q 39), .inl (cy 1, 8, .inl g_one)), ((q 50), .inl (cy 1, 16, .inl res.2.1)), ((q 52), .inl (cy 1, 8, .inl res.2.2.1)), ((q 53), .inl (cy 1, 8, .inl res.2.2.2.1)), ((q 54), .inl (cy 1, 8, .inl res.2.2.2.2.1)), ((q 55), .inl (cy 1, 8, .inl res.2.2.2.2.2.1)), ((q 56), .inl (cy 1, 8, .inl res.2.2.2.2.2.2)), (b1, .inl (cy 0, n1, .inl h1))] t) A
def I_M_isKey_322 (p : Program) (l : Launch) (e : Env) (s : State) (m : MethodId) (args : Array Value) (below : List Frame) (meth : Method) (c : Code) (D : va_G) (cy : Nat → ClassId) (A : Nat → Prop) (ad : Nat → Nat) (o : Nat) (q : Nat → Nat) (b1 : Nat) (z : Nat → Int32) (g_one : Nat → Int32) (n1 : Nat) (h1 : Nat → Int32) (k : (Nat → Int32) → (Nat → Int32) → (Nat → Int32) → (Nat → Int32) → (Nat → Int32) → (Nat → Int32) → Option (Int32 × (Nat → Int32) × (Nat → Int32) × (Nat → Int32) × (Nat → Int32) × (Nat → Int32) × (Nat → Int32))) : Prop :=
  ∀ (u0 : Nat → Int32) (u1 : Nat → Int32) (u2 : Nat → Int32) (u3 : Nat → Int32) (u4 : Nat → Int32) (u5 : Nat → Int32) (res : Int32 × (Nat → Int32) × (Nat → Int32) × (Nat → Int32) × (Nat → Int32) × (Nat → Int32) × (Nat → Int32)), k u0 u1 u2 u3 u4 u5 = some res → ∀ (H : Heap) (locs : List Loc) (ls : Array Slot), va_P D classes [(o, .inr (12, mo q z)), ((q 39), .inl (cy 1, 8, .inl g_one)), ((q 50), .inl (cy 1, 16, .inl u0)), ((q 52), .inl (cy 1, 8, .inl u1)), ((q 53), .inl (cy 1, 8, .inl u2)), ((q 54), .inl (cy 1, 8, .inl u3)), ((q 55), .inl (cy 1, 8, .inl u4)), ((q 56), .inl (cy 1, 8, .inl u5)), (b1, .inl (cy 0, n1, .inl h1))] H → va_D A [(o, .inr (12, mo q z)), ((q 39), .inl (cy 1, 8, .inl g_one)), ((q 50), .inl (cy 1, 16, .inl u0)), ((q 52), .inl (cy 1, 8, .inl u1)), ((q 53), .inl (cy 1, 8, .inl u2)), ((q 54), .inl (cy 1, 8, .inl u3)), ((q 55), .inl (cy 1, 8, .inl u4)), ((q 56), .inl (cy 1, 8, .inl u5)), (b1, .inl (cy 0, n1, .inl h1))] → va_S A s.heap H locs → lv_has ls 6 [(0, .ref o)] → W p l e rm_M_isKey s m args below meth c H locs 0 0 (MQ below (q_M_isKey D cy A o q b1 z g_one n1 h1 res) args s 0 0 A) (F0 m 322 ls [])
def I_M_isKey_286 (p : Program) (l : Launch) (e : Env) (s : State) (m : MethodId) (args : Array Value) (below : List Frame) (meth : Method) (c : Code) (D : va_G) (cy : Nat → ClassId) (A : Nat → Prop) (ad : Nat → Nat) (o : Nat) (q : Nat → Nat) (b1 : Nat) (z : Nat → Int32) (g_one : Nat → Int32) (n1 : Nat) (h1 : Nat → Int32) (k : Int32 → Int32 → (Nat → Int32) → (Nat → Int32) → (Nat → Int32) → (Nat → Int32) → (Nat → Int32) → (Nat → Int32) → Option (Int32 × (Nat → Int32) × (Nat → Int32) × (Nat → Int32) × (Nat → Int32) × (Nat → Int32) × (Nat → Int32))) : Prop :=
  ∀ (x4 : Int32) (x5 : Int32) (u0 : Nat → Int32) (u1 : Nat → Int32) (u2 : Nat → Int32) (u3 : Nat → Int32) (u4 : Nat → Int32) (u5 : Nat → Int32) (res : Int32 × (Nat → Int32) × (Nat → Int32) × (Nat → Int32) × (Nat → Int32) × (Nat → Int32) × (Nat → Int32)), k x4 x5 u0 u1 u2 u3 u4 u5 = some res → ∀ (H : Heap) (locs : List Loc) (ls : Array Slot), va_P D classes [(o, .inr (12, mo q z)), ((q 39), .inl (cy 1, 8, .inl g_one)), ((q 50), .inl (cy 1, 16, .inl u0)), ((q 52), .inl (cy 1, 8, .inl u1)), ((q 53), .inl (cy 1, 8, .inl u2)), ((q 54), .inl (cy 1, 8, .inl u3)), ((q 55), .inl (cy 1, 8, .inl u4)), ((q 56), .inl (cy 1, 8, .inl u5)), (b1, .inl (cy 0, n1, .inl h1))] H → va_D A [(o, .inr (12, mo q z)), ((q 39), .inl (cy 1, 8, .inl g_one)), ((q 50), .inl (cy 1, 16, .inl u0)), ((q 52), .inl (cy 1, 8, .inl u1)), ((q 53), .inl (cy 1, 8, .inl u2)), ((q 54), .inl (cy 1, 8, .inl u3)), ((q 55), .inl (cy 1, 8, .inl u4)), ((q 56), .inl (cy 1, 8, .inl u5)), (b1, .inl (cy 0, n1, .inl h1))] → va_S A s.heap H locs → lv_has ls 6 [(0, .ref o), (4, .int x4), (5, .int x5)] → W p l e rm_M_isKey s m args below meth c H locs 0 0 (MQ below (q_M_isKey D cy A o q b1 z g_one n1 h1 res) args s 0 0 A) (F0 m 286 ls [])
def I_M_isKey_236 (p : Program) (l : Launch) (e : Env) (s : State) (m : MethodId) (args : Array Value) (below : List Frame) (meth : Method) (c : Code) (D : va_G) (cy : Nat → ClassId) (A : Nat → Prop) (ad : Nat → Nat) (o : Nat) (q : Nat → Nat) (b1 : Nat) (z : Nat → Int32) (g_one : Nat → Int32) (n1 : Nat) (h1 : Nat → Int32) (k : Int32 → Int32 → (Nat → Int32) → (Nat → Int32) → (Nat → Int32) → (Nat → Int32) → (Nat → Int32) → (Nat → Int32) → Option (Int32 × (Nat → Int32) × (Nat → Int32) × (Nat → Int32) × (Nat → Int32) × (Nat → Int32) × (Nat → Int32))) : Prop :=
  ∀ (x4 : Int32) (x5 : Int32) (u0 : Nat → Int32) (u1 : Nat → Int32) (u2 : Nat → Int32) (u3 : Nat → Int32) (u4 : Nat → Int32) (u5 : Nat → Int32) (res : Int32 × (Nat → Int32) × (Nat → Int32) × (Nat → Int32) × (Nat → Int32) × (Nat → Int32) × (Nat → Int32)), k x4 x5 u0 u1 u2 u3 u4 u5 = some res → ∀ (H : Heap) (locs : List Loc) (ls : Array Slot), va_P D classes [(o, .inr (12, mo q z)), ((q 39), .inl (cy 1, 8, .inl g_one)), ((q 50), .inl (cy 1, 16, .inl u0)), ((q 52), .inl (cy 1, 8, .inl u1)), ((q 53), .inl (cy 1, 8, .inl u2)), ((q 54), .inl (cy 1, 8, .inl u3)), ((q 55), .inl (cy 1, 8, .inl u4)), ((q 56), .inl (cy 1, 8, .inl u5)), (b1, .inl (cy 0, n1, .inl h1))] H → va_D A [(o, .inr (12, mo q z)), ((q 39), .inl (cy 1, 8, .inl g_one)), ((q 50), .inl (cy 1, 16, .inl u0)), ((q 52), .inl (cy 1, 8, .inl u1)), ((q 53), .inl (cy 1, 8, .inl u2)), ((q 54), .inl (cy 1, 8, .inl u3)), ((q 55), .inl (cy 1, 8, .inl u4)), ((q 56), .inl (cy 1, 8, .inl u5)), (b1, .inl (cy 0, n1, .inl h1))] → va_S A s.heap H locs → lv_has ls 6 [(0, .ref o), (4, .int x4), (5, .int x5)] → W p l e rm_M_isKey s m args below meth c H locs 0 0 (MQ below (q_M_isKey D cy A o q b1 z g_one n1 h1 res) args s 0 0 A) (F0 m 236 ls [])
def I_M_isKey_132 (p : Program) (l : Launch) (e : Env) (s : State) (m : MethodId) (args : Array Value) (below : List Frame) (meth : Method) (c : Code) (D : va_G) (cy : Nat → ClassId) (A : Nat → Prop) (ad : Nat → Nat) (o : Nat) (q : Nat → Nat) (b1 : Nat) (z : Nat → Int32) (g_one : Nat → Int32) (n1 : Nat) (h1 : Nat → Int32) (k : Int32 → Int32 → Int32 → Int32 → Int32 → Int32 → (Nat → Int32) → (Nat → Int32) → (Nat → Int32) → (Nat → Int32) → (Nat → Int32) → (Nat → Int32) → Option (Int32 × (Nat → Int32) × (Nat → Int32) × (Nat → Int32) × (Nat → Int32) × (Nat → Int32) × (Nat → Int32))) : Prop :=
  ∀ (x2 : Int32) (x3 : Int32) (x4 : Int32) (x5 : Int32) (y0 : Int32) (y1 : Int32) (u0 : Nat → Int32) (u1 : Nat → Int32) (u2 : Nat → Int32) (u3 : Nat → Int32) (u4 : Nat → Int32) (u5 : Nat → Int32) (res : Int32 × (Nat → Int32) × (Nat → Int32) × (Nat → Int32) × (Nat → Int32) × (Nat → Int32) × (Nat → Int32)), k x2 x3 x4 x5 y0 y1 u0 u1 u2 u3 u4 u5 = some res → ∀ (H : Heap) (locs : List Loc) (ls : Array Slot), va_P D classes [(o, .inr (12, mo q z)), ((q 39), .inl (cy 1, 8, .inl g_one)), ((q 50), .inl (cy 1, 16, .inl u0)), ((q 52), .inl (cy 1, 8, .inl u1)), ((q 53), .inl (cy 1, 8, .inl u2)), ((q 54), .inl (cy 1, 8, .inl u3)), ((q 55), .inl (cy 1, 8, .inl u4)), ((q 56), .inl (cy 1, 8, .inl u5)), (b1, .inl (cy 0, n1, .inl h1))] H → va_D A [(o, .inr (12, mo q z)), ((q 39), .inl (cy 1, 8, .inl g_one)), ((q 50), .inl (cy 1, 16, .inl u0)), ((q 52), .inl (cy 1, 8, .inl u1)), ((q 53), .inl (cy 1, 8, .inl u2)), ((q 54), .inl (cy 1, 8, .inl u3)), ((q 55), .inl (cy 1, 8, .inl u4)), ((q 56), .inl (cy 1, 8, .inl u5)), (b1, .inl (cy 0, n1, .inl h1))] → va_S A s.heap H locs → lv_has ls 6 [(0, .ref o), (1, .ref b1), (2, .int x2), (3, .int x3), (4, .int x4), (5, .int x5)] → W p l e rm_M_isKey s m args below meth c H locs 0 0 (MQ below (q_M_isKey D cy A o q b1 z g_one n1 h1 res) args s 0 0 A) (F0 m 132 ls [.int y0, .int y1, .ref (q 53)])
def I_M_isKey_108 (p : Program) (l : Launch) (e : Env) (s : State) (m : MethodId) (args : Array Value) (below : List Frame) (meth : Method) (c : Code) (D : va_G) (cy : Nat → ClassId) (A : Nat → Prop) (ad : Nat → Nat) (o : Nat) (q : Nat → Nat) (b1 : Nat) (z : Nat → Int32) (g_one : Nat → Int32) (n1 : Nat) (h1 : Nat → Int32) (k : Int32 → Int32 → Int32 → Int32 → (Nat → Int32) → (Nat → Int32) → (Nat → Int32) → (Nat → Int32) → (Nat → Int32) → (Nat → Int32) → Option (Int32 × (Nat → Int32) × (Nat → Int32) × (Nat → Int32) × (Nat → Int32) × (Nat → Int32) × (Nat → Int32))) : Prop :=
  ∀ (x2 : Int32) (x3 : Int32) (x4 : Int32) (x5 : Int32) (u0 : Nat → Int32) (u1 : Nat → Int32) (u2 : Nat → Int32) (u3 : Nat → Int32) (u4 : Nat → Int32) (u5 : Nat → Int32) (res : Int32 × (Nat → Int32) × (Nat → Int32) × (Nat → Int32) × (Nat → Int32) × (Nat → Int32) × (Nat → Int32)), k x2 x3 x4 x5 u0 u1 u2 u3 u4 u5 = some res → ∀ (H : Heap) (locs : List Loc) (ls : Array Slot), va_P D classes [(o, .inr (12, mo q z)), ((q 39), .inl (cy 1, 8, .inl g_one)), ((q 50), .inl (cy 1, 16, .inl u0)), ((q 52), .inl (cy 1, 8, .inl u1)), ((q 53), .inl (cy 1, 8, .inl u2)), ((q 54), .inl (cy 1, 8, .inl u3)), ((q 55), .inl (cy 1, 8, .inl u4)), ((q 56), .inl (cy 1, 8, .inl u5)), (b1, .inl (cy 0, n1, .inl h1))] H → va_D A [(o, .inr (12, mo q z)), ((q 39), .inl (cy 1, 8, .inl g_one)), ((q 50), .inl (cy 1, 16, .inl u0)), ((q 52), .inl (cy 1, 8, .inl u1)), ((q 53), .inl (cy 1, 8, .inl u2)), ((q 54), .inl (cy 1, 8, .inl u3)), ((q 55), .inl (cy 1, 8, .inl u4)), ((q 56), .inl (cy 1, 8, .inl u5)), (b1, .inl (cy 0, n1, .inl h1))] → va_S A s.heap H locs → lv_has ls 6 [(0, .ref o), (1, .ref b1), (2, .int x2), (3, .int x3), (4, .int x4), (5, .int x5)] → W p l e rm_M_isKey s m args below meth c H locs 0 0 (MQ below (q_M_isKey D cy A o q b1 z g_one n1 h1 res) args s 0 0 A) (F0 m 108 ls [])
def I_M_isKey_45 (p : Program) (l : Launch) (e : Env) (s : State) (m : MethodId) (args : Array Value) (below : List Frame) (meth : Method) (c : Code) (D : va_G) (cy : Nat → ClassId) (A : Nat → Prop) (ad : Nat → Nat) (o : Nat) (q : Nat → Nat) (b1 : Nat) (z : Nat → Int32) (g_one : Nat → Int32) (n1 : Nat) (h1 : Nat → Int32) (k : Int32 → Int32 → Int32 → (Nat → Int32) → (Nat → Int32) → (Nat → Int32) → (Nat → Int32) → (Nat → Int32) → (Nat → Int32) → Option (Int32 × (Nat → Int32) × (Nat → Int32) × (Nat → Int32) × (Nat → Int32) × (Nat → Int32) × (Nat → Int32))) : Prop :=
  ∀ (x2 : Int32) (x3 : Int32) (x4 : Int32) (u0 : Nat → Int32) (u1 : Nat → Int32) (u2 : Nat → Int32) (u3 : Nat → Int32) (u4 : Nat → Int32) (u5 : Nat → Int32) (res : Int32 × (Nat → Int32) × (Nat → Int32) × (Nat → Int32) × (Nat → Int32) × (Nat → Int32) × (Nat → Int32)), k x2 x3 x4 u0 u1 u2 u3 u4 u5 = some res → ∀ (H : Heap) (locs : List Loc) (ls : Array Slot), va_P D classes [(o, .inr (12, mo q z)), ((q 39), .inl (cy 1, 8, .inl g_one)), ((q 50), .inl (cy 1, 16, .inl u0)), ((q 52), .inl (cy 1, 8, .inl u1)), ((q 53), .inl (cy 1, 8, .inl u2)), ((q 54), .inl (cy 1, 8, .inl u3)), ((q 55), .inl (cy 1, 8, .inl u4)), ((q 56), .inl (cy 1, 8, .inl u5)), (b1, .inl (cy 0, n1, .inl h1))] H → va_D A [(o, .inr (12, mo q z)), ((q 39), .inl (cy 1, 8, .inl g_one)), ((q 50), .inl (cy 1, 16, .inl u0)), ((q 52), .inl (cy 1, 8, .inl u1)), ((q 53), .inl (cy 1, 8, .inl u2)), ((q 54), .inl (cy 1, 8, .inl u3)), ((q 55), .inl (cy 1, 8, .inl u4)), ((q 56), .inl (cy 1, 8, .inl u5)), (b1, .inl (cy 0, n1, .inl h1))] → va_S A s.heap H locs → lv_has ls 6 [(0, .ref o), (1, .ref b1), (2, .int x2), (3, .int x3), (4, .int x4)] → W p l e rm_M_isKey s m args below meth c H locs 0 0 (MQ below (q_M_isKey D cy A o q b1 z g_one n1 h1 res) args s 0 0 A) (F0 m 45 ls [])
def I_M_isKey_31 (p : Program) (l : Launch) (e : Env) (s : State) (m : MethodId) (args : Array Value) (below : List Frame) (meth : Method) (c : Code) (D : va_G) (cy : Nat → ClassId) (A : Nat → Prop) (ad : Nat → Nat) (o : Nat) (q : Nat → Nat) (b1 : Nat) (z : Nat → Int32) (g_one : Nat → Int32) (n1 : Nat) (h1 : Nat → Int32) (k : Int32 → Int32 → Int32 → (Nat → Int32) → (Nat → Int32) → (Nat → Int32) → (Nat → Int32) → (Nat → Int32) → (Nat → Int32) → Option (Int32 × (Nat → Int32) × (Nat → Int32) × (Nat → Int32) × (Nat → Int32) × (Nat → Int32) × (Nat → Int32))) : Prop :=
  ∀ (x2 : Int32) (x3 : Int32) (x4 : Int32) (u0 : Nat → Int32) (u1 : Nat → Int32) (u2 : Nat → Int32) (u3 : Nat → Int32) (u4 : Nat → Int32) (u5 : Nat → Int32) (res : Int32 × (Nat → Int32) × (Nat → Int32) × (Nat → Int32) × (Nat → Int32) × (Nat → Int32) × (Nat → Int32)), k x2 x3 x4 u0 u1 u2 u3 u4 u5 = some res → ∀ (H : Heap) (locs : List Loc) (ls : Array Slot), va_P D classes [(o, .inr (12, mo q z)), ((q 39), .inl (cy 1, 8, .inl g_one)), ((q 50), .inl (cy 1, 16, .inl u0)), ((q 52), .inl (cy 1, 8, .inl u1)), ((q 53), .inl (cy 1, 8, .inl u2)), ((q 54), .inl (cy 1, 8, .inl u3)), ((q 55), .inl (cy 1, 8, .inl u4)), ((q 56), .inl (cy 1, 8, .inl u5)), (b1, .inl (cy 0, n1, .inl h1))] H → va_D A [(o, .inr (12, mo q z)), ((q 39), .inl (cy 1, 8, .inl g_one)), ((q 50), .inl (cy 1, 16, .inl u0)), ((q 52), .inl (cy 1, 8, .inl u1)), ((q 53), .inl (cy 1, 8, .inl u2)), ((q 54), .inl (cy 1, 8, .inl u3)), ((q 55), .inl (cy 1, 8, .inl u4)), ((q 56), .inl (cy 1, 8, .inl u5)), (b1, .inl (cy 0, n1, .inl h1))] → va_S A s.heap H locs → lv_has ls 6 [(0, .ref o), (1, .ref b1), (2, .int x2), (3, .int x3), (4, .int x4)] → W p l e rm_M_isKey s m args below meth c H locs 0 0 (MQ below (q_M_isKey D cy A o q b1 z g_one n1 h1 res) args s 0 0 A) (F0 m 31 ls [])
def I_M_isKey_11 (p : Program) (l : Launch) (e : Env) (s : State) (m : MethodId) (args : Array Value) (below : List Frame) (meth : Method) (c : Code) (D : va_G) (cy : Nat → ClassId) (A : Nat → Prop) (ad : Nat → Nat) (o : Nat) (q : Nat → Nat) (b1 : Nat) (z : Nat → Int32) (g_one : Nat → Int32) (n1 : Nat) (h1 : Nat → Int32) (k : Int32 → Int32 → Int32 → (Nat → Int32) → (Nat → Int32) → (Nat → Int32) → (Nat → Int32) → (Nat → Int32) → (Nat → Int32) → Option (Int32 × (Nat → Int32) × (Nat → Int32) × (Nat → Int32) × (Nat → Int32) × (Nat → Int32) × (Nat → Int32))) : Prop :=
  ∀ (x2 : Int32) (x3 : Int32) (y0 : Int32) (u0 : Nat → Int32) (u1 : Nat → Int32) (u2 : Nat → Int32) (u3 : Nat → Int32) (u4 : Nat → Int32) (u5 : Nat → Int32) (res : Int32 × (Nat → Int32) × (Nat → Int32) × (Nat → Int32) × (Nat → Int32) × (Nat → Int32) × (Nat → Int32)), k x2 x3 y0 u0 u1 u2 u3 u4 u5 = some res → ∀ (H : Heap) (locs : List Loc) (ls : Array Slot), va_P D classes [(o, .inr (12, mo q z)), ((q 39), .inl (cy 1, 8, .inl g_one)), ((q 50), .inl (cy 1, 16, .inl u0)), ((q 52), .inl (cy 1, 8, .inl u1)), ((q 53), .inl (cy 1, 8, .inl u2)), ((q 54), .inl (cy 1, 8, .inl u3)), ((q 55), .inl (cy 1, 8, .inl u4)), ((q 56), .inl (cy 1, 8, .inl u5)), (b1, .inl (cy 0, n1, .inl h1))] H → va_D A [(o, .inr (12, mo q z)), ((q 39), .inl (cy 1, 8, .inl g_one)), ((q 50), .inl (cy 1, 16, .inl u0)), ((q 52), .inl (cy 1, 8, .inl u1)), ((q 53), .inl (cy 1, 8, .inl u2)), ((q 54), .inl (cy 1, 8, .inl u3)), ((q 55), .inl (cy 1, 8, .inl u4)), ((q 56), .inl (cy 1, 8, .inl u5)), (b1, .inl (cy 0, n1, .inl h1))] → va_S A s.heap H locs → lv_has ls 6 [(0, .ref o), (1, .ref b1), (2, .int x2), (3, .int x3)] → W p l e rm_M_isKey s m args below meth c H locs 0 0 (MQ below (q_M_isKey D cy A o q b1 z g_one n1 h1 res) args s 0 0 A) (F0 m 11 ls [.int y0])
def I_M_isKey_e (p : Program) (l : Launch) (e : Env) (s : State) (m : MethodId) (args : Array Value) (below : List Frame) (meth : Method) (c : Code) (D : va_G) (cy : Nat → ClassId) (A : Nat → Prop) (ad : Nat → Nat) (o : Nat) (q : Nat → Nat) (b1 : Nat) (z : Nat → Int32) (g_one : Nat → Int32) (n1 : Nat) (h1 : Nat → Int32) (k : Int32 → Int32 → (Nat → Int32) → (Nat → Int32) → (Nat → Int32) → (Nat → Int32) → (Nat → Int32) → (Nat → Int32) → Option (Int32 × (Nat → Int32) × (Nat → Int32) × (Nat → Int32) × (Nat → Int32) × (Nat → Int32) × (Nat → Int32))) : Prop :=
  ∀ (a2 : Int32) (a3 : Int32) (u0 : Nat → Int32) (u1 : Nat → Int32) (u2 : Nat → Int32) (u3 : Nat → Int32) (u4 : Nat → Int32) (u5 : Nat → Int32) (res : Int32 × (Nat → Int32) × (Nat → Int32) × (Nat → Int32) × (Nat → Int32) × (Nat → Int32) × (Nat → Int32)), k a2 a3 u0 u1 u2 u3 u4 u5 = some res → ∀ (H : Heap) (locs : List Loc) (ls : Array Slot), va_P D classes [(o, .inr (12, mo q z)), ((q 39), .inl (cy 1, 8, .inl g_one)), ((q 50), .inl (cy 1, 16, .inl u0)), ((q 52), .inl (cy 1, 8, .inl u1)), ((q 53), .inl (cy 1, 8, .inl u2)), ((q 54), .inl (cy 1, 8, .inl u3)), ((q 55), .inl (cy 1, 8, .inl u4)), ((q 56), .inl (cy 1, 8, .inl u5)), (b1, .inl (cy 0, n1, .inl h1))] H → va_D A [(o, .inr (12, mo q z)), ((q 39), .inl (cy 1, 8, .inl g_one)), ((q 50), .inl (cy 1, 16, .inl u0)), ((q 52), .inl (cy 1, 8, .inl u1)), ((q 53), .inl (cy 1, 8, .inl u2)), ((q 54), .inl (cy 1, 8, .inl u3)), ((q 55), .inl (cy 1, 8, .inl u4)), ((q 56), .inl (cy 1, 8, .inl u5)), (b1, .inl (cy 0, n1, .inl h1))] → va_S A s.heap H locs → lv_has ls 6 [(0, .ref o), (1, .ref b1), (2, .int a2), (3, .int a3)] → W p l e rm_M_isKey s m args below meth c H locs 0 0 (MQ below (q_M_isKey D cy A o q b1 z g_one n1 h1 res) args s 0 0 A) (F0 m 0 ls [])
theorem hdm_20 : ({ cls := "CoinKeeperModel", name := "times", desc := "([I[I[I)V" } : Jvm.MethodName).cls ≠ "java/lang/invoke/MethodHandle" ∧ ({ cls := "CoinKeeperModel", name := "times", desc := "([I[I[I)V" } : Jvm.MethodName).cls ≠ "java/lang/invoke/VarHandle" ∧ (parseMethodDescriptor ({ cls := "CoinKeeperModel", name := "times", desc := "([I[I[I)V" } : Jvm.MethodName).desc).map (fun d => d.parameters.length) = some 3 := by decide +kernel
set_option maxHeartbeats 8000000 in
set_option maxRecDepth 100000 in
theorem wb_M_isKey_322 {p : Program} {l : Launch} {e : Env} {s : State} {m : MethodId} {args : Array Value} {below : List Frame} {meth : Method} {c : Code} {D : va_G} {cy : Nat → ClassId} {A : Nat → Prop} {ad : Nat → Nat} {o : Nat} {q : Nat → Nat} {b1 : Nat} {z : Nat → Int32} {g_one : Nat → Int32} {n1 : Nat} {h1 : Nat → Int32} {fu : Nat} (F : Fx p s m args meth c b_M_isKey 6 "CoinKeeperModel" "isKey" (some .boolean) D cy ad A) : I_M_isKey_322 p l e s m args below meth c D cy A ad o q b1 z g_one n1 h1 (xb_M_isKey_322 fu z g_one n1 h1) := by
  obtain ⟨hx, hb, hr, hml, hown, hts, hlocks, hK, hA, hSt, hnm, hex⟩ := id F
  intro u0 u1 u2 u3 u4 u5 res hf H locs ls hP hD hS hl
  unfold xb_M_isKey_322 at hf
  refine lv_aload_n hx hb d_M_isKey_322 rfl (lv_at hl 0 rfl) ?_
  refine lv_aload_n hx hb d_M_isKey_323 rfl (lv_at hl 0 rfl) ?_
  refine va_get (D := D) (ci := 12) (v := .ref (q 53)) (C := "CoinKeeperModel") (T := F_12) (N := 98) hx hb hts i_12 hown hK hP 0 rfl rfl 61 (by decide) (hts _ gw_1480) (fun _ h9 => h9) rfl d_M_isKey_324 ?_
  refine lv_aload_n hx hb d_M_isKey_327 rfl (lv_at hl 0 rfl) ?_
  refine va_get (D := D) (ci := 12) (v := .ref (q 56)) (C := "CoinKeeperModel") (T := F_12) (N := 98) hx hb hts i_12 hown hK hP 0 rfl rfl 64 (by decide) (hts _ gw_1483) (fun _ h9 => h9) rfl d_M_isKey_328 ?_
  refine lv_aload_n hx hb d_M_isKey_331 rfl (lv_at hl 0 rfl) ?_
  refine va_get (D := D) (ci := 12) (v := .ref (q 56)) (C := "CoinKeeperModel") (T := F_12) (N := 98) hx hb hts i_12 hown hK hP 0 rfl rfl 64 (by decide) (hts _ gw_1483) (fun _ h9 => h9) rfl d_M_isKey_332 ?_
  obtain ⟨f1, f2, hc, hf⟩ := bdp2 hf
  refine q_av (wr := [((q 39), .inl (cy 1, 8, .inl g_one)), ((q 52), .inl (cy 1, 8, .inl u1)), ((q 54), .inl (cy 1, 8, .inl u3)), ((q 55), .inl (cy 1, 8, .inl u4)), (b1, .inl (cy 0, n1, .inl h1))]) (va_runV (C := "CoinKeeperModel") (As := [.ref (q 53), .ref (q 56), .ref (q 56)]) (rest := []) ⟨hx, hb, hml, hown, hts⟩ (c_M_times_e32 l D cy ad fu o q (q 53) (q 56) z u5 u0 u2 _ hc H.size) ⟨q_cB hts gw_1979 gw_18 gw_1976 hdm_20 ⟨by decide, by decide⟩, hts _ gw_1978, hts _ gs_112⟩ (q_preV (q_pre (hP.sub [0, 2, 4, 7] rfl) (hD.sub [0, 2, 4, 7] (by decide) rfl) hK hSt hS (va_free hD hS hA [0, 2, 4, 7] rfl) _) (va_recv hK (hP.sub [0, 2, 4, 7] rfl) (ci := 12) (q0 := 0) rfl rfl)) rfl rfl hl.1 rfl (lv_room (Nat.le_of_ble_eq_true rfl)) d_M_isKey_335 ⟨Nat.le_of_ble_eq_true rfl, Nat.le_of_ble_eq_true rfl⟩) hP hD hS hA [0, 2, 4, 7] [1, 3, 5, 6, 8] rfl rfl (by decide) (by decide) (fun H locs hP hD hS => ?_)
  clear hc
  have hP : va_P D classes [((q 39), .inl (cy 1, 8, .inl g_one)), ((q 52), .inl (cy 1, 8, .inl u1)), ((q 54), .inl (cy 1, 8, .inl u3)), ((q 55), .inl (cy 1, 8, .inl u4)), (b1, .inl (cy 0, n1, .inl h1)), (o, .inr (12, mo q z)), ((q 50), .inl (cy 1, 16, .inl f1)), ((q 53), .inl (cy 1, 8, .inl f2)), ((q 56), .inl (cy 1, 8, .inl u5))] H := hP
  have hD : va_D A [((q 39), .inl (cy 1, 8, .inl g_one)), ((q 52), .inl (cy 1, 8, .inl u1)), ((q 54), .inl (cy 1, 8, .inl u3)), ((q 55), .inl (cy 1, 8, .inl u4)), (b1, .inl (cy 0, n1, .inl h1)), (o, .inr (12, mo q z)), ((q 50), .inl (cy 1, 16, .inl f1)), ((q 53), .inl (cy 1, 8, .inl f2)), ((q 56), .inl (cy 1, 8, .inl u5))] := hD
  refine lv_aload_n hx hb d_M_isKey_338 rfl (lv_at hl 0 rfl) ?_
  refine va_get (D := D) (ci := 12) (v := .ref (q 52)) (C := "CoinKeeperModel") (T := F_12) (N := 98) hx hb hts i_12 hown hK hP 5 rfl rfl 60 (by decide) (hts _ gw_1479) (fun _ h9 => h9) rfl d_M_isKey_339 ?_
  refine lv_aload_n hx hb d_M_isKey_342 rfl (lv_at hl 0 rfl) ?_
  refine va_get (D := D) (ci := 12) (v := .ref (q 53)) (C := "CoinKeeperModel") (T := F_12) (N := 98) hx hb hts i_12 hown hK hP 5 rfl rfl 61 (by decide) (hts _ gw_1480) (fun _ h9 => h9) rfl d_M_isKey_343 ?_
  obtain ⟨v3, hc, hf⟩ := bdp1 hf
  refine q_ai (wr := [((q 39), .inl (cy 1, 8, .inl g_one)), ((q 54), .inl (cy 1, 8, .inl u3)), ((q 55), .inl (cy 1, 8, .inl u4)), (b1, .inl (cy 0, n1, .inl h1)), (o, .inr (12, mo q z)), ((q 50), .inl (cy 1, 16, .inl f1)), ((q 56), .inl (cy 1, 8, .inl u5))]) (va_runS (As := [.ref (q 52), .ref (q 53)]) (rest := []) ⟨hx, hb, hml, hown, hts⟩ (c_M_compare l D cy ad fu (q 52) (q 53) u1 f2 _ hc H.size) ⟨q_cB hts gw_1404 gw_18 gw_1402 hdm_16 ⟨by decide, by decide⟩, hts _ gw_1403⟩ (q_pre (hP.sub [1, 7] rfl) (hD.sub [1, 7] (by decide) rfl) hK hSt hS (va_free hD hS hA [1, 7] rfl) _) rfl rfl hl.1 rfl (lv_room (Nat.le_of_ble_eq_true rfl)) d_M_isKey_346 ⟨Nat.le_of_ble_eq_true rfl, Nat.le_of_ble_eq_true rfl⟩) hP hD hS hA [1, 7] [0, 2, 3, 4, 5, 6, 8] rfl rfl (by decide) (by decide) (fun H locs hP hD hS => ?_)
  clear hc
  have hP : va_P D classes [((q 39), .inl (cy 1, 8, .inl g_one)), ((q 54), .inl (cy 1, 8, .inl u3)), ((q 55), .inl (cy 1, 8, .inl u4)), (b1, .inl (cy 0, n1, .inl h1)), (o, .inr (12, mo q z)), ((q 50), .inl (cy 1, 16, .inl f1)), ((q 56), .inl (cy 1, 8, .inl u5)), ((q 52), .inl (cy 1, 8, .inl u1)), ((q 53), .inl (cy 1, 8, .inl f2))] H := hP
  have hD : va_D A [((q 39), .inl (cy 1, 8, .inl g_one)), ((q 54), .inl (cy 1, 8, .inl u3)), ((q 55), .inl (cy 1, 8, .inl u4)), (b1, .inl (cy 0, n1, .inl h1)), (o, .inr (12, mo q z)), ((q 50), .inl (cy 1, 16, .inl f1)), ((q 56), .inl (cy 1, 8, .inl u5)), ((q 52), .inl (cy 1, 8, .inl u1)), ((q 53), .inl (cy 1, 8, .inl f2))] := hD
  refine lv_if_ne (tgt := 356) hx hb d_M_isKey_349 (by decide) (fun cx => ?_) (fun cx => ?_)
  · have hf := ifn cx hf
    refine lv_iconst (v := 0) hx hb d_M_isKey_356 (by decide) ?_
    obtain rfl := Option.some.inj hf
    exact q_rz hx hb hr hlocks hK (hP.sub [4, 0, 5, 7, 8, 1, 2, 6, 3] rfl) (hD.sub [4, 0, 5, 7, 8, 1, 2, 6, 3] (by decide) rfl) hS (isb_n (v := 0) (by decide)) d_M_isKey_357
  · have hf := ifp cx hf
    refine lv_iconst (v := 1) hx hb d_M_isKey_352 (by decide) ?_
    refine lv_goto (tgt := 357) hx hb d_M_isKey_353 (by decide) ?_
    obtain rfl := Option.some.inj hf
    exact q_rz hx hb hr hlocks hK (hP.sub [4, 0, 5, 7, 8, 1, 2, 6, 3] rfl) (hD.sub [4, 0, 5, 7, 8, 1, 2, 6, 3] (by decide) rfl) hS (isb_n (v := 1) (by decide)) d_M_isKey_357
set_option maxHeartbeats 8000000 in
set_option maxRecDepth 100000 in
theorem wb_M_isKey_286 {p : Program} {l : Launch} {e : Env} {s : State} {m : MethodId} {args : Array Value} {below : List Frame} {meth : Method} {c : Code} {D : va_G} {cy : Nat → ClassId} {A : Nat → Prop} {ad : Nat → Nat} {o : Nat} {q : Nat → Nat} {b1 : Nat} {z : Nat → Int32} {g_one : Nat → Int32} {n1 : Nat} {h1 : Nat → Int32} {fu : Nat} {k_236 : Int32 → Int32 → (Nat → Int32) → (Nat → Int32) → (Nat → Int32) → (Nat → Int32) → (Nat → Int32) → (Nat → Int32) → Option (Int32 × (Nat → Int32) × (Nat → Int32) × (Nat → Int32) × (Nat → Int32) × (Nat → Int32) × (Nat → Int32))} (F : Fx p s m args meth c b_M_isKey 6 "CoinKeeperModel" "isKey" (some .boolean) D cy ad A) (hk_236 : I_M_isKey_236 p l e s m args below meth c D cy A ad o q b1 z g_one n1 h1 k_236) : I_M_isKey_286 p l e s m args below meth c D cy A ad o q b1 z g_one n1 h1 (xb_M_isKey_286 fu z g_one n1 h1 k_236) := by
  obtain ⟨hx, hb, hr, hml, hown, hts, hlocks, hK, hA, hSt, hnm, hex⟩ := id F
  intro x4 x5 u0 u1 u2 u3 u4 u5 res hf H locs ls hP hD hS hl
  unfold xb_M_isKey_286 at hf
  obtain ⟨v1, ev, hf⟩ := bne hf
  refine lv_iinc (v := v1) (lv' := [(5, .int v1), (0, .ref o), (4, .int x4)]) hx hb d_M_isKey_286 hl (k := 2) rfl (by rw [ev]; rfl) (by decide) rfl (fun ls hl => ?_)
  clear ev
  refine lv_goto (tgt := 236) hx hb d_M_isKey_289 (by decide) ?_
  exact hk_236 _ _ _ _ _ _ _ _ _ hf _ _ _ hP hD hS (lv_sub hl [1, 2, 0] rfl)
theorem hdm_21 : ({ cls := "CoinKeeperModel", name := "bit", desc := "([II)I" } : Jvm.MethodName).cls ≠ "java/lang/invoke/MethodHandle" ∧ ({ cls := "CoinKeeperModel", name := "bit", desc := "([II)I" } : Jvm.MethodName).cls ≠ "java/lang/invoke/VarHandle" ∧ (parseMethodDescriptor ({ cls := "CoinKeeperModel", name := "bit", desc := "([II)I" } : Jvm.MethodName).desc).map (fun d => d.parameters.length) = some 2 := by decide +kernel
set_option maxHeartbeats 8000000 in
set_option maxRecDepth 100000 in
theorem wb_M_isKey_236 {p : Program} {l : Launch} {e : Env} {s : State} {m : MethodId} {args : Array Value} {below : List Frame} {meth : Method} {c : Code} {D : va_G} {cy : Nat → ClassId} {A : Nat → Prop} {ad : Nat → Nat} {o : Nat} {q : Nat → Nat} {b1 : Nat} {z : Nat → Int32} {g_one : Nat → Int32} {n1 : Nat} {h1 : Nat → Int32} {fu : Nat} {k_236 : Int32 → Int32 → (Nat → Int32) → (Nat → Int32) → (Nat → Int32) → (Nat → Int32) → (Nat → Int32) → (Nat → Int32) → Option (Int32 × (Nat → Int32) × (Nat → Int32) × (Nat → Int32) × (Nat → Int32) × (Nat → Int32) × (Nat → Int32))} (F : Fx p s m args meth c b_M_isKey 6 "CoinKeeperModel" "isKey" (some .boolean) D cy ad A) (hk_236 : I_M_isKey_236 p l e s m args below meth c D cy A ad o q b1 z g_one n1 h1 k_236) : I_M_isKey_236 p l e s m args below meth c D cy A ad o q b1 z g_one n1 h1 (xb_M_isKey_236 fu z g_one n1 h1 k_236) := by
  obtain ⟨hx, hb, hr, hml, hown, hts, hlocks, hK, hA, hSt, hnm, hex⟩ := id F
  intro x4 x5 u0 u1 u2 u3 u4 u5 res hf H locs ls hP hD hS hl
  unfold xb_M_isKey_236 at hf
  refine lv_iload hx hb d_M_isKey_236 (lv_at hl 2 rfl) ?_
  refine lv_if_lt (tgt := 292) hx hb d_M_isKey_238 (by decide) (fun cx => ?_) (fun cx => ?_)
  · have hf := ifp cx hf
    refine lv_aload_n hx hb d_M_isKey_292 rfl (lv_at hl 0 rfl) ?_
    refine va_get (D := D) (ci := 12) (v := .ref (q 56)) (C := "CoinKeeperModel") (T := F_12) (N := 98) hx hb hts i_12 hown hK hP 0 rfl rfl 64 (by decide) (hts _ gw_1483) (fun _ h9 => h9) rfl d_M_isKey_293 ?_
    refine lv_iconst (v := 0) hx hb d_M_isKey_296 (by decide) ?_
    refine va_iald hx hb hK hP 7 1 rfl rfl (inb_in (by decide)) d_M_isKey_297 ?_
    refine lv_topi (fun v1 ev => ?_)
    have hf := bn ev hf
    clear ev
    refine lv_iconst (v := 1) hx hb d_M_isKey_298 (by decide) ?_
    refine lv_iand hx hb d_M_isKey_299 ?_
    refine lv_topi (fun v2 ev => ?_)
    have hf := bn ev hf
    clear ev
    refine lv_iload hx hb d_M_isKey_300 (lv_at hl 1 rfl) ?_
    refine lv_iconst (v := 1) hx hb d_M_isKey_302 (by decide) ?_
    refine lv_iand hx hb d_M_isKey_303 ?_
    refine lv_icmp_eq (tgt := 322) hx hb d_M_isKey_304 (by decide) (fun cx => ?_) (fun cx => ?_)
    · have hf := ifp cx hf
      exact wb_M_isKey_322 (fu := fu) F _ _ _ _ _ _ _ hf _ _ _ hP hD hS (lv_sub hl [0] rfl)
    · have hf := ifn cx hf
      refine lv_aload_n hx hb d_M_isKey_307 rfl (lv_at hl 0 rfl) ?_
      refine va_get (D := D) (ci := 12) (v := .ref (q 56)) (C := "CoinKeeperModel") (T := F_12) (N := 98) hx hb hts i_12 hown hK hP 0 rfl rfl 64 (by decide) (hts _ gw_1483) (fun _ h9 => h9) rfl d_M_isKey_308 ?_
      refine va_gets hx hb (hSt.1 22 _ rfl).1 hS hown (hts _ gw_1974) (fun _ h9 => h9) d_M_isKey_311 ?_
      refine lv_aload_n hx hb d_M_isKey_314 rfl (lv_at hl 0 rfl) ?_
      refine va_get (D := D) (ci := 12) (v := .ref (q 56)) (C := "CoinKeeperModel") (T := F_12) (N := 98) hx hb hts i_12 hown hK hP 0 rfl rfl 64 (by decide) (hts _ gw_1483) (fun _ h9 => h9) rfl d_M_isKey_315 ?_
      obtain ⟨v3, f4, hc, hf⟩ := bdp2 hf
      refine q_ai (wr := [(o, .inr (12, mo q z)), ((q 39), .inl (cy 1, 8, .inl g_one)), ((q 50), .inl (cy 1, 16, .inl u0)), ((q 52), .inl (cy 1, 8, .inl u1)), ((q 53), .inl (cy 1, 8, .inl u2)), ((q 54), .inl (cy 1, 8, .inl u3)), ((q 55), .inl (cy 1, 8, .inl u4)), (b1, .inl (cy 0, n1, .inl h1))]) (va_runS (As := [.ref (q 56), .ref (ad 22), .ref (q 56)]) (rest := []) ⟨hx, hb, hml, hown, hts⟩ (c_M_sub_s1x22e20 l D cy ad fu (q 56) u5 _ hc H.size) ⟨q_cB hts gw_1414 gw_18 gw_1412 hdm_17 ⟨by decide, by decide⟩, hts _ gw_1413⟩ (q_pre (hP.sub [7] rfl) (hD.sub [7] (by decide) rfl) hK hSt hS (va_free hD hS hA [7] rfl) _) rfl rfl hl.1 rfl (lv_room (Nat.le_of_ble_eq_true rfl)) d_M_isKey_318 ⟨Nat.le_of_ble_eq_true rfl, Nat.le_of_ble_eq_true rfl⟩) hP hD hS hA [7] [0, 1, 2, 3, 4, 5, 6, 8] rfl rfl (by decide) (by decide) (fun H locs hP hD hS => ?_)
      clear hc
      have hP : va_P D classes [(o, .inr (12, mo q z)), ((q 39), .inl (cy 1, 8, .inl g_one)), ((q 50), .inl (cy 1, 16, .inl u0)), ((q 52), .inl (cy 1, 8, .inl u1)), ((q 53), .inl (cy 1, 8, .inl u2)), ((q 54), .inl (cy 1, 8, .inl u3)), ((q 55), .inl (cy 1, 8, .inl u4)), (b1, .inl (cy 0, n1, .inl h1)), ((q 56), .inl (cy 1, 8, .inl f4))] H := hP
      have hD : va_D A [(o, .inr (12, mo q z)), ((q 39), .inl (cy 1, 8, .inl g_one)), ((q 50), .inl (cy 1, 16, .inl u0)), ((q 52), .inl (cy 1, 8, .inl u1)), ((q 53), .inl (cy 1, 8, .inl u2)), ((q 54), .inl (cy 1, 8, .inl u3)), ((q 55), .inl (cy 1, 8, .inl u4)), (b1, .inl (cy 0, n1, .inl h1)), ((q 56), .inl (cy 1, 8, .inl f4))] := hD
      refine lv_pop hx hb d_M_isKey_321 rfl ?_
      exact wb_M_isKey_322 (fu := fu) F _ _ _ _ _ _ _ hf _ _ _ (hP.sub (ws' := [(o, .inr (12, mo q z)), ((q 39), .inl (cy 1, 8, .inl g_one)), ((q 50), .inl (cy 1, 16, .inl u0)), ((q 52), .inl (cy 1, 8, .inl u1)), ((q 53), .inl (cy 1, 8, .inl u2)), ((q 54), .inl (cy 1, 8, .inl u3)), ((q 55), .inl (cy 1, 8, .inl u4)), ((q 56), .inl (cy 1, 8, .inl f4)), (b1, .inl (cy 0, n1, .inl h1))]) [0, 1, 2, 3, 4, 5, 6, 8, 7] rfl) (hD.sub (ws' := [(o, .inr (12, mo q z)), ((q 39), .inl (cy 1, 8, .inl g_one)), ((q 50), .inl (cy 1, 16, .inl u0)), ((q 52), .inl (cy 1, 8, .inl u1)), ((q 53), .inl (cy 1, 8, .inl u2)), ((q 54), .inl (cy 1, 8, .inl u3)), ((q 55), .inl (cy 1, 8, .inl u4)), ((q 56), .inl (cy 1, 8, .inl f4)), (b1, .inl (cy 0, n1, .inl h1))]) [0, 1, 2, 3, 4, 5, 6, 8, 7] (by decide) rfl) hS (lv_sub hl [0] rfl)
  · have hf := ifn cx hf
    refine lv_aload_n hx hb d_M_isKey_241 rfl (lv_at hl 0 rfl) ?_
    refine lv_aload_n hx hb d_M_isKey_242 rfl (lv_at hl 0 rfl) ?_
    refine va_get (D := D) (ci := 12) (v := .ref (q 56)) (C := "CoinKeeperModel") (T := F_12) (N := 98) hx hb hts i_12 hown hK hP 0 rfl rfl 64 (by decide) (hts _ gw_1483) (fun _ h9 => h9) rfl d_M_isKey_243 ?_
    refine lv_aload_n hx hb d_M_isKey_246 rfl (lv_at hl 0 rfl) ?_
    refine va_get (D := D) (ci := 12) (v := .ref (q 56)) (C := "CoinKeeperModel") (T := F_12) (N := 98) hx hb hts i_12 hown hK hP 0 rfl rfl 64 (by decide) (hts _ gw_1483) (fun _ h9 => h9) rfl d_M_isKey_247 ?_
    refine lv_aload_n hx hb d_M_isKey_250 rfl (lv_at hl 0 rfl) ?_
    refine va_get (D := D) (ci := 12) (v := .ref (q 56)) (C := "CoinKeeperModel") (T := F_12) (N := 98) hx hb hts i_12 hown hK hP 0 rfl rfl 64 (by decide) (hts _ gw_1483) (fun _ h9 => h9) rfl d_M_isKey_251 ?_
    obtain ⟨f5, f6, hc, hf⟩ := bdp2 hf
    refine q_av (wr := [((q 39), .inl (cy 1, 8, .inl g_one)), ((q 52), .inl (cy 1, 8, .inl u1)), ((q 53), .inl (cy 1, 8, .inl u2)), ((q 54), .inl (cy 1, 8, .inl u3)), ((q 55), .inl (cy 1, 8, .inl u4)), (b1, .inl (cy 0, n1, .inl h1))]) (va_runV (C := "CoinKeeperModel") (As := [.ref (q 56), .ref (q 56), .ref (q 56)]) (rest := []) ⟨hx, hb, hml, hown, hts⟩ (c_M_times_e21e31 l D cy ad fu o q (q 56) z u0 u5 _ hc H.size) ⟨q_cB hts gw_1979 gw_18 gw_1976 hdm_20 ⟨by decide, by decide⟩, hts _ gw_1978, hts _ gs_112⟩ (q_preV (q_pre (hP.sub [0, 2, 7] rfl) (hD.sub [0, 2, 7] (by decide) rfl) hK hSt hS (va_free hD hS hA [0, 2, 7] rfl) _) (va_recv hK (hP.sub [0, 2, 7] rfl) (ci := 12) (q0 := 0) rfl rfl)) rfl rfl hl.1 rfl (lv_room (Nat.le_of_ble_eq_true rfl)) d_M_isKey_254 ⟨Nat.le_of_ble_eq_true rfl, Nat.le_of_ble_eq_true rfl⟩) hP hD hS hA [0, 2, 7] [1, 3, 4, 5, 6, 8] rfl rfl (by decide) (by decide) (fun H locs hP hD hS => ?_)
    clear hc
    have hP : va_P D classes [((q 39), .inl (cy 1, 8, .inl g_one)), ((q 52), .inl (cy 1, 8, .inl u1)), ((q 53), .inl (cy 1, 8, .inl u2)), ((q 54), .inl (cy 1, 8, .inl u3)), ((q 55), .inl (cy 1, 8, .inl u4)), (b1, .inl (cy 0, n1, .inl h1)), (o, .inr (12, mo q z)), ((q 50), .inl (cy 1, 16, .inl f5)), ((q 56), .inl (cy 1, 8, .inl f6))] H := hP
    have hD : va_D A [((q 39), .inl (cy 1, 8, .inl g_one)), ((q 52), .inl (cy 1, 8, .inl u1)), ((q 53), .inl (cy 1, 8, .inl u2)), ((q 54), .inl (cy 1, 8, .inl u3)), ((q 55), .inl (cy 1, 8, .inl u4)), (b1, .inl (cy 0, n1, .inl h1)), (o, .inr (12, mo q z)), ((q 50), .inl (cy 1, 16, .inl f5)), ((q 56), .inl (cy 1, 8, .inl f6))] := hD
    refine lv_aload_n hx hb d_M_isKey_257 rfl (lv_at hl 0 rfl) ?_
    refine va_get (D := D) (ci := 12) (v := .ref (q 54)) (C := "CoinKeeperModel") (T := F_12) (N := 98) hx hb hts i_12 hown hK hP 6 rfl rfl 62 (by decide) (hts _ gw_1481) (fun _ h9 => h9) rfl d_M_isKey_258 ?_
    refine lv_iload hx hb d_M_isKey_261 (lv_at hl 2 rfl) ?_
    obtain ⟨v7, hc, hf⟩ := bdp1 hf
    refine q_ai (wr := [((q 39), .inl (cy 1, 8, .inl g_one)), ((q 52), .inl (cy 1, 8, .inl u1)), ((q 53), .inl (cy 1, 8, .inl u2)), ((q 55), .inl (cy 1, 8, .inl u4)), (b1, .inl (cy 0, n1, .inl h1)), (o, .inr (12, mo q z)), ((q 50), .inl (cy 1, 16, .inl f5)), ((q 56), .inl (cy 1, 8, .inl f6))]) (va_runS (As := [.ref (q 54), .int x5]) (rest := []) ⟨hx, hb, hml, hown, hts⟩ (c_M_bit l D cy ad fu (q 54) u3 x5 _ hc H.size) ⟨q_cB hts gw_1401 gw_18 gw_1399 hdm_21 ⟨by decide, by decide⟩, hts _ gw_1400⟩ (q_pre (hP.sub [3] rfl) (hD.sub [3] (by decide) rfl) hK hSt hS (va_free hD hS hA [3] rfl) _) rfl rfl hl.1 rfl (lv_room (Nat.le_of_ble_eq_true rfl)) d_M_isKey_263 ⟨Nat.le_of_ble_eq_true rfl, Nat.le_of_ble_eq_true rfl⟩) hP hD hS hA [3] [0, 1, 2, 4, 5, 6, 7, 8] rfl rfl (by decide) (by decide) (fun H locs hP hD hS => ?_)
    clear hc
    have hP : va_P D classes [((q 39), .inl (cy 1, 8, .inl g_one)), ((q 52), .inl (cy 1, 8, .inl u1)), ((q 53), .inl (cy 1, 8, .inl u2)), ((q 55), .inl (cy 1, 8, .inl u4)), (b1, .inl (cy 0, n1, .inl h1)), (o, .inr (12, mo q z)), ((q 50), .inl (cy 1, 16, .inl f5)), ((q 56), .inl (cy 1, 8, .inl f6)), ((q 54), .inl (cy 1, 8, .inl u3))] H := hP
    have hD : va_D A [((q 39), .inl (cy 1, 8, .inl g_one)), ((q 52), .inl (cy 1, 8, .inl u1)), ((q 53), .inl (cy 1, 8, .inl u2)), ((q 55), .inl (cy 1, 8, .inl u4)), (b1, .inl (cy 0, n1, .inl h1)), (o, .inr (12, mo q z)), ((q 50), .inl (cy 1, 16, .inl f5)), ((q 56), .inl (cy 1, 8, .inl f6)), ((q 54), .inl (cy 1, 8, .inl u3))] := hD
    refine lv_iconst (v := 1) hx hb d_M_isKey_266 (by decide) ?_
    refine lv_icmp_ne (tgt := 286) hx hb d_M_isKey_267 (by decide) (fun cx => ?_) (fun cx => ?_)
    · have hf := ifn cx hf
      exact wb_M_isKey_286 (fu := fu) F hk_236 _ _ _ _ _ _ _ _ _ hf _ _ _ (hP.sub (ws' := [(o, .inr (12, mo q z)), ((q 39), .inl (cy 1, 8, .inl g_one)), ((q 50), .inl (cy 1, 16, .inl f5)), ((q 52), .inl (cy 1, 8, .inl u1)), ((q 53), .inl (cy 1, 8, .inl u2)), ((q 54), .inl (cy 1, 8, .inl u3)), ((q 55), .inl (cy 1, 8, .inl u4)), ((q 56), .inl (cy 1, 8, .inl f6)), (b1, .inl (cy 0, n1, .inl h1))]) [5, 0, 6, 1, 2, 8, 3, 7, 4] rfl) (hD.sub (ws' := [(o, .inr (12, mo q z)), ((q 39), .inl (cy 1, 8, .inl g_one)), ((q 50), .inl (cy 1, 16, .inl f5)), ((q 52), .inl (cy 1, 8, .inl u1)), ((q 53), .inl (cy 1, 8, .inl u2)), ((q 54), .inl (cy 1, 8, .inl u3)), ((q 55), .inl (cy 1, 8, .inl u4)), ((q 56), .inl (cy 1, 8, .inl f6)), (b1, .inl (cy 0, n1, .inl h1))]) [5, 0, 6, 1, 2, 8, 3, 7, 4] (by decide) rfl) hS (lv_sub hl [0, 1, 2] rfl)
    · have hf := ifp cx hf
      refine lv_aload_n hx hb d_M_isKey_270 rfl (lv_at hl 0 rfl) ?_
      refine lv_aload_n hx hb d_M_isKey_271 rfl (lv_at hl 0 rfl) ?_
      refine va_get (D := D) (ci := 12) (v := .ref (q 56)) (C := "CoinKeeperModel") (T := F_12) (N := 98) hx hb hts i_12 hown hK hP 5 rfl rfl 64 (by decide) (hts _ gw_1483) (fun _ h9 => h9) rfl d_M_isKey_272 ?_
      refine lv_aload_n hx hb d_M_isKey_275 rfl (lv_at hl 0 rfl) ?_
      refine va_get (D := D) (ci := 12) (v := .ref (q 56)) (C := "CoinKeeperModel") (T := F_12) (N := 98) hx hb hts i_12 hown hK hP 5 rfl rfl 64 (by decide) (hts _ gw_1483) (fun _ h9 => h9) rfl d_M_isKey_276 ?_
      refine lv_aload_n hx hb d_M_isKey_279 rfl (lv_at hl 0 rfl) ?_
      refine va_get (D := D) (ci := 12) (v := .ref (q 52)) (C := "CoinKeeperModel") (T := F_12) (N := 98) hx hb hts i_12 hown hK hP 5 rfl rfl 60 (by decide) (hts _ gw_1479) (fun _ h9 => h9) rfl d_M_isKey_280 ?_
      obtain ⟨f8, f9, hc, hf⟩ := bdp2 hf
      refine q_av (wr := [((q 39), .inl (cy 1, 8, .inl g_one)), ((q 53), .inl (cy 1, 8, .inl u2)), ((q 55), .inl (cy 1, 8, .inl u4)), (b1, .inl (cy 0, n1, .inl h1)), ((q 54), .inl (cy 1, 8, .inl u3))]) (va_runV (C := "CoinKeeperModel") (As := [.ref (q 56), .ref (q 56), .ref (q 52)]) (rest := []) ⟨hx, hb, hml, hown, hts⟩ (c_M_times_e21 l D cy ad fu o q (q 56) (q 52) z u1 f5 f6 _ hc H.size) ⟨q_cB hts gw_1979 gw_18 gw_1976 hdm_20 ⟨by decide, by decide⟩, hts _ gw_1978, hts _ gs_112⟩ (q_preV (q_pre (hP.sub [5, 6, 7, 1] rfl) (hD.sub [5, 6, 7, 1] (by decide) rfl) hK hSt hS (va_free hD hS hA [5, 6, 7, 1] rfl) _) (va_recv hK (hP.sub [5, 6, 7, 1] rfl) (ci := 12) (q0 := 0) rfl rfl)) rfl rfl hl.1 rfl (lv_room (Nat.le_of_ble_eq_true rfl)) d_M_isKey_283 ⟨Nat.le_of_ble_eq_true rfl, Nat.le_of_ble_eq_true rfl⟩) hP hD hS hA [5, 6, 7, 1] [0, 2, 3, 4, 8] rfl rfl (by decide) (by decide) (fun H locs hP hD hS => ?_)
      clear hc
      have hP : va_P D classes [((q 39), .inl (cy 1, 8, .inl g_one)), ((q 53), .inl (cy 1, 8, .inl u2)), ((q 55), .inl (cy 1, 8, .inl u4)), (b1, .inl (cy 0, n1, .inl h1)), ((q 54), .inl (cy 1, 8, .inl u3)), (o, .inr (12, mo q z)), ((q 50), .inl (cy 1, 16, .inl f8)), ((q 56), .inl (cy 1, 8, .inl f9)), ((q 52), .inl (cy 1, 8, .inl u1))] H := hP
      have hD : va_D A [((q 39), .inl (cy 1, 8, .inl g_one)), ((q 53), .inl (cy 1, 8, .inl u2)), ((q 55), .inl (cy 1, 8, .inl u4)), (b1, .inl (cy 0, n1, .inl h1)), ((q 54), .inl (cy 1, 8, .inl u3)), (o, .inr (12, mo q z)), ((q 50), .inl (cy 1, 16, .inl f8)), ((q 56), .inl (cy 1, 8, .inl f9)), ((q 52), .inl (cy 1, 8, .inl u1))] := hD
      exact wb_M_isKey_286 (fu := fu) F hk_236 _ _ _ _ _ _ _ _ _ hf _ _ _ (hP.sub (ws' := [(o, .inr (12, mo q z)), ((q 39), .inl (cy 1, 8, .inl g_one)), ((q 50), .inl (cy 1, 16, .inl f8)), ((q 52), .inl (cy 1, 8, .inl u1)), ((q 53), .inl (cy 1, 8, .inl u2)), ((q 54), .inl (cy 1, 8, .inl u3)), ((q 55), .inl (cy 1, 8, .inl u4)), ((q 56), .inl (cy 1, 8, .inl f9)), (b1, .inl (cy 0, n1, .inl h1))]) [5, 0, 6, 8, 1, 4, 2, 7, 3] rfl) (hD.sub (ws' := [(o, .inr (12, mo q z)), ((q 39), .inl (cy 1, 8, .inl g_one)), ((q 50), .inl (cy 1, 16, .inl f8)), ((q 52), .inl (cy 1, 8, .inl u1)), ((q 53), .inl (cy 1, 8, .inl u2)), ((q 54), .inl (cy 1, 8, .inl u3)), ((q 55), .inl (cy 1, 8, .inl u4)), ((q 56), .inl (cy 1, 8, .inl f9)), (b1, .inl (cy 0, n1, .inl h1))]) [5, 0, 6, 8, 1, 4, 2, 7, 3] (by decide) rfl) hS (lv_sub hl [0, 1, 2] rfl)
theorem w_M_isKey_236 {p : Program} {l : Launch} {e : Env} {s : State} {m : MethodId} {args : Array Value} {below : List Frame} {meth : Method} {c : Code} {D : va_G} {cy : Nat → ClassId} {A : Nat → Prop} {ad : Nat → Nat} {o : Nat} {q : Nat → Nat} {b1 : Nat} {z : Nat → Int32} {g_one : Nat → Int32} {n1 : Nat} {h1 : Nat → Int32} {fu : Nat} (F : Fx p s m args meth c b_M_isKey 6 "CoinKeeperModel" "isKey" (some .boolean) D cy ad A) : ∀ n : Nat, I_M_isKey_236 p l e s m args below meth c D cy A ad o q b1 z g_one n1 h1 (x_M_isKey_236 fu z g_one n1 h1 n)
  | 0 => fun _ _ _ _ _ _ _ _ _ hf => nomatch (show (none : Option (Int32 × (Nat → Int32) × (Nat → Int32) × (Nat → Int32) × (Nat → Int32) × (Nat → Int32) × (Nat → Int32))) = some _ from hf)
  | n + 1 => wb_M_isKey_236 F (w_M_isKey_236 F n)
set_option maxHeartbeats 8000000 in
set_option maxRecDepth 100000 in
theorem wb_M_isKey_132 {p : Program} {l : Launch} {e : Env} {s : State} {m : MethodId} {args : Array Value} {below : List Frame} {meth : Method} {c : Code} {D : va_G} {cy : Nat → ClassId} {A : Nat → Prop} {ad : Nat → Nat} {o : Nat} {q : Nat → Nat} {b1 : Nat} {z : Nat → Int32} {g_one : Nat → Int32} {n1 : Nat} {h1 : Nat → Int32} {fu : Nat} {k_108 : Int32 → Int32 → Int32 → Int32 → (Nat → Int32) → (Nat → Int32) → (Nat → Int32) → (Nat → Int32) → (Nat → Int32) → (Nat → Int32) → Option (Int32 × (Nat → Int32) × (Nat → Int32) × (Nat → Int32) × (Nat → Int32) × (Nat → Int32) × (Nat → Int32))} (F : Fx p s m args meth c b_M_isKey 6 "CoinKeeperModel" "isKey" (some .boolean) D cy ad A) (hk_108 : I_M_isKey_108 p l e s m args below meth c D cy A ad o q b1 z g_one n1 h1 k_108) : I_M_isKey_132 p l e s m args below meth c D cy A ad o q b1 z g_one n1 h1 (xb_M_isKey_132 fu z g_one n1 h1 k_108) := by
  obtain ⟨hx, hb, hr, hml, hown, hts, hlocks, hK, hA, hSt, hnm, hex⟩ := id F
  intro x2 x3 x4 x5 y0 y1 u0 u1 u2 u3 u4 u5 res hf H locs ls hP hD hS hl
  unfold xb_M_isKey_132 at hf
  obtain ⟨hg, hf⟩ := gdp hf
  refine va_iast hx hb hK hP hD hS 4 1 rfl rfl (inb_in hg) d_M_isKey_132 (fun H locs hP hD hS => ?_)
  obtain ⟨f1, ev, hf⟩ := bne hf
  have hP : va_P D classes [(o, .inr (12, mo q z)), ((q 39), .inl (cy 1, 8, .inl g_one)), ((q 50), .inl (cy 1, 16, .inl u0)), ((q 52), .inl (cy 1, 8, .inl u1)), ((q 53), .inl (cy 1, 8, .inl f1)), ((q 54), .inl (cy 1, 8, .inl u3)), ((q 55), .inl (cy 1, 8, .inl u4)), ((q 56), .inl (cy 1, 8, .inl u5)), (b1, .inl (cy 0, n1, .inl h1))] H := by rw [ev]; exact hP
  have hD : va_D A [(o, .inr (12, mo q z)), ((q 39), .inl (cy 1, 8, .inl g_one)), ((q 50), .inl (cy 1, 16, .inl u0)), ((q 52), .inl (cy 1, 8, .inl u1)), ((q 53), .inl (cy 1, 8, .inl f1)), ((q 54), .inl (cy 1, 8, .inl u3)), ((q 55), .inl (cy 1, 8, .inl u4)), ((q 56), .inl (cy 1, 8, .inl u5)), (b1, .inl (cy 0, n1, .inl h1))] := by rw [ev]; exact hD
  clear ev
  obtain ⟨v2, ev, hf⟩ := bne hf
  refine lv_iinc (v := v2) (lv' := [(5, .int v2), (0, .ref o), (1, .ref b1), (2, .int x2), (3, .int x3), (4, .int x4)]) hx hb d_M_isKey_133 hl (k := 5) rfl (by rw [ev]; rfl) (by decide) rfl (fun ls hl => ?_)
  clear ev
  refine lv_goto (tgt := 108) hx hb d_M_isKey_136 (by decide) ?_
  exact hk_108 _ _ _ _ _ _ _ _ _ _ _ hf _ _ _ hP hD hS (lv_sub hl [1, 2, 3, 4, 5, 0] rfl)
theorem hdm_22 : ({ cls := "CoinKeeperModel", name := "plus", desc := "([I[I[I)V" } : Jvm.MethodName).cls ≠ "java/lang/invoke/MethodHandle" ∧ ({ cls := "CoinKeeperModel", name := "plus", desc := "([I[I[I)V" } : Jvm.MethodName).cls ≠ "java/lang/invoke/VarHandle" ∧ (parseMethodDescriptor ({ cls := "CoinKeeperModel", name := "plus", desc := "([I[I[I)V" } : Jvm.MethodName).desc).map (fun d => d.parameters.length) = some 3 := by decide +kernel
theorem hdm_23 : ({ cls := "CoinKeeperModel", name := "half", desc := "([II)V" } : Jvm.MethodName).cls ≠ "java/lang/invoke/MethodHandle" ∧ ({ cls := "CoinKeeperModel", name := "half", desc := "([II)V" } : Jvm.MethodName).cls ≠ "java/lang/invoke/VarHandle" ∧ (parseMethodDescriptor ({ cls := "CoinKeeperModel", name := "half", desc := "([II)V" } : Jvm.MethodName).desc).map (fun d => d.parameters.length) = some 2 := by decide +kernel
theorem hdm_24 : ({ cls := "CoinKeeperModel", name := "copy", desc := "([I[I)V" } : Jvm.MethodName).cls ≠ "java/lang/invoke/MethodHandle" ∧ ({ cls := "CoinKeeperModel", name := "copy", desc := "([I[I)V" } : Jvm.MethodName).cls ≠ "java/lang/invoke/VarHandle" ∧ (parseMethodDescriptor ({ cls := "CoinKeeperModel", name := "copy", desc := "([I[I)V" } : Jvm.MethodName).desc).map (fun d => d.parameters.length) = some 2 := by decide +kernel
theorem hdm_25 : ({ cls := "CoinKeeperModel", name := "read", desc := "([I[BII)V" } : Jvm.MethodName).cls ≠ "java/lang/invoke/MethodHandle" ∧ ({ cls := "CoinKeeperModel", name := "read", desc := "([I[BII)V" } : Jvm.MethodName).cls ≠ "java/lang/invoke/VarHandle" ∧ (parseMethodDescriptor ({ cls := "CoinKeeperModel", name := "read", desc := "([I[BII)V" } : Jvm.MethodName).desc).map (fun d => d.parameters.length) = some 4 := by decide +kernel
set_option maxHeartbeats 8000000 in
set_option maxRecDepth 100000 in
theorem wb_M_isKey_108 {p : Program} {l : Launch} {e : Env} {s : State} {m : MethodId} {args : Array Value} {below : List Frame} {meth : Method} {c : Code} {D : va_G} {cy : Nat → ClassId} {A : Nat → Prop} {ad : Nat → Nat} {o : Nat} {q : Nat → Nat} {b1 : Nat} {z : Nat → Int32} {g_one : Nat → Int32} {n1 : Nat} {h1 : Nat → Int32} {fu : Nat} {k_108 : Int32 → Int32 → Int32 → Int32 → (Nat → Int32) → (Nat → Int32) → (Nat → Int32) → (Nat → Int32) → (Nat → Int32) → (Nat → Int32) → Option (Int32 × (Nat → Int32) × (Nat → Int32) × (Nat → Int32) × (Nat → Int32) × (Nat → Int32) × (Nat → Int32))} (F : Fx p s m args meth c b_M_isKey 6 "CoinKeeperModel" "isKey" (some .boolean) D cy ad A) (hk_108 : I_M_isKey_108 p l e s m args below meth c D cy A ad o q b1 z g_one n1 h1 k_108) : I_M_isKey_108 p l e s m args below meth c D cy A ad o q b1 z g_one n1 h1 (xb_M_isKey_108 fu z g_one n1 h1 k_108) := by
  obtain ⟨hx, hb, hr, hml, hown, hts, hlocks, hK, hA, hSt, hnm, hex⟩ := id F
  intro x2 x3 x4 x5 u0 u1 u2 u3 u4 u5 res hf H locs ls hP hD hS hl
  unfold xb_M_isKey_108 at hf
  refine lv_iload hx hb d_M_isKey_108 (lv_at hl 5 rfl) ?_
  refine lv_bipush (v := 8) hx hb d_M_isKey_110 (by decide) ?_
  refine lv_icmp_ge (tgt := 139) hx hb d_M_isKey_112 (by decide) (fun cx => ?_) (fun cx => ?_)
  · have hf := ifp cx hf
    refine lv_aload_n hx hb d_M_isKey_139 rfl (lv_at hl 0 rfl) ?_
    refine va_get (D := D) (ci := 12) (v := .ref (q 52)) (C := "CoinKeeperModel") (T := F_12) (N := 98) hx hb hts i_12 hown hK hP 0 rfl rfl 60 (by decide) (hts _ gw_1479) (fun _ h9 => h9) rfl d_M_isKey_140 ?_
    refine lv_aload_n hx hb d_M_isKey_143 rfl (lv_at hl 0 rfl) ?_
    refine va_get (D := D) (ci := 12) (v := .ref (q 52)) (C := "CoinKeeperModel") (T := F_12) (N := 98) hx hb hts i_12 hown hK hP 0 rfl rfl 60 (by decide) (hts _ gw_1479) (fun _ h9 => h9) rfl d_M_isKey_144 ?_
    refine lv_aload_n hx hb d_M_isKey_147 rfl (lv_at hl 0 rfl) ?_
    refine va_get (D := D) (ci := 12) (v := .ref (q 53)) (C := "CoinKeeperModel") (T := F_12) (N := 98) hx hb hts i_12 hown hK hP 0 rfl rfl 61 (by decide) (hts _ gw_1480) (fun _ h9 => h9) rfl d_M_isKey_148 ?_
    obtain ⟨f1, hc, hf⟩ := bdp1 hf
    refine q_av (wr := [(o, .inr (12, mo q z)), ((q 39), .inl (cy 1, 8, .inl g_one)), ((q 50), .inl (cy 1, 16, .inl u0)), ((q 54), .inl (cy 1, 8, .inl u3)), ((q 55), .inl (cy 1, 8, .inl u4)), ((q 56), .inl (cy 1, 8, .inl u5)), (b1, .inl (cy 0, n1, .inl h1))]) (va_runS (As := [.ref (q 52), .ref (q 52), .ref (q 53)]) (rest := []) ⟨hx, hb, hml, hown, hts⟩ (c_M_plus_e10 l D cy ad fu (q 52) (q 53) u2 u1 _ hc H.size) ⟨q_cB hts gw_1987 gw_18 gw_1985 hdm_22 ⟨by decide, by decide⟩, hts _ gw_1986⟩ (q_pre (hP.sub [3, 4] rfl) (hD.sub [3, 4] (by decide) rfl) hK hSt hS (va_free hD hS hA [3, 4] rfl) _) rfl rfl hl.1 rfl (lv_room (Nat.le_of_ble_eq_true rfl)) d_M_isKey_151 ⟨Nat.le_of_ble_eq_true rfl, Nat.le_of_ble_eq_true rfl⟩) hP hD hS hA [3, 4] [0, 1, 2, 5, 6, 7, 8] rfl rfl (by decide) (by decide) (fun H locs hP hD hS => ?_)
    clear hc
    have hP : va_P D classes [(o, .inr (12, mo q z)), ((q 39), .inl (cy 1, 8, .inl g_one)), ((q 50), .inl (cy 1, 16, .inl u0)), ((q 54), .inl (cy 1, 8, .inl u3)), ((q 55), .inl (cy 1, 8, .inl u4)), ((q 56), .inl (cy 1, 8, .inl u5)), (b1, .inl (cy 0, n1, .inl h1)), ((q 52), .inl (cy 1, 8, .inl f1)), ((q 53), .inl (cy 1, 8, .inl u2))] H := hP
    have hD : va_D A [(o, .inr (12, mo q z)), ((q 39), .inl (cy 1, 8, .inl g_one)), ((q 50), .inl (cy 1, 16, .inl u0)), ((q 54), .inl (cy 1, 8, .inl u3)), ((q 55), .inl (cy 1, 8, .inl u4)), ((q 56), .inl (cy 1, 8, .inl u5)), (b1, .inl (cy 0, n1, .inl h1)), ((q 52), .inl (cy 1, 8, .inl f1)), ((q 53), .inl (cy 1, 8, .inl u2))] := hD
    refine lv_iload_n hx hb d_M_isKey_154 rfl (lv_at hl 3 rfl) ?_
    refine lv_bipush (v := 65) hx hb d_M_isKey_155 (by decide) ?_
    refine lv_icmp_ne (tgt := 189) hx hb d_M_isKey_157 (by decide) (fun cx => ?_) (fun cx => ?_)
    · have hf := ifn cx hf
      refine lv_aload_n hx hb d_M_isKey_189 rfl (lv_at hl 0 rfl) ?_
      refine va_get (D := D) (ci := 12) (v := .ref (q 54)) (C := "CoinKeeperModel") (T := F_12) (N := 98) hx hb hts i_12 hown hK hP 0 rfl rfl 62 (by decide) (hts _ gw_1481) (fun _ h9 => h9) rfl d_M_isKey_190 ?_
      refine va_gets hx hb (hSt.1 22 _ rfl).1 hS hown (hts _ gw_1974) (fun _ h9 => h9) d_M_isKey_193 ?_
      refine lv_aload_n hx hb d_M_isKey_196 rfl (lv_at hl 0 rfl) ?_
      refine va_get (D := D) (ci := 12) (v := .ref (q 39)) (C := "CoinKeeperModel") (T := F_12) (N := 98) hx hb hts i_12 hown hK hP 0 rfl rfl 47 (by decide) (hts _ gw_1466) (fun _ h9 => h9) rfl d_M_isKey_197 ?_
      obtain ⟨v2, f3, hc, hf⟩ := bdp2 hf
      refine q_ai (wr := [(o, .inr (12, mo q z)), ((q 50), .inl (cy 1, 16, .inl u0)), ((q 55), .inl (cy 1, 8, .inl u4)), ((q 56), .inl (cy 1, 8, .inl u5)), (b1, .inl (cy 0, n1, .inl h1)), ((q 52), .inl (cy 1, 8, .inl f1)), ((q 53), .inl (cy 1, 8, .inl u2))]) (va_runS (As := [.ref (q 54), .ref (ad 22), .ref (q 39)]) (rest := []) ⟨hx, hb, hml, hown, hts⟩ (c_M_add_s1x22 l D cy ad fu (q 54) (q 39) g_one u3 _ hc H.size) ⟨q_cB hts gw_1389 gw_18 gw_1387 hdm_19 ⟨by decide, by decide⟩, hts _ gw_1388⟩ (q_pre (hP.sub [3, 1] rfl) (hD.sub [3, 1] (by decide) rfl) hK hSt hS (va_free hD hS hA [3, 1] rfl) _) rfl rfl hl.1 rfl (lv_room (Nat.le_of_ble_eq_true rfl)) d_M_isKey_200 ⟨Nat.le_of_ble_eq_true rfl, Nat.le_of_ble_eq_true rfl⟩) hP hD hS hA [3, 1] [0, 2, 4, 5, 6, 7, 8] rfl rfl (by decide) (by decide) (fun H locs hP hD hS => ?_)
      clear hc
      have hP : va_P D classes [(o, .inr (12, mo q z)), ((q 50), .inl (cy 1, 16, .inl u0)), ((q 55), .inl (cy 1, 8, .inl u4)), ((q 56), .inl (cy 1, 8, .inl u5)), (b1, .inl (cy 0, n1, .inl h1)), ((q 52), .inl (cy 1, 8, .inl f1)), ((q 53), .inl (cy 1, 8, .inl u2)), ((q 54), .inl (cy 1, 8, .inl f3)), ((q 39), .inl (cy 1, 8, .inl g_one))] H := hP
      have hD : va_D A [(o, .inr (12, mo q z)), ((q 50), .inl (cy 1, 16, .inl u0)), ((q 55), .inl (cy 1, 8, .inl u4)), ((q 56), .inl (cy 1, 8, .inl u5)), (b1, .inl (cy 0, n1, .inl h1)), ((q 52), .inl (cy 1, 8, .inl f1)), ((q 53), .inl (cy 1, 8, .inl u2)), ((q 54), .inl (cy 1, 8, .inl f3)), ((q 39), .inl (cy 1, 8, .inl g_one))] := hD
      refine lv_pop hx hb d_M_isKey_203 rfl ?_
      refine lv_aload_n hx hb d_M_isKey_204 rfl (lv_at hl 0 rfl) ?_
      refine va_get (D := D) (ci := 12) (v := .ref (q 54)) (C := "CoinKeeperModel") (T := F_12) (N := 98) hx hb hts i_12 hown hK hP 0 rfl rfl 62 (by decide) (hts _ gw_1481) (fun _ h9 => h9) rfl d_M_isKey_205 ?_
      refine lv_iconst (v := 0) hx hb d_M_isKey_208 (by decide) ?_
      obtain ⟨f4, hc, hf⟩ := bdp1 hf
      refine q_av (wr := [(o, .inr (12, mo q z)), ((q 50), .inl (cy 1, 16, .inl u0)), ((q 55), .inl (cy 1, 8, .inl u4)), ((q 56), .inl (cy 1, 8, .inl u5)), (b1, .inl (cy 0, n1, .inl h1)), ((q 52), .inl (cy 1, 8, .inl f1)), ((q 53), .inl (cy 1, 8, .inl u2)), ((q 39), .inl (cy 1, 8, .inl g_one))]) (va_runS (As := [.ref (q 54), .int (0 : Int32)]) (rest := []) ⟨hx, hb, hml, hown, hts⟩ (c_M_half l D cy ad fu (q 54) (0 : Int32) f3 _ hc H.size) ⟨q_cB hts gw_1990 gw_18 gw_1988 hdm_23 ⟨by decide, by decide⟩, hts _ gw_1989⟩ (q_pre (hP.sub [7] rfl) (hD.sub [7] (by decide) rfl) hK hSt hS (va_free hD hS hA [7] rfl) _) rfl rfl hl.1 rfl (lv_room (Nat.le_of_ble_eq_true rfl)) d_M_isKey_209 ⟨Nat.le_of_ble_eq_true rfl, Nat.le_of_ble_eq_true rfl⟩) hP hD hS hA [7] [0, 1, 2, 3, 4, 5, 6, 8] rfl rfl (by decide) (by decide) (fun H locs hP hD hS => ?_)
      clear hc
      have hP : va_P D classes [(o, .inr (12, mo q z)), ((q 50), .inl (cy 1, 16, .inl u0)), ((q 55), .inl (cy 1, 8, .inl u4)), ((q 56), .inl (cy 1, 8, .inl u5)), (b1, .inl (cy 0, n1, .inl h1)), ((q 52), .inl (cy 1, 8, .inl f1)), ((q 53), .inl (cy 1, 8, .inl u2)), ((q 39), .inl (cy 1, 8, .inl g_one)), ((q 54), .inl (cy 1, 8, .inl f4))] H := hP
      have hD : va_D A [(o, .inr (12, mo q z)), ((q 50), .inl (cy 1, 16, .inl u0)), ((q 55), .inl (cy 1, 8, .inl u4)), ((q 56), .inl (cy 1, 8, .inl u5)), (b1, .inl (cy 0, n1, .inl h1)), ((q 52), .inl (cy 1, 8, .inl f1)), ((q 53), .inl (cy 1, 8, .inl u2)), ((q 39), .inl (cy 1, 8, .inl g_one)), ((q 54), .inl (cy 1, 8, .inl f4))] := hD
      refine lv_aload_n hx hb d_M_isKey_212 rfl (lv_at hl 0 rfl) ?_
      refine va_get (D := D) (ci := 12) (v := .ref (q 54)) (C := "CoinKeeperModel") (T := F_12) (N := 98) hx hb hts i_12 hown hK hP 0 rfl rfl 62 (by decide) (hts _ gw_1481) (fun _ h9 => h9) rfl d_M_isKey_213 ?_
      refine lv_iconst (v := 0) hx hb d_M_isKey_216 (by decide) ?_
      obtain ⟨f5, hc, hf⟩ := bdp1 hf
      refine q_av (wr := [(o, .inr (12, mo q z)), ((q 50), .inl (cy 1, 16, .inl u0)), ((q 55), .inl (cy 1, 8, .inl u4)), ((q 56), .inl (cy 1, 8, .inl u5)), (b1, .inl (cy 0, n1, .inl h1)), ((q 52), .inl (cy 1, 8, .inl f1)), ((q 53), .inl (cy 1, 8, .inl u2)), ((q 39), .inl (cy 1, 8, .inl g_one))]) (va_runS (As := [.ref (q 54), .int (0 : Int32)]) (rest := []) ⟨hx, hb, hml, hown, hts⟩ (c_M_half l D cy ad fu (q 54) (0 : Int32) f4 _ hc H.size) ⟨q_cB hts gw_1990 gw_18 gw_1988 hdm_23 ⟨by decide, by decide⟩, hts _ gw_1989⟩ (q_pre (hP.sub [8] rfl) (hD.sub [8] (by decide) rfl) hK hSt hS (va_free hD hS hA [8] rfl) _) rfl rfl hl.1 rfl (lv_room (Nat.le_of_ble_eq_true rfl)) d_M_isKey_217 ⟨Nat.le_of_ble_eq_true rfl, Nat.le_of_ble_eq_true rfl⟩) hP hD hS hA [8] [0, 1, 2, 3, 4, 5, 6, 7] rfl rfl (by decide) (by decide) (fun H locs hP hD hS => ?_)
      clear hc
      have hP : va_P D classes [(o, .inr (12, mo q z)), ((q 50), .inl (cy 1, 16, .inl u0)), ((q 55), .inl (cy 1, 8, .inl u4)), ((q 56), .inl (cy 1, 8, .inl u5)), (b1, .inl (cy 0, n1, .inl h1)), ((q 52), .inl (cy 1, 8, .inl f1)), ((q 53), .inl (cy 1, 8, .inl u2)), ((q 39), .inl (cy 1, 8, .inl g_one)), ((q 54), .inl (cy 1, 8, .inl f5))] H := hP
      have hD : va_D A [(o, .inr (12, mo q z)), ((q 50), .inl (cy 1, 16, .inl u0)), ((q 55), .inl (cy 1, 8, .inl u4)), ((q 56), .inl (cy 1, 8, .inl u5)), (b1, .inl (cy 0, n1, .inl h1)), ((q 52), .inl (cy 1, 8, .inl f1)), ((q 53), .inl (cy 1, 8, .inl u2)), ((q 39), .inl (cy 1, 8, .inl g_one)), ((q 54), .inl (cy 1, 8, .inl f5))] := hD
      refine lv_aload_n hx hb d_M_isKey_220 rfl (lv_at hl 0 rfl) ?_
      refine va_get (D := D) (ci := 12) (v := .ref (q 56)) (C := "CoinKeeperModel") (T := F_12) (N := 98) hx hb hts i_12 hown hK hP 0 rfl rfl 64 (by decide) (hts _ gw_1483) (fun _ h9 => h9) rfl d_M_isKey_221 ?_
      refine lv_aload_n hx hb d_M_isKey_224 rfl (lv_at hl 0 rfl) ?_
      refine va_get (D := D) (ci := 12) (v := .ref (q 39)) (C := "CoinKeeperModel") (T := F_12) (N := 98) hx hb hts i_12 hown hK hP 0 rfl rfl 47 (by decide) (hts _ gw_1466) (fun _ h9 => h9) rfl d_M_isKey_225 ?_
      obtain ⟨f6, hc, hf⟩ := bdp1 hf
      refine q_av (wr := [(o, .inr (12, mo q z)), ((q 50), .inl (cy 1, 16, .inl u0)), ((q 55), .inl (cy 1, 8, .inl u4)), (b1, .inl (cy 0, n1, .inl h1)), ((q 52), .inl (cy 1, 8, .inl f1)), ((q 53), .inl (cy 1, 8, .inl u2)), ((q 54), .inl (cy 1, 8, .inl f5))]) (va_runS (As := [.ref (q 56), .ref (q 39)]) (rest := []) ⟨hx, hb, hml, hown, hts⟩ (c_M_copy l D cy ad fu (q 56) (q 39) g_one u5 _ hc H.size) ⟨q_cB hts gw_1397 gw_18 gw_1395 hdm_24 ⟨by decide, by decide⟩, hts _ gw_1396⟩ (q_pre (hP.sub [3, 7] rfl) (hD.sub [3, 7] (by decide) rfl) hK hSt hS (va_free hD hS hA [3, 7] rfl) _) rfl rfl hl.1 rfl (lv_room (Nat.le_of_ble_eq_true rfl)) d_M_isKey_228 ⟨Nat.le_of_ble_eq_true rfl, Nat.le_of_ble_eq_true rfl⟩) hP hD hS hA [3, 7] [0, 1, 2, 4, 5, 6, 8] rfl rfl (by decide) (by decide) (fun H locs hP hD hS => ?_)
      clear hc
      have hP : va_P D classes [(o, .inr (12, mo q z)), ((q 50), .inl (cy 1, 16, .inl u0)), ((q 55), .inl (cy 1, 8, .inl u4)), (b1, .inl (cy 0, n1, .inl h1)), ((q 52), .inl (cy 1, 8, .inl f1)), ((q 53), .inl (cy 1, 8, .inl u2)), ((q 54), .inl (cy 1, 8, .inl f5)), ((q 56), .inl (cy 1, 8, .inl f6)), ((q 39), .inl (cy 1, 8, .inl g_one))] H := hP
      have hD : va_D A [(o, .inr (12, mo q z)), ((q 50), .inl (cy 1, 16, .inl u0)), ((q 55), .inl (cy 1, 8, .inl u4)), (b1, .inl (cy 0, n1, .inl h1)), ((q 52), .inl (cy 1, 8, .inl f1)), ((q 53), .inl (cy 1, 8, .inl u2)), ((q 54), .inl (cy 1, 8, .inl f5)), ((q 56), .inl (cy 1, 8, .inl f6)), ((q 39), .inl (cy 1, 8, .inl g_one))] := hD
      refine lv_sipush (v := 253) hx hb d_M_isKey_231 (by decide) ?_
      refine lv_istore (lv' := [(5, .int (253 : Int32)), (0, .ref o), (1, .ref b1), (2, .int x2), (3, .int x3), (4, .int x4)]) hx hb d_M_isKey_234 hl (by decide) rfl (fun ls hl => ?_)
      exact w_M_isKey_236 F fu _ _ _ _ _ _ _ _ _ hf _ _ _ (hP.sub (ws' := [(o, .inr (12, mo q z)), ((q 39), .inl (cy 1, 8, .inl g_one)), ((q 50), .inl (cy 1, 16, .inl u0)), ((q 52), .inl (cy 1, 8, .inl f1)), ((q 53), .inl (cy 1, 8, .inl u2)), ((q 54), .inl (cy 1, 8, .inl f5)), ((q 55), .inl (cy 1, 8, .inl u4)), ((q 56), .inl (cy 1, 8, .inl f6)), (b1, .inl (cy 0, n1, .inl h1))]) [0, 8, 1, 4, 5, 6, 2, 7, 3] rfl) (hD.sub (ws' := [(o, .inr (12, mo q z)), ((q 39), .inl (cy 1, 8, .inl g_one)), ((q 50), .inl (cy 1, 16, .inl u0)), ((q 52), .inl (cy 1, 8, .inl f1)), ((q 53), .inl (cy 1, 8, .inl u2)), ((q 54), .inl (cy 1, 8, .inl f5)), ((q 55), .inl (cy 1, 8, .inl u4)), ((q 56), .inl (cy 1, 8, .inl f6)), (b1, .inl (cy 0, n1, .inl h1))]) [0, 8, 1, 4, 5, 6, 2, 7, 3] (by decide) rfl) hS (lv_sub hl [1, 5, 0] rfl)
    · have hf := ifp cx hf
      refine lv_aload_n hx hb d_M_isKey_160 rfl (lv_at hl 0 rfl) ?_
      refine va_get (D := D) (ci := 12) (v := .ref (q 56)) (C := "CoinKeeperModel") (T := F_12) (N := 98) hx hb hts i_12 hown hK hP 0 rfl rfl 64 (by decide) (hts _ gw_1483) (fun _ h9 => h9) rfl d_M_isKey_161 ?_
      refine lv_aload_n hx hb d_M_isKey_164 rfl (lv_at hl 1 rfl) ?_
      refine lv_iload_n hx hb d_M_isKey_165 rfl (lv_at hl 2 rfl) ?_
      refine lv_bipush (v := 33) hx hb d_M_isKey_166 (by decide) ?_
      refine lv_iadd hx hb d_M_isKey_168 ?_
      refine lv_topi (fun v7 ev => ?_)
      have hf := bn ev hf
      clear ev
      refine lv_bipush (v := 32) hx hb d_M_isKey_169 (by decide) ?_
      obtain ⟨f8, hc, hf⟩ := bdp1 hf
      refine q_av (wr := [(o, .inr (12, mo q z)), ((q 39), .inl (cy 1, 8, .inl g_one)), ((q 50), .inl (cy 1, 16, .inl u0)), ((q 54), .inl (cy 1, 8, .inl u3)), ((q 55), .inl (cy 1, 8, .inl u4)), ((q 52), .inl (cy 1, 8, .inl f1)), ((q 53), .inl (cy 1, 8, .inl u2))]) (va_runS (As := [.ref (q 56), .ref b1, .int v7, .int (32 : Int32)]) (rest := []) ⟨hx, hb, hml, hown, hts⟩ (c_M_read l D cy ad fu (q 56) b1 n1 h1 v7 (32 : Int32) u5 _ hc H.size) ⟨q_cB hts gw_1973 gw_18 gw_1971 hdm_25 ⟨by decide, by decide⟩, hts _ gw_1972⟩ (q_pre (hP.sub [5, 6] rfl) (hD.sub [5, 6] (by decide) rfl) hK hSt hS (va_free hD hS hA [5, 6] rfl) _) rfl rfl hl.1 rfl (lv_room (Nat.le_of_ble_eq_true rfl)) d_M_isKey_171 ⟨Nat.le_of_ble_eq_true rfl, Nat.le_of_ble_eq_true rfl⟩) hP hD hS hA [5, 6] [0, 1, 2, 3, 4, 7, 8] rfl rfl (by decide) (by decide) (fun H locs hP hD hS => ?_)
      clear hc
      have hP : va_P D classes [(o, .inr (12, mo q z)), ((q 39), .inl (cy 1, 8, .inl g_one)), ((q 50), .inl (cy 1, 16, .inl u0)), ((q 54), .inl (cy 1, 8, .inl u3)), ((q 55), .inl (cy 1, 8, .inl u4)), ((q 52), .inl (cy 1, 8, .inl f1)), ((q 53), .inl (cy 1, 8, .inl u2)), ((q 56), .inl (cy 1, 8, .inl f8)), (b1, .inl (cy 0, n1, .inl h1))] H := hP
      have hD : va_D A [(o, .inr (12, mo q z)), ((q 39), .inl (cy 1, 8, .inl g_one)), ((q 50), .inl (cy 1, 16, .inl u0)), ((q 54), .inl (cy 1, 8, .inl u3)), ((q 55), .inl (cy 1, 8, .inl u4)), ((q 52), .inl (cy 1, 8, .inl f1)), ((q 53), .inl (cy 1, 8, .inl u2)), ((q 56), .inl (cy 1, 8, .inl f8)), (b1, .inl (cy 0, n1, .inl h1))] := hD
      refine lv_aload_n hx hb d_M_isKey_174 rfl (lv_at hl 0 rfl) ?_
      refine va_get (D := D) (ci := 12) (v := .ref (q 56)) (C := "CoinKeeperModel") (T := F_12) (N := 98) hx hb hts i_12 hown hK hP 0 rfl rfl 64 (by decide) (hts _ gw_1483) (fun _ h9 => h9) rfl d_M_isKey_175 ?_
      refine va_gets hx hb (hSt.1 22 _ rfl).1 hS hown (hts _ gw_1974) (fun _ h9 => h9) d_M_isKey_178 ?_
      obtain ⟨v9, hc, hf⟩ := bdp1 hf
      refine q_ai (wr := [(o, .inr (12, mo q z)), ((q 39), .inl (cy 1, 8, .inl g_one)), ((q 50), .inl (cy 1, 16, .inl u0)), ((q 54), .inl (cy 1, 8, .inl u3)), ((q 55), .inl (cy 1, 8, .inl u4)), ((q 52), .inl (cy 1, 8, .inl f1)), ((q 53), .inl (cy 1, 8, .inl u2)), (b1, .inl (cy 0, n1, .inl h1))]) (va_runS (As := [.ref (q 56), .ref (ad 22)]) (rest := []) ⟨hx, hb, hml, hown, hts⟩ (c_M_compare_s1x22 l D cy ad fu (q 56) f8 _ hc H.size) ⟨q_cB hts gw_1404 gw_18 gw_1402 hdm_16 ⟨by decide, by decide⟩, hts _ gw_1403⟩ (q_pre (hP.sub [7] rfl) (hD.sub [7] (by decide) rfl) hK hSt hS (va_free hD hS hA [7] rfl) _) rfl rfl hl.1 rfl (lv_room (Nat.le_of_ble_eq_true rfl)) d_M_isKey_181 ⟨Nat.le_of_ble_eq_true rfl, Nat.le_of_ble_eq_true rfl⟩) hP hD hS hA [7] [0, 1, 2, 3, 4, 5, 6, 8] rfl rfl (by decide) (by decide) (fun H locs hP hD hS => ?_)
      clear hc
      have hP : va_P D classes [(o, .inr (12, mo q z)), ((q 39), .inl (cy 1, 8, .inl g_one)), ((q 50), .inl (cy 1, 16, .inl u0)), ((q 54), .inl (cy 1, 8, .inl u3)), ((q 55), .inl (cy 1, 8, .inl u4)), ((q 52), .inl (cy 1, 8, .inl f1)), ((q 53), .inl (cy 1, 8, .inl u2)), (b1, .inl (cy 0, n1, .inl h1)), ((q 56), .inl (cy 1, 8, .inl f8))] H := hP
      have hD : va_D A [(o, .inr (12, mo q z)), ((q 39), .inl (cy 1, 8, .inl g_one)), ((q 50), .inl (cy 1, 16, .inl u0)), ((q 54), .inl (cy 1, 8, .inl u3)), ((q 55), .inl (cy 1, 8, .inl u4)), ((q 52), .inl (cy 1, 8, .inl f1)), ((q 53), .inl (cy 1, 8, .inl u2)), (b1, .inl (cy 0, n1, .inl h1)), ((q 56), .inl (cy 1, 8, .inl f8))] := hD
      refine lv_if_lt (tgt := 322) hx hb d_M_isKey_184 (by decide) (fun cx => ?_) (fun cx => ?_)
      · have hf := ifp cx hf
        exact wb_M_isKey_322 (fu := fu) F _ _ _ _ _ _ _ hf _ _ _ (hP.sub (ws' := [(o, .inr (12, mo q z)), ((q 39), .inl (cy 1, 8, .inl g_one)), ((q 50), .inl (cy 1, 16, .inl u0)), ((q 52), .inl (cy 1, 8, .inl f1)), ((q 53), .inl (cy 1, 8, .inl u2)), ((q 54), .inl (cy 1, 8, .inl u3)), ((q 55), .inl (cy 1, 8, .inl u4)), ((q 56), .inl (cy 1, 8, .inl f8)), (b1, .inl (cy 0, n1, .inl h1))]) [0, 1, 2, 5, 6, 3, 4, 8, 7] rfl) (hD.sub (ws' := [(o, .inr (12, mo q z)), ((q 39), .inl (cy 1, 8, .inl g_one)), ((q 50), .inl (cy 1, 16, .inl u0)), ((q 52), .inl (cy 1, 8, .inl f1)), ((q 53), .inl (cy 1, 8, .inl u2)), ((q 54), .inl (cy 1, 8, .inl u3)), ((q 55), .inl (cy 1, 8, .inl u4)), ((q 56), .inl (cy 1, 8, .inl f8)), (b1, .inl (cy 0, n1, .inl h1))]) [0, 1, 2, 5, 6, 3, 4, 8, 7] (by decide) rfl) hS (lv_sub hl [0] rfl)
      · have hf := ifn cx hf
        refine lv_iconst (v := 0) hx hb d_M_isKey_187 (by decide) ?_
        obtain rfl := Option.some.inj hf
        exact q_rz hx hb hr hlocks hK (hP.sub [0, 1, 2, 5, 6, 3, 4, 8, 7] rfl) (hD.sub [0, 1, 2, 5, 6, 3, 4, 8, 7] (by decide) rfl) hS (isb_n (v := 0) (by decide)) d_M_isKey_188
  · have hf := ifn cx hf
    refine lv_aload_n hx hb d_M_isKey_115 rfl (lv_at hl 0 rfl) ?_
    refine va_get (D := D) (ci := 12) (v := .ref (q 53)) (C := "CoinKeeperModel") (T := F_12) (N := 98) hx hb hts i_12 hown hK hP 0 rfl rfl 61 (by decide) (hts _ gw_1480) (fun _ h9 => h9) rfl d_M_isKey_116 ?_
    refine lv_iload hx hb d_M_isKey_119 (lv_at hl 5 rfl) ?_
    refine lv_iload hx hb d_M_isKey_121 (lv_at hl 5 rfl) ?_
    refine lv_if_ne (tgt := 131) hx hb d_M_isKey_123 (by decide) (fun cx => ?_) (fun cx => ?_)
    · have hf := ifn cx hf
      refine lv_iconst (v := 0) hx hb d_M_isKey_131 (by decide) ?_
      exact wb_M_isKey_132 (fu := fu) F hk_108 _ _ _ _ _ _ _ _ _ _ _ _ _ hf _ _ _ hP hD hS (lv_sub hl [0, 1, 2, 3, 4, 5] rfl)
    · have hf := ifp cx hf
      refine lv_bipush (v := 7) hx hb d_M_isKey_126 (by decide) ?_
      refine lv_goto (tgt := 132) hx hb d_M_isKey_128 (by decide) ?_
      exact wb_M_isKey_132 (fu := fu) F hk_108 _ _ _ _ _ _ _ _ _ _ _ _ _ hf _ _ _ hP hD hS (lv_sub hl [0, 1, 2, 3, 4, 5] rfl)
theorem w_M_isKey_108 {p : Program} {l : Launch} {e : Env} {s : State} {m : MethodId} {args : Array Value} {below : List Frame} {meth : Method} {c : Code} {D : va_G} {cy : Nat → ClassId} {A : Nat → Prop} {ad : Nat → Nat} {o : Nat} {q : Nat → Nat} {b1 : Nat} {z : Nat → Int32} {g_one : Nat → Int32} {n1 : Nat} {h1 : Nat → Int32} {fu : Nat} (F : Fx p s m args meth c b_M_isKey 6 "CoinKeeperModel" "isKey" (some .boolean) D cy ad A) : ∀ n : Nat, I_M_isKey_108 p l e s m args below meth c D cy A ad o q b1 z g_one n1 h1 (x_M_isKey_108 fu z g_one n1 h1 n)
  | 0 => fun _ _ _ _ _ _ _ _ _ _ _ hf => nomatch (show (none : Option (Int32 × (Nat → Int32) × (Nat → Int32) × (Nat → Int32) × (Nat → Int32) × (Nat → Int32) × (Nat → Int32))) = some _ from hf)
  | n + 1 => wb_M_isKey_108 F (w_M_isKey_108 F n)
set_option maxHeartbeats 8000000 in
set_option maxRecDepth 100000 in
theorem wb_M_isKey_45 {p : Program} {l : Launch} {e : Env} {s : State} {m : MethodId} {args : Array Value} {below : List Frame} {meth : Method} {c : Code} {D : va_G} {cy : Nat → ClassId} {A : Nat → Prop} {ad : Nat → Nat} {o : Nat} {q : Nat → Nat} {b1 : Nat} {z : Nat → Int32} {g_one : Nat → Int32} {n1 : Nat} {h1 : Nat → Int32} {fu : Nat} (F : Fx p s m args meth c b_M_isKey 6 "CoinKeeperModel" "isKey" (some .boolean) D cy ad A) : I_M_isKey_45 p l e s m args below meth c D cy A ad o q b1 z g_one n1 h1 (xb_M_isKey_45 fu z g_one n1 h1) := by
  obtain ⟨hx, hb, hr, hml, hown, hts, hlocks, hK, hA, hSt, hnm, hex⟩ := id F
  intro x2 x3 x4 u0 u1 u2 u3 u4 u5 res hf H locs ls hP hD hS hl
  unfold xb_M_isKey_45 at hf
  refine lv_aload_n hx hb d_M_isKey_45 rfl (lv_at hl 0 rfl) ?_
  refine va_get (D := D) (ci := 12) (v := .ref (q 55)) (C := "CoinKeeperModel") (T := F_12) (N := 98) hx hb hts i_12 hown hK hP 0 rfl rfl 63 (by decide) (hts _ gw_1482) (fun _ h9 => h9) rfl d_M_isKey_46 ?_
  refine lv_aload_n hx hb d_M_isKey_49 rfl (lv_at hl 1 rfl) ?_
  refine lv_iload_n hx hb d_M_isKey_50 rfl (lv_at hl 2 rfl) ?_
  refine lv_iconst (v := 1) hx hb d_M_isKey_51 (by decide) ?_
  refine lv_iadd hx hb d_M_isKey_52 ?_
  refine lv_topi (fun v1 ev => ?_)
  have hf := bn ev hf
  clear ev
  refine lv_bipush (v := 32) hx hb d_M_isKey_53 (by decide) ?_
  obtain ⟨f2, hc, hf⟩ := bdp1 hf
  refine q_av (wr := [(o, .inr (12, mo q z)), ((q 39), .inl (cy 1, 8, .inl g_one)), ((q 50), .inl (cy 1, 16, .inl u0)), ((q 52), .inl (cy 1, 8, .inl u1)), ((q 53), .inl (cy 1, 8, .inl u2)), ((q 54), .inl (cy 1, 8, .inl u3)), ((q 56), .inl (cy 1, 8, .inl u5))]) (va_runS (As := [.ref (q 55), .ref b1, .int v1, .int (32 : Int32)]) (rest := []) ⟨hx, hb, hml, hown, hts⟩ (c_M_read l D cy ad fu (q 55) b1 n1 h1 v1 (32 : Int32) u4 _ hc H.size) ⟨q_cB hts gw_1973 gw_18 gw_1971 hdm_25 ⟨by decide, by decide⟩, hts _ gw_1972⟩ (q_pre (hP.sub [6, 8] rfl) (hD.sub [6, 8] (by decide) rfl) hK hSt hS (va_free hD hS hA [6, 8] rfl) _) rfl rfl hl.1 rfl (lv_room (Nat.le_of_ble_eq_true rfl)) d_M_isKey_55 ⟨Nat.le_of_ble_eq_true rfl, Nat.le_of_ble_eq_true rfl⟩) hP hD hS hA [6, 8] [0, 1, 2, 3, 4, 5, 7] rfl rfl (by decide) (by decide) (fun H locs hP hD hS => ?_)
  clear hc
  have hP : va_P D classes [(o, .inr (12, mo q z)), ((q 39), .inl (cy 1, 8, .inl g_one)), ((q 50), .inl (cy 1, 16, .inl u0)), ((q 52), .inl (cy 1, 8, .inl u1)), ((q 53), .inl (cy 1, 8, .inl u2)), ((q 54), .inl (cy 1, 8, .inl u3)), ((q 56), .inl (cy 1, 8, .inl u5)), ((q 55), .inl (cy 1, 8, .inl f2)), (b1, .inl (cy 0, n1, .inl h1))] H := hP
  have hD : va_D A [(o, .inr (12, mo q z)), ((q 39), .inl (cy 1, 8, .inl g_one)), ((q 50), .inl (cy 1, 16, .inl u0)), ((q 52), .inl (cy 1, 8, .inl u1)), ((q 53), .inl (cy 1, 8, .inl u2)), ((q 54), .inl (cy 1, 8, .inl u3)), ((q 56), .inl (cy 1, 8, .inl u5)), ((q 55), .inl (cy 1, 8, .inl f2)), (b1, .inl (cy 0, n1, .inl h1))] := hD
  refine lv_aload_n hx hb d_M_isKey_58 rfl (lv_at hl 0 rfl) ?_
  refine va_get (D := D) (ci := 12) (v := .ref (q 55)) (C := "CoinKeeperModel") (T := F_12) (N := 98) hx hb hts i_12 hown hK hP 0 rfl rfl 63 (by decide) (hts _ gw_1482) (fun _ h9 => h9) rfl d_M_isKey_59 ?_
  refine va_gets hx hb (hSt.1 22 _ rfl).1 hS hown (hts _ gw_1974) (fun _ h9 => h9) d_M_isKey_62 ?_
  obtain ⟨v3, hc, hf⟩ := bdp1 hf
  refine q_ai (wr := [(o, .inr (12, mo q z)), ((q 39), .inl (cy 1, 8, .inl g_one)), ((q 50), .inl (cy 1, 16, .inl u0)), ((q 52), .inl (cy 1, 8, .inl u1)), ((q 53), .inl (cy 1, 8, .inl u2)), ((q 54), .inl (cy 1, 8, .inl u3)), ((q 56), .inl (cy 1, 8, .inl u5)), (b1, .inl (cy 0, n1, .inl h1))]) (va_runS (As := [.ref (q 55), .ref (ad 22)]) (rest := []) ⟨hx, hb, hml, hown, hts⟩ (c_M_compare_s1x22 l D cy ad fu (q 55) f2 _ hc H.size) ⟨q_cB hts gw_1404 gw_18 gw_1402 hdm_16 ⟨by decide, by decide⟩, hts _ gw_1403⟩ (q_pre (hP.sub [7] rfl) (hD.sub [7] (by decide) rfl) hK hSt hS (va_free hD hS hA [7] rfl) _) rfl rfl hl.1 rfl (lv_room (Nat.le_of_ble_eq_true rfl)) d_M_isKey_65 ⟨Nat.le_of_ble_eq_true rfl, Nat.le_of_ble_eq_true rfl⟩) hP hD hS hA [7] [0, 1, 2, 3, 4, 5, 6, 8] rfl rfl (by decide) (by decide) (fun H locs hP hD hS => ?_)
  clear hc
  have hP : va_P D classes [(o, .inr (12, mo q z)), ((q 39), .inl (cy 1, 8, .inl g_one)), ((q 50), .inl (cy 1, 16, .inl u0)), ((q 52), .inl (cy 1, 8, .inl u1)), ((q 53), .inl (cy 1, 8, .inl u2)), ((q 54), .inl (cy 1, 8, .inl u3)), ((q 56), .inl (cy 1, 8, .inl u5)), (b1, .inl (cy 0, n1, .inl h1)), ((q 55), .inl (cy 1, 8, .inl f2))] H := hP
  have hD : va_D A [(o, .inr (12, mo q z)), ((q 39), .inl (cy 1, 8, .inl g_one)), ((q 50), .inl (cy 1, 16, .inl u0)), ((q 52), .inl (cy 1, 8, .inl u1)), ((q 53), .inl (cy 1, 8, .inl u2)), ((q 54), .inl (cy 1, 8, .inl u3)), ((q 56), .inl (cy 1, 8, .inl u5)), (b1, .inl (cy 0, n1, .inl h1)), ((q 55), .inl (cy 1, 8, .inl f2))] := hD
  refine lv_if_lt (tgt := 73) hx hb d_M_isKey_68 (by decide) (fun cx => ?_) (fun cx => ?_)
  · have hf := ifp cx hf
    refine lv_aload_n hx hb d_M_isKey_73 rfl (lv_at hl 0 rfl) ?_
    refine lv_aload_n hx hb d_M_isKey_74 rfl (lv_at hl 0 rfl) ?_
    refine va_get (D := D) (ci := 12) (v := .ref (q 52)) (C := "CoinKeeperModel") (T := F_12) (N := 98) hx hb hts i_12 hown hK hP 0 rfl rfl 60 (by decide) (hts _ gw_1479) (fun _ h9 => h9) rfl d_M_isKey_75 ?_
    refine lv_aload_n hx hb d_M_isKey_78 rfl (lv_at hl 0 rfl) ?_
    refine va_get (D := D) (ci := 12) (v := .ref (q 55)) (C := "CoinKeeperModel") (T := F_12) (N := 98) hx hb hts i_12 hown hK hP 0 rfl rfl 63 (by decide) (hts _ gw_1482) (fun _ h9 => h9) rfl d_M_isKey_79 ?_
    refine lv_aload_n hx hb d_M_isKey_82 rfl (lv_at hl 0 rfl) ?_
    refine va_get (D := D) (ci := 12) (v := .ref (q 55)) (C := "CoinKeeperModel") (T := F_12) (N := 98) hx hb hts i_12 hown hK hP 0 rfl rfl 63 (by decide) (hts _ gw_1482) (fun _ h9 => h9) rfl d_M_isKey_83 ?_
    obtain ⟨f4, f5, hc, hf⟩ := bdp2 hf
    refine q_av (wr := [((q 39), .inl (cy 1, 8, .inl g_one)), ((q 53), .inl (cy 1, 8, .inl u2)), ((q 54), .inl (cy 1, 8, .inl u3)), ((q 56), .inl (cy 1, 8, .inl u5)), (b1, .inl (cy 0, n1, .inl h1))]) (va_runV (C := "CoinKeeperModel") (As := [.ref (q 52), .ref (q 55), .ref (q 55)]) (rest := []) ⟨hx, hb, hml, hown, hts⟩ (c_M_times_e32 l D cy ad fu o q (q 52) (q 55) z f2 u0 u1 _ hc H.size) ⟨q_cB hts gw_1979 gw_18 gw_1976 hdm_20 ⟨by decide, by decide⟩, hts _ gw_1978, hts _ gs_112⟩ (q_preV (q_pre (hP.sub [0, 2, 3, 8] rfl) (hD.sub [0, 2, 3, 8] (by decide) rfl) hK hSt hS (va_free hD hS hA [0, 2, 3, 8] rfl) _) (va_recv hK (hP.sub [0, 2, 3, 8] rfl) (ci := 12) (q0 := 0) rfl rfl)) rfl rfl hl.1 rfl (lv_room (Nat.le_of_ble_eq_true rfl)) d_M_isKey_86 ⟨Nat.le_of_ble_eq_true rfl, Nat.le_of_ble_eq_true rfl⟩) hP hD hS hA [0, 2, 3, 8] [1, 4, 5, 6, 7] rfl rfl (by decide) (by decide) (fun H locs hP hD hS => ?_)
    clear hc
    have hP : va_P D classes [((q 39), .inl (cy 1, 8, .inl g_one)), ((q 53), .inl (cy 1, 8, .inl u2)), ((q 54), .inl (cy 1, 8, .inl u3)), ((q 56), .inl (cy 1, 8, .inl u5)), (b1, .inl (cy 0, n1, .inl h1)), (o, .inr (12, mo q z)), ((q 50), .inl (cy 1, 16, .inl f4)), ((q 52), .inl (cy 1, 8, .inl f5)), ((q 55), .inl (cy 1, 8, .inl f2))] H := hP
    have hD : va_D A [((q 39), .inl (cy 1, 8, .inl g_one)), ((q 53), .inl (cy 1, 8, .inl u2)), ((q 54), .inl (cy 1, 8, .inl u3)), ((q 56), .inl (cy 1, 8, .inl u5)), (b1, .inl (cy 0, n1, .inl h1)), (o, .inr (12, mo q z)), ((q 50), .inl (cy 1, 16, .inl f4)), ((q 52), .inl (cy 1, 8, .inl f5)), ((q 55), .inl (cy 1, 8, .inl f2))] := hD
    refine lv_aload_n hx hb d_M_isKey_89 rfl (lv_at hl 0 rfl) ?_
    refine lv_aload_n hx hb d_M_isKey_90 rfl (lv_at hl 0 rfl) ?_
    refine va_get (D := D) (ci := 12) (v := .ref (q 52)) (C := "CoinKeeperModel") (T := F_12) (N := 98) hx hb hts i_12 hown hK hP 5 rfl rfl 60 (by decide) (hts _ gw_1479) (fun _ h9 => h9) rfl d_M_isKey_91 ?_
    refine lv_aload_n hx hb d_M_isKey_94 rfl (lv_at hl 0 rfl) ?_
    refine va_get (D := D) (ci := 12) (v := .ref (q 52)) (C := "CoinKeeperModel") (T := F_12) (N := 98) hx hb hts i_12 hown hK hP 5 rfl rfl 60 (by decide) (hts _ gw_1479) (fun _ h9 => h9) rfl d_M_isKey_95 ?_
    refine lv_aload_n hx hb d_M_isKey_98 rfl (lv_at hl 0 rfl) ?_
    refine va_get (D := D) (ci := 12) (v := .ref (q 55)) (C := "CoinKeeperModel") (T := F_12) (N := 98) hx hb hts i_12 hown hK hP 5 rfl rfl 63 (by decide) (hts _ gw_1482) (fun _ h9 => h9) rfl d_M_isKey_99 ?_
    obtain ⟨f6, f7, hc, hf⟩ := bdp2 hf
    refine q_av (wr := [((q 39), .inl (cy 1, 8, .inl g_one)), ((q 53), .inl (cy 1, 8, .inl u2)), ((q 54), .inl (cy 1, 8, .inl u3)), ((q 56), .inl (cy 1, 8, .inl u5)), (b1, .inl (cy 0, n1, .inl h1))]) (va_runV (C := "CoinKeeperModel") (As := [.ref (q 52), .ref (q 52), .ref (q 55)]) (rest := []) ⟨hx, hb, hml, hown, hts⟩ (c_M_times_e21 l D cy ad fu o q (q 52) (q 55) z f2 f4 f5 _ hc H.size) ⟨q_cB hts gw_1979 gw_18 gw_1976 hdm_20 ⟨by decide, by decide⟩, hts _ gw_1978, hts _ gs_112⟩ (q_preV (q_pre (hP.sub [5, 6, 7, 8] rfl) (hD.sub [5, 6, 7, 8] (by decide) rfl) hK hSt hS (va_free hD hS hA [5, 6, 7, 8] rfl) _) (va_recv hK (hP.sub [5, 6, 7, 8] rfl) (ci := 12) (q0 := 0) rfl rfl)) rfl rfl hl.1 rfl (lv_room (Nat.le_of_ble_eq_true rfl)) d_M_isKey_102 ⟨Nat.le_of_ble_eq_true rfl, Nat.le_of_ble_eq_true rfl⟩) hP hD hS hA [5, 6, 7, 8] [0, 1, 2, 3, 4] rfl rfl (by decide) (by decide) (fun H locs hP hD hS => ?_)
    clear hc
    have hP : va_P D classes [((q 39), .inl (cy 1, 8, .inl g_one)), ((q 53), .inl (cy 1, 8, .inl u2)), ((q 54), .inl (cy 1, 8, .inl u3)), ((q 56), .inl (cy 1, 8, .inl u5)), (b1, .inl (cy 0, n1, .inl h1)), (o, .inr (12, mo q z)), ((q 50), .inl (cy 1, 16, .inl f6)), ((q 52), .inl (cy 1, 8, .inl f7)), ((q 55), .inl (cy 1, 8, .inl f2))] H := hP
    have hD : va_D A [((q 39), .inl (cy 1, 8, .inl g_one)), ((q 53), .inl (cy 1, 8, .inl u2)), ((q 54), .inl (cy 1, 8, .inl u3)), ((q 56), .inl (cy 1, 8, .inl u5)), (b1, .inl (cy 0, n1, .inl h1)), (o, .inr (12, mo q z)), ((q 50), .inl (cy 1, 16, .inl f6)), ((q 52), .inl (cy 1, 8, .inl f7)), ((q 55), .inl (cy 1, 8, .inl f2))] := hD
    refine lv_iconst (v := 0) hx hb d_M_isKey_105 (by decide) ?_
    refine lv_istore (lv' := [(5, .int (0 : Int32)), (0, .ref o), (1, .ref b1), (2, .int x2), (3, .int x3), (4, .int x4)]) hx hb d_M_isKey_106 hl (by decide) rfl (fun ls hl => ?_)
    exact w_M_isKey_108 F fu _ _ _ _ _ _ _ _ _ _ _ hf _ _ _ (hP.sub (ws' := [(o, .inr (12, mo q z)), ((q 39), .inl (cy 1, 8, .inl g_one)), ((q 50), .inl (cy 1, 16, .inl f6)), ((q 52), .inl (cy 1, 8, .inl f7)), ((q 53), .inl (cy 1, 8, .inl u2)), ((q 54), .inl (cy 1, 8, .inl u3)), ((q 55), .inl (cy 1, 8, .inl f2)), ((q 56), .inl (cy 1, 8, .inl u5)), (b1, .inl (cy 0, n1, .inl h1))]) [5, 0, 6, 7, 1, 2, 8, 3, 4] rfl) (hD.sub (ws' := [(o, .inr (12, mo q z)), ((q 39), .inl (cy 1, 8, .inl g_one)), ((q 50), .inl (cy 1, 16, .inl f6)), ((q 52), .inl (cy 1, 8, .inl f7)), ((q 53), .inl (cy 1, 8, .inl u2)), ((q 54), .inl (cy 1, 8, .inl u3)), ((q 55), .inl (cy 1, 8, .inl f2)), ((q 56), .inl (cy 1, 8, .inl u5)), (b1, .inl (cy 0, n1, .inl h1))]) [5, 0, 6, 7, 1, 2, 8, 3, 4] (by decide) rfl) hS (lv_sub hl [1, 2, 3, 4, 5, 0] rfl)
  · have hf := ifn cx hf
    refine lv_iconst (v := 0) hx hb d_M_isKey_71 (by decide) ?_
    obtain rfl := Option.some.inj hf
    exact q_rz hx hb hr hlocks hK (hP.sub [0, 1, 2, 3, 4, 5, 8, 6, 7] rfl) (hD.sub [0, 1, 2, 3, 4, 5, 8, 6, 7] (by decide) rfl) hS (isb_n (v := 0) (by decide)) d_M_isKey_72
set_option maxHeartbeats 8000000 in
set_option maxRecDepth 100000 in
theorem wb_M_isKey_31 {p : Program} {l : Launch} {e : Env} {s : State} {m : MethodId} {args : Array Value} {below : List Frame} {meth : Method} {c : Code} {D : va_G} {cy : Nat → ClassId} {A : Nat → Prop} {ad : Nat → Nat} {o : Nat} {q : Nat → Nat} {b1 : Nat} {z : Nat → Int32} {g_one : Nat → Int32} {n1 : Nat} {h1 : Nat → Int32} {fu : Nat} (F : Fx p s m args meth c b_M_isKey 6 "CoinKeeperModel" "isKey" (some .boolean) D cy ad A) : I_M_isKey_31 p l e s m args below meth c D cy A ad o q b1 z g_one n1 h1 (xb_M_isKey_31 fu z g_one n1 h1) := by
  obtain ⟨hx, hb, hr, hml, hown, hts, hlocks, hK, hA, hSt, hnm, hex⟩ := id F
  intro x2 x3 x4 u0 u1 u2 u3 u4 u5 res hf H locs ls hP hD hS hl
  unfold xb_M_isKey_31 at hf
  refine lv_iload_n hx hb d_M_isKey_31 rfl (lv_at hl 3 rfl) ?_
  refine lv_bipush (v := 65) hx hb d_M_isKey_32 (by decide) ?_
  refine lv_icmp_ne (tgt := 43) hx hb d_M_isKey_34 (by decide) (fun cx => ?_) (fun cx => ?_)
  · have hf := ifn cx hf
    refine lv_iconst (v := 0) hx hb d_M_isKey_43 (by decide) ?_
    obtain rfl := Option.some.inj hf
    exact q_rz hx hb hr hlocks hK hP hD hS (isb_n (v := 0) (by decide)) d_M_isKey_44
  · have hf := ifp cx hf
    refine lv_iload hx hb d_M_isKey_37 (lv_at hl 4 rfl) ?_
    refine lv_iconst (v := 4) hx hb d_M_isKey_39 (by decide) ?_
    refine lv_icmp_eq (tgt := 45) hx hb d_M_isKey_40 (by decide) (fun cx => ?_) (fun cx => ?_)
    · have hf := ifp cx hf
      exact wb_M_isKey_45 (fu := fu) F _ _ _ _ _ _ _ _ _ _ hf _ _ _ hP hD hS (lv_sub hl [0, 1, 2, 3, 4] rfl)
    · have hf := ifn cx hf
      refine lv_iconst (v := 0) hx hb d_M_isKey_43 (by decide) ?_
      obtain rfl := Option.some.inj hf
      exact q_rz hx hb hr hlocks hK hP hD hS (isb_n (v := 0) (by decide)) d_M_isKey_44
set_option maxHeartbeats 8000000 in
set_option maxRecDepth 100000 in
theorem wb_M_isKey_11 {p : Program} {l : Launch} {e : Env} {s : State} {m : MethodId} {args : Array Value} {below : List Frame} {meth : Method} {c : Code} {D : va_G} {cy : Nat → ClassId} {A : Nat → Prop} {ad : Nat → Nat} {o : Nat} {q : Nat → Nat} {b1 : Nat} {z : Nat → Int32} {g_one : Nat → Int32} {n1 : Nat} {h1 : Nat → Int32} {fu : Nat} (F : Fx p s m args meth c b_M_isKey 6 "CoinKeeperModel" "isKey" (some .boolean) D cy ad A) : I_M_isKey_11 p l e s m args below meth c D cy A ad o q b1 z g_one n1 h1 (xb_M_isKey_11 fu z g_one n1 h1) := by
  obtain ⟨hx, hb, hr, hml, hown, hts, hlocks, hK, hA, hSt, hnm, hex⟩ := id F
  intro x2 x3 y0 u0 u1 u2 u3 u4 u5 res hf H locs ls hP hD hS hl
  unfold xb_M_isKey_11 at hf
  refine lv_istore (lv' := [(4, .int y0), (0, .ref o), (1, .ref b1), (2, .int x2), (3, .int x3)]) hx hb d_M_isKey_11 hl (by decide) rfl (fun ls hl => ?_)
  refine lv_iload_n hx hb d_M_isKey_13 rfl (lv_at hl 4 rfl) ?_
  refine lv_bipush (v := 33) hx hb d_M_isKey_14 (by decide) ?_
  refine lv_icmp_ne (tgt := 31) hx hb d_M_isKey_16 (by decide) (fun cx => ?_) (fun cx => ?_)
  · have hf := ifn cx hf
    exact wb_M_isKey_31 (fu := fu) F _ _ _ _ _ _ _ _ _ _ hf _ _ _ hP hD hS (lv_sub hl [1, 2, 3, 4, 0] rfl)
  · have hf := ifp cx hf
    refine lv_iload hx hb d_M_isKey_19 (lv_at hl 0 rfl) ?_
    refine lv_iconst (v := 2) hx hb d_M_isKey_21 (by decide) ?_
    refine lv_icmp_eq (tgt := 45) hx hb d_M_isKey_22 (by decide) (fun cx => ?_) (fun cx => ?_)
    · have hf := ifp cx hf
      exact wb_M_isKey_45 (fu := fu) F _ _ _ _ _ _ _ _ _ _ hf _ _ _ hP hD hS (lv_sub hl [1, 2, 3, 4, 0] rfl)
    · have hf := ifn cx hf
      refine lv_iload hx hb d_M_isKey_25 (lv_at hl 0 rfl) ?_
      refine lv_iconst (v := 3) hx hb d_M_isKey_27 (by decide) ?_
      refine lv_icmp_eq (tgt := 45) hx hb d_M_isKey_28 (by decide) (fun cx => ?_) (fun cx => ?_)
      · have hf := ifp cx hf
        exact wb_M_isKey_45 (fu := fu) F _ _ _ _ _ _ _ _ _ _ hf _ _ _ hP hD hS (lv_sub hl [1, 2, 3, 4, 0] rfl)
      · have hf := ifn cx hf
        exact wb_M_isKey_31 (fu := fu) F _ _ _ _ _ _ _ _ _ _ hf _ _ _ hP hD hS (lv_sub hl [1, 2, 3, 4, 0] rfl)
set_option maxHeartbeats 8000000 in
set_option maxRecDepth 100000 in
theorem we_M_isKey {p : Program} {l : Launch} {e : Env} {s : State} {m : MethodId} {args : Array Value} {below : List Frame} {meth : Method} {c : Code} {D : va_G} {cy : Nat → ClassId} {A : Nat → Prop} {ad : Nat → Nat} {o : Nat} {q : Nat → Nat} {b1 : Nat} {z : Nat → Int32} {g_one : Nat → Int32} {n1 : Nat} {h1 : Nat → Int32} {fu : Nat} (F : Fx p s m args meth c b_M_isKey 6 "CoinKeeperModel" "isKey" (some .boolean) D cy ad A) : I_M_isKey_e p l e s m args below meth c D cy A ad o q b1 z g_one n1 h1 (x_M_isKey fu z g_one n1 h1) := by
  obtain ⟨hx, hb, hr, hml, hown, hts, hlocks, hK, hA, hSt, hnm, hex⟩ := id F
  intro a2 a3 u0 u1 u2 u3 u4 u5 res hf H locs ls hP hD hS hl
  unfold x_M_isKey at hf
  refine lv_iload_n hx hb d_M_isKey_0 rfl (lv_at hl 3 rfl) ?_
  refine lv_if_le (tgt := 10) hx hb d_M_isKey_1 (by decide) (fun cx => ?_) (fun cx => ?_)
  · have hf := ifp cx hf
    refine lv_iconst (v := 0) hx hb d_M_isKey_10 (by decide) ?_
    exact wb_M_isKey_11 (fu := fu) F _ _ _ _ _ _ _ _ _ _ hf _ _ _ hP hD hS (lv_sub hl [0, 1, 2, 3] rfl)
  · have hf := ifn cx hf
    refine lv_aload_n hx hb d_M_isKey_4 rfl (lv_at hl 1 rfl) ?_
    refine lv_iload_n hx hb d_M_isKey_5 rfl (lv_at hl 2 rfl) ?_
    obtain ⟨hg, hf⟩ := gdp hf
    refine va_bald hx hb hK hP 8 0 rfl rfl (inb_in hg) d_M_isKey_6 ?_
    refine lv_topi (fun v1 ev => ?_)
    have hf := bn ev hf
    clear ev
    refine lv_goto (tgt := 11) hx hb d_M_isKey_7 (by decide) ?_
    exact wb_M_isKey_11 (fu := fu) F _ _ _ _ _ _ _ _ _ _ hf _ _ _ hP hD hS (lv_sub hl [0, 1, 2, 3] rfl)
theorem c_M_isKey (l : Launch) (D : va_G) (cy : Nat → ClassId) (ad : Nat → Nat) (fu : Nat) (o : Nat) (q : Nat → Nat) (b1 : Nat) (z : Nat → Int32) (g_one : Nat → Int32) (n1 : Nat) (h1 : Nat → Int32) (a2 : Int32) (a3 : Int32) (u0 : Nat → Int32) (u1 : Nat → Int32) (u2 : Nat → Int32) (u3 : Nat → Int32) (u4 : Nat → Int32) (u5 : Nat → Int32) (res : Int32 × (Nat → Int32) × (Nat → Int32) × (Nat → Int32) × (Nat → Int32) × (Nat → Int32) × (Nat → Int32)) (hf : x_M_isKey fu z g_one n1 h1 a2 a3 u0 u1 u2 u3 u4 u5 = some res) (sz : Nat) : Met l ({ cls := "CoinKeeperModel", name := "isKey", desc := "([BII)Z" } : Jvm.MethodName) (.code ({ cls := "CoinKeeperModel", name := "isKey", desc := "([BII)Z" } : Jvm.MethodName) b_M_isKey 6 (some .boolean) :: gw) rm_M_isKey (va_Pc [.ref o, .ref b1, .int a2, .int a3] (Pr D cy ad [(o, .inr (12, mo q z)), ((q 39), .inl (cy 1, 8, .inl g_one)), ((q 50), .inl (cy 1, 16, .inl u0)), ((q 52), .inl (cy 1, 8, .inl u1)), ((q 53), .inl (cy 1, 8, .inl u2)), ((q 54), .inl (cy 1, 8, .inl u3)), ((q 55), .inl (cy 1, 8, .inl u4)), ((q 56), .inl (cy 1, 8, .inl u5)), (b1, .inl (cy 0, n1, .inl h1))] sz)) (q_M_isKey D cy (va_A [(o, .inr (12, mo q z)), ((q 39), .inl (cy 1, 8, .inl g_one)), ((q 50), .inl (cy 1, 16, .inl u0)), ((q 52), .inl (cy 1, 8, .inl u1)), ((q 53), .inl (cy 1, 8, .inl u2)), ((q 54), .inl (cy 1, 8, .inl u3)), ((q 55), .inl (cy 1, 8, .inl u4)), ((q 56), .inl (cy 1, 8, .inl u5)), (b1, .inl (cy 0, n1, .inl h1))] sz) o q b1 z g_one n1 h1 res) 0 0 (va_A [(o, .inr (12, mo q z)), ((q 39), .inl (cy 1, 8, .inl g_one)), ((q 50), .inl (cy 1, 16, .inl u0)), ((q 52), .inl (cy 1, 8, .inl u1)), ((q 53), .inl (cy 1, 8, .inl u2)), ((q 54), .inl (cy 1, 8, .inl u3)), ((q 55), .inl (cy 1, 8, .inl u4)), ((q 56), .inl (cy 1, 8, .inl u5)), (b1, .inl (cy 0, n1, .inl h1))] sz) :=
  q_met (Qc := fun A => q_M_isKey D cy A o q b1 z g_one n1 h1 res) (by decide) rfl rfl (Nat.le_of_ble_eq_true rfl) (fun p e s m below meth c ls F hP hD hS hl => we_M_isKey (fu := fu) F a2 a3 u0 u1 u2 u3 u4 u5 res hf _ _ _ hP hD hS hl) sz
abbrev b_M_isWhole : ByteArray := prog_14_method_34_code
theorem d_M_isWhole_0 : decode b_M_isWhole 0 = .ok (.iload_n 3, 1) := by decide +kernel
theorem d_M_isWhole_1 : decode b_M_isWhole 1 = .ok (.ifCond .le 32, 3) := by decide +kernel
theorem d_M_isWhole_4 : decode b_M_isWhole 4 = .ok (.aload_n 1, 1) := by decide +kernel
theorem d_M_isWhole_5 : decode b_M_isWhole 5 = .ok (.iload_n 2, 1) := by decide +kernel
theorem d_M_isWhole_6 : decode b_M_isWhole 6 = .ok (.baload, 1) := by decide +kernel
theorem d_M_isWhole_7 : decode b_M_isWhole 7 = .ok (.ifCond .lt 26, 3) := by decide +kernel
theorem d_M_isWhole_10 : decode b_M_isWhole 10 = .ok (.iload_n 3, 1) := by decide +kernel
theorem d_M_isWhole_11 : decode b_M_isWhole 11 = .ok (.iconst 1, 1) := by decide +kernel
theorem d_M_isWhole_12 : decode b_M_isWhole 12 = .ok (.if_icmp .le 17, 3) := by decide +kernel
theorem d_M_isWhole_15 : decode b_M_isWhole 15 = .ok (.aload_n 1, 1) := by decide +kernel
theorem d_M_isWhole_16 : decode b_M_isWhole 16 = .ok (.iload_n 2, 1) := by decide +kernel
theorem d_M_isWhole_17 : decode b_M_isWhole 17 = .ok (.baload, 1) := by decide +kernel
theorem d_M_isWhole_18 : decode b_M_isWhole 18 = .ok (.ifCond .ne 11, 3) := by decide +kernel
theorem d_M_isWhole_21 : decode b_M_isWhole 21 = .ok (.aload_n 1, 1) := by decide +kernel
theorem d_M_isWhole_22 : decode b_M_isWhole 22 = .ok (.iload_n 2, 1) := by decide +kernel
theorem d_M_isWhole_23 : decode b_M_isWhole 23 = .ok (.iconst 1, 1) := by decide +kernel
theorem d_M_isWhole_24 : decode b_M_isWhole 24 = .ok (.iadd, 1) := by decide +kernel
theorem d_M_isWhole_25 : decode b_M_isWhole 25 = .ok (.baload, 1) := by decide +kernel
theorem d_M_isWhole_26 : decode b_M_isWhole 26 = .ok (.ifCond .ge 7, 3) := by decide +kernel
theorem d_M_isWhole_29 : decode b_M_isWhole 29 = .ok (.iconst 1, 1) := by decide +kernel
theorem d_M_isWhole_30 : decode b_M_isWhole 30 = .ok (.goto 4, 3) := by decide +kernel
theorem d_M_isWhole_33 : decode b_M_isWhole 33 = .ok (.iconst 0, 1) := by decide +kernel
theorem d_M_isWhole_34 : decode b_M_isWhole 34 = .ok (.ireturn, 1) := by decide +kernel
abbrev rm_M_isWhole : Room := { frames := 0, cells := 0, slots := 0, locals := 0 }
abbrev q_M_isWhole (D : va_G) (cy : Nat → ClassId) (A : Nat → Prop) (o : Nat) (q : Nat → Nat) (b1 : Nat) (z : Nat → Int32) (n1 : Nat) (h1 : Nat → Int32) (res : Int32) : Array Value → State → Outcome → State → Prop := va_Qi (fun r' (_ : Unit) => r' = res) (fun _ t => Po D cy A [(o, .inr (12, mo q z)), (b1, .inl (cy 0, n1, .inl h1))] t) A
def I_M_isWhole_29 (p : Program) (l : Launch) (e : Env) (s : State) (m : MethodId) (args : Array Value) (below : List Frame) (meth : Method) (c : Code) (D : va_G) (cy : Nat → ClassId) (A : Nat → Prop) (ad : Nat → Nat) (o : Nat) (q : Nat → Nat) (b1 : Nat) (z : Nat → Int32) (n1 : Nat) (h1 : Nat → Int32) (k : Option (Int32)) : Prop :=
  ∀ (res : Int32), k  = some res → ∀ (H : Heap) (locs : List Loc) (ls : Array Slot), va_P D classes [(o, .inr (12, mo q z)), (b1, .inl (cy 0, n1, .inl h1))] H → va_D A [(o, .inr (12, mo q z)), (b1, .inl (cy 0, n1, .inl h1))] → va_S A s.heap H locs → lv_has ls 4 [] → W p l e rm_M_isWhole s m args below meth c H locs 0 0 (MQ below (q_M_isWhole D cy A o q b1 z n1 h1 res) args s 0 0 A) (F0 m 29 ls [])
def I_M_isWhole_e (p : Program) (l : Launch) (e : Env) (s : State) (m : MethodId) (args : Array Value) (below : List Frame) (meth : Method) (c : Code) (D : va_G) (cy : Nat → ClassId) (A : Nat → Prop) (ad : Nat → Nat) (o : Nat) (q : Nat → Nat) (b1 : Nat) (z : Nat → Int32) (n1 : Nat) (h1 : Nat → Int32) (k : Int32 → Int32 → Option (Int32)) : Prop :=
  ∀ (a2 : Int32) (a3 : Int32) (res : Int32), k a2 a3 = some res → ∀ (H : Heap) (locs : List Loc) (ls : Array Slot), va_P D classes [(o, .inr (12, mo q z)), (b1, .inl (cy 0, n1, .inl h1))] H → va_D A [(o, .inr (12, mo q z)), (b1, .inl (cy 0, n1, .inl h1))] → va_S A s.heap H locs → lv_has ls 4 [(0, .ref o), (1, .ref b1), (2, .int a2), (3, .int a3)] → W p l e rm_M_isWhole s m args below meth c H locs 0 0 (MQ below (q_M_isWhole D cy A o q b1 z n1 h1 res) args s 0 0 A) (F0 m 0 ls [])
set_option maxHeartbeats 8000000 in
set_option maxRecDepth 100000 in
theorem wb_M_isWhole_29 {p : Program} {l : Launch} {e : Env} {s : State} {m : MethodId} {args : Array Value} {below : List Frame} {meth : Method} {c : Code} {D : va_G} {cy : Nat → ClassId} {A : Nat → Prop} {ad : Nat → Nat} {o : Nat} {q : Nat → Nat} {b1 : Nat} {z : Nat → Int32} {n1 : Nat} {h1 : Nat → Int32} {fu : Nat} (F : Fx p s m args meth c b_M_isWhole 4 "CoinKeeperModel" "isWhole" (some .boolean) D cy ad A) : I_M_isWhole_29 p l e s m args below meth c D cy A ad o q b1 z n1 h1 (xb_M_isWhole_29 fu z n1 h1) := by
  obtain ⟨hx, hb, hr, hml, hown, hts, hlocks, hK, hA, hSt, hnm, hex⟩ := id F
  intro  res hf H locs ls hP hD hS hl
  unfold xb_M_isWhole_29 at hf
  refine lv_iconst (v := 1) hx hb d_M_isWhole_29 (by decide) ?_
  refine lv_goto (tgt := 34) hx hb d_M_isWhole_30 (by decide) ?_
  obtain rfl := Option.some.inj hf
  exact q_rz hx hb hr hlocks hK hP hD hS (isb_n (v := 1) (by decide)) d_M_isWhole_34
set_option maxHeartbeats 8000000 in
set_option maxRecDepth 100000 in
theorem we_M_isWhole {p : Program} {l : Launch} {e : Env} {s : State} {m : MethodId} {args : Array Value} {below : List Frame} {meth : Method} {c : Code} {D : va_G} {cy : Nat → ClassId} {A : Nat → Prop} {ad : Nat → Nat} {o : Nat} {q : Nat → Nat} {b1 : Nat} {z : Nat → Int32} {n1 : Nat} {h1 : Nat → Int32} {fu : Nat} (F : Fx p s m args meth c b_M_isWhole 4 "CoinKeeperModel" "isWhole" (some .boolean) D cy ad A) : I_M_isWhole_e p l e s m args below meth c D cy A ad o q b1 z n1 h1 (x_M_isWhole fu z n1 h1) := by
  obtain ⟨hx, hb, hr, hml, hown, hts, hlocks, hK, hA, hSt, hnm, hex⟩ := id F
  intro a2 a3 res hf H locs ls hP hD hS hl
  unfold x_M_isWhole at hf
  refine lv_iload_n hx hb d_M_isWhole_0 rfl (lv_at hl 3 rfl) ?_
  refine lv_if_le (tgt := 33) hx hb d_M_isWhole_1 (by decide) (fun cx => ?_) (fun cx => ?_)
  · have hf := ifp cx hf
    refine lv_iconst (v := 0) hx hb d_M_isWhole_33 (by decide) ?_
    obtain rfl := Option.some.inj hf
    exact q_rz hx hb hr hlocks hK hP hD hS (isb_n (v := 0) (by decide)) d_M_isWhole_34
  · have hf := ifn cx hf
    refine lv_aload_n hx hb d_M_isWhole_4 rfl (lv_at hl 1 rfl) ?_
    refine lv_iload_n hx hb d_M_isWhole_5 rfl (lv_at hl 2 rfl) ?_
    obtain ⟨hg, hf⟩ := gdp hf
    refine va_bald hx hb hK hP 1 0 rfl rfl (inb_in hg) d_M_isWhole_6 ?_
    refine lv_topi (fun v1 ev => ?_)
    have hf := bn ev hf
    clear ev
    refine lv_if_lt (tgt := 33) hx hb d_M_isWhole_7 (by decide) (fun cx => ?_) (fun cx => ?_)
    · have hf := ifp cx hf
      refine lv_iconst (v := 0) hx hb d_M_isWhole_33 (by decide) ?_
      obtain rfl := Option.some.inj hf
      exact q_rz hx hb hr hlocks hK hP hD hS (isb_n (v := 0) (by decide)) d_M_isWhole_34
    · have hf := ifn cx hf
      refine lv_iload_n hx hb d_M_isWhole_10 rfl (lv_at hl 3 rfl) ?_
      refine lv_iconst (v := 1) hx hb d_M_isWhole_11 (by decide) ?_
      refine lv_icmp_le (tgt := 29) hx hb d_M_isWhole_12 (by decide) (fun cx => ?_) (fun cx => ?_)
      · have hf := ifp cx hf
        exact wb_M_isWhole_29 (fu := fu) F _ hf _ _ _ hP hD hS (lv_sub hl [] rfl)
      · have hf := ifn cx hf
        refine lv_aload_n hx hb d_M_isWhole_15 rfl (lv_at hl 1 rfl) ?_
        refine lv_iload_n hx hb d_M_isWhole_16 rfl (lv_at hl 2 rfl) ?_
        obtain ⟨hg, hf⟩ := gdp hf
        refine va_bald hx hb hK hP 1 0 rfl rfl (inb_in hg) d_M_isWhole_17 ?_
        refine lv_topi (fun v2 ev => ?_)
        have hf := bn ev hf
        clear ev
        refine lv_if_ne (tgt := 29) hx hb d_M_isWhole_18 (by decide) (fun cx => ?_) (fun cx => ?_)
        · have hf := ifn cx hf
          exact wb_M_isWhole_29 (fu := fu) F _ hf _ _ _ hP hD hS (lv_sub hl [] rfl)
        · have hf := ifp cx hf
          refine lv_aload_n hx hb d_M_isWhole_21 rfl (lv_at hl 1 rfl) ?_
          refine lv_iload_n hx hb d_M_isWhole_22 rfl (lv_at hl 2 rfl) ?_
          refine lv_iconst (v := 1) hx hb d_M_isWhole_23 (by decide) ?_
          refine lv_iadd hx hb d_M_isWhole_24 ?_
          refine lv_topi (fun v3 ev => ?_)
          have hf := bn ev hf
          clear ev
          obtain ⟨hg, hf⟩ := gdp hf
          refine va_bald hx hb hK hP 1 0 rfl rfl (inb_in hg) d_M_isWhole_25 ?_
          refine lv_topi (fun v4 ev => ?_)
          have hf := bn ev hf
          clear ev
          refine lv_if_ge (tgt := 33) hx hb d_M_isWhole_26 (by decide) (fun cx => ?_) (fun cx => ?_)
          · have hf := ifp cx hf
            refine lv_iconst (v := 0) hx hb d_M_isWhole_33 (by decide) ?_
            obtain rfl := Option.some.inj hf
            exact q_rz hx hb hr hlocks hK hP hD hS (isb_n (v := 0) (by decide)) d_M_isWhole_34
          · have hf := ifn cx hf
            exact wb_M_isWhole_29 (fu := fu) F _ hf _ _ _ hP hD hS (lv_sub hl [] rfl)
theorem c_M_isWhole (l : Launch) (D : va_G) (cy : Nat → ClassId) (ad : Nat → Nat) (fu : Nat) (o : Nat) (q : Nat → Nat) (b1 : Nat) (z : Nat → Int32) (n1 : Nat) (h1 : Nat → Int32) (a2 : Int32) (a3 : Int32) (res : Int32) (hf : x_M_isWhole fu z n1 h1 a2 a3 = some res) (sz : Nat) : Met l ({ cls := "CoinKeeperModel", name := "isWhole", desc := "([BII)Z" } : Jvm.MethodName) (.code ({ cls := "CoinKeeperModel", name := "isWhole", desc := "([BII)Z" } : Jvm.MethodName) b_M_isWhole 4 (some .boolean) :: gw) rm_M_isWhole (va_Pc [.ref o, .ref b1, .int a2, .int a3] (Pr D cy ad [(o, .inr (12, mo q z)), (b1, .inl (cy 0, n1, .inl h1))] sz)) (q_M_isWhole D cy (va_A [(o, .inr (12, mo q z)), (b1, .inl (cy 0, n1, .inl h1))] sz) o q b1 z n1 h1 res) 0 0 (va_A [(o, .inr (12, mo q z)), (b1, .inl (cy 0, n1, .inl h1))] sz) :=
  q_met (Qc := fun A => q_M_isWhole D cy A o q b1 z n1 h1 res) (by decide) rfl rfl (Nat.le_of_ble_eq_true rfl) (fun p e s m below meth c ls F hP hD hS hl => we_M_isWhole (fu := fu) F a2 a3 res hf _ _ _ hP hD hS hl) sz
abbrev rm_M_compare_s1x23 : Room := { frames := 2, cells := 0, slots := 0, locals := 42 }
abbrev q_M_compare_s1x23 (D : va_G) (cy : Nat → ClassId) (A : Nat → Prop) (b0 : Nat) (h0 : Nat → Int32) (res : Int32) : Array Value → State → Outcome → State → Prop := va_Qi (fun r' (_ : Unit) => r' = res) (fun _ t => Po D cy A [(b0, .inl (cy 1, 8, .inl h0))] t) A
def I_M_compare_s1x23_3 (p : Program) (l : Launch) (e : Env) (s : State) (m : MethodId) (args : Array Value) (below : List Frame) (meth : Method) (c : Code) (D : va_G) (cy : Nat → ClassId) (A : Nat → Prop) (ad : Nat → Nat) (b0 : Nat) (h0 : Nat → Int32) (k : Int32 → Option (Int32)) : Prop :=
  ∀ (x2 : Int32) (res : Int32), k x2 = some res → ∀ (H : Heap) (locs : List Loc) (ls : Array Slot), va_P D classes [(b0, .inl (cy 1, 8, .inl h0))] H → va_D A [(b0, .inl (cy 1, 8, .inl h0))] → va_S A s.heap H locs → lv_has ls 3 [(0, .ref b0), (1, .ref (ad 23)), (2, .int x2)] → W p l e rm_M_compare_s1x23 s m args below meth c H locs 0 0 (MQ below (q_M_compare_s1x23 D cy A b0 h0 res) args s 0 0 A) (F0 m 3 ls [])
def I_M_compare_s1x23_e (p : Program) (l : Launch) (e : Env) (s : State) (m : MethodId) (args : Array Value) (below : List Frame) (meth : Method) (c : Code) (D : va_G) (cy : Nat → ClassId) (A : Nat → Prop) (ad : Nat → Nat) (b0 : Nat) (h0 : Nat → Int32) (k : Option (Int32)) : Prop :=
  ∀ (res : Int32), k  = some res → ∀ (H : Heap) (locs : List Loc) (ls : Array Slot), va_P D classes [(b0, .inl (cy 1, 8, .inl h0))] H → va_D A [(b0, .inl (cy 1, 8, .inl h0))] → va_S A s.heap H locs → lv_has ls 3 [(0, .ref b0), (1, .ref (ad 23))] → W p l e rm_M_compare_s1x23 s m args below meth c H locs 0 0 (MQ below (q_M_compare_s1x23 D cy A b0 h0 res) args s 0 0 A) (F0 m 0 ls [])
set_option maxHeartbeats 8000000 in
set_option maxRecDepth 100000 in
theorem wb_M_compare_s1x23_3 {p : Program} {l : Launch} {e : Env} {s : State} {m : MethodId} {args : Array Value} {below : List Frame} {meth : Method} {c : Code} {D : va_G} {cy : Nat → ClassId} {A : Nat → Prop} {ad : Nat → Nat} {b0 : Nat} {h0 : Nat → Int32} {fu : Nat} {k_3 : Int32 → Option (Int32)} (F : Fx p s m args meth c b_M_compare 3 "CoinKeeperModel" "compare" (some .int) D cy ad A) (hk_3 : I_M_compare_s1x23_3 p l e s m args below meth c D cy A ad b0 h0 k_3) : I_M_compare_s1x23_3 p l e s m args below meth c D cy A ad b0 h0 (xb_M_compare_s1x23_3 fu h0 k_3) := by
  obtain ⟨hx, hb, hr, hml, hown, hts, hlocks, hK, hA, hSt, hnm, hex⟩ := id F
  intro x2 res hf H locs ls hP hD hS hl
  unfold xb_M_compare_s1x23_3 at hf
  refine lv_iload_n hx hb d_M_compare_3 rfl (lv_at hl 2 rfl) ?_
  refine lv_if_lt (tgt := 32) hx hb d_M_compare_4 (by decide) (fun cx => ?_) (fun cx => ?_)
  · have hf := ifp cx hf
    refine lv_iconst (v := 0) hx hb d_M_compare_32 (by decide) ?_
    obtain rfl := Option.some.inj hf
    exact q_ri hx hb hr hlocks hK hP hD hS d_M_compare_33
  · have hf := ifn cx hf
    refine lv_aload_n hx hb d_M_compare_7 rfl (lv_at hl 0 rfl) ?_
    refine lv_iload_n hx hb d_M_compare_8 rfl (lv_at hl 2 rfl) ?_
    obtain ⟨hg, hf⟩ := gdp hf
    refine va_iald hx hb hK hP 0 1 rfl rfl (inb_in hg) d_M_compare_9 ?_
    refine lv_topi (fun v1 ev => ?_)
    have hf := bn ev hf
    clear ev
    refine lv_aload_n hx hb d_M_compare_10 rfl (lv_at hl 1 rfl) ?_
    refine lv_iload_n hx hb d_M_compare_11 rfl (lv_at hl 2 rfl) ?_
    obtain ⟨hg, hf⟩ := gdp hf
    refine va_ti (v := .int (tb_23.getD x2.toNatClampNeg 0)) hx hb (hSt.1 23 _ rfl).2 hS (inb_in hg) rfl d_M_compare_12 ?_
    refine lv_topi (fun v2 ev => ?_)
    have hf := bn ev hf
    clear ev
    refine lv_icmp_eq (tgt := 26) hx hb d_M_compare_13 (by decide) (fun cx => ?_) (fun cx => ?_)
    · have hf := ifp cx hf
      obtain ⟨v3, ev, hf⟩ := bne hf
      refine lv_iinc (v := v3) (lv' := [(2, .int v3), (0, .ref b0), (1, .ref (ad 23))]) hx hb d_M_compare_26 hl (k := 2) rfl (by rw [ev]; rfl) (by decide) rfl (fun ls hl => ?_)
      clear ev
      refine lv_goto (tgt := 3) hx hb d_M_compare_29 (by decide) ?_
      exact hk_3 _ _ hf _ _ _ hP hD hS (lv_sub hl [1, 2, 0] rfl)
    · have hf := ifn cx hf
      refine lv_aload_n hx hb d_M_compare_16 rfl (lv_at hl 0 rfl) ?_
      refine lv_iload_n hx hb d_M_compare_17 rfl (lv_at hl 2 rfl) ?_
      obtain ⟨hg, hf⟩ := gdp hf
      refine va_iald hx hb hK hP 0 1 rfl rfl (inb_in hg) d_M_compare_18 ?_
      refine lv_topi (fun v4 ev => ?_)
      have hf := bn ev hf
      clear ev
      refine lv_aload_n hx hb d_M_compare_19 rfl (lv_at hl 1 rfl) ?_
      refine lv_iload_n hx hb d_M_compare_20 rfl (lv_at hl 2 rfl) ?_
      obtain ⟨hg, hf⟩ := gdp hf
      refine va_ti (v := .int (tb_23.getD x2.toNatClampNeg 0)) hx hb (hSt.1 23 _ rfl).2 hS (inb_in hg) rfl d_M_compare_21 ?_
      refine lv_topi (fun v5 ev => ?_)
      have hf := bn ev hf
      clear ev
      obtain ⟨v6, hc, hf⟩ := bdp1 hf
      refine q_ai (wr := [(b0, .inl (cy 1, 8, .inl h0))]) (va_runS (As := [.int v4, .int v5]) (rest := []) ⟨hx, hb, hml, hown, hts⟩ (c_Ig_compareUnsigned l D cy ad fu v4 v5 _ hc H.size) ⟨q_cB hts gw_1407 gw_19 gw_1405 hdm_15 ⟨by decide, by decide⟩, hts _ gw_1406⟩ (q_pre (hP.sub [] rfl) (hD.sub [] (by decide) rfl) hK hSt hS (va_free hD hS hA [] rfl) _) rfl rfl hl.1 rfl (lv_room (Nat.le_of_ble_eq_true rfl)) d_M_compare_22 ⟨Nat.le_of_ble_eq_true rfl, Nat.le_of_ble_eq_true rfl⟩) hP hD hS hA [] [0] rfl rfl (by decide) (by decide) (fun H locs hP hD hS => ?_)
      clear hc
      have hP : va_P D classes [(b0, .inl (cy 1, 8, .inl h0))] H := hP
      have hD : va_D A [(b0, .inl (cy 1, 8, .inl h0))] := hD
      obtain rfl := Option.some.inj hf
      exact q_ri hx hb hr hlocks hK hP hD hS d_M_compare_25
theorem w_M_compare_s1x23_3 {p : Program} {l : Launch} {e : Env} {s : State} {m : MethodId} {args : Array Value} {below : List Frame} {meth : Method} {c : Code} {D : va_G} {cy : Nat → ClassId} {A : Nat → Prop} {ad : Nat → Nat} {b0 : Nat} {h0 : Nat → Int32} {fu : Nat} (F : Fx p s m args meth c b_M_compare 3 "CoinKeeperModel" "compare" (some .int) D cy ad A) : ∀ n : Nat, I_M_compare_s1x23_3 p l e s m args below meth c D cy A ad b0 h0 (x_M_compare_s1x23_3 fu h0 n)
  | 0 => fun _ _ hf => nomatch (show (none : Option (Int32)) = some _ from hf)
  | n + 1 => wb_M_compare_s1x23_3 F (w_M_compare_s1x23_3 F n)
set_option maxHeartbeats 8000000 in
set_option maxRecDepth 100000 in
theorem we_M_compare_s1x23 {p : Program} {l : Launch} {e : Env} {s : State} {m : MethodId} {args : Array Value} {below : List Frame} {meth : Method} {c : Code} {D : va_G} {cy : Nat → ClassId} {A : Nat → Prop} {ad : Nat → Nat} {b0 : Nat} {h0 : Nat → Int32} {fu : Nat} (F : Fx p s m args meth c b_M_compare 3 "CoinKeeperModel" "compare" (some .int) D cy ad A) : I_M_compare_s1x23_e p l e s m args below meth c D cy A ad b0 h0 (x_M_compare_s1x23 fu h0) := by
  obtain ⟨hx, hb, hr, hml, hown, hts, hlocks, hK, hA, hSt, hnm, hex⟩ := id F
  intro  res hf H locs ls hP hD hS hl
  unfold x_M_compare_s1x23 at hf
  refine lv_bipush (v := 7) hx hb d_M_compare_0 (by decide) ?_
  refine lv_istore_n (lv' := [(2, .int (7 : Int32)), (0, .ref b0), (1, .ref (ad 23))]) hx hb d_M_compare_2 rfl hl (by decide) rfl (fun ls hl => ?_)
  exact w_M_compare_s1x23_3 F fu _ _ hf _ _ _ hP hD hS (lv_sub hl [1, 2, 0] rfl)
theorem c_M_compare_s1x23 (l : Launch) (D : va_G) (cy : Nat → ClassId) (ad : Nat → Nat) (fu : Nat) (b0 : Nat) (h0 : Nat → Int32) (res : Int32) (hf : x_M_compare_s1x23 fu h0 = some res) (sz : Nat) : Met l ({ cls := "CoinKeeperModel", name := "compare", desc := "([I[I)I" } : Jvm.MethodName) (.code ({ cls := "CoinKeeperModel", name := "compare", desc := "([I[I)I" } : Jvm.MethodName) b_M_compare 3 (some .int) :: gw) rm_M_compare_s1x23 (va_Pc [.ref b0, .ref (ad 23)] (Pr D cy ad [(b0, .inl (cy 1, 8, .inl h0))] sz)) (q_M_compare_s1x23 D cy (va_A [(b0, .inl (cy 1, 8, .inl h0))] sz) b0 h0 res) 0 0 (va_A [(b0, .inl (cy 1, 8, .inl h0))] sz) :=
  q_met (Qc := fun A => q_M_compare_s1x23 D cy A b0 h0 res) (by decide) rfl rfl (Nat.le_of_ble_eq_true rfl) (fun p e s m below meth c ls F hP hD hS hl => we_M_compare_s1x23 (fu := fu) F  res hf _ _ _ hP hD hS hl) sz
abbrev b_M_isScalar : ByteArray := prog_14_method_36_code
theorem d_M_isScalar_0 : decode b_M_isScalar 0 = .ok (.iload_n 3, 1) := by decide +kernel
theorem d_M_isScalar_1 : decode b_M_isScalar 1 = .ok (.istore 5, 2) := by decide +kernel
theorem d_M_isScalar_3 : decode b_M_isScalar 3 = .ok (.iload 4, 2) := by decide +kernel
theorem d_M_isScalar_5 : decode b_M_isScalar 5 = .ok (.istore 6, 2) := by decide +kernel
theorem d_M_isScalar_7 : decode b_M_isScalar 7 = .ok (.iload 6, 2) := by decide +kernel
theorem d_M_isScalar_9 : decode b_M_isScalar 9 = .ok (.bipush 33, 2) := by decide +kernel
theorem d_M_isScalar_11 : decode b_M_isScalar 11 = .ok (.if_icmp .ne 16, 3) := by decide +kernel
theorem d_M_isScalar_14 : decode b_M_isScalar 14 = .ok (.aload_n 2, 1) := by decide +kernel
theorem d_M_isScalar_15 : decode b_M_isScalar 15 = .ok (.iload 5, 2) := by decide +kernel
theorem d_M_isScalar_17 : decode b_M_isScalar 17 = .ok (.baload, 1) := by decide +kernel
theorem d_M_isScalar_18 : decode b_M_isScalar 18 = .ok (.ifCond .ne 9, 3) := by decide +kernel
theorem d_M_isScalar_21 : decode b_M_isScalar 21 = .ok (.iinc 5 1, 3) := by decide +kernel
theorem d_M_isScalar_24 : decode b_M_isScalar 24 = .ok (.iinc 6 (-1), 3) := by decide +kernel
theorem d_M_isScalar_27 : decode b_M_isScalar 27 = .ok (.iload 6, 2) := by decide +kernel
theorem d_M_isScalar_29 : decode b_M_isScalar 29 = .ok (.bipush 32, 2) := by decide +kernel
theorem d_M_isScalar_31 : decode b_M_isScalar 31 = .ok (.if_icmp .le 5, 3) := by decide +kernel
theorem d_M_isScalar_34 : decode b_M_isScalar 34 = .ok (.iconst 0, 1) := by decide +kernel
theorem d_M_isScalar_35 : decode b_M_isScalar 35 = .ok (.ireturn, 1) := by decide +kernel
theorem d_M_isScalar_36 : decode b_M_isScalar 36 = .ok (.aload_n 1, 1) := by decide +kernel
theorem d_M_isScalar_37 : decode b_M_isScalar 37 = .ok (.aload_n 2, 1) := by decide +kernel
theorem d_M_isScalar_38 : decode b_M_isScalar 38 = .ok (.iload 5, 2) := by decide +kernel
theorem d_M_isScalar_40 : decode b_M_isScalar 40 = .ok (.iload 6, 2) := by decide +kernel
theorem d_M_isScalar_42 : decode b_M_isScalar 42 = .ok (.invokestatic 405, 3) := by decide +kernel
theorem d_M_isScalar_45 : decode b_M_isScalar 45 = .ok (.aload_n 1, 1) := by decide +kernel
theorem d_M_isScalar_46 : decode b_M_isScalar 46 = .ok (.invokestatic 355, 3) := by decide +kernel
theorem d_M_isScalar_49 : decode b_M_isScalar 49 = .ok (.ifCond .ne 17, 3) := by decide +kernel
theorem d_M_isScalar_52 : decode b_M_isScalar 52 = .ok (.aload_n 1, 1) := by decide +kernel
theorem d_M_isScalar_53 : decode b_M_isScalar 53 = .ok (.getstatic 385, 3) := by decide +kernel
theorem d_M_isScalar_56 : decode b_M_isScalar 56 = .ok (.invokestatic 346, 3) := by decide +kernel
theorem d_M_isScalar_59 : decode b_M_isScalar 59 = .ok (.ifCond .ge 7, 3) := by decide +kernel
theorem d_M_isScalar_62 : decode b_M_isScalar 62 = .ok (.iconst 1, 1) := by decide +kernel
theorem d_M_isScalar_63 : decode b_M_isScalar 63 = .ok (.goto 4, 3) := by decide +kernel
theorem d_M_isScalar_66 : decode b_M_isScalar 66 = .ok (.iconst 0, 1) := by decide +kernel
theorem d_M_isScalar_67 : decode b_M_isScalar 67 = .ok (.ireturn, 1) := by decide +kernel
abbrev rm_M_isScalar : Room := { frames := 3, cells := 0, slots := 0, locals := 64 }
abbrev q_M_isScalar (D : va_G) (cy : Nat → ClassId) (A : Nat → Prop) (o : Nat) (q : Nat → Nat) (b1 : Nat) (b2 : Nat) (z : Nat → Int32) (n2 : Nat) (h2 : Nat → Int32) (res : Int32 × (Nat → Int32)) : Array Value → State → Outcome → State → Prop := va_Qi (fun r' (_ : Unit) => r' = res.1) (fun _ t => Po D cy A [(o, .inr (12, mo q z)), (b1, .inl (cy 1, 8, .inl res.2)), (b2, .inl (cy 0, n2, .inl h2))] t) A
def I_M_isScalar_27 (p : Program) (l : Launch) (e : Env) (s : State) (m : MethodId) (args : Array Value) (below : List Frame) (meth : Method) (c : Code) (D : va_G) (cy : Nat → ClassId) (A : Nat → Prop) (ad : Nat → Nat) (o : Nat) (q : Nat → Nat) (b1 : Nat) (b2 : Nat) (z : Nat → Int32) (n2 : Nat) (h2 : Nat → Int32) (k : Int32 → Int32 → (Nat → Int32) → Option (Int32 × (Nat → Int32))) : Prop :=
  ∀ (x5 : Int32) (x6 : Int32) (u0 : Nat → Int32) (res : Int32 × (Nat → Int32)), k x5 x6 u0 = some res → ∀ (H : Heap) (locs : List Loc) (ls : Array Slot), va_P D classes [(o, .inr (12, mo q z)), (b1, .inl (cy 1, 8, .inl u0)), (b2, .inl (cy 0, n2, .inl h2))] H → va_D A [(o, .inr (12, mo q z)), (b1, .inl (cy 1, 8, .inl u0)), (b2, .inl (cy 0, n2, .inl h2))] → va_S A s.heap H locs → lv_has ls 7 [(1, .ref b1), (2, .ref b2), (5, .int x5), (6, .int x6)] → W p l e rm_M_isScalar s m args below meth c H locs 0 0 (MQ below (q_M_isScalar D cy A o q b1 b2 z n2 h2 res) args s 0 0 A) (F0 m 27 ls [])
def I_M_isScalar_e (p : Program) (l : Launch) (e : Env) (s : State) (m : MethodId) (args : Array Value) (below : List Frame) (meth : Method) (c : Code) (D : va_G) (cy : Nat → ClassId) (A : Nat → Prop) (ad : Nat → Nat) (o : Nat) (q : Nat → Nat) (b1 : Nat) (b2 : Nat) (z : Nat → Int32) (n2 : Nat) (h2 : Nat → Int32) (k : Int32 → Int32 → (Nat → Int32) → Option (Int32 × (Nat → Int32))) : Prop :=
  ∀ (a3 : Int32) (a4 : Int32) (u0 : Nat → Int32) (res : Int32 × (Nat → Int32)), k a3 a4 u0 = some res → ∀ (H : Heap) (locs : List Loc) (ls : Array Slot), va_P D classes [(o, .inr (12, mo q z)), (b1, .inl (cy 1, 8, .inl u0)), (b2, .inl (cy 0, n2, .inl h2))] H → va_D A [(o, .inr (12, mo q z)), (b1, .inl (cy 1, 8, .inl u0)), (b2, .inl (cy 0, n2, .inl h2))] → va_S A s.heap H locs → lv_has ls 7 [(0, .ref o), (1, .ref b1), (2, .ref b2), (3, .int a3), (4, .int a4)] → W p l e rm_M_isScalar s m args below meth c H locs 0 0 (MQ below (q_M_isScalar D cy A o q b1 b2 z n2 h2 res) args s 0 0 A) (F0 m 0 ls [])
set_option maxHeartbeats 8000000 in
set_option maxRecDepth 100000 in
theorem wb_M_isScalar_27 {p : Program} {l : Launch} {e : Env} {s : State} {m : MethodId} {args : Array Value} {below : List Frame} {meth : Method} {c : Code} {D : va_G} {cy : Nat → ClassId} {A : Nat → Prop} {ad : Nat → Nat} {o : Nat} {q : Nat → Nat} {b1 : Nat} {b2 : Nat} {z : Nat → Int32} {n2 : Nat} {h2 : Nat → Int32} {fu : Nat} (F : Fx p s m args meth c b_M_isScalar 7 "CoinKeeperModel" "isScalar" (some .boolean) D cy ad A) : I_M_isScalar_27 p l e s m args below meth c D cy A ad o q b1 b2 z n2 h2 (xb_M_isScalar_27 fu z n2 h2) := by
  obtain ⟨hx, hb, hr, hml, hown, hts, hlocks, hK, hA, hSt, hnm, hex⟩ := id F
  intro x5 x6 u0 res hf H locs ls hP hD hS hl
  unfold xb_M_isScalar_27 at hf
  refine lv_iload hx hb d_M_isScalar_27 (lv_at hl 3 rfl) ?_
  refine lv_bipush (v := 32) hx hb d_M_isScalar_29 (by decide) ?_
  refine lv_icmp_le (tgt := 36) hx hb d_M_isScalar_31 (by decide) (fun cx => ?_) (fun cx => ?_)
  · have hf := ifp cx hf
    refine lv_aload_n hx hb d_M_isScalar_36 rfl (lv_at hl 0 rfl) ?_
    refine lv_aload_n hx hb d_M_isScalar_37 rfl (lv_at hl 1 rfl) ?_
    refine lv_iload hx hb d_M_isScalar_38 (lv_at hl 2 rfl) ?_
    refine lv_iload hx hb d_M_isScalar_40 (lv_at hl 3 rfl) ?_
    obtain ⟨f1, hc, hf⟩ := bdp1 hf
    refine q_av (wr := [(o, .inr (12, mo q z))]) (va_runS (As := [.ref b1, .ref b2, .int x5, .int x6]) (rest := []) ⟨hx, hb, hml, hown, hts⟩ (c_M_read l D cy ad fu b1 b2 n2 h2 x5 x6 u0 _ hc H.size) ⟨q_cB hts gw_1973 gw_18 gw_1971 hdm_25 ⟨by decide, by decide⟩, hts _ gw_1972⟩ (q_pre (hP.sub [1, 2] rfl) (hD.sub [1, 2] (by decide) rfl) hK hSt hS (va_free hD hS hA [1, 2] rfl) _) rfl rfl hl.1 rfl (lv_room (Nat.le_of_ble_eq_true rfl)) d_M_isScalar_42 ⟨Nat.le_of_ble_eq_true rfl, Nat.le_of_ble_eq_true rfl⟩) hP hD hS hA [1, 2] [0] rfl rfl (by decide) (by decide) (fun H locs hP hD hS => ?_)
    clear hc
    have hP : va_P D classes [(o, .inr (12, mo q z)), (b1, .inl (cy 1, 8, .inl f1)), (b2, .inl (cy 0, n2, .inl h2))] H := hP
    have hD : va_D A [(o, .inr (12, mo q z)), (b1, .inl (cy 1, 8, .inl f1)), (b2, .inl (cy 0, n2, .inl h2))] := hD
    refine lv_aload_n hx hb d_M_isScalar_45 rfl (lv_at hl 0 rfl) ?_
    obtain ⟨v2, hc, hf⟩ := bdp1 hf
    refine q_ai (wr := [(o, .inr (12, mo q z)), (b2, .inl (cy 0, n2, .inl h2))]) (va_runS (As := [.ref b1]) (rest := []) ⟨hx, hb, hml, hown, hts⟩ (c_M_isZero l D cy ad fu b1 f1 _ hc H.size) ⟨q_cB hts gw_1377 gw_18 gw_1375 hdm_6 ⟨by decide, by decide⟩, hts _ gw_1376⟩ (q_pre (hP.sub [1] rfl) (hD.sub [1] (by decide) rfl) hK hSt hS (va_free hD hS hA [1] rfl) _) rfl rfl hl.1 rfl (lv_room (Nat.le_of_ble_eq_true rfl)) d_M_isScalar_46 ⟨Nat.le_of_ble_eq_true rfl, Nat.le_of_ble_eq_true rfl⟩) hP hD hS hA [1] [0, 2] rfl rfl (by decide) (by decide) (fun H locs hP hD hS => ?_)
    clear hc
    have hP : va_P D classes [(o, .inr (12, mo q z)), (b2, .inl (cy 0, n2, .inl h2)), (b1, .inl (cy 1, 8, .inl f1))] H := hP
    have hD : va_D A [(o, .inr (12, mo q z)), (b2, .inl (cy 0, n2, .inl h2)), (b1, .inl (cy 1, 8, .inl f1))] := hD
    refine lv_if_ne (tgt := 66) hx hb d_M_isScalar_49 (by decide) (fun cx => ?_) (fun cx => ?_)
    · have hf := ifn cx hf
      refine lv_iconst (v := 0) hx hb d_M_isScalar_66 (by decide) ?_
      obtain rfl := Option.some.inj hf
      exact q_rz hx hb hr hlocks hK (hP.sub [0, 2, 1] rfl) (hD.sub [0, 2, 1] (by decide) rfl) hS (isb_n (v := 0) (by decide)) d_M_isScalar_67
    · have hf := ifp cx hf
      refine lv_aload_n hx hb d_M_isScalar_52 rfl (lv_at hl 0 rfl) ?_
      refine va_gets hx hb (hSt.1 23 _ rfl).1 hS hown (hts _ gw_2003) (fun _ h9 => h9) d_M_isScalar_53 ?_
      obtain ⟨v3, hc, hf⟩ := bdp1 hf
      refine q_ai (wr := [(o, .inr (12, mo q z)), (b2, .inl (cy 0, n2, .inl h2))]) (va_runS (As := [.ref b1, .ref (ad 23)]) (rest := []) ⟨hx, hb, hml, hown, hts⟩ (c_M_compare_s1x23 l D cy ad fu b1 f1 _ hc H.size) ⟨q_cB hts gw_1404 gw_18 gw_1402 hdm_16 ⟨by decide, by decide⟩, hts _ gw_1403⟩ (q_pre (hP.sub [2] rfl) (hD.sub [2] (by decide) rfl) hK hSt hS (va_free hD hS hA [2] rfl) _) rfl rfl hl.1 rfl (lv_room (Nat.le_of_ble_eq_true rfl)) d_M_isScalar_56 ⟨Nat.le_of_ble_eq_true rfl, Nat.le_of_ble_eq_true rfl⟩) hP hD hS hA [2] [0, 1] rfl rfl (by decide) (by decide) (fun H locs hP hD hS => ?_)
      clear hc
      have hP : va_P D classes [(o, .inr (12, mo q z)), (b2, .inl (cy 0, n2, .inl h2)), (b1, .inl (cy 1, 8, .inl f1))] H := hP
      have hD : va_D A [(o, .inr (12, mo q z)), (b2, .inl (cy 0, n2, .inl h2)), (b1, .inl (cy 1, 8, .inl f1))] := hD
      refine lv_if_ge (tgt := 66) hx hb d_M_isScalar_59 (by decide) (fun cx => ?_) (fun cx => ?_)
      · have hf := ifp cx hf
        refine lv_iconst (v := 0) hx hb d_M_isScalar_66 (by decide) ?_
        obtain rfl := Option.some.inj hf
        exact q_rz hx hb hr hlocks hK (hP.sub [0, 2, 1] rfl) (hD.sub [0, 2, 1] (by decide) rfl) hS (isb_n (v := 0) (by decide)) d_M_isScalar_67
      · have hf := ifn cx hf
        refine lv_iconst (v := 1) hx hb d_M_isScalar_62 (by decide) ?_
        refine lv_goto (tgt := 67) hx hb d_M_isScalar_63 (by decide) ?_
        obtain rfl := Option.some.inj hf
        exact q_rz hx hb hr hlocks hK (hP.sub [0, 2, 1] rfl) (hD.sub [0, 2, 1] (by decide) rfl) hS (isb_n (v := 1) (by decide)) d_M_isScalar_67
  · have hf := ifn cx hf
    refine lv_iconst (v := 0) hx hb d_M_isScalar_34 (by decide) ?_
    obtain rfl := Option.some.inj hf
    exact q_rz hx hb hr hlocks hK hP hD hS (isb_n (v := 0) (by decide)) d_M_isScalar_35
set_option maxHeartbeats 8000000 in
set_option maxRecDepth 100000 in
theorem we_M_isScalar {p : Program} {l : Launch} {e : Env} {s : State} {m : MethodId} {args : Array Value} {below : List Frame} {meth : Method} {c : Code} {D : va_G} {cy : Nat → ClassId} {A : Nat → Prop} {ad : Nat → Nat} {o : Nat} {q : Nat → Nat} {b1 : Nat} {b2 : Nat} {z : Nat → Int32} {n2 : Nat} {h2 : Nat → Int32} {fu : Nat} (F : Fx p s m args meth c b_M_isScalar 7 "CoinKeeperModel" "isScalar" (some .boolean) D cy ad A) : I_M_isScalar_e p l e s m args below meth c D cy A ad o q b1 b2 z n2 h2 (x_M_isScalar fu z n2 h2) := by
  obtain ⟨hx, hb, hr, hml, hown, hts, hlocks, hK, hA, hSt, hnm, hex⟩ := id F
  intro a3 a4 u0 res hf H locs ls hP hD hS hl
  unfold x_M_isScalar at hf
  refine lv_iload_n hx hb d_M_isScalar_0 rfl (lv_at hl 3 rfl) ?_
  refine lv_istore (lv' := [(5, .int a3), (0, .ref o), (1, .ref b1), (2, .ref b2), (3, .int a3), (4, .int a4)]) hx hb d_M_isScalar_1 hl (by decide) rfl (fun ls hl => ?_)
  refine lv_iload hx hb d_M_isScalar_3 (lv_at hl 5 rfl) ?_
  refine lv_istore (lv' := [(6, .int a4), (5, .int a3), (0, .ref o), (1, .ref b1), (2, .ref b2), (3, .int a3), (4, .int a4)]) hx hb d_M_isScalar_5 hl (by decide) rfl (fun ls hl => ?_)
  refine lv_iload hx hb d_M_isScalar_7 (lv_at hl 0 rfl) ?_
  refine lv_bipush (v := 33) hx hb d_M_isScalar_9 (by decide) ?_
  refine lv_icmp_ne (tgt := 27) hx hb d_M_isScalar_11 (by decide) (fun cx => ?_) (fun cx => ?_)
  · have hf := ifn cx hf
    exact wb_M_isScalar_27 (fu := fu) F _ _ _ _ hf _ _ _ hP hD hS (lv_sub hl [3, 4, 1, 0] rfl)
  · have hf := ifp cx hf
    refine lv_aload_n hx hb d_M_isScalar_14 rfl (lv_at hl 4 rfl) ?_
    refine lv_iload hx hb d_M_isScalar_15 (lv_at hl 1 rfl) ?_
    obtain ⟨hg, hf⟩ := gdp hf
    refine va_bald hx hb hK hP 2 0 rfl rfl (inb_in hg) d_M_isScalar_17 ?_
    refine lv_topi (fun v1 ev => ?_)
    have hf := bn ev hf
    clear ev
    refine lv_if_ne (tgt := 27) hx hb d_M_isScalar_18 (by decide) (fun cx => ?_) (fun cx => ?_)
    · have hf := ifn cx hf
      exact wb_M_isScalar_27 (fu := fu) F _ _ _ _ hf _ _ _ hP hD hS (lv_sub hl [3, 4, 1, 0] rfl)
    · have hf := ifp cx hf
      obtain ⟨v2, ev, hf⟩ := bne hf
      refine lv_iinc (v := v2) (lv' := [(5, .int v2), (6, .int a4), (0, .ref o), (1, .ref b1), (2, .ref b2), (3, .int a3), (4, .int a4)]) hx hb d_M_isScalar_21 hl (k := 1) rfl (by rw [ev]; rfl) (by decide) rfl (fun ls hl => ?_)
      clear ev
      obtain ⟨v3, ev, hf⟩ := bne hf
      refine lv_iinc (v := v3) (lv' := [(6, .int v3), (5, .int v2), (0, .ref o), (1, .ref b1), (2, .ref b2), (3, .int a3), (4, .int a4)]) hx hb d_M_isScalar_24 hl (k := 1) rfl (by rw [ev]; rfl) (by decide) rfl (fun ls hl => ?_)
      clear ev
      exact wb_M_isScalar_27 (fu := fu) F _ _ _ _ hf _ _ _ hP hD hS (lv_sub hl [3, 4, 1, 0] rfl)
theorem c_M_isScalar (l : Launch) (D : va_G) (cy : Nat → ClassId) (ad : Nat → Nat) (fu : Nat) (o : Nat) (q : Nat → Nat) (b1 : Nat) (b2 : Nat) (z : Nat → Int32) (n2 : Nat) (h2 : Nat → Int32) (a3 : Int32) (a4 : Int32) (u0 : Nat → Int32) (res : Int32 × (Nat → Int32)) (hf : x_M_isScalar fu z n2 h2 a3 a4 u0 = some res) (sz : Nat) : Met l ({ cls := "CoinKeeperModel", name := "isScalar", desc := "([I[BII)Z" } : Jvm.MethodName) (.code ({ cls := "CoinKeeperModel", name := "isScalar", desc := "([I[BII)Z" } : Jvm.MethodName) b_M_isScalar 7 (some .boolean) :: gw) rm_M_isScalar (va_Pc [.ref o, .ref b1, .ref b2, .int a3, .int a4] (Pr D cy ad [(o, .inr (12, mo q z)), (b1, .inl (cy 1, 8, .inl u0)), (b2, .inl (cy 0, n2, .inl h2))] sz)) (q_M_isScalar D cy (va_A [(o, .inr (12, mo q z)), (b1, .inl (cy 1, 8, .inl u0)), (b2, .inl (cy 0, n2, .inl h2))] sz) o q b1 b2 z n2 h2 res) 0 0 (va_A [(o, .inr (12, mo q z)), (b1, .inl (cy 1, 8, .inl u0)), (b2, .inl (cy 0, n2, .inl h2))] sz) :=
  q_met (Qc := fun A => q_M_isScalar D cy A o q b1 b2 z n2 h2 res) (by decide) rfl rfl (Nat.le_of_ble_eq_true rfl) (fun p e s m below meth c ls F hP hD hS hl => we_M_isScalar (fu := fu) F a3 a4 u0 res hf _ _ _ hP hD hS hl) sz
abbrev b_M_isSignature : ByteArray := prog_14_method_35_code
theorem d_M_isSignature_0 : decode b_M_isSignature 0 = .ok (.iload_n 3, 1) := by decide +kernel
theorem d_M_isSignature_1 : decode b_M_isSignature 1 = .ok (.bipush 9, 2) := by decide +kernel
theorem d_M_isSignature_3 : decode b_M_isSignature 3 = .ok (.if_icmp .lt 37, 3) := by decide +kernel
theorem d_M_isSignature_6 : decode b_M_isSignature 6 = .ok (.iload_n 3, 1) := by decide +kernel
theorem d_M_isSignature_7 : decode b_M_isSignature 7 = .ok (.bipush 73, 2) := by decide +kernel
theorem d_M_isSignature_9 : decode b_M_isSignature 9 = .ok (.if_icmp .gt 31, 3) := by decide +kernel
theorem d_M_isSignature_12 : decode b_M_isSignature 12 = .ok (.aload_n 1, 1) := by decide +kernel
theorem d_M_isSignature_13 : decode b_M_isSignature 13 = .ok (.iload_n 2, 1) := by decide +kernel
theorem d_M_isSignature_14 : decode b_M_isSignature 14 = .ok (.baload, 1) := by decide +kernel
theorem d_M_isSignature_15 : decode b_M_isSignature 15 = .ok (.bipush 48, 2) := by decide +kernel
theorem d_M_isSignature_17 : decode b_M_isSignature 17 = .ok (.if_icmp .ne 23, 3) := by decide +kernel
theorem d_M_isSignature_20 : decode b_M_isSignature 20 = .ok (.aload_n 1, 1) := by decide +kernel
theorem d_M_isSignature_21 : decode b_M_isSignature 21 = .ok (.iload_n 2, 1) := by decide +kernel
theorem d_M_isSignature_22 : decode b_M_isSignature 22 = .ok (.iconst 1, 1) := by decide +kernel
theorem d_M_isSignature_23 : decode b_M_isSignature 23 = .ok (.iadd, 1) := by decide +kernel
theorem d_M_isSignature_24 : decode b_M_isSignature 24 = .ok (.baload, 1) := by decide +kernel
theorem d_M_isSignature_25 : decode b_M_isSignature 25 = .ok (.iload_n 3, 1) := by decide +kernel
theorem d_M_isSignature_26 : decode b_M_isSignature 26 = .ok (.iconst 3, 1) := by decide +kernel
theorem d_M_isSignature_27 : decode b_M_isSignature 27 = .ok (.isub, 1) := by decide +kernel
theorem d_M_isSignature_28 : decode b_M_isSignature 28 = .ok (.if_icmp .ne 12, 3) := by decide +kernel
theorem d_M_isSignature_31 : decode b_M_isSignature 31 = .ok (.aload_n 1, 1) := by decide +kernel
theorem d_M_isSignature_32 : decode b_M_isSignature 32 = .ok (.iload_n 2, 1) := by decide +kernel
theorem d_M_isSignature_33 : decode b_M_isSignature 33 = .ok (.iconst 2, 1) := by decide +kernel
theorem d_M_isSignature_34 : decode b_M_isSignature 34 = .ok (.iadd, 1) := by decide +kernel
theorem d_M_isSignature_35 : decode b_M_isSignature 35 = .ok (.baload, 1) := by decide +kernel
theorem d_M_isSignature_36 : decode b_M_isSignature 36 = .ok (.iconst 2, 1) := by decide +kernel
theorem d_M_isSignature_37 : decode b_M_isSignature 37 = .ok (.if_icmp .eq 5, 3) := by decide +kernel
theorem d_M_isSignature_40 : decode b_M_isSignature 40 = .ok (.iconst 0, 1) := by decide +kernel
theorem d_M_isSignature_41 : decode b_M_isSignature 41 = .ok (.ireturn, 1) := by decide +kernel
theorem d_M_isSignature_42 : decode b_M_isSignature 42 = .ok (.aload_n 1, 1) := by decide +kernel
theorem d_M_isSignature_43 : decode b_M_isSignature 43 = .ok (.iload_n 2, 1) := by decide +kernel
theorem d_M_isSignature_44 : decode b_M_isSignature 44 = .ok (.iconst 3, 1) := by decide +kernel
theorem d_M_isSignature_45 : decode b_M_isSignature 45 = .ok (.iadd, 1) := by decide +kernel
theorem d_M_isSignature_46 : decode b_M_isSignature 46 = .ok (.baload, 1) := by decide +kernel
theorem d_M_isSignature_47 : decode b_M_isSignature 47 = .ok (.sipush 255, 3) := by decide +kernel
theorem d_M_isSignature_50 : decode b_M_isSignature 50 = .ok (.iand, 1) := by decide +kernel
theorem d_M_isSignature_51 : decode b_M_isSignature 51 = .ok (.istore 4, 2) := by decide +kernel
theorem d_M_isSignature_53 : decode b_M_isSignature 53 = .ok (.iconst 5, 1) := by decide +kernel
theorem d_M_isSignature_54 : decode b_M_isSignature 54 = .ok (.iload 4, 2) := by decide +kernel
theorem d_M_isSignature_56 : decode b_M_isSignature 56 = .ok (.iadd, 1) := by decide +kernel
theorem d_M_isSignature_57 : decode b_M_isSignature 57 = .ok (.iload_n 3, 1) := by decide +kernel
theorem d_M_isSignature_58 : decode b_M_isSignature 58 = .ok (.if_icmp .lt 5, 3) := by decide +kernel
theorem d_M_isSignature_61 : decode b_M_isSignature 61 = .ok (.iconst 0, 1) := by decide +kernel
theorem d_M_isSignature_62 : decode b_M_isSignature 62 = .ok (.ireturn, 1) := by decide +kernel
theorem d_M_isSignature_63 : decode b_M_isSignature 63 = .ok (.aload_n 1, 1) := by decide +kernel
theorem d_M_isSignature_64 : decode b_M_isSignature 64 = .ok (.iload_n 2, 1) := by decide +kernel
theorem d_M_isSignature_65 : decode b_M_isSignature 65 = .ok (.iconst 5, 1) := by decide +kernel
theorem d_M_isSignature_66 : decode b_M_isSignature 66 = .ok (.iadd, 1) := by decide +kernel
theorem d_M_isSignature_67 : decode b_M_isSignature 67 = .ok (.iload 4, 2) := by decide +kernel
theorem d_M_isSignature_69 : decode b_M_isSignature 69 = .ok (.iadd, 1) := by decide +kernel
theorem d_M_isSignature_70 : decode b_M_isSignature 70 = .ok (.baload, 1) := by decide +kernel
theorem d_M_isSignature_71 : decode b_M_isSignature 71 = .ok (.sipush 255, 3) := by decide +kernel
theorem d_M_isSignature_74 : decode b_M_isSignature 74 = .ok (.iand, 1) := by decide +kernel
theorem d_M_isSignature_75 : decode b_M_isSignature 75 = .ok (.istore 5, 2) := by decide +kernel
theorem d_M_isSignature_77 : decode b_M_isSignature 77 = .ok (.iload 4, 2) := by decide +kernel
theorem d_M_isSignature_79 : decode b_M_isSignature 79 = .ok (.iload 5, 2) := by decide +kernel
theorem d_M_isSignature_81 : decode b_M_isSignature 81 = .ok (.iadd, 1) := by decide +kernel
theorem d_M_isSignature_82 : decode b_M_isSignature 82 = .ok (.bipush 7, 2) := by decide +kernel
theorem d_M_isSignature_84 : decode b_M_isSignature 84 = .ok (.iadd, 1) := by decide +kernel
theorem d_M_isSignature_85 : decode b_M_isSignature 85 = .ok (.iload_n 3, 1) := by decide +kernel
theorem d_M_isSignature_86 : decode b_M_isSignature 86 = .ok (.if_icmp .ne 56, 3) := by decide +kernel
theorem d_M_isSignature_89 : decode b_M_isSignature 89 = .ok (.aload_n 1, 1) := by decide +kernel
theorem d_M_isSignature_90 : decode b_M_isSignature 90 = .ok (.iload_n 2, 1) := by decide +kernel
theorem d_M_isSignature_91 : decode b_M_isSignature 91 = .ok (.iconst 4, 1) := by decide +kernel
theorem d_M_isSignature_92 : decode b_M_isSignature 92 = .ok (.iadd, 1) := by decide +kernel
theorem d_M_isSignature_93 : decode b_M_isSignature 93 = .ok (.iload 4, 2) := by decide +kernel
theorem d_M_isSignature_95 : decode b_M_isSignature 95 = .ok (.iadd, 1) := by decide +kernel
theorem d_M_isSignature_96 : decode b_M_isSignature 96 = .ok (.baload, 1) := by decide +kernel
theorem d_M_isSignature_97 : decode b_M_isSignature 97 = .ok (.iconst 2, 1) := by decide +kernel
theorem d_M_isSignature_98 : decode b_M_isSignature 98 = .ok (.if_icmp .ne 44, 3) := by decide +kernel
theorem d_M_isSignature_101 : decode b_M_isSignature 101 = .ok (.aload_n 0, 1) := by decide +kernel
theorem d_M_isSignature_102 : decode b_M_isSignature 102 = .ok (.aload_n 1, 1) := by decide +kernel
theorem d_M_isSignature_103 : decode b_M_isSignature 103 = .ok (.iload_n 2, 1) := by decide +kernel
theorem d_M_isSignature_104 : decode b_M_isSignature 104 = .ok (.iconst 4, 1) := by decide +kernel
theorem d_M_isSignature_105 : decode b_M_isSignature 105 = .ok (.iadd, 1) := by decide +kernel
theorem d_M_isSignature_106 : decode b_M_isSignature 106 = .ok (.iload 4, 2) := by decide +kernel
theorem d_M_isSignature_108 : decode b_M_isSignature 108 = .ok (.invokevirtual 409, 3) := by decide +kernel
theorem d_M_isSignature_111 : decode b_M_isSignature 111 = .ok (.ifCond .eq 31, 3) := by decide +kernel
theorem d_M_isSignature_114 : decode b_M_isSignature 114 = .ok (.aload_n 0, 1) := by decide +kernel
theorem d_M_isSignature_115 : decode b_M_isSignature 115 = .ok (.aload_n 1, 1) := by decide +kernel
theorem d_M_isSignature_116 : decode b_M_isSignature 116 = .ok (.iload_n 2, 1) := by decide +kernel
theorem d_M_isSignature_117 : decode b_M_isSignature 117 = .ok (.bipush 6, 2) := by decide +kernel
theorem d_M_isSignature_119 : decode b_M_isSignature 119 = .ok (.iadd, 1) := by decide +kernel
theorem d_M_isSignature_120 : decode b_M_isSignature 120 = .ok (.iload 4, 2) := by decide +kernel
theorem d_M_isSignature_122 : decode b_M_isSignature 122 = .ok (.iadd, 1) := by decide +kernel
theorem d_M_isSignature_123 : decode b_M_isSignature 123 = .ok (.iload 5, 2) := by decide +kernel
theorem d_M_isSignature_125 : decode b_M_isSignature 125 = .ok (.invokevirtual 409, 3) := by decide +kernel
theorem d_M_isSignature_128 : decode b_M_isSignature 128 = .ok (.ifCond .eq 14, 3) := by decide +kernel
theorem d_M_isSignature_131 : decode b_M_isSignature 131 = .ok (.aload_n 1, 1) := by decide +kernel
theorem d_M_isSignature_132 : decode b_M_isSignature 132 = .ok (.iload_n 2, 1) := by decide +kernel
theorem d_M_isSignature_133 : decode b_M_isSignature 133 = .ok (.iload_n 3, 1) := by decide +kernel
theorem d_M_isSignature_134 : decode b_M_isSignature 134 = .ok (.iadd, 1) := by decide +kernel
theorem d_M_isSignature_135 : decode b_M_isSignature 135 = .ok (.iconst 1, 1) := by decide +kernel
theorem d_M_isSignature_136 : decode b_M_isSignature 136 = .ok (.isub, 1) := by decide +kernel
theorem d_M_isSignature_137 : decode b_M_isSignature 137 = .ok (.baload, 1) := by decide +kernel
theorem d_M_isSignature_138 : decode b_M_isSignature 138 = .ok (.iconst 1, 1) := by decide +kernel
theorem d_M_isSignature_139 : decode b_M_isSignature 139 = .ok (.if_icmp .eq 5, 3) := by decide +kernel
theorem d_M_isSignature_142 : decode b_M_isSignature 142 = .ok (.iconst 0, 1) := by decide +kernel
theorem d_M_isSignature_143 : decode b_M_isSignature 143 = .ok (.ireturn, 1) := by decide +kernel
theorem d_M_isSignature_144 : decode b_M_isSignature 144 = .ok (.aload_n 0, 1) := by decide +kernel
theorem d_M_isSignature_145 : decode b_M_isSignature 145 = .ok (.aload_n 0, 1) := by decide +kernel
theorem d_M_isSignature_146 : decode b_M_isSignature 146 = .ok (.getfield 199, 3) := by decide +kernel
theorem d_M_isSignature_149 : decode b_M_isSignature 149 = .ok (.aload_n 1, 1) := by decide +kernel
theorem d_M_isSignature_150 : decode b_M_isSignature 150 = .ok (.iload_n 2, 1) := by decide +kernel
theorem d_M_isSignature_151 : decode b_M_isSignature 151 = .ok (.iconst 4, 1) := by decide +kernel
theorem d_M_isSignature_152 : decode b_M_isSignature 152 = .ok (.iadd, 1) := by decide +kernel
theorem d_M_isSignature_153 : decode b_M_isSignature 153 = .ok (.iload 4, 2) := by decide +kernel
theorem d_M_isSignature_155 : decode b_M_isSignature 155 = .ok (.invokevirtual 413, 3) := by decide +kernel
theorem d_M_isSignature_158 : decode b_M_isSignature 158 = .ok (.ifCond .eq 28, 3) := by decide +kernel
theorem d_M_isSignature_161 : decode b_M_isSignature 161 = .ok (.aload_n 0, 1) := by decide +kernel
theorem d_M_isSignature_162 : decode b_M_isSignature 162 = .ok (.aload_n 0, 1) := by decide +kernel
theorem d_M_isSignature_163 : decode b_M_isSignature 163 = .ok (.getfield 202, 3) := by decide +kernel
theorem d_M_isSignature_166 : decode b_M_isSignature 166 = .ok (.aload_n 1, 1) := by decide +kernel
theorem d_M_isSignature_167 : decode b_M_isSignature 167 = .ok (.iload_n 2, 1) := by decide +kernel
theorem d_M_isSignature_168 : decode b_M_isSignature 168 = .ok (.bipush 6, 2) := by decide +kernel
theorem d_M_isSignature_170 : decode b_M_isSignature 170 = .ok (.iadd, 1) := by decide +kernel
theorem d_M_isSignature_171 : decode b_M_isSignature 171 = .ok (.iload 4, 2) := by decide +kernel
theorem d_M_isSignature_173 : decode b_M_isSignature 173 = .ok (.iadd, 1) := by decide +kernel
theorem d_M_isSignature_174 : decode b_M_isSignature 174 = .ok (.iload 5, 2) := by decide +kernel
theorem d_M_isSignature_176 : decode b_M_isSignature 176 = .ok (.invokevirtual 413, 3) := by decide +kernel
theorem d_M_isSignature_179 : decode b_M_isSignature 179 = .ok (.ifCond .eq 7, 3) := by decide +kernel
theorem d_M_isSignature_182 : decode b_M_isSignature 182 = .ok (.iconst 1, 1) := by decide +kernel
theorem d_M_isSignature_183 : decode b_M_isSignature 183 = .ok (.goto 4, 3) := by decide +kernel
theorem d_M_isSignature_186 : decode b_M_isSignature 186 = .ok (.iconst 0, 1) := by decide +kernel
theorem d_M_isSignature_187 : decode b_M_isSignature 187 = .ok (.ireturn, 1) := by decide +kernel
abbrev rm_M_isSignature : Room := { frames := 4, cells := 0, slots := 0, locals := 90 }
abbrev q_M_isSignature (D : va_G) (cy : Nat → ClassId) (A : Nat → Prop) (o : Nat) (q : Nat → Nat) (b1 : Nat) (z : Nat → Int32) (n1 : Nat) (h1 : Nat → Int32) (res : Int32 × (Nat → Int32) × (Nat → Int32)) : Array Value → State → Outcome → State → Prop := va_Qi (fun r' (_ : Unit) => r' = res.1) (fun _ t => Po D cy A [(o, .inr (12, mo q z)), ((q 61), .inl (cy 1, 8, .inl res.2.1)), ((q 62), .inl (cy 1, 8, .inl res.2.2)), (b1, .inl (cy 0, n1, .inl h1))] t) A
def I_M_isSignature_e (p : Program) (l : Launch) (e : Env) (s : State) (m : MethodId) (args : Array Value) (below : List Frame) (meth : Method) (c : Code) (D : va_G) (cy : Nat → ClassId) (A : Nat → Prop) (ad : Nat → Nat) (o : Nat) (q : Nat → Nat) (b1 : Nat) (z : Nat → Int32) (n1 : Nat) (h1 : Nat → Int32) (k : Int32 → Int32 → (Nat → Int32) → (Nat → Int32) → Option (Int32 × (Nat → Int32) × (Nat → Int32))) : Prop :=
  ∀ (a2 : Int32) (a3 : Int32) (u0 : Nat → Int32) (u1 : Nat → Int32) (res : Int32 × (Nat → Int32) × (Nat → Int32)), k a2 a3 u0 u1 = some res → ∀ (H : Heap) (locs : List Loc) (ls : Array Slot), va_P D classes [(o, .inr (12, mo q z)), ((q 61), .inl (cy 1, 8, .inl u0)), ((q 62), .inl (cy 1, 8, .inl u1)), (b1, .inl (cy 0, n1, .inl h1))] H → va_D A [(o, .inr (12, mo q z)), ((q 61), .inl (cy 1, 8, .inl u0)), ((q 62), .inl (cy 1, 8, .inl u1)), (b1, .inl (cy 0, n1, .inl h1))] → va_S A s.heap H locs → lv_has ls 6 [(0, .ref o), (1, .ref b1), (2, .int a2), (3, .int a3)] → W p l e rm_M_isSignature s m args below meth c H locs 0 0 (MQ below (q_M_isSignature D cy A o q b1 z n1 h1 res) args s 0 0 A) (F0 m 0 ls [])
theorem hdm_26 : ({ cls := "CoinKeeperModel", name := "isWhole", desc := "([BII)Z" } : Jvm.MethodName).cls ≠ "java/lang/invoke/MethodHandle" ∧ ({ cls := "CoinKeeperModel", name := "isWhole", desc := "([BII)Z" } : Jvm.MethodName).cls ≠ "java/lang/invoke/VarHandle" ∧ (parseMethodDescriptor ({ cls := "CoinKeeperModel", name := "isWhole", desc := "([BII)Z" } : Jvm.MethodName).desc).map (fun d => d.parameters.length) = some 3 := by decide +kernel
theorem hdm_27 : ({ cls := "CoinKeeperModel", name := "isScalar", desc := "([I[BII)Z" } : Jvm.MethodName).cls ≠ "java/lang/invoke/MethodHandle" ∧ ({ cls := "CoinKeeperModel", name := "isScalar", desc := "([I[BII)Z" } : Jvm.MethodName).cls ≠ "java/lang/invoke/VarHandle" ∧ (parseMethodDescriptor ({ cls := "CoinKeeperModel", name := "isScalar", desc := "([I[BII)Z" } : Jvm.MethodName).desc).map (fun d => d.parameters.length) = some 4 := by decide +kernel
set_option maxHeartbeats 8000000 in
set_option maxRecDepth 100000 in
theorem we_M_isSignature {p : Program} {l : Launch} {e : Env} {s : State} {m : MethodId} {args : Array Value} {below : List Frame} {meth : Method} {c : Code} {D : va_G} {cy : Nat → ClassId} {A : Nat → Prop} {ad : Nat → Nat} {o : Nat} {q : Nat → Nat} {b1 : Nat} {z : Nat → Int32} {n1 : Nat} {h1 : Nat → Int32} {fu : Nat} (F : Fx p s m args meth c b_M_isSignature 6 "CoinKeeperModel" "isSignature" (some .boolean) D cy ad A) : I_M_isSignature_e p l e s m args below meth c D cy A ad o q b1 z n1 h1 (x_M_isSignature fu z n1 h1) := by
  obtain ⟨hx, hb, hr, hml, hown, hts, hlocks, hK, hA, hSt, hnm, hex⟩ := id F
  intro a2 a3 u0 u1 res hf H locs ls hP hD hS hl
  unfold x_M_isSignature at hf
  refine lv_iload_n hx hb d_M_isSignature_0 rfl (lv_at hl 3 rfl) ?_
  refine lv_bipush (v := 9) hx hb d_M_isSignature_1 (by decide) ?_
  refine lv_icmp_lt (tgt := 40) hx hb d_M_isSignature_3 (by decide) (fun cx => ?_) (fun cx => ?_)
  · have hf := ifp cx hf
    refine lv_iconst (v := 0) hx hb d_M_isSignature_40 (by decide) ?_
    obtain rfl := Option.some.inj hf
    exact q_rz hx hb hr hlocks hK hP hD hS (isb_n (v := 0) (by decide)) d_M_isSignature_41
  · have hf := ifn cx hf
    refine lv_iload_n hx hb d_M_isSignature_6 rfl (lv_at hl 3 rfl) ?_
    refine lv_bipush (v := 73) hx hb d_M_isSignature_7 (by decide) ?_
    refine lv_icmp_gt (tgt := 40) hx hb d_M_isSignature_9 (by decide) (fun cx => ?_) (fun cx => ?_)
    · have hf := ifp cx hf
      refine lv_iconst (v := 0) hx hb d_M_isSignature_40 (by decide) ?_
      obtain rfl := Option.some.inj hf
      exact q_rz hx hb hr hlocks hK hP hD hS (isb_n (v := 0) (by decide)) d_M_isSignature_41
    · have hf := ifn cx hf
      refine lv_aload_n hx hb d_M_isSignature_12 rfl (lv_at hl 1 rfl) ?_
      refine lv_iload_n hx hb d_M_isSignature_13 rfl (lv_at hl 2 rfl) ?_
      obtain ⟨hg, hf⟩ := gdp hf
      refine va_bald hx hb hK hP 3 0 rfl rfl (inb_in hg) d_M_isSignature_14 ?_
      refine lv_topi (fun v1 ev => ?_)
      have hf := bn ev hf
      clear ev
      refine lv_bipush (v := 48) hx hb d_M_isSignature_15 (by decide) ?_
      refine lv_icmp_ne (tgt := 40) hx hb d_M_isSignature_17 (by decide) (fun cx => ?_) (fun cx => ?_)
      · have hf := ifn cx hf
        refine lv_iconst (v := 0) hx hb d_M_isSignature_40 (by decide) ?_
        obtain rfl := Option.some.inj hf
        exact q_rz hx hb hr hlocks hK hP hD hS (isb_n (v := 0) (by decide)) d_M_isSignature_41
      · have hf := ifp cx hf
        refine lv_aload_n hx hb d_M_isSignature_20 rfl (lv_at hl 1 rfl) ?_
        refine lv_iload_n hx hb d_M_isSignature_21 rfl (lv_at hl 2 rfl) ?_
        refine lv_iconst (v := 1) hx hb d_M_isSignature_22 (by decide) ?_
        refine lv_iadd hx hb d_M_isSignature_23 ?_
        refine lv_topi (fun v2 ev => ?_)
        have hf := bn ev hf
        clear ev
        obtain ⟨hg, hf⟩ := gdp hf
        refine va_bald hx hb hK hP 3 0 rfl rfl (inb_in hg) d_M_isSignature_24 ?_
        refine lv_topi (fun v3 ev => ?_)
        have hf := bn ev hf
        clear ev
        refine lv_iload_n hx hb d_M_isSignature_25 rfl (lv_at hl 3 rfl) ?_
        refine lv_iconst (v := 3) hx hb d_M_isSignature_26 (by decide) ?_
        refine lv_isub hx hb d_M_isSignature_27 ?_
        refine lv_icmp_ne (tgt := 40) hx hb d_M_isSignature_28 (by decide) (fun cx => ?_) (fun cx => ?_)
        · have hf := ifn cx hf
          refine lv_iconst (v := 0) hx hb d_M_isSignature_40 (by decide) ?_
          obtain rfl := Option.some.inj hf
          exact q_rz hx hb hr hlocks hK hP hD hS (isb_n (v := 0) (by decide)) d_M_isSignature_41
        · have hf := ifp cx hf
          refine lv_aload_n hx hb d_M_isSignature_31 rfl (lv_at hl 1 rfl) ?_
          refine lv_iload_n hx hb d_M_isSignature_32 rfl (lv_at hl 2 rfl) ?_
          refine lv_iconst (v := 2) hx hb d_M_isSignature_33 (by decide) ?_
          refine lv_iadd hx hb d_M_isSignature_34 ?_
          refine lv_topi (fun v4 ev => ?_)
          have hf := bn ev hf
          clear ev
          obtain ⟨hg, hf⟩ := gdp hf
          refine va_bald hx hb hK hP 3 0 rfl rfl (inb_in hg) d_M_isSignature_35 ?_
          refine lv_topi (fun v5 ev => ?_)
          have hf := bn ev hf
          clear ev
          refine lv_iconst (v := 2) hx hb d_M_isSignature_36 (by decide) ?_
          refine lv_icmp_eq (tgt := 42) hx hb d_M_isSignature_37 (by decide) (fun cx => ?_) (fun cx => ?_)
          · have hf := ifp cx hf
            refine lv_aload_n hx hb d_M_isSignature_42 rfl (lv_at hl 1 rfl) ?_
            refine lv_iload_n hx hb d_M_isSignature_43 rfl (lv_at hl 2 rfl) ?_
            refine lv_iconst (v := 3) hx hb d_M_isSignature_44 (by decide) ?_
            refine lv_iadd hx hb d_M_isSignature_45 ?_
            refine lv_topi (fun v6 ev => ?_)
            have hf := bn ev hf
            clear ev
            obtain ⟨hg, hf⟩ := gdp hf
            refine va_bald hx hb hK hP 3 0 rfl rfl (inb_in hg) d_M_isSignature_46 ?_
            refine lv_topi (fun v7 ev => ?_)
            have hf := bn ev hf
            clear ev
            refine lv_sipush (v := 255) hx hb d_M_isSignature_47 (by decide) ?_
            refine lv_iand hx hb d_M_isSignature_50 ?_
            refine lv_topi (fun v8 ev => ?_)
            have hf := bn ev hf
            clear ev
            refine lv_istore (lv' := [(4, .int v8), (0, .ref o), (1, .ref b1), (2, .int a2), (3, .int a3)]) hx hb d_M_isSignature_51 hl (by decide) rfl (fun ls hl => ?_)
            refine lv_iconst (v := 5) hx hb d_M_isSignature_53 (by decide) ?_
            refine lv_iload hx hb d_M_isSignature_54 (lv_at hl 0 rfl) ?_
            refine lv_iadd hx hb d_M_isSignature_56 ?_
            refine lv_topi (fun v9 ev => ?_)
            have hf := bn ev hf
            clear ev
            refine lv_iload_n hx hb d_M_isSignature_57 rfl (lv_at hl 4 rfl) ?_
            refine lv_icmp_lt (tgt := 63) hx hb d_M_isSignature_58 (by decide) (fun cx => ?_) (fun cx => ?_)
            · have hf := ifp cx hf
              refine lv_aload_n hx hb d_M_isSignature_63 rfl (lv_at hl 2 rfl) ?_
              refine lv_iload_n hx hb d_M_isSignature_64 rfl (lv_at hl 3 rfl) ?_
              refine lv_iconst (v := 5) hx hb d_M_isSignature_65 (by decide) ?_
              refine lv_iadd hx hb d_M_isSignature_66 ?_
              refine lv_topi (fun v10 ev => ?_)
              have hf := bn ev hf
              clear ev
              refine lv_iload hx hb d_M_isSignature_67 (lv_at hl 0 rfl) ?_
              refine lv_iadd hx hb d_M_isSignature_69 ?_
              refine lv_topi (fun v11 ev => ?_)
              have hf := bn ev hf
              clear ev
              obtain ⟨hg, hf⟩ := gdp hf
              refine va_bald hx hb hK hP 3 0 rfl rfl (inb_in hg) d_M_isSignature_70 ?_
              refine lv_topi (fun v12 ev => ?_)
              have hf := bn ev hf
              clear ev
              refine lv_sipush (v := 255) hx hb d_M_isSignature_71 (by decide) ?_
              refine lv_iand hx hb d_M_isSignature_74 ?_
              refine lv_topi (fun v13 ev => ?_)
              have hf := bn ev hf
              clear ev
              refine lv_istore (lv' := [(5, .int v13), (4, .int v8), (0, .ref o), (1, .ref b1), (2, .int a2), (3, .int a3)]) hx hb d_M_isSignature_75 hl (by decide) rfl (fun ls hl => ?_)
              refine lv_iload hx hb d_M_isSignature_77 (lv_at hl 1 rfl) ?_
              refine lv_iload hx hb d_M_isSignature_79 (lv_at hl 0 rfl) ?_
              refine lv_iadd hx hb d_M_isSignature_81 ?_
              refine lv_topi (fun v14 ev => ?_)
              have hf := bn ev hf
              clear ev
              refine lv_bipush (v := 7) hx hb d_M_isSignature_82 (by decide) ?_
              refine lv_iadd hx hb d_M_isSignature_84 ?_
              refine lv_topi (fun v15 ev => ?_)
              have hf := bn ev hf
              clear ev
              refine lv_iload_n hx hb d_M_isSignature_85 rfl (lv_at hl 5 rfl) ?_
              refine lv_icmp_ne (tgt := 142) hx hb d_M_isSignature_86 (by decide) (fun cx => ?_) (fun cx => ?_)
              · have hf := ifn cx hf
                refine lv_iconst (v := 0) hx hb d_M_isSignature_142 (by decide) ?_
                obtain rfl := Option.some.inj hf
                exact q_rz hx hb hr hlocks hK hP hD hS (isb_n (v := 0) (by decide)) d_M_isSignature_143
              · have hf := ifp cx hf
                refine lv_aload_n hx hb d_M_isSignature_89 rfl (lv_at hl 3 rfl) ?_
                refine lv_iload_n hx hb d_M_isSignature_90 rfl (lv_at hl 4 rfl) ?_
                refine lv_iconst (v := 4) hx hb d_M_isSignature_91 (by decide) ?_
                refine lv_iadd hx hb d_M_isSignature_92 ?_
                refine lv_topi (fun v16 ev => ?_)
                have hf := bn ev hf
                clear ev
                refine lv_iload hx hb d_M_isSignature_93 (lv_at hl 1 rfl) ?_
                refine lv_iadd hx hb d_M_isSignature_95 ?_
                refine lv_topi (fun v17 ev => ?_)
                have hf := bn ev hf
                clear ev
                obtain ⟨hg, hf⟩ := gdp hf
                refine va_bald hx hb hK hP 3 0 rfl rfl (inb_in hg) d_M_isSignature_96 ?_
                refine lv_topi (fun v18 ev => ?_)
                have hf := bn ev hf
                clear ev
                refine lv_iconst (v := 2) hx hb d_M_isSignature_97 (by decide) ?_
                refine lv_icmp_ne (tgt := 142) hx hb d_M_isSignature_98 (by decide) (fun cx => ?_) (fun cx => ?_)
                · have hf := ifn cx hf
                  refine lv_iconst (v := 0) hx hb d_M_isSignature_142 (by decide) ?_
                  obtain rfl := Option.some.inj hf
                  exact q_rz hx hb hr hlocks hK hP hD hS (isb_n (v := 0) (by decide)) d_M_isSignature_143
                · have hf := ifp cx hf
                  refine lv_aload_n hx hb d_M_isSignature_101 rfl (lv_at hl 2 rfl) ?_
                  refine lv_aload_n hx hb d_M_isSignature_102 rfl (lv_at hl 3 rfl) ?_
                  refine lv_iload_n hx hb d_M_isSignature_103 rfl (lv_at hl 4 rfl) ?_
                  refine lv_iconst (v := 4) hx hb d_M_isSignature_104 (by decide) ?_
                  refine lv_iadd hx hb d_M_isSignature_105 ?_
                  refine lv_topi (fun v19 ev => ?_)
                  have hf := bn ev hf
                  clear ev
                  refine lv_iload hx hb d_M_isSignature_106 (lv_at hl 1 rfl) ?_
                  obtain ⟨v20, hc, hf⟩ := bdp1 hf
                  refine q_ai (wr := [((q 61), .inl (cy 1, 8, .inl u0)), ((q 62), .inl (cy 1, 8, .inl u1))]) (va_runV (C := "CoinKeeperModel") (As := [.ref b1, .int v19, .int v8]) (rest := []) ⟨hx, hb, hml, hown, hts⟩ (c_M_isWhole l D cy ad fu o q b1 z n1 h1 v19 v8 _ hc H.size) ⟨q_cB hts gw_1998 gw_18 gw_1995 hdm_26 ⟨by decide, by decide⟩, hts _ gw_1997, hts _ gs_115⟩ (q_preV (q_pre (hP.sub [0, 3] rfl) (hD.sub [0, 3] (by decide) rfl) hK hSt hS (va_free hD hS hA [0, 3] rfl) _) (va_recv hK (hP.sub [0, 3] rfl) (ci := 12) (q0 := 0) rfl rfl)) rfl rfl hl.1 rfl (lv_room (Nat.le_of_ble_eq_true rfl)) d_M_isSignature_108 ⟨Nat.le_of_ble_eq_true rfl, Nat.le_of_ble_eq_true rfl⟩) hP hD hS hA [0, 3] [1, 2] rfl rfl (by decide) (by decide) (fun H locs hP hD hS => ?_)
                  clear hc
                  have hP : va_P D classes [((q 61), .inl (cy 1, 8, .inl u0)), ((q 62), .inl (cy 1, 8, .inl u1)), (o, .inr (12, mo q z)), (b1, .inl (cy 0, n1, .inl h1))] H := hP
                  have hD : va_D A [((q 61), .inl (cy 1, 8, .inl u0)), ((q 62), .inl (cy 1, 8, .inl u1)), (o, .inr (12, mo q z)), (b1, .inl (cy 0, n1, .inl h1))] := hD
                  refine lv_if_eq (tgt := 142) hx hb d_M_isSignature_111 (by decide) (fun cx => ?_) (fun cx => ?_)
                  · have hf := ifp cx hf
                    refine lv_iconst (v := 0) hx hb d_M_isSignature_142 (by decide) ?_
                    obtain rfl := Option.some.inj hf
                    exact q_rz hx hb hr hlocks hK (hP.sub [2, 0, 1, 3] rfl) (hD.sub [2, 0, 1, 3] (by decide) rfl) hS (isb_n (v := 0) (by decide)) d_M_isSignature_143
                  · have hf := ifn cx hf
                    refine lv_aload_n hx hb d_M_isSignature_114 rfl (lv_at hl 2 rfl) ?_
                    refine lv_aload_n hx hb d_M_isSignature_115 rfl (lv_at hl 3 rfl) ?_
                    refine lv_iload_n hx hb d_M_isSignature_116 rfl (lv_at hl 4 rfl) ?_
                    refine lv_bipush (v := 6) hx hb d_M_isSignature_117 (by decide) ?_
                    refine lv_iadd hx hb d_M_isSignature_119 ?_
                    refine lv_topi (fun v21 ev => ?_)
                    have hf := bn ev hf
                    clear ev
                    refine lv_iload hx hb d_M_isSignature_120 (lv_at hl 1 rfl) ?_
                    refine lv_iadd hx hb d_M_isSignature_122 ?_
                    refine lv_topi (fun v22 ev => ?_)
                    have hf := bn ev hf
                    clear ev
                    refine lv_iload hx hb d_M_isSignature_123 (lv_at hl 0 rfl) ?_
                    obtain ⟨v23, hc, hf⟩ := bdp1 hf
                    refine q_ai (wr := [((q 61), .inl (cy 1, 8, .inl u0)), ((q 62), .inl (cy 1, 8, .inl u1))]) (va_runV (C := "CoinKeeperModel") (As := [.ref b1, .int v22, .int v13]) (rest := []) ⟨hx, hb, hml, hown, hts⟩ (c_M_isWhole l D cy ad fu o q b1 z n1 h1 v22 v13 _ hc H.size) ⟨q_cB hts gw_1998 gw_18 gw_1995 hdm_26 ⟨by decide, by decide⟩, hts _ gw_1997, hts _ gs_115⟩ (q_preV (q_pre (hP.sub [2, 3] rfl) (hD.sub [2, 3] (by decide) rfl) hK hSt hS (va_free hD hS hA [2, 3] rfl) _) (va_recv hK (hP.sub [2, 3] rfl) (ci := 12) (q0 := 0) rfl rfl)) rfl rfl hl.1 rfl (lv_room (Nat.le_of_ble_eq_true rfl)) d_M_isSignature_125 ⟨Nat.le_of_ble_eq_true rfl, Nat.le_of_ble_eq_true rfl⟩) hP hD hS hA [2, 3] [0, 1] rfl rfl (by decide) (by decide) (fun H locs hP hD hS => ?_)
                    clear hc
                    have hP : va_P D classes [((q 61), .inl (cy 1, 8, .inl u0)), ((q 62), .inl (cy 1, 8, .inl u1)), (o, .inr (12, mo q z)), (b1, .inl (cy 0, n1, .inl h1))] H := hP
                    have hD : va_D A [((q 61), .inl (cy 1, 8, .inl u0)), ((q 62), .inl (cy 1, 8, .inl u1)), (o, .inr (12, mo q z)), (b1, .inl (cy 0, n1, .inl h1))] := hD
                    refine lv_if_eq (tgt := 142) hx hb d_M_isSignature_128 (by decide) (fun cx => ?_) (fun cx => ?_)
                    · have hf := ifp cx hf
                      refine lv_iconst (v := 0) hx hb d_M_isSignature_142 (by decide) ?_
                      obtain rfl := Option.some.inj hf
                      exact q_rz hx hb hr hlocks hK (hP.sub [2, 0, 1, 3] rfl) (hD.sub [2, 0, 1, 3] (by decide) rfl) hS (isb_n (v := 0) (by decide)) d_M_isSignature_143
                    · have hf := ifn cx hf
                      refine lv_aload_n hx hb d_M_isSignature_131 rfl (lv_at hl 3 rfl) ?_
                      refine lv_iload_n hx hb d_M_isSignature_132 rfl (lv_at hl 4 rfl) ?_
                      refine lv_iload_n hx hb d_M_isSignature_133 rfl (lv_at hl 5 rfl) ?_
                      refine lv_iadd hx hb d_M_isSignature_134 ?_
                      refine lv_topi (fun v24 ev => ?_)
                      have hf := bn ev hf
                      clear ev
                      refine lv_iconst (v := 1) hx hb d_M_isSignature_135 (by decide) ?_
                      refine lv_isub hx hb d_M_isSignature_136 ?_
                      refine lv_topi (fun v25 ev => ?_)
                      have hf := bn ev hf
                      clear ev
                      obtain ⟨hg, hf⟩ := gdp hf
                      refine va_bald hx hb hK hP 3 0 rfl rfl (inb_in hg) d_M_isSignature_137 ?_
                      refine lv_topi (fun v26 ev => ?_)
                      have hf := bn ev hf
                      clear ev
                      refine lv_iconst (v := 1) hx hb d_M_isSignature_138 (by decide) ?_
                      refine lv_icmp_eq (tgt := 144) hx hb d_M_isSignature_139 (by decide) (fun cx => ?_) (fun cx => ?_)
                      · have hf := ifp cx hf
                        refine lv_aload_n hx hb d_M_isSignature_144 rfl (lv_at hl 2 rfl) ?_
                        refine lv_aload_n hx hb d_M_isSignature_145 rfl (lv_at hl 2 rfl) ?_
                        refine va_get (D := D) (ci := 12) (v := .ref (q 61)) (C := "CoinKeeperModel") (T := F_12) (N := 98) hx hb hts i_12 hown hK hP 2 rfl rfl 69 (by decide) (hts _ gw_1488) (fun _ h9 => h9) rfl d_M_isSignature_146 ?_
                        refine lv_aload_n hx hb d_M_isSignature_149 rfl (lv_at hl 3 rfl) ?_
                        refine lv_iload_n hx hb d_M_isSignature_150 rfl (lv_at hl 4 rfl) ?_
                        refine lv_iconst (v := 4) hx hb d_M_isSignature_151 (by decide) ?_
                        refine lv_iadd hx hb d_M_isSignature_152 ?_
                        refine lv_topi (fun v27 ev => ?_)
                        have hf := bn ev hf
                        clear ev
                        refine lv_iload hx hb d_M_isSignature_153 (lv_at hl 1 rfl) ?_
                        obtain ⟨v28, f29, hc, hf⟩ := bdp2 hf
                        refine q_ai (wr := [((q 62), .inl (cy 1, 8, .inl u1))]) (va_runV (C := "CoinKeeperModel") (As := [.ref (q 61), .ref b1, .int v27, .int v8]) (rest := []) ⟨hx, hb, hml, hown, hts⟩ (c_M_isScalar l D cy ad fu o q (q 61) b1 z n1 h1 v27 v8 u0 _ hc H.size) ⟨q_cB hts gw_2002 gw_18 gw_1999 hdm_27 ⟨by decide, by decide⟩, hts _ gw_2001, hts _ gs_116⟩ (q_preV (q_pre (hP.sub [2, 0, 3] rfl) (hD.sub [2, 0, 3] (by decide) rfl) hK hSt hS (va_free hD hS hA [2, 0, 3] rfl) _) (va_recv hK (hP.sub [2, 0, 3] rfl) (ci := 12) (q0 := 0) rfl rfl)) rfl rfl hl.1 rfl (lv_room (Nat.le_of_ble_eq_true rfl)) d_M_isSignature_155 ⟨Nat.le_of_ble_eq_true rfl, Nat.le_of_ble_eq_true rfl⟩) hP hD hS hA [2, 0, 3] [1] rfl rfl (by decide) (by decide) (fun H locs hP hD hS => ?_)
                        clear hc
                        have hP : va_P D classes [((q 62), .inl (cy 1, 8, .inl u1)), (o, .inr (12, mo q z)), ((q 61), .inl (cy 1, 8, .inl f29)), (b1, .inl (cy 0, n1, .inl h1))] H := hP
                        have hD : va_D A [((q 62), .inl (cy 1, 8, .inl u1)), (o, .inr (12, mo q z)), ((q 61), .inl (cy 1, 8, .inl f29)), (b1, .inl (cy 0, n1, .inl h1))] := hD
                        refine lv_if_eq (tgt := 186) hx hb d_M_isSignature_158 (by decide) (fun cx => ?_) (fun cx => ?_)
                        · have hf := ifp cx hf
                          refine lv_iconst (v := 0) hx hb d_M_isSignature_186 (by decide) ?_
                          obtain rfl := Option.some.inj hf
                          exact q_rz hx hb hr hlocks hK (hP.sub [1, 2, 0, 3] rfl) (hD.sub [1, 2, 0, 3] (by decide) rfl) hS (isb_n (v := 0) (by decide)) d_M_isSignature_187
                        · have hf := ifn cx hf
                          refine lv_aload_n hx hb d_M_isSignature_161 rfl (lv_at hl 2 rfl) ?_
                          refine lv_aload_n hx hb d_M_isSignature_162 rfl (lv_at hl 2 rfl) ?_
                          refine va_get (D := D) (ci := 12) (v := .ref (q 62)) (C := "CoinKeeperModel") (T := F_12) (N := 98) hx hb hts i_12 hown hK hP 1 rfl rfl 70 (by decide) (hts _ gw_1489) (fun _ h9 => h9) rfl d_M_isSignature_163 ?_
                          refine lv_aload_n hx hb d_M_isSignature_166 rfl (lv_at hl 3 rfl) ?_
                          refine lv_iload_n hx hb d_M_isSignature_167 rfl (lv_at hl 4 rfl) ?_
                          refine lv_bipush (v := 6) hx hb d_M_isSignature_168 (by decide) ?_
                          refine lv_iadd hx hb d_M_isSignature_170 ?_
                          refine lv_topi (fun v30 ev => ?_)
                          have hf := bn ev hf
                          clear ev
                          refine lv_iload hx hb d_M_isSignature_171 (lv_at hl 1 rfl) ?_
                          refine lv_iadd hx hb d_M_isSignature_173 ?_
                          refine lv_topi (fun v31 ev => ?_)
                          have hf := bn ev hf
                          clear ev
                          refine lv_iload hx hb d_M_isSignature_174 (lv_at hl 0 rfl) ?_
                          obtain ⟨v32, f33, hc, hf⟩ := bdp2 hf
                          refine q_ai (wr := [((q 61), .inl (cy 1, 8, .inl f29))]) (va_runV (C := "CoinKeeperModel") (As := [.ref (q 62), .ref b1, .int v31, .int v13]) (rest := []) ⟨hx, hb, hml, hown, hts⟩ (c_M_isScalar l D cy ad fu o q (q 62) b1 z n1 h1 v31 v13 u1 _ hc H.size) ⟨q_cB hts gw_2002 gw_18 gw_1999 hdm_27 ⟨by decide, by decide⟩, hts _ gw_2001, hts _ gs_116⟩ (q_preV (q_pre (hP.sub [1, 0, 3] rfl) (hD.sub [1, 0, 3] (by decide) rfl) hK hSt hS (va_free hD hS hA [1, 0, 3] rfl) _) (va_recv hK (hP.sub [1, 0, 3] rfl) (ci := 12) (q0 := 0) rfl rfl)) rfl rfl hl.1 rfl (lv_room (Nat.le_of_ble_eq_true rfl)) d_M_isSignature_176 ⟨Nat.le_of_ble_eq_true rfl, Nat.le_of_ble_eq_true rfl⟩) hP hD hS hA [1, 0, 3] [2] rfl rfl (by decide) (by decide) (fun H locs hP hD hS => ?_)
                          clear hc
                          have hP : va_P D classes [((q 61), .inl (cy 1, 8, .inl f29)), (o, .inr (12, mo q z)), ((q 62), .inl (cy 1, 8, .inl f33)), (b1, .inl (cy 0, n1, .inl h1))] H := hP
                          have hD : va_D A [((q 61), .inl (cy 1, 8, .inl f29)), (o, .inr (12, mo q z)), ((q 62), .inl (cy 1, 8, .inl f33)), (b1, .inl (cy 0, n1, .inl h1))] := hD
                          refine lv_if_eq (tgt := 186) hx hb d_M_isSignature_179 (by decide) (fun cx => ?_) (fun cx => ?_)
                          · have hf := ifp cx hf
                            refine lv_iconst (v := 0) hx hb d_M_isSignature_186 (by decide) ?_
                            obtain rfl := Option.some.inj hf
                            exact q_rz hx hb hr hlocks hK (hP.sub [1, 0, 2, 3] rfl) (hD.sub [1, 0, 2, 3] (by decide) rfl) hS (isb_n (v := 0) (by decide)) d_M_isSignature_187
                          · have hf := ifn cx hf
                            refine lv_iconst (v := 1) hx hb d_M_isSignature_182 (by decide) ?_
                            refine lv_goto (tgt := 187) hx hb d_M_isSignature_183 (by decide) ?_
                            obtain rfl := Option.some.inj hf
                            exact q_rz hx hb hr hlocks hK (hP.sub [1, 0, 2, 3] rfl) (hD.sub [1, 0, 2, 3] (by decide) rfl) hS (isb_n (v := 1) (by decide)) d_M_isSignature_187
                      · have hf := ifn cx hf
                        refine lv_iconst (v := 0) hx hb d_M_isSignature_142 (by decide) ?_
                        obtain rfl := Option.some.inj hf
                        exact q_rz hx hb hr hlocks hK (hP.sub [2, 0, 1, 3] rfl) (hD.sub [2, 0, 1, 3] (by decide) rfl) hS (isb_n (v := 0) (by decide)) d_M_isSignature_143
            · have hf := ifn cx hf
              refine lv_iconst (v := 0) hx hb d_M_isSignature_61 (by decide) ?_
              obtain rfl := Option.some.inj hf
              exact q_rz hx hb hr hlocks hK hP hD hS (isb_n (v := 0) (by decide)) d_M_isSignature_62
          · have hf := ifn cx hf
            refine lv_iconst (v := 0) hx hb d_M_isSignature_40 (by decide) ?_
            obtain rfl := Option.some.inj hf
            exact q_rz hx hb hr hlocks hK hP hD hS (isb_n (v := 0) (by decide)) d_M_isSignature_41
theorem c_M_isSignature (l : Launch) (D : va_G) (cy : Nat → ClassId) (ad : Nat → Nat) (fu : Nat) (o : Nat) (q : Nat → Nat) (b1 : Nat) (z : Nat → Int32) (n1 : Nat) (h1 : Nat → Int32) (a2 : Int32) (a3 : Int32) (u0 : Nat → Int32) (u1 : Nat → Int32) (res : Int32 × (Nat → Int32) × (Nat → Int32)) (hf : x_M_isSignature fu z n1 h1 a2 a3 u0 u1 = some res) (sz : Nat) : Met l ({ cls := "CoinKeeperModel", name := "isSignature", desc := "([BII)Z" } : Jvm.MethodName) (.code ({ cls := "CoinKeeperModel", name := "isSignature", desc := "([BII)Z" } : Jvm.MethodName) b_M_isSignature 6 (some .boolean) :: gw) rm_M_isSignature (va_Pc [.ref o, .ref b1, .int a2, .int a3] (Pr D cy ad [(o, .inr (12, mo q z)), ((q 61), .inl (cy 1, 8, .inl u0)), ((q 62), .inl (cy 1, 8, .inl u1)), (b1, .inl (cy 0, n1, .inl h1))] sz)) (q_M_isSignature D cy (va_A [(o, .inr (12, mo q z)), ((q 61), .inl (cy 1, 8, .inl u0)), ((q 62), .inl (cy 1, 8, .inl u1)), (b1, .inl (cy 0, n1, .inl h1))] sz) o q b1 z n1 h1 res) 0 0 (va_A [(o, .inr (12, mo q z)), ((q 61), .inl (cy 1, 8, .inl u0)), ((q 62), .inl (cy 1, 8, .inl u1)), (b1, .inl (cy 0, n1, .inl h1))] sz) :=
  q_met (Qc := fun A => q_M_isSignature D cy A o q b1 z n1 h1 res) (by decide) rfl rfl (Nat.le_of_ble_eq_true rfl) (fun p e s m below meth c ls F hP hD hS hl => we_M_isSignature (fu := fu) F a2 a3 u0 u1 res hf _ _ _ hP hD hS hl) sz
abbrev rm_M_sub_e10s2x23 : Room := { frames := 0, cells := 0, slots := 0, locals := 0 }
abbrev q_M_sub_e10s2x23 (D : va_G) (cy : Nat → ClassId) (A : Nat → Prop) (b0 : Nat) (res : Int32 × (Nat → Int32)) : Array Value → State → Outcome → State → Prop := va_Qi (fun r' (_ : Unit) => r' = res.1) (fun _ t => Po D cy A [(b0, .inl (cy 1, 8, .inl res.2))] t) A
def I_M_sub_e10s2x23_5 (p : Program) (l : Launch) (e : Env) (s : State) (m : MethodId) (args : Array Value) (below : List Frame) (meth : Method) (c : Code) (D : va_G) (cy : Nat → ClassId) (A : Nat → Prop) (ad : Nat → Nat) (b0 : Nat) (k : Int64 → Int32 → (Nat → Int32) → Option (Int32 × (Nat → Int32))) : Prop :=
  ∀ (x3 : Int64) (x5 : Int32) (u0 : Nat → Int32) (res : Int32 × (Nat → Int32)), k x3 x5 u0 = some res → ∀ (H : Heap) (locs : List Loc) (ls : Array Slot), va_P D classes [(b0, .inl (cy 1, 8, .inl u0))] H → va_D A [(b0, .inl (cy 1, 8, .inl u0))] → va_S A s.heap H locs → lv_has ls 6 [(0, .ref b0), (1, .ref b0), (2, .ref (ad 23)), (3, .long x3), (5, .int x5)] → W p l e rm_M_sub_e10s2x23 s m args below meth c H locs 0 0 (MQ below (q_M_sub_e10s2x23 D cy A b0 res) args s 0 0 A) (F0 m 5 ls [])
def I_M_sub_e10s2x23_e (p : Program) (l : Launch) (e : Env) (s : State) (m : MethodId) (args : Array Value) (below : List Frame) (meth : Method) (c : Code) (D : va_G) (cy : Nat → ClassId) (A : Nat → Prop) (ad : Nat → Nat) (b0 : Nat) (k : (Nat → Int32) → Option (Int32 × (Nat → Int32))) : Prop :=
  ∀ (u0 : Nat → Int32) (res : Int32 × (Nat → Int32)), k u0 = some res → ∀ (H : Heap) (locs : List Loc) (ls : Array Slot), va_P D classes [(b0, .inl (cy 1, 8, .inl u0))] H → va_D A [(b0, .inl (cy 1, 8, .inl u0))] → va_S A s.heap H locs → lv_has ls 6 [(0, .ref b0), (1, .ref b0), (2, .ref (ad 23))] → W p l e rm_M_sub_e10s2x23 s m args below meth c H locs 0 0 (MQ below (q_M_sub_e10s2x23 D cy A b0 res) args s 0 0 A) (F0 m 0 ls [])
set_option maxHeartbeats 8000000 in
set_option maxRecDepth 100000 in
theorem wb_M_sub_e10s2x23_5 {p : Program} {l : Launch} {e : Env} {s : State} {m : MethodId} {args : Array Value} {below : List Frame} {meth : Method} {c : Code} {D : va_G} {cy : Nat → ClassId} {A : Nat → Prop} {ad : Nat → Nat} {b0 : Nat} {fu : Nat} {k_5 : Int64 → Int32 → (Nat → Int32) → Option (Int32 × (Nat → Int32))} (F : Fx p s m args meth c b_M_sub 6 "CoinKeeperModel" "sub" (some .int) D cy ad A) (hk_5 : I_M_sub_e10s2x23_5 p l e s m args below meth c D cy A ad b0 k_5) : I_M_sub_e10s2x23_5 p l e s m args below meth c D cy A ad b0 (xb_M_sub_e10s2x23_5 fu k_5) := by
  obtain ⟨hx, hb, hr, hml, hown, hts, hlocks, hK, hA, hSt, hnm, hex⟩ := id F
  intro x3 x5 u0 res hf H locs ls hP hD hS hl
  unfold xb_M_sub_e10s2x23_5 at hf
  refine lv_iload hx hb d_M_sub_5 (lv_at hl 4 rfl) ?_
  refine lv_bipush (v := 8) hx hb d_M_sub_7 (by decide) ?_
  refine lv_icmp_ge (tgt := 51) hx hb d_M_sub_9 (by decide) (fun cx => ?_) (fun cx => ?_)
  · have hf := ifp cx hf
    refine lv_lload_n hx hb d_M_sub_51 rfl (lv_at hl 3 rfl) ?_
    refine lv_l2i hx hb d_M_sub_52 rfl ?_
    refine lv_topi (fun v1 ev => ?_)
    have hf := bn ev hf
    clear ev
    obtain rfl := Option.some.inj hf
    exact q_ri hx hb hr hlocks hK hP hD hS d_M_sub_53
  · have hf := ifn cx hf
    refine lv_aload_n hx hb d_M_sub_12 rfl (lv_at hl 1 rfl) ?_
    refine lv_iload hx hb d_M_sub_13 (lv_at hl 4 rfl) ?_
    obtain ⟨hg, hf⟩ := gdp hf
    refine va_iald hx hb hK hP 0 1 rfl rfl (inb_in hg) d_M_sub_15 ?_
    refine lv_topi (fun v2 ev => ?_)
    have hf := bn ev hf
    clear ev
    refine lv_i2l hx hb d_M_sub_16 rfl ?_
    refine lv_topl (fun v3 ev => ?_)
    have hf := bn ev hf
    clear ev
    refine lv_ldc2 (v := 4294967295) hx hb hown (hts _ gw_1390) d_M_sub_17 ?_
    refine lv_land hx hb d_M_sub_20 ?_
    refine lv_topl (fun v4 ev => ?_)
    have hf := bn ev hf
    clear ev
    refine lv_aload_n hx hb d_M_sub_21 rfl (lv_at hl 2 rfl) ?_
    refine lv_iload hx hb d_M_sub_22 (lv_at hl 4 rfl) ?_
    obtain ⟨hg, hf⟩ := gdp hf
    refine va_ti (v := .int (tb_23.getD x5.toNatClampNeg 0)) hx hb (hSt.1 23 _ rfl).2 hS (inb_in hg) rfl d_M_sub_24 ?_
    refine lv_topi (fun v5 ev => ?_)
    have hf := bn ev hf
    clear ev
    refine lv_i2l hx hb d_M_sub_25 rfl ?_
    refine lv_topl (fun v6 ev => ?_)
    have hf := bn ev hf
    clear ev
    refine lv_ldc2 (v := 4294967295) hx hb hown (hts _ gw_1390) d_M_sub_26 ?_
    refine lv_land hx hb d_M_sub_29 ?_
    refine lv_lsub hx hb d_M_sub_30 ?_
    refine lv_topl (fun v7 ev => ?_)
    have hf := bn ev hf
    clear ev
    refine lv_lload_n hx hb d_M_sub_31 rfl (lv_at hl 3 rfl) ?_
    refine lv_ladd hx hb d_M_sub_32 ?_
    refine lv_topl (fun v8 ev => ?_)
    have hf := bn ev hf
    clear ev
    refine lv_lstore_n (lv' := [(3, .long v8), (0, .ref b0), (1, .ref b0), (2, .ref (ad 23)), (5, .int x5)]) hx hb d_M_sub_33 rfl hl (by decide) rfl (fun ls hl => ?_)
    refine lv_aload_n hx hb d_M_sub_34 rfl (lv_at hl 1 rfl) ?_
    refine lv_iload hx hb d_M_sub_35 (lv_at hl 4 rfl) ?_
    refine lv_lload_n hx hb d_M_sub_37 rfl (lv_at hl 0 rfl) ?_
    refine lv_l2i hx hb d_M_sub_38 rfl ?_
    refine lv_topi (fun v9 ev => ?_)
    have hf := bn ev hf
    clear ev
    obtain ⟨hg, hf⟩ := gdp hf
    refine va_iast hx hb hK hP hD hS 0 1 rfl rfl (inb_in hg) d_M_sub_39 (fun H locs hP hD hS => ?_)
    obtain ⟨f10, ev, hf⟩ := bne hf
    have hP : va_P D classes [(b0, .inl (cy 1, 8, .inl f10))] H := by rw [ev]; exact hP
    have hD : va_D A [(b0, .inl (cy 1, 8, .inl f10))] := by rw [ev]; exact hD
    clear ev
    refine lv_lload_n hx hb d_M_sub_40 rfl (lv_at hl 0 rfl) ?_
    refine lv_bipush (v := 32) hx hb d_M_sub_41 (by decide) ?_
    refine lv_lshr hx hb d_M_sub_43 rfl ?_
    refine lv_topl (fun v11 ev => ?_)
    have hf := bn ev hf
    clear ev
    refine lv_lstore_n (lv' := [(3, .long v11), (0, .ref b0), (1, .ref b0), (2, .ref (ad 23)), (5, .int x5)]) hx hb d_M_sub_44 rfl hl (by decide) rfl (fun ls hl => ?_)
    obtain ⟨v12, ev, hf⟩ := bne hf
    refine lv_iinc (v := v12) (lv' := [(5, .int v12), (3, .long v11), (0, .ref b0), (1, .ref b0), (2, .ref (ad 23))]) hx hb d_M_sub_45 hl (k := 4) rfl (by rw [ev]; rfl) (by decide) rfl (fun ls hl => ?_)
    clear ev
    refine lv_goto (tgt := 5) hx hb d_M_sub_48 (by decide) ?_
    exact hk_5 _ _ _ _ hf _ _ _ hP hD hS (lv_sub hl [2, 3, 4, 1, 0] rfl)
theorem w_M_sub_e10s2x23_5 {p : Program} {l : Launch} {e : Env} {s : State} {m : MethodId} {args : Array Value} {below : List Frame} {meth : Method} {c : Code} {D : va_G} {cy : Nat → ClassId} {A : Nat → Prop} {ad : Nat → Nat} {b0 : Nat} {fu : Nat} (F : Fx p s m args meth c b_M_sub 6 "CoinKeeperModel" "sub" (some .int) D cy ad A) : ∀ n : Nat, I_M_sub_e10s2x23_5 p l e s m args below meth c D cy A ad b0 (x_M_sub_e10s2x23_5 fu n)
  | 0 => fun _ _ _ _ hf => nomatch (show (none : Option (Int32 × (Nat → Int32))) = some _ from hf)
  | n + 1 => wb_M_sub_e10s2x23_5 F (w_M_sub_e10s2x23_5 F n)
set_option maxHeartbeats 8000000 in
set_option maxRecDepth 100000 in
theorem we_M_sub_e10s2x23 {p : Program} {l : Launch} {e : Env} {s : State} {m : MethodId} {args : Array Value} {below : List Frame} {meth : Method} {c : Code} {D : va_G} {cy : Nat → ClassId} {A : Nat → Prop} {ad : Nat → Nat} {b0 : Nat} {fu : Nat} (F : Fx p s m args meth c b_M_sub 6 "CoinKeeperModel" "sub" (some .int) D cy ad A) : I_M_sub_e10s2x23_e p l e s m args below meth c D cy A ad b0 (x_M_sub_e10s2x23 fu) := by
  obtain ⟨hx, hb, hr, hml, hown, hts, hlocks, hK, hA, hSt, hnm, hex⟩ := id F
  intro u0 res hf H locs ls hP hD hS hl
  unfold x_M_sub_e10s2x23 at hf
  refine lv_lconst (v := 0) hx hb d_M_sub_0 (by decide) ?_
  refine lv_lstore_n (lv' := [(3, .long (0 : Int64)), (0, .ref b0), (1, .ref b0), (2, .ref (ad 23))]) hx hb d_M_sub_1 rfl hl (by decide) rfl (fun ls hl => ?_)
  refine lv_iconst (v := 0) hx hb d_M_sub_2 (by decide) ?_
  refine lv_istore (lv' := [(5, .int (0 : Int32)), (3, .long (0 : Int64)), (0, .ref b0), (1, .ref b0), (2, .ref (ad 23))]) hx hb d_M_sub_3 hl (by decide) rfl (fun ls hl => ?_)
  exact w_M_sub_e10s2x23_5 F fu _ _ _ _ hf _ _ _ hP hD hS (lv_sub hl [2, 3, 4, 1, 0] rfl)
theorem c_M_sub_e10s2x23 (l : Launch) (D : va_G) (cy : Nat → ClassId) (ad : Nat → Nat) (fu : Nat) (b0 : Nat) (u0 : Nat → Int32) (res : Int32 × (Nat → Int32)) (hf : x_M_sub_e10s2x23 fu u0 = some res) (sz : Nat) : Met l ({ cls := "CoinKeeperModel", name := "sub", desc := "([I[I[I)I" } : Jvm.MethodName) (.code ({ cls := "CoinKeeperModel", name := "sub", desc := "([I[I[I)I" } : Jvm.MethodName) b_M_sub 6 (some .int) :: gw) rm_M_sub_e10s2x23 (va_Pc [.ref b0, .ref b0, .ref (ad 23)] (Pr D cy ad [(b0, .inl (cy 1, 8, .inl u0))] sz)) (q_M_sub_e10s2x23 D cy (va_A [(b0, .inl (cy 1, 8, .inl u0))] sz) b0 res) 0 0 (va_A [(b0, .inl (cy 1, 8, .inl u0))] sz) :=
  q_met (Qc := fun A => q_M_sub_e10s2x23 D cy A b0 res) (by decide) rfl rfl (Nat.le_of_ble_eq_true rfl) (fun p e s m below meth c ls F hP hD hS hl => we_M_sub_e10s2x23 (fu := fu) F u0 res hf _ _ _ hP hD hS hl) sz
abbrev rm_M_copy_s1x23 : Room := { frames := 1, cells := 0, slots := 0, locals := 26 }
abbrev q_M_copy_s1x23 (D : va_G) (cy : Nat → ClassId) (A : Nat → Prop) (b0 : Nat) (res : (Nat → Int32)) : Array Value → State → Outcome → State → Prop := va_Qv (fun (_ : Unit) => True) (fun _ t => Po D cy A [(b0, .inl (cy 1, 8, .inl res))] t) A
def I_M_copy_s1x23_e (p : Program) (l : Launch) (e : Env) (s : State) (m : MethodId) (args : Array Value) (below : List Frame) (meth : Method) (c : Code) (D : va_G) (cy : Nat → ClassId) (A : Nat → Prop) (ad : Nat → Nat) (b0 : Nat) (k : (Nat → Int32) → Option ((Nat → Int32))) : Prop :=
  ∀ (u0 : Nat → Int32) (res : (Nat → Int32)), k u0 = some res → ∀ (H : Heap) (locs : List Loc) (ls : Array Slot), va_P D classes [(b0, .inl (cy 1, 8, .inl u0))] H → va_D A [(b0, .inl (cy 1, 8, .inl u0))] → va_S A s.heap H locs → lv_has ls 2 [(0, .ref b0), (1, .ref (ad 23))] → W p l e rm_M_copy_s1x23 s m args below meth c H locs 0 0 (MQ below (q_M_copy_s1x23 D cy A b0 res) args s 0 0 A) (F0 m 0 ls [])
set_option maxHeartbeats 8000000 in
set_option maxRecDepth 100000 in
theorem we_M_copy_s1x23 {p : Program} {l : Launch} {e : Env} {s : State} {m : MethodId} {args : Array Value} {below : List Frame} {meth : Method} {c : Code} {D : va_G} {cy : Nat → ClassId} {A : Nat → Prop} {ad : Nat → Nat} {b0 : Nat} {fu : Nat} (F : Fx p s m args meth c b_M_copy 2 "CoinKeeperModel" "copy" none D cy ad A) : I_M_copy_s1x23_e p l e s m args below meth c D cy A ad b0 (x_M_copy_s1x23 fu) := by
  obtain ⟨hx, hb, hr, hml, hown, hts, hlocks, hK, hA, hSt, hnm, hex⟩ := id F
  intro u0 res hf H locs ls hP hD hS hl
  unfold x_M_copy_s1x23 at hf
  refine lv_aload_n hx hb d_M_copy_0 rfl (lv_at hl 1 rfl) ?_
  refine lv_iconst (v := 0) hx hb d_M_copy_1 (by decide) ?_
  refine lv_aload_n hx hb d_M_copy_2 rfl (lv_at hl 0 rfl) ?_
  refine lv_iconst (v := 0) hx hb d_M_copy_3 (by decide) ?_
  refine lv_bipush (v := 8) hx hb d_M_copy_4 (by decide) ?_
  obtain ⟨hg, hf⟩ := gdp hf
  refine q_copyt (rest := []) hx hb (hml.trans hl.1.symm) hown (hts _ gw_1398) (hts _ gw_497) (hts _ gw_496) (hts _ gw_17) hK hP hD hS (hSt.1 23 _ rfl).2 0 1 rfl rfl (cpk_p hg).1 (cpk_p hg).2.1 (cpk_p hg).2.2.1 (cpk_p hg).2.2.2.1 (cpk_p hg).2.2.2.2 (by decide) (by decide) d_M_copy_6 (fun H locs hP hD hS => ?_)
  obtain ⟨f1, ev, hf⟩ := bne hf
  have hP : va_P D classes [(b0, .inl (cy 1, 8, .inl f1))] H := by rw [ev]; exact hP
  have hD : va_D A [(b0, .inl (cy 1, 8, .inl f1))] := by rw [ev]; exact hD
  clear ev
  obtain rfl := Option.some.inj hf
  exact q_rv hx hb hr hlocks hK hP hD hS d_M_copy_9
theorem c_M_copy_s1x23 (l : Launch) (D : va_G) (cy : Nat → ClassId) (ad : Nat → Nat) (fu : Nat) (b0 : Nat) (u0 : Nat → Int32) (res : (Nat → Int32)) (hf : x_M_copy_s1x23 fu u0 = some res) (sz : Nat) : Met l ({ cls := "CoinKeeperModel", name := "copy", desc := "([I[I)V" } : Jvm.MethodName) (.code ({ cls := "CoinKeeperModel", name := "copy", desc := "([I[I)V" } : Jvm.MethodName) b_M_copy 2 none :: gw) rm_M_copy_s1x23 (va_Pc [.ref b0, .ref (ad 23)] (Pr D cy ad [(b0, .inl (cy 1, 8, .inl u0))] sz)) (q_M_copy_s1x23 D cy (va_A [(b0, .inl (cy 1, 8, .inl u0))] sz) b0 res) 0 0 (va_A [(b0, .inl (cy 1, 8, .inl u0))] sz) :=
  q_met (Qc := fun A => q_M_copy_s1x23 D cy A b0 res) (by decide) rfl rfl (Nat.le_of_ble_eq_true rfl) (fun p e s m below meth c ls F hP hD hS hl => we_M_copy_s1x23 (fu := fu) F u0 res hf _ _ _ hP hD hS hl) sz
abbrev b_M_isOne : ByteArray := prog_14_method_28_code
theorem d_M_isOne_0 : decode b_M_isOne 0 = .ok (.iconst 1, 1) := by decide +kernel
theorem d_M_isOne_1 : decode b_M_isOne 1 = .ok (.istore_n 1, 1) := by decide +kernel
theorem d_M_isOne_2 : decode b_M_isOne 2 = .ok (.iload_n 1, 1) := by decide +kernel
theorem d_M_isOne_3 : decode b_M_isOne 3 = .ok (.bipush 8, 2) := by decide +kernel
theorem d_M_isOne_5 : decode b_M_isOne 5 = .ok (.if_icmp .ge 17, 3) := by decide +kernel
theorem d_M_isOne_8 : decode b_M_isOne 8 = .ok (.aload_n 0, 1) := by decide +kernel
theorem d_M_isOne_9 : decode b_M_isOne 9 = .ok (.iload_n 1, 1) := by decide +kernel
theorem d_M_isOne_10 : decode b_M_isOne 10 = .ok (.iaload, 1) := by decide +kernel
theorem d_M_isOne_11 : decode b_M_isOne 11 = .ok (.ifCond .eq 5, 3) := by decide +kernel
theorem d_M_isOne_14 : decode b_M_isOne 14 = .ok (.iconst 0, 1) := by decide +kernel
theorem d_M_isOne_15 : decode b_M_isOne 15 = .ok (.ireturn, 1) := by decide +kernel
theorem d_M_isOne_16 : decode b_M_isOne 16 = .ok (.iinc 1 1, 3) := by decide +kernel
theorem d_M_isOne_19 : decode b_M_isOne 19 = .ok (.goto (-17), 3) := by decide +kernel
theorem d_M_isOne_22 : decode b_M_isOne 22 = .ok (.aload_n 0, 1) := by decide +kernel
theorem d_M_isOne_23 : decode b_M_isOne 23 = .ok (.iconst 0, 1) := by decide +kernel
theorem d_M_isOne_24 : decode b_M_isOne 24 = .ok (.iaload, 1) := by decide +kernel
theorem d_M_isOne_25 : decode b_M_isOne 25 = .ok (.iconst 1, 1) := by decide +kernel
theorem d_M_isOne_26 : decode b_M_isOne 26 = .ok (.if_icmp .ne 7, 3) := by decide +kernel
theorem d_M_isOne_29 : decode b_M_isOne 29 = .ok (.iconst 1, 1) := by decide +kernel
theorem d_M_isOne_30 : decode b_M_isOne 30 = .ok (.goto 4, 3) := by decide +kernel
theorem d_M_isOne_33 : decode b_M_isOne 33 = .ok (.iconst 0, 1) := by decide +kernel
theorem d_M_isOne_34 : decode b_M_isOne 34 = .ok (.ireturn, 1) := by decide +kernel
abbrev rm_M_isOne : Room := { frames := 0, cells := 0, slots := 0, locals := 0 }
abbrev q_M_isOne (D : va_G) (cy : Nat → ClassId) (A : Nat → Prop) (b0 : Nat) (h0 : Nat → Int32) (res : Int32) : Array Value → State → Outcome → State → Prop := va_Qi (fun r' (_ : Unit) => r' = res) (fun _ t => Po D cy A [(b0, .inl (cy 1, 8, .inl h0))] t) A
def I_M_isOne_2 (p : Program) (l : Launch) (e : Env) (s : State) (m : MethodId) (args : Array Value) (below : List Frame) (meth : Method) (c : Code) (D : va_G) (cy : Nat → ClassId) (A : Nat → Prop) (ad : Nat → Nat) (b0 : Nat) (h0 : Nat → Int32) (k : Int32 → Option (Int32)) : Prop :=
  ∀ (x1 : Int32) (res : Int32), k x1 = some res → ∀ (H : Heap) (locs : List Loc) (ls : Array Slot), va_P D classes [(b0, .inl (cy 1, 8, .inl h0))] H → va_D A [(b0, .inl (cy 1, 8, .inl h0))] → va_S A s.heap H locs → lv_has ls 2 [(0, .ref b0), (1, .int x1)] → W p l e rm_M_isOne s m args below meth c H locs 0 0 (MQ below (q_M_isOne D cy A b0 h0 res) args s 0 0 A) (F0 m 2 ls [])
def I_M_isOne_e (p : Program) (l : Launch) (e : Env) (s : State) (m : MethodId) (args : Array Value) (below : List Frame) (meth : Method) (c : Code) (D : va_G) (cy : Nat → ClassId) (A : Nat → Prop) (ad : Nat → Nat) (b0 : Nat) (h0 : Nat → Int32) (k : Option (Int32)) : Prop :=
  ∀ (res : Int32), k  = some res → ∀ (H : Heap) (locs : List Loc) (ls : Array Slot), va_P D classes [(b0, .inl (cy 1, 8, .inl h0))] H → va_D A [(b0, .inl (cy 1, 8, .inl h0))] → va_S A s.heap H locs → lv_has ls 2 [(0, .ref b0)] → W p l e rm_M_isOne s m args below meth c H locs 0 0 (MQ below (q_M_isOne D cy A b0 h0 res) args s 0 0 A) (F0 m 0 ls [])
set_option maxHeartbeats 8000000 in
set_option maxRecDepth 100000 in
theorem wb_M_isOne_2 {p : Program} {l : Launch} {e : Env} {s : State} {m : MethodId} {args : Array Value} {below : List Frame} {meth : Method} {c : Code} {D : va_G} {cy : Nat → ClassId} {A : Nat → Prop} {ad : Nat → Nat} {b0 : Nat} {h0 : Nat → Int32} {fu : Nat} {k_2 : Int32 → Option (Int32)} (F : Fx p s m args meth c b_M_isOne 2 "CoinKeeperModel" "isOne" (some .boolean) D cy ad A) (hk_2 : I_M_isOne_2 p l e s m args below meth c D cy A ad b0 h0 k_2) : I_M_isOne_2 p l e s m args below meth c D cy A ad b0 h0 (xb_M_isOne_2 fu h0 k_2) := by
  obtain ⟨hx, hb, hr, hml, hown, hts, hlocks, hK, hA, hSt, hnm, hex⟩ := id F
  intro x1 res hf H locs ls hP hD hS hl
  unfold xb_M_isOne_2 at hf
  refine lv_iload_n hx hb d_M_isOne_2 rfl (lv_at hl 1 rfl) ?_
  refine lv_bipush (v := 8) hx hb d_M_isOne_3 (by decide) ?_
  refine lv_icmp_ge (tgt := 22) hx hb d_M_isOne_5 (by decide) (fun cx => ?_) (fun cx => ?_)
  · have hf := ifp cx hf
    refine lv_aload_n hx hb d_M_isOne_22 rfl (lv_at hl 0 rfl) ?_
    refine lv_iconst (v := 0) hx hb d_M_isOne_23 (by decide) ?_
    refine va_iald hx hb hK hP 0 1 rfl rfl (inb_in (by decide)) d_M_isOne_24 ?_
    refine lv_topi (fun v1 ev => ?_)
    have hf := bn ev hf
    clear ev
    refine lv_iconst (v := 1) hx hb d_M_isOne_25 (by decide) ?_
    refine lv_icmp_ne (tgt := 33) hx hb d_M_isOne_26 (by decide) (fun cx => ?_) (fun cx => ?_)
    · have hf := ifn cx hf
      refine lv_iconst (v := 0) hx hb d_M_isOne_33 (by decide) ?_
      obtain rfl := Option.some.inj hf
      exact q_rz hx hb hr hlocks hK hP hD hS (isb_n (v := 0) (by decide)) d_M_isOne_34
    · have hf := ifp cx hf
      refine lv_iconst (v := 1) hx hb d_M_isOne_29 (by decide) ?_
      refine lv_goto (tgt := 34) hx hb d_M_isOne_30 (by decide) ?_
      obtain rfl := Option.some.inj hf
      exact q_rz hx hb hr hlocks hK hP hD hS (isb_n (v := 1) (by decide)) d_M_isOne_34
  · have hf := ifn cx hf
    refine lv_aload_n hx hb d_M_isOne_8 rfl (lv_at hl 0 rfl) ?_
    refine lv_iload_n hx hb d_M_isOne_9 rfl (lv_at hl 1 rfl) ?_
    obtain ⟨hg, hf⟩ := gdp hf
    refine va_iald hx hb hK hP 0 1 rfl rfl (inb_in hg) d_M_isOne_10 ?_
    refine lv_topi (fun v2 ev => ?_)
    have hf := bn ev hf
    clear ev
    refine lv_if_eq (tgt := 16) hx hb d_M_isOne_11 (by decide) (fun cx => ?_) (fun cx => ?_)
    · have hf := ifp cx hf
      obtain ⟨v3, ev, hf⟩ := bne hf
      refine lv_iinc (v := v3) (lv' := [(1, .int v3), (0, .ref b0)]) hx hb d_M_isOne_16 hl (k := 1) rfl (by rw [ev]; rfl) (by decide) rfl (fun ls hl => ?_)
      clear ev
      refine lv_goto (tgt := 2) hx hb d_M_isOne_19 (by decide) ?_
      exact hk_2 _ _ hf _ _ _ hP hD hS (lv_sub hl [1, 0] rfl)
    · have hf := ifn cx hf
      refine lv_iconst (v := 0) hx hb d_M_isOne_14 (by decide) ?_
      obtain rfl := Option.some.inj hf
      exact q_rz hx hb hr hlocks hK hP hD hS (isb_n (v := 0) (by decide)) d_M_isOne_15
theorem w_M_isOne_2 {p : Program} {l : Launch} {e : Env} {s : State} {m : MethodId} {args : Array Value} {below : List Frame} {meth : Method} {c : Code} {D : va_G} {cy : Nat → ClassId} {A : Nat → Prop} {ad : Nat → Nat} {b0 : Nat} {h0 : Nat → Int32} {fu : Nat} (F : Fx p s m args meth c b_M_isOne 2 "CoinKeeperModel" "isOne" (some .boolean) D cy ad A) : ∀ n : Nat, I_M_isOne_2 p l e s m args below meth c D cy A ad b0 h0 (x_M_isOne_2 fu h0 n)
  | 0 => fun _ _ hf => nomatch (show (none : Option (Int32)) = some _ from hf)
  | n + 1 => wb_M_isOne_2 F (w_M_isOne_2 F n)
set_option maxHeartbeats 8000000 in
set_option maxRecDepth 100000 in
theorem we_M_isOne {p : Program} {l : Launch} {e : Env} {s : State} {m : MethodId} {args : Array Value} {below : List Frame} {meth : Method} {c : Code} {D : va_G} {cy : Nat → ClassId} {A : Nat → Prop} {ad : Nat → Nat} {b0 : Nat} {h0 : Nat → Int32} {fu : Nat} (F : Fx p s m args meth c b_M_isOne 2 "CoinKeeperModel" "isOne" (some .boolean) D cy ad A) : I_M_isOne_e p l e s m args below meth c D cy A ad b0 h0 (x_M_isOne fu h0) := by
  obtain ⟨hx, hb, hr, hml, hown, hts, hlocks, hK, hA, hSt, hnm, hex⟩ := id F
  intro  res hf H locs ls hP hD hS hl
  unfold x_M_isOne at hf
  refine lv_iconst (v := 1) hx hb d_M_isOne_0 (by decide) ?_
  refine lv_istore_n (lv' := [(1, .int (1 : Int32)), (0, .ref b0)]) hx hb d_M_isOne_1 rfl hl (by decide) rfl (fun ls hl => ?_)
  exact w_M_isOne_2 F fu _ _ hf _ _ _ hP hD hS (lv_sub hl [1, 0] rfl)
theorem c_M_isOne (l : Launch) (D : va_G) (cy : Nat → ClassId) (ad : Nat → Nat) (fu : Nat) (b0 : Nat) (h0 : Nat → Int32) (res : Int32) (hf : x_M_isOne fu h0 = some res) (sz : Nat) : Met l ({ cls := "CoinKeeperModel", name := "isOne", desc := "([I)Z" } : Jvm.MethodName) (.code ({ cls := "CoinKeeperModel", name := "isOne", desc := "([I)Z" } : Jvm.MethodName) b_M_isOne 2 (some .boolean) :: gw) rm_M_isOne (va_Pc [.ref b0] (Pr D cy ad [(b0, .inl (cy 1, 8, .inl h0))] sz)) (q_M_isOne D cy (va_A [(b0, .inl (cy 1, 8, .inl h0))] sz) b0 h0 res) 0 0 (va_A [(b0, .inl (cy 1, 8, .inl h0))] sz) :=
  q_met (Qc := fun A => q_M_isOne D cy A b0 h0 res) (by decide) rfl rfl (Nat.le_of_ble_eq_true rfl) (fun p e s m below meth c ls F hP hD hS hl => we_M_isOne (fu := fu) F  res hf _ _ _ hP hD hS hl) sz
abbrev rm_M_add_e10s2x23 : Room := { frames := 0, cells := 0, slots := 0, locals := 0 }
abbrev q_M_add_e10s2x23 (D : va_G) (cy : Nat → ClassId) (A : Nat → Prop) (b0 : Nat) (res : Int32 × (Nat → Int32)) : Array Value → State → Outcome → State → Prop := va_Qi (fun r' (_ : Unit) => r' = res.1) (fun _ t => Po D cy A [(b0, .inl (cy 1, 8, .inl res.2))] t) A
def I_M_add_e10s2x23_5 (p : Program) (l : Launch) (e : Env) (s : State) (m : MethodId) (args : Array Value) (below : List Frame) (meth : Method) (c : Code) (D : va_G) (cy : Nat → ClassId) (A : Nat → Prop) (ad : Nat → Nat) (b0 : Nat) (k : Int64 → Int32 → (Nat → Int32) → Option (Int32 × (Nat → Int32))) : Prop :=
  ∀ (x3 : Int64) (x5 : Int32) (u0 : Nat → Int32) (res : Int32 × (Nat → Int32)), k x3 x5 u0 = some res → ∀ (H : Heap) (locs : List Loc) (ls : Array Slot), va_P D classes [(b0, .inl (cy 1, 8, .inl u0))] H → va_D A [(b0, .inl (cy 1, 8, .inl u0))] → va_S A s.heap H locs → lv_has ls 6 [(0, .ref b0), (1, .ref b0), (2, .ref (ad 23)), (3, .long x3), (5, .int x5)] → W p l e rm_M_add_e10s2x23 s m args below meth c H locs 0 0 (MQ below (q_M_add_e10s2x23 D cy A b0 res) args s 0 0 A) (F0 m 5 ls [])
def I_M_add_e10s2x23_e (p : Program) (l : Launch) (e : Env) (s : State) (m : MethodId) (args : Array Value) (below : List Frame) (meth : Method) (c : Code) (D : va_G) (cy : Nat → ClassId) (A : Nat → Prop) (ad : Nat → Nat) (b0 : Nat) (k : (Nat → Int32) → Option (Int32 × (Nat → Int32))) : Prop :=
  ∀ (u0 : Nat → Int32) (res : Int32 × (Nat → Int32)), k u0 = some res → ∀ (H : Heap) (locs : List Loc) (ls : Array Slot), va_P D classes [(b0, .inl (cy 1, 8, .inl u0))] H → va_D A [(b0, .inl (cy 1, 8, .inl u0))] → va_S A s.heap H locs → lv_has ls 6 [(0, .ref b0), (1, .ref b0), (2, .ref (ad 23))] → W p l e rm_M_add_e10s2x23 s m args below meth c H locs 0 0 (MQ below (q_M_add_e10s2x23 D cy A b0 res) args s 0 0 A) (F0 m 0 ls [])
set_option maxHeartbeats 8000000 in
set_option maxRecDepth 100000 in
theorem wb_M_add_e10s2x23_5 {p : Program} {l : Launch} {e : Env} {s : State} {m : MethodId} {args : Array Value} {below : List Frame} {meth : Method} {c : Code} {D : va_G} {cy : Nat → ClassId} {A : Nat → Prop} {ad : Nat → Nat} {b0 : Nat} {fu : Nat} {k_5 : Int64 → Int32 → (Nat → Int32) → Option (Int32 × (Nat → Int32))} (F : Fx p s m args meth c b_M_add 6 "CoinKeeperModel" "add" (some .int) D cy ad A) (hk_5 : I_M_add_e10s2x23_5 p l e s m args below meth c D cy A ad b0 k_5) : I_M_add_e10s2x23_5 p l e s m args below meth c D cy A ad b0 (xb_M_add_e10s2x23_5 fu k_5) := by
  obtain ⟨hx, hb, hr, hml, hown, hts, hlocks, hK, hA, hSt, hnm, hex⟩ := id F
  intro x3 x5 u0 res hf H locs ls hP hD hS hl
  unfold xb_M_add_e10s2x23_5 at hf
  refine lv_iload hx hb d_M_add_5 (lv_at hl 4 rfl) ?_
  refine lv_bipush (v := 8) hx hb d_M_add_7 (by decide) ?_
  refine lv_icmp_ge (tgt := 51) hx hb d_M_add_9 (by decide) (fun cx => ?_) (fun cx => ?_)
  · have hf := ifp cx hf
    refine lv_lload_n hx hb d_M_add_51 rfl (lv_at hl 3 rfl) ?_
    refine lv_l2i hx hb d_M_add_52 rfl ?_
    refine lv_topi (fun v1 ev => ?_)
    have hf := bn ev hf
    clear ev
    obtain rfl := Option.some.inj hf
    exact q_ri hx hb hr hlocks hK hP hD hS d_M_add_53
  · have hf := ifn cx hf
    refine lv_lload_n hx hb d_M_add_12 rfl (lv_at hl 3 rfl) ?_
    refine lv_aload_n hx hb d_M_add_13 rfl (lv_at hl 1 rfl) ?_
    refine lv_iload hx hb d_M_add_14 (lv_at hl 4 rfl) ?_
    obtain ⟨hg, hf⟩ := gdp hf
    refine va_iald hx hb hK hP 0 1 rfl rfl (inb_in hg) d_M_add_16 ?_
    refine lv_topi (fun v2 ev => ?_)
    have hf := bn ev hf
    clear ev
    refine lv_i2l hx hb d_M_add_17 rfl ?_
    refine lv_topl (fun v3 ev => ?_)
    have hf := bn ev hf
    clear ev
    refine lv_ldc2 (v := 4294967295) hx hb hown (hts _ gw_1390) d_M_add_18 ?_
    refine lv_land hx hb d_M_add_21 ?_
    refine lv_topl (fun v4 ev => ?_)
    have hf := bn ev hf
    clear ev
    refine lv_aload_n hx hb d_M_add_22 rfl (lv_at hl 2 rfl) ?_
    refine lv_iload hx hb d_M_add_23 (lv_at hl 4 rfl) ?_
    obtain ⟨hg, hf⟩ := gdp hf
    refine va_ti (v := .int (tb_23.getD x5.toNatClampNeg 0)) hx hb (hSt.1 23 _ rfl).2 hS (inb_in hg) rfl d_M_add_25 ?_
    refine lv_topi (fun v5 ev => ?_)
    have hf := bn ev hf
    clear ev
    refine lv_i2l hx hb d_M_add_26 rfl ?_
    refine lv_topl (fun v6 ev => ?_)
    have hf := bn ev hf
    clear ev
    refine lv_ldc2 (v := 4294967295) hx hb hown (hts _ gw_1390) d_M_add_27 ?_
    refine lv_land hx hb d_M_add_30 ?_
    refine lv_ladd hx hb d_M_add_31 ?_
    refine lv_ladd hx hb d_M_add_32 ?_
    refine lv_topl (fun v7 ev => ?_)
    have hf := bn ev hf
    clear ev
    refine lv_lstore_n (lv' := [(3, .long v7), (0, .ref b0), (1, .ref b0), (2, .ref (ad 23)), (5, .int x5)]) hx hb d_M_add_33 rfl hl (by decide) rfl (fun ls hl => ?_)
    refine lv_aload_n hx hb d_M_add_34 rfl (lv_at hl 1 rfl) ?_
    refine lv_iload hx hb d_M_add_35 (lv_at hl 4 rfl) ?_
    refine lv_lload_n hx hb d_M_add_37 rfl (lv_at hl 0 rfl) ?_
    refine lv_l2i hx hb d_M_add_38 rfl ?_
    refine lv_topi (fun v8 ev => ?_)
    have hf := bn ev hf
    clear ev
    obtain ⟨hg, hf⟩ := gdp hf
    refine va_iast hx hb hK hP hD hS 0 1 rfl rfl (inb_in hg) d_M_add_39 (fun H locs hP hD hS => ?_)
    obtain ⟨f9, ev, hf⟩ := bne hf
    have hP : va_P D classes [(b0, .inl (cy 1, 8, .inl f9))] H := by rw [ev]; exact hP
    have hD : va_D A [(b0, .inl (cy 1, 8, .inl f9))] := by rw [ev]; exact hD
    clear ev
    refine lv_lload_n hx hb d_M_add_40 rfl (lv_at hl 0 rfl) ?_
    refine lv_bipush (v := 32) hx hb d_M_add_41 (by decide) ?_
    refine lv_lushr hx hb d_M_add_43 rfl ?_
    refine lv_topl (fun v10 ev => ?_)
    have hf := bn ev hf
    clear ev
    refine lv_lstore_n (lv' := [(3, .long v10), (0, .ref b0), (1, .ref b0), (2, .ref (ad 23)), (5, .int x5)]) hx hb d_M_add_44 rfl hl (by decide) rfl (fun ls hl => ?_)
    obtain ⟨v11, ev, hf⟩ := bne hf
    refine lv_iinc (v := v11) (lv' := [(5, .int v11), (3, .long v10), (0, .ref b0), (1, .ref b0), (2, .ref (ad 23))]) hx hb d_M_add_45 hl (k := 4) rfl (by rw [ev]; rfl) (by decide) rfl (fun ls hl => ?_)
    clear ev
    refine lv_goto (tgt := 5) hx hb d_M_add_48 (by decide) ?_
    exact hk_5 _ _ _ _ hf _ _ _ hP hD hS (lv_sub hl [2, 3, 4, 1, 0] rfl)
theorem w_M_add_e10s2x23_5 {p : Program} {l : Launch} {e : Env} {s : State} {m : MethodId} {args : Array Value} {below : List Frame} {meth : Method} {c : Code} {D : va_G} {cy : Nat → ClassId} {A : Nat → Prop} {ad : Nat → Nat} {b0 : Nat} {fu : Nat} (F : Fx p s m args meth c b_M_add 6 "CoinKeeperModel" "add" (some .int) D cy ad A) : ∀ n : Nat, I_M_add_e10s2x23_5 p l e s m args below meth c D cy A ad b0 (x_M_add_e10s2x23_5 fu n)
  | 0 => fun _ _ _ _ hf => nomatch (show (none : Option (Int32 × (Nat → Int32))) = some _ from hf)
  | n + 1 => wb_M_add_e10s2x23_5 F (w_M_add_e10s2x23_5 F n)
set_option maxHeartbeats 8000000 in
set_option maxRecDepth 100000 in
theorem we_M_add_e10s2x23 {p : Program} {l : Launch} {e : Env} {s : State} {m : MethodId} {args : Array Value} {below : List Frame} {meth : Method} {c : Code} {D : va_G} {cy : Nat → ClassId} {A : Nat → Prop} {ad : Nat → Nat} {b0 : Nat} {fu : Nat} (F : Fx p s m args meth c b_M_add 6 "CoinKeeperModel" "add" (some .int) D cy ad A) : I_M_add_e10s2x23_e p l e s m args below meth c D cy A ad b0 (x_M_add_e10s2x23 fu) := by
  obtain ⟨hx, hb, hr, hml, hown, hts, hlocks, hK, hA, hSt, hnm, hex⟩ := id F
  intro u0 res hf H locs ls hP hD hS hl
  unfold x_M_add_e10s2x23 at hf
  refine lv_lconst (v := 0) hx hb d_M_add_0 (by decide) ?_
  refine lv_lstore_n (lv' := [(3, .long (0 : Int64)), (0, .ref b0), (1, .ref b0), (2, .ref (ad 23))]) hx hb d_M_add_1 rfl hl (by decide) rfl (fun ls hl => ?_)
  refine lv_iconst (v := 0) hx hb d_M_add_2 (by decide) ?_
  refine lv_istore (lv' := [(5, .int (0 : Int32)), (3, .long (0 : Int64)), (0, .ref b0), (1, .ref b0), (2, .ref (ad 23))]) hx hb d_M_add_3 hl (by decide) rfl (fun ls hl => ?_)
  exact w_M_add_e10s2x23_5 F fu _ _ _ _ hf _ _ _ hP hD hS (lv_sub hl [2, 3, 4, 1, 0] rfl)
theorem c_M_add_e10s2x23 (l : Launch) (D : va_G) (cy : Nat → ClassId) (ad : Nat → Nat) (fu : Nat) (b0 : Nat) (u0 : Nat → Int32) (res : Int32 × (Nat → Int32)) (hf : x_M_add_e10s2x23 fu u0 = some res) (sz : Nat) : Met l ({ cls := "CoinKeeperModel", name := "add", desc := "([I[I[I)I" } : Jvm.MethodName) (.code ({ cls := "CoinKeeperModel", name := "add", desc := "([I[I[I)I" } : Jvm.MethodName) b_M_add 6 (some .int) :: gw) rm_M_add_e10s2x23 (va_Pc [.ref b0, .ref b0, .ref (ad 23)] (Pr D cy ad [(b0, .inl (cy 1, 8, .inl u0))] sz)) (q_M_add_e10s2x23 D cy (va_A [(b0, .inl (cy 1, 8, .inl u0))] sz) b0 res) 0 0 (va_A [(b0, .inl (cy 1, 8, .inl u0))] sz) :=
  q_met (Qc := fun A => q_M_add_e10s2x23 D cy A b0 res) (by decide) rfl rfl (Nat.le_of_ble_eq_true rfl) (fun p e s m below meth c ls F hP hD hS hl => we_M_add_e10s2x23 (fu := fu) F u0 res hf _ _ _ hP hD hS hl) sz
abbrev rm_M_sub_e10 : Room := { frames := 0, cells := 0, slots := 0, locals := 0 }
abbrev q_M_sub_e10 (D : va_G) (cy : Nat → ClassId) (A : Nat → Prop) (b0 : Nat) (b2 : Nat) (h2 : Nat → Int32) (res : Int32 × (Nat → Int32)) : Array Value → State → Outcome → State → Prop := va_Qi (fun r' (_ : Unit) => r' = res.1) (fun _ t => Po D cy A [(b0, .inl (cy 1, 8, .inl res.2)), (b2, .inl (cy 1, 8, .inl h2))] t) A
def I_M_sub_e10_5 (p : Program) (l : Launch) (e : Env) (s : State) (m : MethodId) (args : Array Value) (below : List Frame) (meth : Method) (c : Code) (D : va_G) (cy : Nat → ClassId) (A : Nat → Prop) (ad : Nat → Nat) (b0 : Nat) (b2 : Nat) (h2 : Nat → Int32) (k : Int64 → Int32 → (Nat → Int32) → Option (Int32 × (Nat → Int32))) : Prop :=
  ∀ (x3 : Int64) (x5 : Int32) (u0 : Nat → Int32) (res : Int32 × (Nat → Int32)), k x3 x5 u0 = some res → ∀ (H : Heap) (locs : List Loc) (ls : Array Slot), va_P D classes [(b0, .inl (cy 1, 8, .inl u0)), (b2, .inl (cy 1, 8, .inl h2))] H → va_D A [(b0, .inl (cy 1, 8, .inl u0)), (b2, .inl (cy 1, 8, .inl h2))] → va_S A s.heap H locs → lv_has ls 6 [(0, .ref b0), (1, .ref b0), (2, .ref b2), (3, .long x3), (5, .int x5)] → W p l e rm_M_sub_e10 s m args below meth c H locs 0 0 (MQ below (q_M_sub_e10 D cy A b0 b2 h2 res) args s 0 0 A) (F0 m 5 ls [])
def I_M_sub_e10_e (p : Program) (l : Launch) (e : Env) (s : State) (m : MethodId) (args : Array Value) (below : List Frame) (meth : Method) (c : Code) (D : va_G) (cy : Nat → ClassId) (A : Nat → Prop) (ad : Nat → Nat) (b0 : Nat) (b2 : Nat) (h2 : Nat → Int32) (k : (Nat → Int32) → Option (Int32 × (Nat → Int32))) : Prop :=
  ∀ (u0 : Nat → Int32) (res : Int32 × (Nat → Int32)), k u0 = some res → ∀ (H : Heap) (locs : List Loc) (ls : Array Slot), va_P D classes [(b0, .inl (cy 1, 8, .inl u0)), (b2, .inl (cy 1, 8, .inl h2))] H → va_D A [(b0, .inl (cy 1, 8, .inl u0)), (b2, .inl (cy 1, 8, .inl h2))] → va_S A s.heap H locs → lv_has ls 6 [(0, .ref b0), (1, .ref b0), (2, .ref b2)] → W p l e rm_M_sub_e10 s m args below meth c H locs 0 0 (MQ below (q_M_sub_e10 D cy A b0 b2 h2 res) args s 0 0 A) (F0 m 0 ls [])
set_option maxHeartbeats 8000000 in
set_option maxRecDepth 100000 in
theorem wb_M_sub_e10_5 {p : Program} {l : Launch} {e : Env} {s : State} {m : MethodId} {args : Array Value} {below : List Frame} {meth : Method} {c : Code} {D : va_G} {cy : Nat → ClassId} {A : Nat → Prop} {ad : Nat → Nat} {b0 : Nat} {b2 : Nat} {h2 : Nat → Int32} {fu : Nat} {k_5 : Int64 → Int32 → (Nat → Int32) → Option (Int32 × (Nat → Int32))} (F : Fx p s m args meth c b_M_sub 6 "CoinKeeperModel" "sub" (some .int) D cy ad A) (hk_5 : I_M_sub_e10_5 p l e s m args below meth c D cy A ad b0 b2 h2 k_5) : I_M_sub_e10_5 p l e s m args below meth c D cy A ad b0 b2 h2 (xb_M_sub_e10_5 fu h2 k_5) := by
  obtain ⟨hx, hb, hr, hml, hown, hts, hlocks, hK, hA, hSt, hnm, hex⟩ := id F
  intro x3 x5 u0 res hf H locs ls hP hD hS hl
  unfold xb_M_sub_e10_5 at hf
  refine lv_iload hx hb d_M_sub_5 (lv_at hl 4 rfl) ?_
  refine lv_bipush (v := 8) hx hb d_M_sub_7 (by decide) ?_
  refine lv_icmp_ge (tgt := 51) hx hb d_M_sub_9 (by decide) (fun cx => ?_) (fun cx => ?_)
  · have hf := ifp cx hf
    refine lv_lload_n hx hb d_M_sub_51 rfl (lv_at hl 3 rfl) ?_
    refine lv_l2i hx hb d_M_sub_52 rfl ?_
    refine lv_topi (fun v1 ev => ?_)
    have hf := bn ev hf
    clear ev
    obtain rfl := Option.some.inj hf
    exact q_ri hx hb hr hlocks hK hP hD hS d_M_sub_53
  · have hf := ifn cx hf
    refine lv_aload_n hx hb d_M_sub_12 rfl (lv_at hl 1 rfl) ?_
    refine lv_iload hx hb d_M_sub_13 (lv_at hl 4 rfl) ?_
    obtain ⟨hg, hf⟩ := gdp hf
    refine va_iald hx hb hK hP 0 1 rfl rfl (inb_in hg) d_M_sub_15 ?_
    refine lv_topi (fun v2 ev => ?_)
    have hf := bn ev hf
    clear ev
    refine lv_i2l hx hb d_M_sub_16 rfl ?_
    refine lv_topl (fun v3 ev => ?_)
    have hf := bn ev hf
    clear ev
    refine lv_ldc2 (v := 4294967295) hx hb hown (hts _ gw_1390) d_M_sub_17 ?_
    refine lv_land hx hb d_M_sub_20 ?_
    refine lv_topl (fun v4 ev => ?_)
    have hf := bn ev hf
    clear ev
    refine lv_aload_n hx hb d_M_sub_21 rfl (lv_at hl 2 rfl) ?_
    refine lv_iload hx hb d_M_sub_22 (lv_at hl 4 rfl) ?_
    obtain ⟨hg, hf⟩ := gdp hf
    refine va_iald hx hb hK hP 1 1 rfl rfl (inb_in hg) d_M_sub_24 ?_
    refine lv_topi (fun v5 ev => ?_)
    have hf := bn ev hf
    clear ev
    refine lv_i2l hx hb d_M_sub_25 rfl ?_
    refine lv_topl (fun v6 ev => ?_)
    have hf := bn ev hf
    clear ev
    refine lv_ldc2 (v := 4294967295) hx hb hown (hts _ gw_1390) d_M_sub_26 ?_
    refine lv_land hx hb d_M_sub_29 ?_
    refine lv_lsub hx hb d_M_sub_30 ?_
    refine lv_topl (fun v7 ev => ?_)
    have hf := bn ev hf
    clear ev
    refine lv_lload_n hx hb d_M_sub_31 rfl (lv_at hl 3 rfl) ?_
    refine lv_ladd hx hb d_M_sub_32 ?_
    refine lv_topl (fun v8 ev => ?_)
    have hf := bn ev hf
    clear ev
    refine lv_lstore_n (lv' := [(3, .long v8), (0, .ref b0), (1, .ref b0), (2, .ref b2), (5, .int x5)]) hx hb d_M_sub_33 rfl hl (by decide) rfl (fun ls hl => ?_)
    refine lv_aload_n hx hb d_M_sub_34 rfl (lv_at hl 1 rfl) ?_
    refine lv_iload hx hb d_M_sub_35 (lv_at hl 4 rfl) ?_
    refine lv_lload_n hx hb d_M_sub_37 rfl (lv_at hl 0 rfl) ?_
    refine lv_l2i hx hb d_M_sub_38 rfl ?_
    refine lv_topi (fun v9 ev => ?_)
    have hf := bn ev hf
    clear ev
    obtain ⟨hg, hf⟩ := gdp hf
    refine va_iast hx hb hK hP hD hS 0 1 rfl rfl (inb_in hg) d_M_sub_39 (fun H locs hP hD hS => ?_)
    obtain ⟨f10, ev, hf⟩ := bne hf
    have hP : va_P D classes [(b0, .inl (cy 1, 8, .inl f10)), (b2, .inl (cy 1, 8, .inl h2))] H := by rw [ev]; exact hP
    have hD : va_D A [(b0, .inl (cy 1, 8, .inl f10)), (b2, .inl (cy 1, 8, .inl h2))] := by rw [ev]; exact hD
    clear ev
    refine lv_lload_n hx hb d_M_sub_40 rfl (lv_at hl 0 rfl) ?_
    refine lv_bipush (v := 32) hx hb d_M_sub_41 (by decide) ?_
    refine lv_lshr hx hb d_M_sub_43 rfl ?_
    refine lv_topl (fun v11 ev => ?_)
    have hf := bn ev hf
    clear ev
    refine lv_lstore_n (lv' := [(3, .long v11), (0, .ref b0), (1, .ref b0), (2, .ref b2), (5, .int x5)]) hx hb d_M_sub_44 rfl hl (by decide) rfl (fun ls hl => ?_)
    obtain ⟨v12, ev, hf⟩ := bne hf
    refine lv_iinc (v := v12) (lv' := [(5, .int v12), (3, .long v11), (0, .ref b0), (1, .ref b0), (2, .ref b2)]) hx hb d_M_sub_45 hl (k := 4) rfl (by rw [ev]; rfl) (by decide) rfl (fun ls hl => ?_)
    clear ev
    refine lv_goto (tgt := 5) hx hb d_M_sub_48 (by decide) ?_
    exact hk_5 _ _ _ _ hf _ _ _ hP hD hS (lv_sub hl [2, 3, 4, 1, 0] rfl)
theorem w_M_sub_e10_5 {p : Program} {l : Launch} {e : Env} {s : State} {m : MethodId} {args : Array Value} {below : List Frame} {meth : Method} {c : Code} {D : va_G} {cy : Nat → ClassId} {A : Nat → Prop} {ad : Nat → Nat} {b0 : Nat} {b2 : Nat} {h2 : Nat → Int32} {fu : Nat} (F : Fx p s m args meth c b_M_sub 6 "CoinKeeperModel" "sub" (some .int) D cy ad A) : ∀ n : Nat, I_M_sub_e10_5 p l e s m args below meth c D cy A ad b0 b2 h2 (x_M_sub_e10_5 fu h2 n)
  | 0 => fun _ _ _ _ hf => nomatch (show (none : Option (Int32 × (Nat → Int32))) = some _ from hf)
  | n + 1 => wb_M_sub_e10_5 F (w_M_sub_e10_5 F n)
set_option maxHeartbeats 8000000 in
set_option maxRecDepth 100000 in
theorem we_M_sub_e10 {p : Program} {l : Launch} {e : Env} {s : State} {m : MethodId} {args : Array Value} {below : List Frame} {meth : Method} {c : Code} {D : va_G} {cy : Nat → ClassId} {A : Nat → Prop} {ad : Nat → Nat} {b0 : Nat} {b2 : Nat} {h2 : Nat → Int32} {fu : Nat} (F : Fx p s m args meth c b_M_sub 6 "CoinKeeperModel" "sub" (some .int) D cy ad A) : I_M_sub_e10_e p l e s m args below meth c D cy A ad b0 b2 h2 (x_M_sub_e10 fu h2) := by
  obtain ⟨hx, hb, hr, hml, hown, hts, hlocks, hK, hA, hSt, hnm, hex⟩ := id F
  intro u0 res hf H locs ls hP hD hS hl
  unfold x_M_sub_e10 at hf
  refine lv_lconst (v := 0) hx hb d_M_sub_0 (by decide) ?_
  refine lv_lstore_n (lv' := [(3, .long (0 : Int64)), (0, .ref b0), (1, .ref b0), (2, .ref b2)]) hx hb d_M_sub_1 rfl hl (by decide) rfl (fun ls hl => ?_)
  refine lv_iconst (v := 0) hx hb d_M_sub_2 (by decide) ?_
  refine lv_istore (lv' := [(5, .int (0 : Int32)), (3, .long (0 : Int64)), (0, .ref b0), (1, .ref b0), (2, .ref b2)]) hx hb d_M_sub_3 hl (by decide) rfl (fun ls hl => ?_)
  exact w_M_sub_e10_5 F fu _ _ _ _ hf _ _ _ hP hD hS (lv_sub hl [2, 3, 4, 1, 0] rfl)
theorem c_M_sub_e10 (l : Launch) (D : va_G) (cy : Nat → ClassId) (ad : Nat → Nat) (fu : Nat) (b0 : Nat) (b2 : Nat) (h2 : Nat → Int32) (u0 : Nat → Int32) (res : Int32 × (Nat → Int32)) (hf : x_M_sub_e10 fu h2 u0 = some res) (sz : Nat) : Met l ({ cls := "CoinKeeperModel", name := "sub", desc := "([I[I[I)I" } : Jvm.MethodName) (.code ({ cls := "CoinKeeperModel", name := "sub", desc := "([I[I[I)I" } : Jvm.MethodName) b_M_sub 6 (some .int) :: gw) rm_M_sub_e10 (va_Pc [.ref b0, .ref b0, .ref b2] (Pr D cy ad [(b0, .inl (cy 1, 8, .inl u0)), (b2, .inl (cy 1, 8, .inl h2))] sz)) (q_M_sub_e10 D cy (va_A [(b0, .inl (cy 1, 8, .inl u0)), (b2, .inl (cy 1, 8, .inl h2))] sz) b0 b2 h2 res) 0 0 (va_A [(b0, .inl (cy 1, 8, .inl u0)), (b2, .inl (cy 1, 8, .inl h2))] sz) :=
  q_met (Qc := fun A => q_M_sub_e10 D cy A b0 b2 h2 res) (by decide) rfl rfl (Nat.le_of_ble_eq_true rfl) (fun p e s m below meth c ls F hP hD hS hl => we_M_sub_e10 (fu := fu) F u0 res hf _ _ _ hP hD hS hl) sz
