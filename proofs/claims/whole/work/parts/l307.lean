abbrev b_M_inverse : ByteArray := prog_14_method_29_code
theorem d_M_inverse_0 : decode b_M_inverse 0 = .ok (.aload_n 0, 1) := by decide +kernel
theorem d_M_inverse_1 : decode b_M_inverse 1 = .ok (.getfield 160, 3) := by decide +kernel
theorem d_M_inverse_4 : decode b_M_inverse 4 = .ok (.aload_n 2, 1) := by decide +kernel
theorem d_M_inverse_5 : decode b_M_inverse 5 = .ok (.invokestatic 334, 3) := by decide +kernel
theorem d_M_inverse_8 : decode b_M_inverse 8 = .ok (.aload_n 0, 1) := by decide +kernel
theorem d_M_inverse_9 : decode b_M_inverse 9 = .ok (.getfield 163, 3) := by decide +kernel
theorem d_M_inverse_12 : decode b_M_inverse 12 = .ok (.aload_n 3, 1) := by decide +kernel
theorem d_M_inverse_13 : decode b_M_inverse 13 = .ok (.invokestatic 334, 3) := by decide +kernel
theorem d_M_inverse_16 : decode b_M_inverse 16 = .ok (.iconst 0, 1) := by decide +kernel
theorem d_M_inverse_17 : decode b_M_inverse 17 = .ok (.istore 4, 2) := by decide +kernel
theorem d_M_inverse_19 : decode b_M_inverse 19 = .ok (.iload 4, 2) := by decide +kernel
theorem d_M_inverse_21 : decode b_M_inverse 21 = .ok (.bipush 8, 2) := by decide +kernel
theorem d_M_inverse_23 : decode b_M_inverse 23 = .ok (.if_icmp .ge 34, 3) := by decide +kernel
theorem d_M_inverse_26 : decode b_M_inverse 26 = .ok (.aload_n 0, 1) := by decide +kernel
theorem d_M_inverse_27 : decode b_M_inverse 27 = .ok (.getfield 214, 3) := by decide +kernel
theorem d_M_inverse_30 : decode b_M_inverse 30 = .ok (.iload 4, 2) := by decide +kernel
theorem d_M_inverse_32 : decode b_M_inverse 32 = .ok (.iload 4, 2) := by decide +kernel
theorem d_M_inverse_34 : decode b_M_inverse 34 = .ok (.ifCond .ne 7, 3) := by decide +kernel
theorem d_M_inverse_37 : decode b_M_inverse 37 = .ok (.iconst 1, 1) := by decide +kernel
theorem d_M_inverse_38 : decode b_M_inverse 38 = .ok (.goto 4, 3) := by decide +kernel
theorem d_M_inverse_41 : decode b_M_inverse 41 = .ok (.iconst 0, 1) := by decide +kernel
theorem d_M_inverse_42 : decode b_M_inverse 42 = .ok (.iastore, 1) := by decide +kernel
theorem d_M_inverse_43 : decode b_M_inverse 43 = .ok (.aload_n 0, 1) := by decide +kernel
theorem d_M_inverse_44 : decode b_M_inverse 44 = .ok (.getfield 217, 3) := by decide +kernel
theorem d_M_inverse_47 : decode b_M_inverse 47 = .ok (.iload 4, 2) := by decide +kernel
theorem d_M_inverse_49 : decode b_M_inverse 49 = .ok (.iconst 0, 1) := by decide +kernel
theorem d_M_inverse_50 : decode b_M_inverse 50 = .ok (.iastore, 1) := by decide +kernel
theorem d_M_inverse_51 : decode b_M_inverse 51 = .ok (.iinc 4 1, 3) := by decide +kernel
theorem d_M_inverse_54 : decode b_M_inverse 54 = .ok (.goto (-35), 3) := by decide +kernel
theorem d_M_inverse_57 : decode b_M_inverse 57 = .ok (.aload_n 0, 1) := by decide +kernel
theorem d_M_inverse_58 : decode b_M_inverse 58 = .ok (.getfield 160, 3) := by decide +kernel
theorem d_M_inverse_61 : decode b_M_inverse 61 = .ok (.invokestatic 378, 3) := by decide +kernel
theorem d_M_inverse_64 : decode b_M_inverse 64 = .ok (.ifCond .ne 247, 3) := by decide +kernel
theorem d_M_inverse_67 : decode b_M_inverse 67 = .ok (.aload_n 0, 1) := by decide +kernel
theorem d_M_inverse_68 : decode b_M_inverse 68 = .ok (.getfield 163, 3) := by decide +kernel
theorem d_M_inverse_71 : decode b_M_inverse 71 = .ok (.invokestatic 378, 3) := by decide +kernel
theorem d_M_inverse_74 : decode b_M_inverse 74 = .ok (.ifCond .ne 237, 3) := by decide +kernel
theorem d_M_inverse_77 : decode b_M_inverse 77 = .ok (.aload_n 0, 1) := by decide +kernel
theorem d_M_inverse_78 : decode b_M_inverse 78 = .ok (.getfield 160, 3) := by decide +kernel
theorem d_M_inverse_81 : decode b_M_inverse 81 = .ok (.iconst 0, 1) := by decide +kernel
theorem d_M_inverse_82 : decode b_M_inverse 82 = .ok (.iaload, 1) := by decide +kernel
theorem d_M_inverse_83 : decode b_M_inverse 83 = .ok (.iconst 1, 1) := by decide +kernel
theorem d_M_inverse_84 : decode b_M_inverse 84 = .ok (.iand, 1) := by decide +kernel
theorem d_M_inverse_85 : decode b_M_inverse 85 = .ok (.ifCond .ne 52, 3) := by decide +kernel
theorem d_M_inverse_88 : decode b_M_inverse 88 = .ok (.aload_n 0, 1) := by decide +kernel
theorem d_M_inverse_89 : decode b_M_inverse 89 = .ok (.getfield 160, 3) := by decide +kernel
theorem d_M_inverse_92 : decode b_M_inverse 92 = .ok (.iconst 0, 1) := by decide +kernel
theorem d_M_inverse_93 : decode b_M_inverse 93 = .ok (.invokestatic 381, 3) := by decide +kernel
theorem d_M_inverse_96 : decode b_M_inverse 96 = .ok (.aload_n 0, 1) := by decide +kernel
theorem d_M_inverse_97 : decode b_M_inverse 97 = .ok (.getfield 214, 3) := by decide +kernel
theorem d_M_inverse_100 : decode b_M_inverse 100 = .ok (.iconst 0, 1) := by decide +kernel
theorem d_M_inverse_101 : decode b_M_inverse 101 = .ok (.iaload, 1) := by decide +kernel
theorem d_M_inverse_102 : decode b_M_inverse 102 = .ok (.iconst 1, 1) := by decide +kernel
theorem d_M_inverse_103 : decode b_M_inverse 103 = .ok (.iand, 1) := by decide +kernel
theorem d_M_inverse_104 : decode b_M_inverse 104 = .ok (.ifCond .ne 7, 3) := by decide +kernel
theorem d_M_inverse_107 : decode b_M_inverse 107 = .ok (.iconst 0, 1) := by decide +kernel
theorem d_M_inverse_108 : decode b_M_inverse 108 = .ok (.goto 15, 3) := by decide +kernel
theorem d_M_inverse_111 : decode b_M_inverse 111 = .ok (.aload_n 0, 1) := by decide +kernel
theorem d_M_inverse_112 : decode b_M_inverse 112 = .ok (.getfield 214, 3) := by decide +kernel
theorem d_M_inverse_115 : decode b_M_inverse 115 = .ok (.aload_n 0, 1) := by decide +kernel
theorem d_M_inverse_116 : decode b_M_inverse 116 = .ok (.getfield 214, 3) := by decide +kernel
theorem d_M_inverse_119 : decode b_M_inverse 119 = .ok (.aload_n 3, 1) := by decide +kernel
theorem d_M_inverse_120 : decode b_M_inverse 120 = .ok (.invokestatic 338, 3) := by decide +kernel
theorem d_M_inverse_123 : decode b_M_inverse 123 = .ok (.istore 4, 2) := by decide +kernel
theorem d_M_inverse_125 : decode b_M_inverse 125 = .ok (.aload_n 0, 1) := by decide +kernel
theorem d_M_inverse_126 : decode b_M_inverse 126 = .ok (.getfield 214, 3) := by decide +kernel
theorem d_M_inverse_129 : decode b_M_inverse 129 = .ok (.iload 4, 2) := by decide +kernel
theorem d_M_inverse_131 : decode b_M_inverse 131 = .ok (.invokestatic 381, 3) := by decide +kernel
theorem d_M_inverse_134 : decode b_M_inverse 134 = .ok (.goto (-57), 3) := by decide +kernel
theorem d_M_inverse_137 : decode b_M_inverse 137 = .ok (.aload_n 0, 1) := by decide +kernel
theorem d_M_inverse_138 : decode b_M_inverse 138 = .ok (.getfield 163, 3) := by decide +kernel
theorem d_M_inverse_141 : decode b_M_inverse 141 = .ok (.iconst 0, 1) := by decide +kernel
theorem d_M_inverse_142 : decode b_M_inverse 142 = .ok (.iaload, 1) := by decide +kernel
theorem d_M_inverse_143 : decode b_M_inverse 143 = .ok (.iconst 1, 1) := by decide +kernel
theorem d_M_inverse_144 : decode b_M_inverse 144 = .ok (.iand, 1) := by decide +kernel
theorem d_M_inverse_145 : decode b_M_inverse 145 = .ok (.ifCond .ne 52, 3) := by decide +kernel
theorem d_M_inverse_148 : decode b_M_inverse 148 = .ok (.aload_n 0, 1) := by decide +kernel
theorem d_M_inverse_149 : decode b_M_inverse 149 = .ok (.getfield 163, 3) := by decide +kernel
theorem d_M_inverse_152 : decode b_M_inverse 152 = .ok (.iconst 0, 1) := by decide +kernel
theorem d_M_inverse_153 : decode b_M_inverse 153 = .ok (.invokestatic 381, 3) := by decide +kernel
theorem d_M_inverse_156 : decode b_M_inverse 156 = .ok (.aload_n 0, 1) := by decide +kernel
theorem d_M_inverse_157 : decode b_M_inverse 157 = .ok (.getfield 217, 3) := by decide +kernel
theorem d_M_inverse_160 : decode b_M_inverse 160 = .ok (.iconst 0, 1) := by decide +kernel
theorem d_M_inverse_161 : decode b_M_inverse 161 = .ok (.iaload, 1) := by decide +kernel
theorem d_M_inverse_162 : decode b_M_inverse 162 = .ok (.iconst 1, 1) := by decide +kernel
theorem d_M_inverse_163 : decode b_M_inverse 163 = .ok (.iand, 1) := by decide +kernel
theorem d_M_inverse_164 : decode b_M_inverse 164 = .ok (.ifCond .ne 7, 3) := by decide +kernel
theorem d_M_inverse_167 : decode b_M_inverse 167 = .ok (.iconst 0, 1) := by decide +kernel
theorem d_M_inverse_168 : decode b_M_inverse 168 = .ok (.goto 15, 3) := by decide +kernel
theorem d_M_inverse_171 : decode b_M_inverse 171 = .ok (.aload_n 0, 1) := by decide +kernel
theorem d_M_inverse_172 : decode b_M_inverse 172 = .ok (.getfield 217, 3) := by decide +kernel
theorem d_M_inverse_175 : decode b_M_inverse 175 = .ok (.aload_n 0, 1) := by decide +kernel
theorem d_M_inverse_176 : decode b_M_inverse 176 = .ok (.getfield 217, 3) := by decide +kernel
theorem d_M_inverse_179 : decode b_M_inverse 179 = .ok (.aload_n 3, 1) := by decide +kernel
theorem d_M_inverse_180 : decode b_M_inverse 180 = .ok (.invokestatic 338, 3) := by decide +kernel
theorem d_M_inverse_183 : decode b_M_inverse 183 = .ok (.istore 4, 2) := by decide +kernel
theorem d_M_inverse_185 : decode b_M_inverse 185 = .ok (.aload_n 0, 1) := by decide +kernel
theorem d_M_inverse_186 : decode b_M_inverse 186 = .ok (.getfield 217, 3) := by decide +kernel
theorem d_M_inverse_189 : decode b_M_inverse 189 = .ok (.iload 4, 2) := by decide +kernel
theorem d_M_inverse_191 : decode b_M_inverse 191 = .ok (.invokestatic 381, 3) := by decide +kernel
theorem d_M_inverse_194 : decode b_M_inverse 194 = .ok (.goto (-57), 3) := by decide +kernel
theorem d_M_inverse_197 : decode b_M_inverse 197 = .ok (.aload_n 0, 1) := by decide +kernel
theorem d_M_inverse_198 : decode b_M_inverse 198 = .ok (.getfield 160, 3) := by decide +kernel
theorem d_M_inverse_201 : decode b_M_inverse 201 = .ok (.aload_n 0, 1) := by decide +kernel
theorem d_M_inverse_202 : decode b_M_inverse 202 = .ok (.getfield 163, 3) := by decide +kernel
theorem d_M_inverse_205 : decode b_M_inverse 205 = .ok (.invokestatic 346, 3) := by decide +kernel
theorem d_M_inverse_208 : decode b_M_inverse 208 = .ok (.ifCond .lt 53, 3) := by decide +kernel
theorem d_M_inverse_211 : decode b_M_inverse 211 = .ok (.aload_n 0, 1) := by decide +kernel
theorem d_M_inverse_212 : decode b_M_inverse 212 = .ok (.getfield 160, 3) := by decide +kernel
theorem d_M_inverse_215 : decode b_M_inverse 215 = .ok (.aload_n 0, 1) := by decide +kernel
theorem d_M_inverse_216 : decode b_M_inverse 216 = .ok (.getfield 160, 3) := by decide +kernel
theorem d_M_inverse_219 : decode b_M_inverse 219 = .ok (.aload_n 0, 1) := by decide +kernel
theorem d_M_inverse_220 : decode b_M_inverse 220 = .ok (.getfield 163, 3) := by decide +kernel
theorem d_M_inverse_223 : decode b_M_inverse 223 = .ok (.invokestatic 350, 3) := by decide +kernel
theorem d_M_inverse_226 : decode b_M_inverse 226 = .ok (.pop, 1) := by decide +kernel
theorem d_M_inverse_227 : decode b_M_inverse 227 = .ok (.aload_n 0, 1) := by decide +kernel
theorem d_M_inverse_228 : decode b_M_inverse 228 = .ok (.getfield 214, 3) := by decide +kernel
theorem d_M_inverse_231 : decode b_M_inverse 231 = .ok (.aload_n 0, 1) := by decide +kernel
theorem d_M_inverse_232 : decode b_M_inverse 232 = .ok (.getfield 214, 3) := by decide +kernel
theorem d_M_inverse_235 : decode b_M_inverse 235 = .ok (.aload_n 0, 1) := by decide +kernel
theorem d_M_inverse_236 : decode b_M_inverse 236 = .ok (.getfield 217, 3) := by decide +kernel
theorem d_M_inverse_239 : decode b_M_inverse 239 = .ok (.invokestatic 350, 3) := by decide +kernel
theorem d_M_inverse_242 : decode b_M_inverse 242 = .ok (.ifCond .eq (-185), 3) := by decide +kernel
theorem d_M_inverse_245 : decode b_M_inverse 245 = .ok (.aload_n 0, 1) := by decide +kernel
theorem d_M_inverse_246 : decode b_M_inverse 246 = .ok (.getfield 214, 3) := by decide +kernel
theorem d_M_inverse_249 : decode b_M_inverse 249 = .ok (.aload_n 0, 1) := by decide +kernel
theorem d_M_inverse_250 : decode b_M_inverse 250 = .ok (.getfield 214, 3) := by decide +kernel
theorem d_M_inverse_253 : decode b_M_inverse 253 = .ok (.aload_n 3, 1) := by decide +kernel
theorem d_M_inverse_254 : decode b_M_inverse 254 = .ok (.invokestatic 338, 3) := by decide +kernel
theorem d_M_inverse_257 : decode b_M_inverse 257 = .ok (.pop, 1) := by decide +kernel
theorem d_M_inverse_258 : decode b_M_inverse 258 = .ok (.goto (-201), 3) := by decide +kernel
theorem d_M_inverse_261 : decode b_M_inverse 261 = .ok (.aload_n 0, 1) := by decide +kernel
theorem d_M_inverse_262 : decode b_M_inverse 262 = .ok (.getfield 163, 3) := by decide +kernel
theorem d_M_inverse_265 : decode b_M_inverse 265 = .ok (.aload_n 0, 1) := by decide +kernel
theorem d_M_inverse_266 : decode b_M_inverse 266 = .ok (.getfield 163, 3) := by decide +kernel
theorem d_M_inverse_269 : decode b_M_inverse 269 = .ok (.aload_n 0, 1) := by decide +kernel
theorem d_M_inverse_270 : decode b_M_inverse 270 = .ok (.getfield 160, 3) := by decide +kernel
theorem d_M_inverse_273 : decode b_M_inverse 273 = .ok (.invokestatic 350, 3) := by decide +kernel
theorem d_M_inverse_276 : decode b_M_inverse 276 = .ok (.pop, 1) := by decide +kernel
theorem d_M_inverse_277 : decode b_M_inverse 277 = .ok (.aload_n 0, 1) := by decide +kernel
theorem d_M_inverse_278 : decode b_M_inverse 278 = .ok (.getfield 217, 3) := by decide +kernel
theorem d_M_inverse_281 : decode b_M_inverse 281 = .ok (.aload_n 0, 1) := by decide +kernel
theorem d_M_inverse_282 : decode b_M_inverse 282 = .ok (.getfield 217, 3) := by decide +kernel
theorem d_M_inverse_285 : decode b_M_inverse 285 = .ok (.aload_n 0, 1) := by decide +kernel
theorem d_M_inverse_286 : decode b_M_inverse 286 = .ok (.getfield 214, 3) := by decide +kernel
theorem d_M_inverse_289 : decode b_M_inverse 289 = .ok (.invokestatic 350, 3) := by decide +kernel
theorem d_M_inverse_292 : decode b_M_inverse 292 = .ok (.ifCond .eq (-235), 3) := by decide +kernel
theorem d_M_inverse_295 : decode b_M_inverse 295 = .ok (.aload_n 0, 1) := by decide +kernel
theorem d_M_inverse_296 : decode b_M_inverse 296 = .ok (.getfield 217, 3) := by decide +kernel
theorem d_M_inverse_299 : decode b_M_inverse 299 = .ok (.aload_n 0, 1) := by decide +kernel
theorem d_M_inverse_300 : decode b_M_inverse 300 = .ok (.getfield 217, 3) := by decide +kernel
theorem d_M_inverse_303 : decode b_M_inverse 303 = .ok (.aload_n 3, 1) := by decide +kernel
theorem d_M_inverse_304 : decode b_M_inverse 304 = .ok (.invokestatic 338, 3) := by decide +kernel
theorem d_M_inverse_307 : decode b_M_inverse 307 = .ok (.pop, 1) := by decide +kernel
theorem d_M_inverse_308 : decode b_M_inverse 308 = .ok (.goto (-251), 3) := by decide +kernel
theorem d_M_inverse_311 : decode b_M_inverse 311 = .ok (.aload_n 1, 1) := by decide +kernel
theorem d_M_inverse_312 : decode b_M_inverse 312 = .ok (.aload_n 0, 1) := by decide +kernel
theorem d_M_inverse_313 : decode b_M_inverse 313 = .ok (.getfield 160, 3) := by decide +kernel
theorem d_M_inverse_316 : decode b_M_inverse 316 = .ok (.invokestatic 378, 3) := by decide +kernel
theorem d_M_inverse_319 : decode b_M_inverse 319 = .ok (.ifCond .eq 10, 3) := by decide +kernel
theorem d_M_inverse_322 : decode b_M_inverse 322 = .ok (.aload_n 0, 1) := by decide +kernel
theorem d_M_inverse_323 : decode b_M_inverse 323 = .ok (.getfield 214, 3) := by decide +kernel
theorem d_M_inverse_326 : decode b_M_inverse 326 = .ok (.goto 7, 3) := by decide +kernel
theorem d_M_inverse_329 : decode b_M_inverse 329 = .ok (.aload_n 0, 1) := by decide +kernel
theorem d_M_inverse_330 : decode b_M_inverse 330 = .ok (.getfield 217, 3) := by decide +kernel
theorem d_M_inverse_333 : decode b_M_inverse 333 = .ok (.invokestatic 334, 3) := by decide +kernel
theorem d_M_inverse_336 : decode b_M_inverse 336 = .ok (.return_, 1) := by decide +kernel
abbrev rm_M_inverse_s3x23 : Room := { frames := 3, cells := 0, slots := 0, locals := 64 }
abbrev q_M_inverse_s3x23 (D : va_G) (cy : Nat → ClassId) (A : Nat → Prop) (o : Nat) (q : Nat → Nat) (b1 : Nat) (b2 : Nat) (z : Nat → Int32) (h2 : Nat → Int32) (res : (Nat → Int32) × (Nat → Int32) × (Nat → Int32) × (Nat → Int32) × (Nat → Int32)) : Array Value → State → Outcome → State → Prop := va_Qv (fun (_ : Unit) => True) (fun _ t => Po D cy A [(o, .inr (12, mo q z)), ((q 48), .inl (cy 1, 8, .inl res.1)), ((q 49), .inl (cy 1, 8, .inl res.2.1)), ((q 66), .inl (cy 1, 8, .inl res.2.2.1)), ((q 67), .inl (cy 1, 8, .inl res.2.2.2.1)), (b1, .inl (cy 1, 8, .inl res.2.2.2.2)), (b2, .inl (cy 1, 8, .inl h2))] t) A
def I_M_inverse_s3x23_311 (p : Program) (l : Launch) (e : Env) (s : State) (m : MethodId) (args : Array Value) (below : List Frame) (meth : Method) (c : Code) (D : va_G) (cy : Nat → ClassId) (A : Nat → Prop) (ad : Nat → Nat) (o : Nat) (q : Nat → Nat) (b1 : Nat) (b2 : Nat) (z : Nat → Int32) (h2 : Nat → Int32) (k : (Nat → Int32) → (Nat → Int32) → (Nat → Int32) → (Nat → Int32) → (Nat → Int32) → Option ((Nat → Int32) × (Nat → Int32) × (Nat → Int32) × (Nat → Int32) × (Nat → Int32))) : Prop :=
  ∀ (u0 : Nat → Int32) (u1 : Nat → Int32) (u2 : Nat → Int32) (u3 : Nat → Int32) (u4 : Nat → Int32) (res : (Nat → Int32) × (Nat → Int32) × (Nat → Int32) × (Nat → Int32) × (Nat → Int32)), k u0 u1 u2 u3 u4 = some res → ∀ (H : Heap) (locs : List Loc) (ls : Array Slot), va_P D classes [(o, .inr (12, mo q z)), ((q 48), .inl (cy 1, 8, .inl u0)), ((q 49), .inl (cy 1, 8, .inl u1)), ((q 66), .inl (cy 1, 8, .inl u2)), ((q 67), .inl (cy 1, 8, .inl u3)), (b1, .inl (cy 1, 8, .inl u4)), (b2, .inl (cy 1, 8, .inl h2))] H → va_D A [(o, .inr (12, mo q z)), ((q 48), .inl (cy 1, 8, .inl u0)), ((q 49), .inl (cy 1, 8, .inl u1)), ((q 66), .inl (cy 1, 8, .inl u2)), ((q 67), .inl (cy 1, 8, .inl u3)), (b1, .inl (cy 1, 8, .inl u4)), (b2, .inl (cy 1, 8, .inl h2))] → va_S A s.heap H locs → lv_has ls 5 [(0, .ref o), (1, .ref b1)] → W p l e rm_M_inverse_s3x23 s m args below meth c H locs 0 0 (MQ below (q_M_inverse_s3x23 D cy A o q b1 b2 z h2 res) args s 0 0 A) (F0 m 311 ls [])
def I_M_inverse_s3x23_183 (p : Program) (l : Launch) (e : Env) (s : State) (m : MethodId) (args : Array Value) (below : List Frame) (meth : Method) (c : Code) (D : va_G) (cy : Nat → ClassId) (A : Nat → Prop) (ad : Nat → Nat) (o : Nat) (q : Nat → Nat) (b1 : Nat) (b2 : Nat) (z : Nat → Int32) (h2 : Nat → Int32) (k : Int32 → (Nat → Int32) → (Nat → Int32) → (Nat → Int32) → (Nat → Int32) → (Nat → Int32) → Option ((Nat → Int32) × (Nat → Int32) × (Nat → Int32) × (Nat → Int32) × (Nat → Int32))) : Prop :=
  ∀ (y0 : Int32) (u0 : Nat → Int32) (u1 : Nat → Int32) (u2 : Nat → Int32) (u3 : Nat → Int32) (u4 : Nat → Int32) (res : (Nat → Int32) × (Nat → Int32) × (Nat → Int32) × (Nat → Int32) × (Nat → Int32)), k y0 u0 u1 u2 u3 u4 = some res → ∀ (H : Heap) (locs : List Loc) (ls : Array Slot), va_P D classes [(o, .inr (12, mo q z)), ((q 48), .inl (cy 1, 8, .inl u0)), ((q 49), .inl (cy 1, 8, .inl u1)), ((q 66), .inl (cy 1, 8, .inl u2)), ((q 67), .inl (cy 1, 8, .inl u3)), (b1, .inl (cy 1, 8, .inl u4)), (b2, .inl (cy 1, 8, .inl h2))] H → va_D A [(o, .inr (12, mo q z)), ((q 48), .inl (cy 1, 8, .inl u0)), ((q 49), .inl (cy 1, 8, .inl u1)), ((q 66), .inl (cy 1, 8, .inl u2)), ((q 67), .inl (cy 1, 8, .inl u3)), (b1, .inl (cy 1, 8, .inl u4)), (b2, .inl (cy 1, 8, .inl h2))] → va_S A s.heap H locs → lv_has ls 5 [(0, .ref o), (1, .ref b1), (3, .ref (ad 23))] → W p l e rm_M_inverse_s3x23 s m args below meth c H locs 0 0 (MQ below (q_M_inverse_s3x23 D cy A o q b1 b2 z h2 res) args s 0 0 A) (F0 m 183 ls [.int y0])
def I_M_inverse_s3x23_137 (p : Program) (l : Launch) (e : Env) (s : State) (m : MethodId) (args : Array Value) (below : List Frame) (meth : Method) (c : Code) (D : va_G) (cy : Nat → ClassId) (A : Nat → Prop) (ad : Nat → Nat) (o : Nat) (q : Nat → Nat) (b1 : Nat) (b2 : Nat) (z : Nat → Int32) (h2 : Nat → Int32) (k : (Nat → Int32) → (Nat → Int32) → (Nat → Int32) → (Nat → Int32) → (Nat → Int32) → Option ((Nat → Int32) × (Nat → Int32) × (Nat → Int32) × (Nat → Int32) × (Nat → Int32))) : Prop :=
  ∀ (u0 : Nat → Int32) (u1 : Nat → Int32) (u2 : Nat → Int32) (u3 : Nat → Int32) (u4 : Nat → Int32) (res : (Nat → Int32) × (Nat → Int32) × (Nat → Int32) × (Nat → Int32) × (Nat → Int32)), k u0 u1 u2 u3 u4 = some res → ∀ (H : Heap) (locs : List Loc) (ls : Array Slot), va_P D classes [(o, .inr (12, mo q z)), ((q 48), .inl (cy 1, 8, .inl u0)), ((q 49), .inl (cy 1, 8, .inl u1)), ((q 66), .inl (cy 1, 8, .inl u2)), ((q 67), .inl (cy 1, 8, .inl u3)), (b1, .inl (cy 1, 8, .inl u4)), (b2, .inl (cy 1, 8, .inl h2))] H → va_D A [(o, .inr (12, mo q z)), ((q 48), .inl (cy 1, 8, .inl u0)), ((q 49), .inl (cy 1, 8, .inl u1)), ((q 66), .inl (cy 1, 8, .inl u2)), ((q 67), .inl (cy 1, 8, .inl u3)), (b1, .inl (cy 1, 8, .inl u4)), (b2, .inl (cy 1, 8, .inl h2))] → va_S A s.heap H locs → lv_has ls 5 [(0, .ref o), (1, .ref b1), (3, .ref (ad 23))] → W p l e rm_M_inverse_s3x23 s m args below meth c H locs 0 0 (MQ below (q_M_inverse_s3x23 D cy A o q b1 b2 z h2 res) args s 0 0 A) (F0 m 137 ls [])
def I_M_inverse_s3x23_123 (p : Program) (l : Launch) (e : Env) (s : State) (m : MethodId) (args : Array Value) (below : List Frame) (meth : Method) (c : Code) (D : va_G) (cy : Nat → ClassId) (A : Nat → Prop) (ad : Nat → Nat) (o : Nat) (q : Nat → Nat) (b1 : Nat) (b2 : Nat) (z : Nat → Int32) (h2 : Nat → Int32) (k : Int32 → (Nat → Int32) → (Nat → Int32) → (Nat → Int32) → (Nat → Int32) → (Nat → Int32) → Option ((Nat → Int32) × (Nat → Int32) × (Nat → Int32) × (Nat → Int32) × (Nat → Int32))) : Prop :=
  ∀ (y0 : Int32) (u0 : Nat → Int32) (u1 : Nat → Int32) (u2 : Nat → Int32) (u3 : Nat → Int32) (u4 : Nat → Int32) (res : (Nat → Int32) × (Nat → Int32) × (Nat → Int32) × (Nat → Int32) × (Nat → Int32)), k y0 u0 u1 u2 u3 u4 = some res → ∀ (H : Heap) (locs : List Loc) (ls : Array Slot), va_P D classes [(o, .inr (12, mo q z)), ((q 48), .inl (cy 1, 8, .inl u0)), ((q 49), .inl (cy 1, 8, .inl u1)), ((q 66), .inl (cy 1, 8, .inl u2)), ((q 67), .inl (cy 1, 8, .inl u3)), (b1, .inl (cy 1, 8, .inl u4)), (b2, .inl (cy 1, 8, .inl h2))] H → va_D A [(o, .inr (12, mo q z)), ((q 48), .inl (cy 1, 8, .inl u0)), ((q 49), .inl (cy 1, 8, .inl u1)), ((q 66), .inl (cy 1, 8, .inl u2)), ((q 67), .inl (cy 1, 8, .inl u3)), (b1, .inl (cy 1, 8, .inl u4)), (b2, .inl (cy 1, 8, .inl h2))] → va_S A s.heap H locs → lv_has ls 5 [(0, .ref o), (1, .ref b1), (3, .ref (ad 23))] → W p l e rm_M_inverse_s3x23 s m args below meth c H locs 0 0 (MQ below (q_M_inverse_s3x23 D cy A o q b1 b2 z h2 res) args s 0 0 A) (F0 m 123 ls [.int y0])
def I_M_inverse_s3x23_77 (p : Program) (l : Launch) (e : Env) (s : State) (m : MethodId) (args : Array Value) (below : List Frame) (meth : Method) (c : Code) (D : va_G) (cy : Nat → ClassId) (A : Nat → Prop) (ad : Nat → Nat) (o : Nat) (q : Nat → Nat) (b1 : Nat) (b2 : Nat) (z : Nat → Int32) (h2 : Nat → Int32) (k : (Nat → Int32) → (Nat → Int32) → (Nat → Int32) → (Nat → Int32) → (Nat → Int32) → Option ((Nat → Int32) × (Nat → Int32) × (Nat → Int32) × (Nat → Int32) × (Nat → Int32))) : Prop :=
  ∀ (u0 : Nat → Int32) (u1 : Nat → Int32) (u2 : Nat → Int32) (u3 : Nat → Int32) (u4 : Nat → Int32) (res : (Nat → Int32) × (Nat → Int32) × (Nat → Int32) × (Nat → Int32) × (Nat → Int32)), k u0 u1 u2 u3 u4 = some res → ∀ (H : Heap) (locs : List Loc) (ls : Array Slot), va_P D classes [(o, .inr (12, mo q z)), ((q 48), .inl (cy 1, 8, .inl u0)), ((q 49), .inl (cy 1, 8, .inl u1)), ((q 66), .inl (cy 1, 8, .inl u2)), ((q 67), .inl (cy 1, 8, .inl u3)), (b1, .inl (cy 1, 8, .inl u4)), (b2, .inl (cy 1, 8, .inl h2))] H → va_D A [(o, .inr (12, mo q z)), ((q 48), .inl (cy 1, 8, .inl u0)), ((q 49), .inl (cy 1, 8, .inl u1)), ((q 66), .inl (cy 1, 8, .inl u2)), ((q 67), .inl (cy 1, 8, .inl u3)), (b1, .inl (cy 1, 8, .inl u4)), (b2, .inl (cy 1, 8, .inl h2))] → va_S A s.heap H locs → lv_has ls 5 [(0, .ref o), (1, .ref b1), (3, .ref (ad 23))] → W p l e rm_M_inverse_s3x23 s m args below meth c H locs 0 0 (MQ below (q_M_inverse_s3x23 D cy A o q b1 b2 z h2 res) args s 0 0 A) (F0 m 77 ls [])
def I_M_inverse_s3x23_57 (p : Program) (l : Launch) (e : Env) (s : State) (m : MethodId) (args : Array Value) (below : List Frame) (meth : Method) (c : Code) (D : va_G) (cy : Nat → ClassId) (A : Nat → Prop) (ad : Nat → Nat) (o : Nat) (q : Nat → Nat) (b1 : Nat) (b2 : Nat) (z : Nat → Int32) (h2 : Nat → Int32) (k : (Nat → Int32) → (Nat → Int32) → (Nat → Int32) → (Nat → Int32) → (Nat → Int32) → Option ((Nat → Int32) × (Nat → Int32) × (Nat → Int32) × (Nat → Int32) × (Nat → Int32))) : Prop :=
  ∀ (u0 : Nat → Int32) (u1 : Nat → Int32) (u2 : Nat → Int32) (u3 : Nat → Int32) (u4 : Nat → Int32) (res : (Nat → Int32) × (Nat → Int32) × (Nat → Int32) × (Nat → Int32) × (Nat → Int32)), k u0 u1 u2 u3 u4 = some res → ∀ (H : Heap) (locs : List Loc) (ls : Array Slot), va_P D classes [(o, .inr (12, mo q z)), ((q 48), .inl (cy 1, 8, .inl u0)), ((q 49), .inl (cy 1, 8, .inl u1)), ((q 66), .inl (cy 1, 8, .inl u2)), ((q 67), .inl (cy 1, 8, .inl u3)), (b1, .inl (cy 1, 8, .inl u4)), (b2, .inl (cy 1, 8, .inl h2))] H → va_D A [(o, .inr (12, mo q z)), ((q 48), .inl (cy 1, 8, .inl u0)), ((q 49), .inl (cy 1, 8, .inl u1)), ((q 66), .inl (cy 1, 8, .inl u2)), ((q 67), .inl (cy 1, 8, .inl u3)), (b1, .inl (cy 1, 8, .inl u4)), (b2, .inl (cy 1, 8, .inl h2))] → va_S A s.heap H locs → lv_has ls 5 [(0, .ref o), (1, .ref b1), (3, .ref (ad 23))] → W p l e rm_M_inverse_s3x23 s m args below meth c H locs 0 0 (MQ below (q_M_inverse_s3x23 D cy A o q b1 b2 z h2 res) args s 0 0 A) (F0 m 57 ls [])
def I_M_inverse_s3x23_42 (p : Program) (l : Launch) (e : Env) (s : State) (m : MethodId) (args : Array Value) (below : List Frame) (meth : Method) (c : Code) (D : va_G) (cy : Nat → ClassId) (A : Nat → Prop) (ad : Nat → Nat) (o : Nat) (q : Nat → Nat) (b1 : Nat) (b2 : Nat) (z : Nat → Int32) (h2 : Nat → Int32) (k : Int32 → Int32 → Int32 → (Nat → Int32) → (Nat → Int32) → (Nat → Int32) → (Nat → Int32) → (Nat → Int32) → Option ((Nat → Int32) × (Nat → Int32) × (Nat → Int32) × (Nat → Int32) × (Nat → Int32))) : Prop :=
  ∀ (x4 : Int32) (y0 : Int32) (y1 : Int32) (u0 : Nat → Int32) (u1 : Nat → Int32) (u2 : Nat → Int32) (u3 : Nat → Int32) (u4 : Nat → Int32) (res : (Nat → Int32) × (Nat → Int32) × (Nat → Int32) × (Nat → Int32) × (Nat → Int32)), k x4 y0 y1 u0 u1 u2 u3 u4 = some res → ∀ (H : Heap) (locs : List Loc) (ls : Array Slot), va_P D classes [(o, .inr (12, mo q z)), ((q 48), .inl (cy 1, 8, .inl u0)), ((q 49), .inl (cy 1, 8, .inl u1)), ((q 66), .inl (cy 1, 8, .inl u2)), ((q 67), .inl (cy 1, 8, .inl u3)), (b1, .inl (cy 1, 8, .inl u4)), (b2, .inl (cy 1, 8, .inl h2))] H → va_D A [(o, .inr (12, mo q z)), ((q 48), .inl (cy 1, 8, .inl u0)), ((q 49), .inl (cy 1, 8, .inl u1)), ((q 66), .inl (cy 1, 8, .inl u2)), ((q 67), .inl (cy 1, 8, .inl u3)), (b1, .inl (cy 1, 8, .inl u4)), (b2, .inl (cy 1, 8, .inl h2))] → va_S A s.heap H locs → lv_has ls 5 [(0, .ref o), (1, .ref b1), (3, .ref (ad 23)), (4, .int x4)] → W p l e rm_M_inverse_s3x23 s m args below meth c H locs 0 0 (MQ below (q_M_inverse_s3x23 D cy A o q b1 b2 z h2 res) args s 0 0 A) (F0 m 42 ls [.int y0, .int y1, .ref (q 66)])
def I_M_inverse_s3x23_19 (p : Program) (l : Launch) (e : Env) (s : State) (m : MethodId) (args : Array Value) (below : List Frame) (meth : Method) (c : Code) (D : va_G) (cy : Nat → ClassId) (A : Nat → Prop) (ad : Nat → Nat) (o : Nat) (q : Nat → Nat) (b1 : Nat) (b2 : Nat) (z : Nat → Int32) (h2 : Nat → Int32) (k : Int32 → (Nat → Int32) → (Nat → Int32) → (Nat → Int32) → (Nat → Int32) → (Nat → Int32) → Option ((Nat → Int32) × (Nat → Int32) × (Nat → Int32) × (Nat → Int32) × (Nat → Int32))) : Prop :=
  ∀ (x4 : Int32) (u0 : Nat → Int32) (u1 : Nat → Int32) (u2 : Nat → Int32) (u3 : Nat → Int32) (u4 : Nat → Int32) (res : (Nat → Int32) × (Nat → Int32) × (Nat → Int32) × (Nat → Int32) × (Nat → Int32)), k x4 u0 u1 u2 u3 u4 = some res → ∀ (H : Heap) (locs : List Loc) (ls : Array Slot), va_P D classes [(o, .inr (12, mo q z)), ((q 48), .inl (cy 1, 8, .inl u0)), ((q 49), .inl (cy 1, 8, .inl u1)), ((q 66), .inl (cy 1, 8, .inl u2)), ((q 67), .inl (cy 1, 8, .inl u3)), (b1, .inl (cy 1, 8, .inl u4)), (b2, .inl (cy 1, 8, .inl h2))] H → va_D A [(o, .inr (12, mo q z)), ((q 48), .inl (cy 1, 8, .inl u0)), ((q 49), .inl (cy 1, 8, .inl u1)), ((q 66), .inl (cy 1, 8, .inl u2)), ((q 67), .inl (cy 1, 8, .inl u3)), (b1, .inl (cy 1, 8, .inl u4)), (b2, .inl (cy 1, 8, .inl h2))] → va_S A s.heap H locs → lv_has ls 5 [(0, .ref o), (1, .ref b1), (3, .ref (ad 23)), (4, .int x4)] → W p l e rm_M_inverse_s3x23 s m args below meth c H locs 0 0 (MQ below (q_M_inverse_s3x23 D cy A o q b1 b2 z h2 res) args s 0 0 A) (F0 m 19 ls [])
def I_M_inverse_s3x23_e (p : Program) (l : Launch) (e : Env) (s : State) (m : MethodId) (args : Array Value) (below : List Frame) (meth : Method) (c : Code) (D : va_G) (cy : Nat → ClassId) (A : Nat → Prop) (ad : Nat → Nat) (o : Nat) (q : Nat → Nat) (b1 : Nat) (b2 : Nat) (z : Nat → Int32) (h2 : Nat → Int32) (k : (Nat → Int32) → (Nat → Int32) → (Nat → Int32) → (Nat → Int32) → (Nat → Int32) → Option ((Nat → Int32) × (Nat → Int32) × (Nat → Int32) × (Nat → Int32) × (Nat → Int32))) : Prop :=
  ∀ (u0 : Nat → Int32) (u1 : Nat → Int32) (u2 : Nat → Int32) (u3 : Nat → Int32) (u4 : Nat → Int32) (res : (Nat → Int32) × (Nat → Int32) × (Nat → Int32) × (Nat → Int32) × (Nat → Int32)), k u0 u1 u2 u3 u4 = some res → ∀ (H : Heap) (locs : List Loc) (ls : Array Slot), va_P D classes [(o, .inr (12, mo q z)), ((q 48), .inl (cy 1, 8, .inl u0)), ((q 49), .inl (cy 1, 8, .inl u1)), ((q 66), .inl (cy 1, 8, .inl u2)), ((q 67), .inl (cy 1, 8, .inl u3)), (b1, .inl (cy 1, 8, .inl u4)), (b2, .inl (cy 1, 8, .inl h2))] H → va_D A [(o, .inr (12, mo q z)), ((q 48), .inl (cy 1, 8, .inl u0)), ((q 49), .inl (cy 1, 8, .inl u1)), ((q 66), .inl (cy 1, 8, .inl u2)), ((q 67), .inl (cy 1, 8, .inl u3)), (b1, .inl (cy 1, 8, .inl u4)), (b2, .inl (cy 1, 8, .inl h2))] → va_S A s.heap H locs → lv_has ls 5 [(0, .ref o), (1, .ref b1), (2, .ref b2), (3, .ref (ad 23))] → W p l e rm_M_inverse_s3x23 s m args below meth c H locs 0 0 (MQ below (q_M_inverse_s3x23 D cy A o q b1 b2 z h2 res) args s 0 0 A) (F0 m 0 ls [])
theorem hdm_28 : ({ cls := "CoinKeeperModel", name := "isOne", desc := "([I)Z" } : Jvm.MethodName).cls ≠ "java/lang/invoke/MethodHandle" ∧ ({ cls := "CoinKeeperModel", name := "isOne", desc := "([I)Z" } : Jvm.MethodName).cls ≠ "java/lang/invoke/VarHandle" ∧ (parseMethodDescriptor ({ cls := "CoinKeeperModel", name := "isOne", desc := "([I)Z" } : Jvm.MethodName).desc).map (fun d => d.parameters.length) = some 1 := by decide +kernel
set_option maxHeartbeats 8000000 in
set_option maxRecDepth 100000 in
theorem wb_M_inverse_s3x23_311 {p : Program} {l : Launch} {e : Env} {s : State} {m : MethodId} {args : Array Value} {below : List Frame} {meth : Method} {c : Code} {D : va_G} {cy : Nat → ClassId} {A : Nat → Prop} {ad : Nat → Nat} {o : Nat} {q : Nat → Nat} {b1 : Nat} {b2 : Nat} {z : Nat → Int32} {h2 : Nat → Int32} {fu : Nat} (F : Fx p s m args meth c b_M_inverse 5 "CoinKeeperModel" "inverse" none D cy ad A) : I_M_inverse_s3x23_311 p l e s m args below meth c D cy A ad o q b1 b2 z h2 (xb_M_inverse_s3x23_311 fu z h2) := by
  obtain ⟨hx, hb, hr, hml, hown, hts, hlocks, hK, hA, hSt, hnm, hex⟩ := id F
  intro u0 u1 u2 u3 u4 res hf H locs ls hP hD hS hl
  unfold xb_M_inverse_s3x23_311 at hf
  refine lv_aload_n hx hb d_M_inverse_311 rfl (lv_at hl 1 rfl) ?_
  refine lv_aload_n hx hb d_M_inverse_312 rfl (lv_at hl 0 rfl) ?_
  refine va_get (D := D) (ci := 12) (v := .ref (q 48)) (C := "CoinKeeperModel") (T := F_12) (N := 98) hx hb hts i_12 hown hK hP 0 rfl rfl 56 (by decide) (hts _ gw_1475) (fun _ h9 => h9) rfl d_M_inverse_313 ?_
  obtain ⟨v1, hc, hf⟩ := bdp1 hf
  refine q_ai (wr := [(o, .inr (12, mo q z)), ((q 49), .inl (cy 1, 8, .inl u1)), ((q 66), .inl (cy 1, 8, .inl u2)), ((q 67), .inl (cy 1, 8, .inl u3)), (b1, .inl (cy 1, 8, .inl u4)), (b2, .inl (cy 1, 8, .inl h2))]) (va_runS (As := [.ref (q 48)]) (rest := [.ref b1]) ⟨hx, hb, hml, hown, hts⟩ (c_M_isOne l D cy ad fu (q 48) u0 _ hc H.size) ⟨q_cB hts gw_2011 gw_18 gw_2009 hdm_28 ⟨by decide, by decide⟩, hts _ gw_2010⟩ (q_pre (hP.sub [1] rfl) (hD.sub [1] (by decide) rfl) hK hSt hS (va_free hD hS hA [1] rfl) _) rfl rfl hl.1 rfl (lv_room (Nat.le_of_ble_eq_true rfl)) d_M_inverse_316 ⟨Nat.le_of_ble_eq_true rfl, Nat.le_of_ble_eq_true rfl⟩) hP hD hS hA [1] [0, 2, 3, 4, 5, 6] rfl rfl (by decide) (by decide) (fun H locs hP hD hS => ?_)
  clear hc
  have hP : va_P D classes [(o, .inr (12, mo q z)), ((q 49), .inl (cy 1, 8, .inl u1)), ((q 66), .inl (cy 1, 8, .inl u2)), ((q 67), .inl (cy 1, 8, .inl u3)), (b1, .inl (cy 1, 8, .inl u4)), (b2, .inl (cy 1, 8, .inl h2)), ((q 48), .inl (cy 1, 8, .inl u0))] H := hP
  have hD : va_D A [(o, .inr (12, mo q z)), ((q 49), .inl (cy 1, 8, .inl u1)), ((q 66), .inl (cy 1, 8, .inl u2)), ((q 67), .inl (cy 1, 8, .inl u3)), (b1, .inl (cy 1, 8, .inl u4)), (b2, .inl (cy 1, 8, .inl h2)), ((q 48), .inl (cy 1, 8, .inl u0))] := hD
  refine lv_if_eq (tgt := 329) hx hb d_M_inverse_319 (by decide) (fun cx => ?_) (fun cx => ?_)
  · have hf := ifp cx hf
    refine lv_aload_n hx hb d_M_inverse_329 rfl (lv_at hl 0 rfl) ?_
    refine va_get (D := D) (ci := 12) (v := .ref (q 67)) (C := "CoinKeeperModel") (T := F_12) (N := 98) hx hb hts i_12 hown hK hP 0 rfl rfl 76 (by decide) (hts _ gw_1495) (fun _ h9 => h9) rfl d_M_inverse_330 ?_
    obtain ⟨f2, hc, hf⟩ := bdp1 hf
    refine q_av (wr := [(o, .inr (12, mo q z)), ((q 49), .inl (cy 1, 8, .inl u1)), ((q 66), .inl (cy 1, 8, .inl u2)), (b2, .inl (cy 1, 8, .inl h2)), ((q 48), .inl (cy 1, 8, .inl u0))]) (va_runS (As := [.ref b1, .ref (q 67)]) (rest := []) ⟨hx, hb, hml, hown, hts⟩ (c_M_copy l D cy ad fu b1 (q 67) u3 u4 _ hc H.size) ⟨q_cB hts gw_1397 gw_18 gw_1395 hdm_24 ⟨by decide, by decide⟩, hts _ gw_1396⟩ (q_pre (hP.sub [4, 3] rfl) (hD.sub [4, 3] (by decide) rfl) hK hSt hS (va_free hD hS hA [4, 3] rfl) _) rfl rfl hl.1 rfl (lv_room (Nat.le_of_ble_eq_true rfl)) d_M_inverse_333 ⟨Nat.le_of_ble_eq_true rfl, Nat.le_of_ble_eq_true rfl⟩) hP hD hS hA [4, 3] [0, 1, 2, 5, 6] rfl rfl (by decide) (by decide) (fun H locs hP hD hS => ?_)
    clear hc
    have hP : va_P D classes [(o, .inr (12, mo q z)), ((q 49), .inl (cy 1, 8, .inl u1)), ((q 66), .inl (cy 1, 8, .inl u2)), (b2, .inl (cy 1, 8, .inl h2)), ((q 48), .inl (cy 1, 8, .inl u0)), (b1, .inl (cy 1, 8, .inl f2)), ((q 67), .inl (cy 1, 8, .inl u3))] H := hP
    have hD : va_D A [(o, .inr (12, mo q z)), ((q 49), .inl (cy 1, 8, .inl u1)), ((q 66), .inl (cy 1, 8, .inl u2)), (b2, .inl (cy 1, 8, .inl h2)), ((q 48), .inl (cy 1, 8, .inl u0)), (b1, .inl (cy 1, 8, .inl f2)), ((q 67), .inl (cy 1, 8, .inl u3))] := hD
    obtain rfl := Option.some.inj hf
    exact q_rv hx hb hr hlocks hK (hP.sub [0, 4, 1, 2, 6, 5, 3] rfl) (hD.sub [0, 4, 1, 2, 6, 5, 3] (by decide) rfl) hS d_M_inverse_336
  · have hf := ifn cx hf
    refine lv_aload_n hx hb d_M_inverse_322 rfl (lv_at hl 0 rfl) ?_
    refine va_get (D := D) (ci := 12) (v := .ref (q 66)) (C := "CoinKeeperModel") (T := F_12) (N := 98) hx hb hts i_12 hown hK hP 0 rfl rfl 75 (by decide) (hts _ gw_1494) (fun _ h9 => h9) rfl d_M_inverse_323 ?_
    refine lv_goto (tgt := 333) hx hb d_M_inverse_326 (by decide) ?_
    obtain ⟨f3, hc, hf⟩ := bdp1 hf
    refine q_av (wr := [(o, .inr (12, mo q z)), ((q 49), .inl (cy 1, 8, .inl u1)), ((q 67), .inl (cy 1, 8, .inl u3)), (b2, .inl (cy 1, 8, .inl h2)), ((q 48), .inl (cy 1, 8, .inl u0))]) (va_runS (As := [.ref b1, .ref (q 66)]) (rest := []) ⟨hx, hb, hml, hown, hts⟩ (c_M_copy l D cy ad fu b1 (q 66) u2 u4 _ hc H.size) ⟨q_cB hts gw_1397 gw_18 gw_1395 hdm_24 ⟨by decide, by decide⟩, hts _ gw_1396⟩ (q_pre (hP.sub [4, 2] rfl) (hD.sub [4, 2] (by decide) rfl) hK hSt hS (va_free hD hS hA [4, 2] rfl) _) rfl rfl hl.1 rfl (lv_room (Nat.le_of_ble_eq_true rfl)) d_M_inverse_333 ⟨Nat.le_of_ble_eq_true rfl, Nat.le_of_ble_eq_true rfl⟩) hP hD hS hA [4, 2] [0, 1, 3, 5, 6] rfl rfl (by decide) (by decide) (fun H locs hP hD hS => ?_)
    clear hc
    have hP : va_P D classes [(o, .inr (12, mo q z)), ((q 49), .inl (cy 1, 8, .inl u1)), ((q 67), .inl (cy 1, 8, .inl u3)), (b2, .inl (cy 1, 8, .inl h2)), ((q 48), .inl (cy 1, 8, .inl u0)), (b1, .inl (cy 1, 8, .inl f3)), ((q 66), .inl (cy 1, 8, .inl u2))] H := hP
    have hD : va_D A [(o, .inr (12, mo q z)), ((q 49), .inl (cy 1, 8, .inl u1)), ((q 67), .inl (cy 1, 8, .inl u3)), (b2, .inl (cy 1, 8, .inl h2)), ((q 48), .inl (cy 1, 8, .inl u0)), (b1, .inl (cy 1, 8, .inl f3)), ((q 66), .inl (cy 1, 8, .inl u2))] := hD
    obtain rfl := Option.some.inj hf
    exact q_rv hx hb hr hlocks hK (hP.sub [0, 4, 1, 6, 2, 5, 3] rfl) (hD.sub [0, 4, 1, 6, 2, 5, 3] (by decide) rfl) hS d_M_inverse_336
set_option maxHeartbeats 8000000 in
set_option maxRecDepth 100000 in
theorem wb_M_inverse_s3x23_183 {p : Program} {l : Launch} {e : Env} {s : State} {m : MethodId} {args : Array Value} {below : List Frame} {meth : Method} {c : Code} {D : va_G} {cy : Nat → ClassId} {A : Nat → Prop} {ad : Nat → Nat} {o : Nat} {q : Nat → Nat} {b1 : Nat} {b2 : Nat} {z : Nat → Int32} {h2 : Nat → Int32} {fu : Nat} {k_57 : (Nat → Int32) → (Nat → Int32) → (Nat → Int32) → (Nat → Int32) → (Nat → Int32) → Option ((Nat → Int32) × (Nat → Int32) × (Nat → Int32) × (Nat → Int32) × (Nat → Int32))} {k_137 : (Nat → Int32) → (Nat → Int32) → (Nat → Int32) → (Nat → Int32) → (Nat → Int32) → Option ((Nat → Int32) × (Nat → Int32) × (Nat → Int32) × (Nat → Int32) × (Nat → Int32))} (F : Fx p s m args meth c b_M_inverse 5 "CoinKeeperModel" "inverse" none D cy ad A) (hk_57 : I_M_inverse_s3x23_57 p l e s m args below meth c D cy A ad o q b1 b2 z h2 k_57) (hk_137 : I_M_inverse_s3x23_137 p l e s m args below meth c D cy A ad o q b1 b2 z h2 k_137) : I_M_inverse_s3x23_183 p l e s m args below meth c D cy A ad o q b1 b2 z h2 (xb_M_inverse_s3x23_183 fu z h2 k_57 k_137) := by
  obtain ⟨hx, hb, hr, hml, hown, hts, hlocks, hK, hA, hSt, hnm, hex⟩ := id F
  intro y0 u0 u1 u2 u3 u4 res hf H locs ls hP hD hS hl
  unfold xb_M_inverse_s3x23_183 at hf
  refine lv_istore (lv' := [(4, .int y0), (0, .ref o), (1, .ref b1), (3, .ref (ad 23))]) hx hb d_M_inverse_183 hl (by decide) rfl (fun ls hl => ?_)
  refine lv_aload_n hx hb d_M_inverse_185 rfl (lv_at hl 1 rfl) ?_
  refine va_get (D := D) (ci := 12) (v := .ref (q 67)) (C := "CoinKeeperModel") (T := F_12) (N := 98) hx hb hts i_12 hown hK hP 0 rfl rfl 76 (by decide) (hts _ gw_1495) (fun _ h9 => h9) rfl d_M_inverse_186 ?_
  refine lv_iload hx hb d_M_inverse_189 (lv_at hl 0 rfl) ?_
  obtain ⟨f1, hc, hf⟩ := bdp1 hf
  refine q_av (wr := [(o, .inr (12, mo q z)), ((q 48), .inl (cy 1, 8, .inl u0)), ((q 49), .inl (cy 1, 8, .inl u1)), ((q 66), .inl (cy 1, 8, .inl u2)), (b1, .inl (cy 1, 8, .inl u4)), (b2, .inl (cy 1, 8, .inl h2))]) (va_runS (As := [.ref (q 67), .int y0]) (rest := []) ⟨hx, hb, hml, hown, hts⟩ (c_M_half l D cy ad fu (q 67) y0 u3 _ hc H.size) ⟨q_cB hts gw_1990 gw_18 gw_1988 hdm_23 ⟨by decide, by decide⟩, hts _ gw_1989⟩ (q_pre (hP.sub [4] rfl) (hD.sub [4] (by decide) rfl) hK hSt hS (va_free hD hS hA [4] rfl) _) rfl rfl hl.1 rfl (lv_room (Nat.le_of_ble_eq_true rfl)) d_M_inverse_191 ⟨Nat.le_of_ble_eq_true rfl, Nat.le_of_ble_eq_true rfl⟩) hP hD hS hA [4] [0, 1, 2, 3, 5, 6] rfl rfl (by decide) (by decide) (fun H locs hP hD hS => ?_)
  clear hc
  have hP : va_P D classes [(o, .inr (12, mo q z)), ((q 48), .inl (cy 1, 8, .inl u0)), ((q 49), .inl (cy 1, 8, .inl u1)), ((q 66), .inl (cy 1, 8, .inl u2)), (b1, .inl (cy 1, 8, .inl u4)), (b2, .inl (cy 1, 8, .inl h2)), ((q 67), .inl (cy 1, 8, .inl f1))] H := hP
  have hD : va_D A [(o, .inr (12, mo q z)), ((q 48), .inl (cy 1, 8, .inl u0)), ((q 49), .inl (cy 1, 8, .inl u1)), ((q 66), .inl (cy 1, 8, .inl u2)), (b1, .inl (cy 1, 8, .inl u4)), (b2, .inl (cy 1, 8, .inl h2)), ((q 67), .inl (cy 1, 8, .inl f1))] := hD
  refine lv_goto (tgt := 137) hx hb d_M_inverse_194 (by decide) ?_
  exact hk_137 _ _ _ _ _ _ hf _ _ _ (hP.sub (ws' := [(o, .inr (12, mo q z)), ((q 48), .inl (cy 1, 8, .inl u0)), ((q 49), .inl (cy 1, 8, .inl u1)), ((q 66), .inl (cy 1, 8, .inl u2)), ((q 67), .inl (cy 1, 8, .inl f1)), (b1, .inl (cy 1, 8, .inl u4)), (b2, .inl (cy 1, 8, .inl h2))]) [0, 1, 2, 3, 6, 4, 5] rfl) (hD.sub (ws' := [(o, .inr (12, mo q z)), ((q 48), .inl (cy 1, 8, .inl u0)), ((q 49), .inl (cy 1, 8, .inl u1)), ((q 66), .inl (cy 1, 8, .inl u2)), ((q 67), .inl (cy 1, 8, .inl f1)), (b1, .inl (cy 1, 8, .inl u4)), (b2, .inl (cy 1, 8, .inl h2))]) [0, 1, 2, 3, 6, 4, 5] (by decide) rfl) hS (lv_sub hl [1, 2, 3] rfl)
set_option maxHeartbeats 8000000 in
set_option maxRecDepth 100000 in
theorem wb_M_inverse_s3x23_137 {p : Program} {l : Launch} {e : Env} {s : State} {m : MethodId} {args : Array Value} {below : List Frame} {meth : Method} {c : Code} {D : va_G} {cy : Nat → ClassId} {A : Nat → Prop} {ad : Nat → Nat} {o : Nat} {q : Nat → Nat} {b1 : Nat} {b2 : Nat} {z : Nat → Int32} {h2 : Nat → Int32} {fu : Nat} {k_57 : (Nat → Int32) → (Nat → Int32) → (Nat → Int32) → (Nat → Int32) → (Nat → Int32) → Option ((Nat → Int32) × (Nat → Int32) × (Nat → Int32) × (Nat → Int32) × (Nat → Int32))} {k_137 : (Nat → Int32) → (Nat → Int32) → (Nat → Int32) → (Nat → Int32) → (Nat → Int32) → Option ((Nat → Int32) × (Nat → Int32) × (Nat → Int32) × (Nat → Int32) × (Nat → Int32))} (F : Fx p s m args meth c b_M_inverse 5 "CoinKeeperModel" "inverse" none D cy ad A) (hk_57 : I_M_inverse_s3x23_57 p l e s m args below meth c D cy A ad o q b1 b2 z h2 k_57) (hk_137 : I_M_inverse_s3x23_137 p l e s m args below meth c D cy A ad o q b1 b2 z h2 k_137) : I_M_inverse_s3x23_137 p l e s m args below meth c D cy A ad o q b1 b2 z h2 (xb_M_inverse_s3x23_137 fu z h2 k_57 k_137) := by
  obtain ⟨hx, hb, hr, hml, hown, hts, hlocks, hK, hA, hSt, hnm, hex⟩ := id F
  intro u0 u1 u2 u3 u4 res hf H locs ls hP hD hS hl
  unfold xb_M_inverse_s3x23_137 at hf
  refine lv_aload_n hx hb d_M_inverse_137 rfl (lv_at hl 0 rfl) ?_
  refine va_get (D := D) (ci := 12) (v := .ref (q 49)) (C := "CoinKeeperModel") (T := F_12) (N := 98) hx hb hts i_12 hown hK hP 0 rfl rfl 57 (by decide) (hts _ gw_1476) (fun _ h9 => h9) rfl d_M_inverse_138 ?_
  refine lv_iconst (v := 0) hx hb d_M_inverse_141 (by decide) ?_
  refine va_iald hx hb hK hP 2 1 rfl rfl (inb_in (by decide)) d_M_inverse_142 ?_
  refine lv_topi (fun v1 ev => ?_)
  have hf := bn ev hf
  clear ev
  refine lv_iconst (v := 1) hx hb d_M_inverse_143 (by decide) ?_
  refine lv_iand hx hb d_M_inverse_144 ?_
  refine lv_if_ne (tgt := 197) hx hb d_M_inverse_145 (by decide) (fun cx => ?_) (fun cx => ?_)
  · have hf := ifn cx hf
    refine lv_aload_n hx hb d_M_inverse_197 rfl (lv_at hl 0 rfl) ?_
    refine va_get (D := D) (ci := 12) (v := .ref (q 48)) (C := "CoinKeeperModel") (T := F_12) (N := 98) hx hb hts i_12 hown hK hP 0 rfl rfl 56 (by decide) (hts _ gw_1475) (fun _ h9 => h9) rfl d_M_inverse_198 ?_
    refine lv_aload_n hx hb d_M_inverse_201 rfl (lv_at hl 0 rfl) ?_
    refine va_get (D := D) (ci := 12) (v := .ref (q 49)) (C := "CoinKeeperModel") (T := F_12) (N := 98) hx hb hts i_12 hown hK hP 0 rfl rfl 57 (by decide) (hts _ gw_1476) (fun _ h9 => h9) rfl d_M_inverse_202 ?_
    obtain ⟨v2, hc, hf⟩ := bdp1 hf
    refine q_ai (wr := [(o, .inr (12, mo q z)), ((q 66), .inl (cy 1, 8, .inl u2)), ((q 67), .inl (cy 1, 8, .inl u3)), (b1, .inl (cy 1, 8, .inl u4)), (b2, .inl (cy 1, 8, .inl h2))]) (va_runS (As := [.ref (q 48), .ref (q 49)]) (rest := []) ⟨hx, hb, hml, hown, hts⟩ (c_M_compare l D cy ad fu (q 48) (q 49) u0 u1 _ hc H.size) ⟨q_cB hts gw_1404 gw_18 gw_1402 hdm_16 ⟨by decide, by decide⟩, hts _ gw_1403⟩ (q_pre (hP.sub [1, 2] rfl) (hD.sub [1, 2] (by decide) rfl) hK hSt hS (va_free hD hS hA [1, 2] rfl) _) rfl rfl hl.1 rfl (lv_room (Nat.le_of_ble_eq_true rfl)) d_M_inverse_205 ⟨Nat.le_of_ble_eq_true rfl, Nat.le_of_ble_eq_true rfl⟩) hP hD hS hA [1, 2] [0, 3, 4, 5, 6] rfl rfl (by decide) (by decide) (fun H locs hP hD hS => ?_)
    clear hc
    have hP : va_P D classes [(o, .inr (12, mo q z)), ((q 66), .inl (cy 1, 8, .inl u2)), ((q 67), .inl (cy 1, 8, .inl u3)), (b1, .inl (cy 1, 8, .inl u4)), (b2, .inl (cy 1, 8, .inl h2)), ((q 48), .inl (cy 1, 8, .inl u0)), ((q 49), .inl (cy 1, 8, .inl u1))] H := hP
    have hD : va_D A [(o, .inr (12, mo q z)), ((q 66), .inl (cy 1, 8, .inl u2)), ((q 67), .inl (cy 1, 8, .inl u3)), (b1, .inl (cy 1, 8, .inl u4)), (b2, .inl (cy 1, 8, .inl h2)), ((q 48), .inl (cy 1, 8, .inl u0)), ((q 49), .inl (cy 1, 8, .inl u1))] := hD
    refine lv_if_lt (tgt := 261) hx hb d_M_inverse_208 (by decide) (fun cx => ?_) (fun cx => ?_)
    · have hf := ifp cx hf
      refine lv_aload_n hx hb d_M_inverse_261 rfl (lv_at hl 0 rfl) ?_
      refine va_get (D := D) (ci := 12) (v := .ref (q 49)) (C := "CoinKeeperModel") (T := F_12) (N := 98) hx hb hts i_12 hown hK hP 0 rfl rfl 57 (by decide) (hts _ gw_1476) (fun _ h9 => h9) rfl d_M_inverse_262 ?_
      refine lv_aload_n hx hb d_M_inverse_265 rfl (lv_at hl 0 rfl) ?_
      refine va_get (D := D) (ci := 12) (v := .ref (q 49)) (C := "CoinKeeperModel") (T := F_12) (N := 98) hx hb hts i_12 hown hK hP 0 rfl rfl 57 (by decide) (hts _ gw_1476) (fun _ h9 => h9) rfl d_M_inverse_266 ?_
      refine lv_aload_n hx hb d_M_inverse_269 rfl (lv_at hl 0 rfl) ?_
      refine va_get (D := D) (ci := 12) (v := .ref (q 48)) (C := "CoinKeeperModel") (T := F_12) (N := 98) hx hb hts i_12 hown hK hP 0 rfl rfl 56 (by decide) (hts _ gw_1475) (fun _ h9 => h9) rfl d_M_inverse_270 ?_
      obtain ⟨v3, f4, hc, hf⟩ := bdp2 hf
      refine q_ai (wr := [(o, .inr (12, mo q z)), ((q 66), .inl (cy 1, 8, .inl u2)), ((q 67), .inl (cy 1, 8, .inl u3)), (b1, .inl (cy 1, 8, .inl u4)), (b2, .inl (cy 1, 8, .inl h2))]) (va_runS (As := [.ref (q 49), .ref (q 49), .ref (q 48)]) (rest := []) ⟨hx, hb, hml, hown, hts⟩ (c_M_sub_e10 l D cy ad fu (q 49) (q 48) u0 u1 _ hc H.size) ⟨q_cB hts gw_1414 gw_18 gw_1412 hdm_17 ⟨by decide, by decide⟩, hts _ gw_1413⟩ (q_pre (hP.sub [6, 5] rfl) (hD.sub [6, 5] (by decide) rfl) hK hSt hS (va_free hD hS hA [6, 5] rfl) _) rfl rfl hl.1 rfl (lv_room (Nat.le_of_ble_eq_true rfl)) d_M_inverse_273 ⟨Nat.le_of_ble_eq_true rfl, Nat.le_of_ble_eq_true rfl⟩) hP hD hS hA [6, 5] [0, 1, 2, 3, 4] rfl rfl (by decide) (by decide) (fun H locs hP hD hS => ?_)
      clear hc
      have hP : va_P D classes [(o, .inr (12, mo q z)), ((q 66), .inl (cy 1, 8, .inl u2)), ((q 67), .inl (cy 1, 8, .inl u3)), (b1, .inl (cy 1, 8, .inl u4)), (b2, .inl (cy 1, 8, .inl h2)), ((q 49), .inl (cy 1, 8, .inl f4)), ((q 48), .inl (cy 1, 8, .inl u0))] H := hP
      have hD : va_D A [(o, .inr (12, mo q z)), ((q 66), .inl (cy 1, 8, .inl u2)), ((q 67), .inl (cy 1, 8, .inl u3)), (b1, .inl (cy 1, 8, .inl u4)), (b2, .inl (cy 1, 8, .inl h2)), ((q 49), .inl (cy 1, 8, .inl f4)), ((q 48), .inl (cy 1, 8, .inl u0))] := hD
      refine lv_pop hx hb d_M_inverse_276 rfl ?_
      refine lv_aload_n hx hb d_M_inverse_277 rfl (lv_at hl 0 rfl) ?_
      refine va_get (D := D) (ci := 12) (v := .ref (q 67)) (C := "CoinKeeperModel") (T := F_12) (N := 98) hx hb hts i_12 hown hK hP 0 rfl rfl 76 (by decide) (hts _ gw_1495) (fun _ h9 => h9) rfl d_M_inverse_278 ?_
      refine lv_aload_n hx hb d_M_inverse_281 rfl (lv_at hl 0 rfl) ?_
      refine va_get (D := D) (ci := 12) (v := .ref (q 67)) (C := "CoinKeeperModel") (T := F_12) (N := 98) hx hb hts i_12 hown hK hP 0 rfl rfl 76 (by decide) (hts _ gw_1495) (fun _ h9 => h9) rfl d_M_inverse_282 ?_
      refine lv_aload_n hx hb d_M_inverse_285 rfl (lv_at hl 0 rfl) ?_
      refine va_get (D := D) (ci := 12) (v := .ref (q 66)) (C := "CoinKeeperModel") (T := F_12) (N := 98) hx hb hts i_12 hown hK hP 0 rfl rfl 75 (by decide) (hts _ gw_1494) (fun _ h9 => h9) rfl d_M_inverse_286 ?_
      obtain ⟨v5, f6, hc, hf⟩ := bdp2 hf
      refine q_ai (wr := [(o, .inr (12, mo q z)), (b1, .inl (cy 1, 8, .inl u4)), (b2, .inl (cy 1, 8, .inl h2)), ((q 49), .inl (cy 1, 8, .inl f4)), ((q 48), .inl (cy 1, 8, .inl u0))]) (va_runS (As := [.ref (q 67), .ref (q 67), .ref (q 66)]) (rest := []) ⟨hx, hb, hml, hown, hts⟩ (c_M_sub_e10 l D cy ad fu (q 67) (q 66) u2 u3 _ hc H.size) ⟨q_cB hts gw_1414 gw_18 gw_1412 hdm_17 ⟨by decide, by decide⟩, hts _ gw_1413⟩ (q_pre (hP.sub [2, 1] rfl) (hD.sub [2, 1] (by decide) rfl) hK hSt hS (va_free hD hS hA [2, 1] rfl) _) rfl rfl hl.1 rfl (lv_room (Nat.le_of_ble_eq_true rfl)) d_M_inverse_289 ⟨Nat.le_of_ble_eq_true rfl, Nat.le_of_ble_eq_true rfl⟩) hP hD hS hA [2, 1] [0, 3, 4, 5, 6] rfl rfl (by decide) (by decide) (fun H locs hP hD hS => ?_)
      clear hc
      have hP : va_P D classes [(o, .inr (12, mo q z)), (b1, .inl (cy 1, 8, .inl u4)), (b2, .inl (cy 1, 8, .inl h2)), ((q 49), .inl (cy 1, 8, .inl f4)), ((q 48), .inl (cy 1, 8, .inl u0)), ((q 67), .inl (cy 1, 8, .inl f6)), ((q 66), .inl (cy 1, 8, .inl u2))] H := hP
      have hD : va_D A [(o, .inr (12, mo q z)), (b1, .inl (cy 1, 8, .inl u4)), (b2, .inl (cy 1, 8, .inl h2)), ((q 49), .inl (cy 1, 8, .inl f4)), ((q 48), .inl (cy 1, 8, .inl u0)), ((q 67), .inl (cy 1, 8, .inl f6)), ((q 66), .inl (cy 1, 8, .inl u2))] := hD
      refine lv_if_eq (tgt := 57) hx hb d_M_inverse_292 (by decide) (fun cx => ?_) (fun cx => ?_)
      · have hf := ifp cx hf
        exact hk_57 _ _ _ _ _ _ hf _ _ _ (hP.sub (ws' := [(o, .inr (12, mo q z)), ((q 48), .inl (cy 1, 8, .inl u0)), ((q 49), .inl (cy 1, 8, .inl f4)), ((q 66), .inl (cy 1, 8, .inl u2)), ((q 67), .inl (cy 1, 8, .inl f6)), (b1, .inl (cy 1, 8, .inl u4)), (b2, .inl (cy 1, 8, .inl h2))]) [0, 4, 3, 6, 5, 1, 2] rfl) (hD.sub (ws' := [(o, .inr (12, mo q z)), ((q 48), .inl (cy 1, 8, .inl u0)), ((q 49), .inl (cy 1, 8, .inl f4)), ((q 66), .inl (cy 1, 8, .inl u2)), ((q 67), .inl (cy 1, 8, .inl f6)), (b1, .inl (cy 1, 8, .inl u4)), (b2, .inl (cy 1, 8, .inl h2))]) [0, 4, 3, 6, 5, 1, 2] (by decide) rfl) hS (lv_sub hl [0, 1, 2] rfl)
      · have hf := ifn cx hf
        refine lv_aload_n hx hb d_M_inverse_295 rfl (lv_at hl 0 rfl) ?_
        refine va_get (D := D) (ci := 12) (v := .ref (q 67)) (C := "CoinKeeperModel") (T := F_12) (N := 98) hx hb hts i_12 hown hK hP 0 rfl rfl 76 (by decide) (hts _ gw_1495) (fun _ h9 => h9) rfl d_M_inverse_296 ?_
        refine lv_aload_n hx hb d_M_inverse_299 rfl (lv_at hl 0 rfl) ?_
        refine va_get (D := D) (ci := 12) (v := .ref (q 67)) (C := "CoinKeeperModel") (T := F_12) (N := 98) hx hb hts i_12 hown hK hP 0 rfl rfl 76 (by decide) (hts _ gw_1495) (fun _ h9 => h9) rfl d_M_inverse_300 ?_
        refine lv_aload_n hx hb d_M_inverse_303 rfl (lv_at hl 2 rfl) ?_
        obtain ⟨v7, f8, hc, hf⟩ := bdp2 hf
        refine q_ai (wr := [(o, .inr (12, mo q z)), (b1, .inl (cy 1, 8, .inl u4)), (b2, .inl (cy 1, 8, .inl h2)), ((q 49), .inl (cy 1, 8, .inl f4)), ((q 48), .inl (cy 1, 8, .inl u0)), ((q 66), .inl (cy 1, 8, .inl u2))]) (va_runS (As := [.ref (q 67), .ref (q 67), .ref (ad 23)]) (rest := []) ⟨hx, hb, hml, hown, hts⟩ (c_M_add_e10s2x23 l D cy ad fu (q 67) f6 _ hc H.size) ⟨q_cB hts gw_1389 gw_18 gw_1387 hdm_19 ⟨by decide, by decide⟩, hts _ gw_1388⟩ (q_pre (hP.sub [5] rfl) (hD.sub [5] (by decide) rfl) hK hSt hS (va_free hD hS hA [5] rfl) _) rfl rfl hl.1 rfl (lv_room (Nat.le_of_ble_eq_true rfl)) d_M_inverse_304 ⟨Nat.le_of_ble_eq_true rfl, Nat.le_of_ble_eq_true rfl⟩) hP hD hS hA [5] [0, 1, 2, 3, 4, 6] rfl rfl (by decide) (by decide) (fun H locs hP hD hS => ?_)
        clear hc
        have hP : va_P D classes [(o, .inr (12, mo q z)), (b1, .inl (cy 1, 8, .inl u4)), (b2, .inl (cy 1, 8, .inl h2)), ((q 49), .inl (cy 1, 8, .inl f4)), ((q 48), .inl (cy 1, 8, .inl u0)), ((q 66), .inl (cy 1, 8, .inl u2)), ((q 67), .inl (cy 1, 8, .inl f8))] H := hP
        have hD : va_D A [(o, .inr (12, mo q z)), (b1, .inl (cy 1, 8, .inl u4)), (b2, .inl (cy 1, 8, .inl h2)), ((q 49), .inl (cy 1, 8, .inl f4)), ((q 48), .inl (cy 1, 8, .inl u0)), ((q 66), .inl (cy 1, 8, .inl u2)), ((q 67), .inl (cy 1, 8, .inl f8))] := hD
        refine lv_pop hx hb d_M_inverse_307 rfl ?_
        refine lv_goto (tgt := 57) hx hb d_M_inverse_308 (by decide) ?_
        exact hk_57 _ _ _ _ _ _ hf _ _ _ (hP.sub (ws' := [(o, .inr (12, mo q z)), ((q 48), .inl (cy 1, 8, .inl u0)), ((q 49), .inl (cy 1, 8, .inl f4)), ((q 66), .inl (cy 1, 8, .inl u2)), ((q 67), .inl (cy 1, 8, .inl f8)), (b1, .inl (cy 1, 8, .inl u4)), (b2, .inl (cy 1, 8, .inl h2))]) [0, 4, 3, 5, 6, 1, 2] rfl) (hD.sub (ws' := [(o, .inr (12, mo q z)), ((q 48), .inl (cy 1, 8, .inl u0)), ((q 49), .inl (cy 1, 8, .inl f4)), ((q 66), .inl (cy 1, 8, .inl u2)), ((q 67), .inl (cy 1, 8, .inl f8)), (b1, .inl (cy 1, 8, .inl u4)), (b2, .inl (cy 1, 8, .inl h2))]) [0, 4, 3, 5, 6, 1, 2] (by decide) rfl) hS (lv_sub hl [0, 1, 2] rfl)
    · have hf := ifn cx hf
      refine lv_aload_n hx hb d_M_inverse_211 rfl (lv_at hl 0 rfl) ?_
      refine va_get (D := D) (ci := 12) (v := .ref (q 48)) (C := "CoinKeeperModel") (T := F_12) (N := 98) hx hb hts i_12 hown hK hP 0 rfl rfl 56 (by decide) (hts _ gw_1475) (fun _ h9 => h9) rfl d_M_inverse_212 ?_
      refine lv_aload_n hx hb d_M_inverse_215 rfl (lv_at hl 0 rfl) ?_
      refine va_get (D := D) (ci := 12) (v := .ref (q 48)) (C := "CoinKeeperModel") (T := F_12) (N := 98) hx hb hts i_12 hown hK hP 0 rfl rfl 56 (by decide) (hts _ gw_1475) (fun _ h9 => h9) rfl d_M_inverse_216 ?_
      refine lv_aload_n hx hb d_M_inverse_219 rfl (lv_at hl 0 rfl) ?_
      refine va_get (D := D) (ci := 12) (v := .ref (q 49)) (C := "CoinKeeperModel") (T := F_12) (N := 98) hx hb hts i_12 hown hK hP 0 rfl rfl 57 (by decide) (hts _ gw_1476) (fun _ h9 => h9) rfl d_M_inverse_220 ?_
      obtain ⟨v9, f10, hc, hf⟩ := bdp2 hf
      refine q_ai (wr := [(o, .inr (12, mo q z)), ((q 66), .inl (cy 1, 8, .inl u2)), ((q 67), .inl (cy 1, 8, .inl u3)), (b1, .inl (cy 1, 8, .inl u4)), (b2, .inl (cy 1, 8, .inl h2))]) (va_runS (As := [.ref (q 48), .ref (q 48), .ref (q 49)]) (rest := []) ⟨hx, hb, hml, hown, hts⟩ (c_M_sub_e10 l D cy ad fu (q 48) (q 49) u1 u0 _ hc H.size) ⟨q_cB hts gw_1414 gw_18 gw_1412 hdm_17 ⟨by decide, by decide⟩, hts _ gw_1413⟩ (q_pre (hP.sub [5, 6] rfl) (hD.sub [5, 6] (by decide) rfl) hK hSt hS (va_free hD hS hA [5, 6] rfl) _) rfl rfl hl.1 rfl (lv_room (Nat.le_of_ble_eq_true rfl)) d_M_inverse_223 ⟨Nat.le_of_ble_eq_true rfl, Nat.le_of_ble_eq_true rfl⟩) hP hD hS hA [5, 6] [0, 1, 2, 3, 4] rfl rfl (by decide) (by decide) (fun H locs hP hD hS => ?_)
      clear hc
      have hP : va_P D classes [(o, .inr (12, mo q z)), ((q 66), .inl (cy 1, 8, .inl u2)), ((q 67), .inl (cy 1, 8, .inl u3)), (b1, .inl (cy 1, 8, .inl u4)), (b2, .inl (cy 1, 8, .inl h2)), ((q 48), .inl (cy 1, 8, .inl f10)), ((q 49), .inl (cy 1, 8, .inl u1))] H := hP
      have hD : va_D A [(o, .inr (12, mo q z)), ((q 66), .inl (cy 1, 8, .inl u2)), ((q 67), .inl (cy 1, 8, .inl u3)), (b1, .inl (cy 1, 8, .inl u4)), (b2, .inl (cy 1, 8, .inl h2)), ((q 48), .inl (cy 1, 8, .inl f10)), ((q 49), .inl (cy 1, 8, .inl u1))] := hD
      refine lv_pop hx hb d_M_inverse_226 rfl ?_
      refine lv_aload_n hx hb d_M_inverse_227 rfl (lv_at hl 0 rfl) ?_
      refine va_get (D := D) (ci := 12) (v := .ref (q 66)) (C := "CoinKeeperModel") (T := F_12) (N := 98) hx hb hts i_12 hown hK hP 0 rfl rfl 75 (by decide) (hts _ gw_1494) (fun _ h9 => h9) rfl d_M_inverse_228 ?_
      refine lv_aload_n hx hb d_M_inverse_231 rfl (lv_at hl 0 rfl) ?_
      refine va_get (D := D) (ci := 12) (v := .ref (q 66)) (C := "CoinKeeperModel") (T := F_12) (N := 98) hx hb hts i_12 hown hK hP 0 rfl rfl 75 (by decide) (hts _ gw_1494) (fun _ h9 => h9) rfl d_M_inverse_232 ?_
      refine lv_aload_n hx hb d_M_inverse_235 rfl (lv_at hl 0 rfl) ?_
      refine va_get (D := D) (ci := 12) (v := .ref (q 67)) (C := "CoinKeeperModel") (T := F_12) (N := 98) hx hb hts i_12 hown hK hP 0 rfl rfl 76 (by decide) (hts _ gw_1495) (fun _ h9 => h9) rfl d_M_inverse_236 ?_
      obtain ⟨v11, f12, hc, hf⟩ := bdp2 hf
      refine q_ai (wr := [(o, .inr (12, mo q z)), (b1, .inl (cy 1, 8, .inl u4)), (b2, .inl (cy 1, 8, .inl h2)), ((q 48), .inl (cy 1, 8, .inl f10)), ((q 49), .inl (cy 1, 8, .inl u1))]) (va_runS (As := [.ref (q 66), .ref (q 66), .ref (q 67)]) (rest := []) ⟨hx, hb, hml, hown, hts⟩ (c_M_sub_e10 l D cy ad fu (q 66) (q 67) u3 u2 _ hc H.size) ⟨q_cB hts gw_1414 gw_18 gw_1412 hdm_17 ⟨by decide, by decide⟩, hts _ gw_1413⟩ (q_pre (hP.sub [1, 2] rfl) (hD.sub [1, 2] (by decide) rfl) hK hSt hS (va_free hD hS hA [1, 2] rfl) _) rfl rfl hl.1 rfl (lv_room (Nat.le_of_ble_eq_true rfl)) d_M_inverse_239 ⟨Nat.le_of_ble_eq_true rfl, Nat.le_of_ble_eq_true rfl⟩) hP hD hS hA [1, 2] [0, 3, 4, 5, 6] rfl rfl (by decide) (by decide) (fun H locs hP hD hS => ?_)
      clear hc
      have hP : va_P D classes [(o, .inr (12, mo q z)), (b1, .inl (cy 1, 8, .inl u4)), (b2, .inl (cy 1, 8, .inl h2)), ((q 48), .inl (cy 1, 8, .inl f10)), ((q 49), .inl (cy 1, 8, .inl u1)), ((q 66), .inl (cy 1, 8, .inl f12)), ((q 67), .inl (cy 1, 8, .inl u3))] H := hP
      have hD : va_D A [(o, .inr (12, mo q z)), (b1, .inl (cy 1, 8, .inl u4)), (b2, .inl (cy 1, 8, .inl h2)), ((q 48), .inl (cy 1, 8, .inl f10)), ((q 49), .inl (cy 1, 8, .inl u1)), ((q 66), .inl (cy 1, 8, .inl f12)), ((q 67), .inl (cy 1, 8, .inl u3))] := hD
      refine lv_if_eq (tgt := 57) hx hb d_M_inverse_242 (by decide) (fun cx => ?_) (fun cx => ?_)
      · have hf := ifp cx hf
        exact hk_57 _ _ _ _ _ _ hf _ _ _ (hP.sub (ws' := [(o, .inr (12, mo q z)), ((q 48), .inl (cy 1, 8, .inl f10)), ((q 49), .inl (cy 1, 8, .inl u1)), ((q 66), .inl (cy 1, 8, .inl f12)), ((q 67), .inl (cy 1, 8, .inl u3)), (b1, .inl (cy 1, 8, .inl u4)), (b2, .inl (cy 1, 8, .inl h2))]) [0, 3, 4, 5, 6, 1, 2] rfl) (hD.sub (ws' := [(o, .inr (12, mo q z)), ((q 48), .inl (cy 1, 8, .inl f10)), ((q 49), .inl (cy 1, 8, .inl u1)), ((q 66), .inl (cy 1, 8, .inl f12)), ((q 67), .inl (cy 1, 8, .inl u3)), (b1, .inl (cy 1, 8, .inl u4)), (b2, .inl (cy 1, 8, .inl h2))]) [0, 3, 4, 5, 6, 1, 2] (by decide) rfl) hS (lv_sub hl [0, 1, 2] rfl)
      · have hf := ifn cx hf
        refine lv_aload_n hx hb d_M_inverse_245 rfl (lv_at hl 0 rfl) ?_
        refine va_get (D := D) (ci := 12) (v := .ref (q 66)) (C := "CoinKeeperModel") (T := F_12) (N := 98) hx hb hts i_12 hown hK hP 0 rfl rfl 75 (by decide) (hts _ gw_1494) (fun _ h9 => h9) rfl d_M_inverse_246 ?_
        refine lv_aload_n hx hb d_M_inverse_249 rfl (lv_at hl 0 rfl) ?_
        refine va_get (D := D) (ci := 12) (v := .ref (q 66)) (C := "CoinKeeperModel") (T := F_12) (N := 98) hx hb hts i_12 hown hK hP 0 rfl rfl 75 (by decide) (hts _ gw_1494) (fun _ h9 => h9) rfl d_M_inverse_250 ?_
        refine lv_aload_n hx hb d_M_inverse_253 rfl (lv_at hl 2 rfl) ?_
        obtain ⟨v13, f14, hc, hf⟩ := bdp2 hf
        refine q_ai (wr := [(o, .inr (12, mo q z)), (b1, .inl (cy 1, 8, .inl u4)), (b2, .inl (cy 1, 8, .inl h2)), ((q 48), .inl (cy 1, 8, .inl f10)), ((q 49), .inl (cy 1, 8, .inl u1)), ((q 67), .inl (cy 1, 8, .inl u3))]) (va_runS (As := [.ref (q 66), .ref (q 66), .ref (ad 23)]) (rest := []) ⟨hx, hb, hml, hown, hts⟩ (c_M_add_e10s2x23 l D cy ad fu (q 66) f12 _ hc H.size) ⟨q_cB hts gw_1389 gw_18 gw_1387 hdm_19 ⟨by decide, by decide⟩, hts _ gw_1388⟩ (q_pre (hP.sub [5] rfl) (hD.sub [5] (by decide) rfl) hK hSt hS (va_free hD hS hA [5] rfl) _) rfl rfl hl.1 rfl (lv_room (Nat.le_of_ble_eq_true rfl)) d_M_inverse_254 ⟨Nat.le_of_ble_eq_true rfl, Nat.le_of_ble_eq_true rfl⟩) hP hD hS hA [5] [0, 1, 2, 3, 4, 6] rfl rfl (by decide) (by decide) (fun H locs hP hD hS => ?_)
        clear hc
        have hP : va_P D classes [(o, .inr (12, mo q z)), (b1, .inl (cy 1, 8, .inl u4)), (b2, .inl (cy 1, 8, .inl h2)), ((q 48), .inl (cy 1, 8, .inl f10)), ((q 49), .inl (cy 1, 8, .inl u1)), ((q 67), .inl (cy 1, 8, .inl u3)), ((q 66), .inl (cy 1, 8, .inl f14))] H := hP
        have hD : va_D A [(o, .inr (12, mo q z)), (b1, .inl (cy 1, 8, .inl u4)), (b2, .inl (cy 1, 8, .inl h2)), ((q 48), .inl (cy 1, 8, .inl f10)), ((q 49), .inl (cy 1, 8, .inl u1)), ((q 67), .inl (cy 1, 8, .inl u3)), ((q 66), .inl (cy 1, 8, .inl f14))] := hD
        refine lv_pop hx hb d_M_inverse_257 rfl ?_
        refine lv_goto (tgt := 57) hx hb d_M_inverse_258 (by decide) ?_
        exact hk_57 _ _ _ _ _ _ hf _ _ _ (hP.sub (ws' := [(o, .inr (12, mo q z)), ((q 48), .inl (cy 1, 8, .inl f10)), ((q 49), .inl (cy 1, 8, .inl u1)), ((q 66), .inl (cy 1, 8, .inl f14)), ((q 67), .inl (cy 1, 8, .inl u3)), (b1, .inl (cy 1, 8, .inl u4)), (b2, .inl (cy 1, 8, .inl h2))]) [0, 3, 4, 6, 5, 1, 2] rfl) (hD.sub (ws' := [(o, .inr (12, mo q z)), ((q 48), .inl (cy 1, 8, .inl f10)), ((q 49), .inl (cy 1, 8, .inl u1)), ((q 66), .inl (cy 1, 8, .inl f14)), ((q 67), .inl (cy 1, 8, .inl u3)), (b1, .inl (cy 1, 8, .inl u4)), (b2, .inl (cy 1, 8, .inl h2))]) [0, 3, 4, 6, 5, 1, 2] (by decide) rfl) hS (lv_sub hl [0, 1, 2] rfl)
  · have hf := ifp cx hf
    refine lv_aload_n hx hb d_M_inverse_148 rfl (lv_at hl 0 rfl) ?_
    refine va_get (D := D) (ci := 12) (v := .ref (q 49)) (C := "CoinKeeperModel") (T := F_12) (N := 98) hx hb hts i_12 hown hK hP 0 rfl rfl 57 (by decide) (hts _ gw_1476) (fun _ h9 => h9) rfl d_M_inverse_149 ?_
    refine lv_iconst (v := 0) hx hb d_M_inverse_152 (by decide) ?_
    obtain ⟨f15, hc, hf⟩ := bdp1 hf
    refine q_av (wr := [(o, .inr (12, mo q z)), ((q 48), .inl (cy 1, 8, .inl u0)), ((q 66), .inl (cy 1, 8, .inl u2)), ((q 67), .inl (cy 1, 8, .inl u3)), (b1, .inl (cy 1, 8, .inl u4)), (b2, .inl (cy 1, 8, .inl h2))]) (va_runS (As := [.ref (q 49), .int (0 : Int32)]) (rest := []) ⟨hx, hb, hml, hown, hts⟩ (c_M_half l D cy ad fu (q 49) (0 : Int32) u1 _ hc H.size) ⟨q_cB hts gw_1990 gw_18 gw_1988 hdm_23 ⟨by decide, by decide⟩, hts _ gw_1989⟩ (q_pre (hP.sub [2] rfl) (hD.sub [2] (by decide) rfl) hK hSt hS (va_free hD hS hA [2] rfl) _) rfl rfl hl.1 rfl (lv_room (Nat.le_of_ble_eq_true rfl)) d_M_inverse_153 ⟨Nat.le_of_ble_eq_true rfl, Nat.le_of_ble_eq_true rfl⟩) hP hD hS hA [2] [0, 1, 3, 4, 5, 6] rfl rfl (by decide) (by decide) (fun H locs hP hD hS => ?_)
    clear hc
    have hP : va_P D classes [(o, .inr (12, mo q z)), ((q 48), .inl (cy 1, 8, .inl u0)), ((q 66), .inl (cy 1, 8, .inl u2)), ((q 67), .inl (cy 1, 8, .inl u3)), (b1, .inl (cy 1, 8, .inl u4)), (b2, .inl (cy 1, 8, .inl h2)), ((q 49), .inl (cy 1, 8, .inl f15))] H := hP
    have hD : va_D A [(o, .inr (12, mo q z)), ((q 48), .inl (cy 1, 8, .inl u0)), ((q 66), .inl (cy 1, 8, .inl u2)), ((q 67), .inl (cy 1, 8, .inl u3)), (b1, .inl (cy 1, 8, .inl u4)), (b2, .inl (cy 1, 8, .inl h2)), ((q 49), .inl (cy 1, 8, .inl f15))] := hD
    refine lv_aload_n hx hb d_M_inverse_156 rfl (lv_at hl 0 rfl) ?_
    refine va_get (D := D) (ci := 12) (v := .ref (q 67)) (C := "CoinKeeperModel") (T := F_12) (N := 98) hx hb hts i_12 hown hK hP 0 rfl rfl 76 (by decide) (hts _ gw_1495) (fun _ h9 => h9) rfl d_M_inverse_157 ?_
    refine lv_iconst (v := 0) hx hb d_M_inverse_160 (by decide) ?_
    refine va_iald hx hb hK hP 3 1 rfl rfl (inb_in (by decide)) d_M_inverse_161 ?_
    refine lv_topi (fun v16 ev => ?_)
    have hf := bn ev hf
    clear ev
    refine lv_iconst (v := 1) hx hb d_M_inverse_162 (by decide) ?_
    refine lv_iand hx hb d_M_inverse_163 ?_
    refine lv_if_ne (tgt := 171) hx hb d_M_inverse_164 (by decide) (fun cx => ?_) (fun cx => ?_)
    · have hf := ifn cx hf
      refine lv_aload_n hx hb d_M_inverse_171 rfl (lv_at hl 0 rfl) ?_
      refine va_get (D := D) (ci := 12) (v := .ref (q 67)) (C := "CoinKeeperModel") (T := F_12) (N := 98) hx hb hts i_12 hown hK hP 0 rfl rfl 76 (by decide) (hts _ gw_1495) (fun _ h9 => h9) rfl d_M_inverse_172 ?_
      refine lv_aload_n hx hb d_M_inverse_175 rfl (lv_at hl 0 rfl) ?_
      refine va_get (D := D) (ci := 12) (v := .ref (q 67)) (C := "CoinKeeperModel") (T := F_12) (N := 98) hx hb hts i_12 hown hK hP 0 rfl rfl 76 (by decide) (hts _ gw_1495) (fun _ h9 => h9) rfl d_M_inverse_176 ?_
      refine lv_aload_n hx hb d_M_inverse_179 rfl (lv_at hl 2 rfl) ?_
      obtain ⟨v17, f18, hc, hf⟩ := bdp2 hf
      refine q_ai (wr := [(o, .inr (12, mo q z)), ((q 48), .inl (cy 1, 8, .inl u0)), ((q 66), .inl (cy 1, 8, .inl u2)), (b1, .inl (cy 1, 8, .inl u4)), (b2, .inl (cy 1, 8, .inl h2)), ((q 49), .inl (cy 1, 8, .inl f15))]) (va_runS (As := [.ref (q 67), .ref (q 67), .ref (ad 23)]) (rest := []) ⟨hx, hb, hml, hown, hts⟩ (c_M_add_e10s2x23 l D cy ad fu (q 67) u3 _ hc H.size) ⟨q_cB hts gw_1389 gw_18 gw_1387 hdm_19 ⟨by decide, by decide⟩, hts _ gw_1388⟩ (q_pre (hP.sub [3] rfl) (hD.sub [3] (by decide) rfl) hK hSt hS (va_free hD hS hA [3] rfl) _) rfl rfl hl.1 rfl (lv_room (Nat.le_of_ble_eq_true rfl)) d_M_inverse_180 ⟨Nat.le_of_ble_eq_true rfl, Nat.le_of_ble_eq_true rfl⟩) hP hD hS hA [3] [0, 1, 2, 4, 5, 6] rfl rfl (by decide) (by decide) (fun H locs hP hD hS => ?_)
      clear hc
      have hP : va_P D classes [(o, .inr (12, mo q z)), ((q 48), .inl (cy 1, 8, .inl u0)), ((q 66), .inl (cy 1, 8, .inl u2)), (b1, .inl (cy 1, 8, .inl u4)), (b2, .inl (cy 1, 8, .inl h2)), ((q 49), .inl (cy 1, 8, .inl f15)), ((q 67), .inl (cy 1, 8, .inl f18))] H := hP
      have hD : va_D A [(o, .inr (12, mo q z)), ((q 48), .inl (cy 1, 8, .inl u0)), ((q 66), .inl (cy 1, 8, .inl u2)), (b1, .inl (cy 1, 8, .inl u4)), (b2, .inl (cy 1, 8, .inl h2)), ((q 49), .inl (cy 1, 8, .inl f15)), ((q 67), .inl (cy 1, 8, .inl f18))] := hD
      exact wb_M_inverse_s3x23_183 (fu := fu) F hk_57 hk_137 _ _ _ _ _ _ _ hf _ _ _ (hP.sub (ws' := [(o, .inr (12, mo q z)), ((q 48), .inl (cy 1, 8, .inl u0)), ((q 49), .inl (cy 1, 8, .inl f15)), ((q 66), .inl (cy 1, 8, .inl u2)), ((q 67), .inl (cy 1, 8, .inl f18)), (b1, .inl (cy 1, 8, .inl u4)), (b2, .inl (cy 1, 8, .inl h2))]) [0, 1, 5, 2, 6, 3, 4] rfl) (hD.sub (ws' := [(o, .inr (12, mo q z)), ((q 48), .inl (cy 1, 8, .inl u0)), ((q 49), .inl (cy 1, 8, .inl f15)), ((q 66), .inl (cy 1, 8, .inl u2)), ((q 67), .inl (cy 1, 8, .inl f18)), (b1, .inl (cy 1, 8, .inl u4)), (b2, .inl (cy 1, 8, .inl h2))]) [0, 1, 5, 2, 6, 3, 4] (by decide) rfl) hS (lv_sub hl [0, 1, 2] rfl)
    · have hf := ifp cx hf
      refine lv_iconst (v := 0) hx hb d_M_inverse_167 (by decide) ?_
      refine lv_goto (tgt := 183) hx hb d_M_inverse_168 (by decide) ?_
      exact wb_M_inverse_s3x23_183 (fu := fu) F hk_57 hk_137 _ _ _ _ _ _ _ hf _ _ _ (hP.sub (ws' := [(o, .inr (12, mo q z)), ((q 48), .inl (cy 1, 8, .inl u0)), ((q 49), .inl (cy 1, 8, .inl f15)), ((q 66), .inl (cy 1, 8, .inl u2)), ((q 67), .inl (cy 1, 8, .inl u3)), (b1, .inl (cy 1, 8, .inl u4)), (b2, .inl (cy 1, 8, .inl h2))]) [0, 1, 6, 2, 3, 4, 5] rfl) (hD.sub (ws' := [(o, .inr (12, mo q z)), ((q 48), .inl (cy 1, 8, .inl u0)), ((q 49), .inl (cy 1, 8, .inl f15)), ((q 66), .inl (cy 1, 8, .inl u2)), ((q 67), .inl (cy 1, 8, .inl u3)), (b1, .inl (cy 1, 8, .inl u4)), (b2, .inl (cy 1, 8, .inl h2))]) [0, 1, 6, 2, 3, 4, 5] (by decide) rfl) hS (lv_sub hl [0, 1, 2] rfl)
theorem w_M_inverse_s3x23_137 {p : Program} {l : Launch} {e : Env} {s : State} {m : MethodId} {args : Array Value} {below : List Frame} {meth : Method} {c : Code} {D : va_G} {cy : Nat → ClassId} {A : Nat → Prop} {ad : Nat → Nat} {o : Nat} {q : Nat → Nat} {b1 : Nat} {b2 : Nat} {z : Nat → Int32} {h2 : Nat → Int32} {fu : Nat} {k_57 : (Nat → Int32) → (Nat → Int32) → (Nat → Int32) → (Nat → Int32) → (Nat → Int32) → Option ((Nat → Int32) × (Nat → Int32) × (Nat → Int32) × (Nat → Int32) × (Nat → Int32))} (F : Fx p s m args meth c b_M_inverse 5 "CoinKeeperModel" "inverse" none D cy ad A) (hk_57 : I_M_inverse_s3x23_57 p l e s m args below meth c D cy A ad o q b1 b2 z h2 k_57) : ∀ n : Nat, I_M_inverse_s3x23_137 p l e s m args below meth c D cy A ad o q b1 b2 z h2 (x_M_inverse_s3x23_137 fu z h2 k_57 n)
  | 0 => fun _ _ _ _ _ _ hf => nomatch (show (none : Option ((Nat → Int32) × (Nat → Int32) × (Nat → Int32) × (Nat → Int32) × (Nat → Int32))) = some _ from hf)
  | n + 1 => wb_M_inverse_s3x23_137 F hk_57 (w_M_inverse_s3x23_137 F hk_57 n)
set_option maxHeartbeats 8000000 in
set_option maxRecDepth 100000 in
theorem wb_M_inverse_s3x23_123 {p : Program} {l : Launch} {e : Env} {s : State} {m : MethodId} {args : Array Value} {below : List Frame} {meth : Method} {c : Code} {D : va_G} {cy : Nat → ClassId} {A : Nat → Prop} {ad : Nat → Nat} {o : Nat} {q : Nat → Nat} {b1 : Nat} {b2 : Nat} {z : Nat → Int32} {h2 : Nat → Int32} {fu : Nat} {k_57 : (Nat → Int32) → (Nat → Int32) → (Nat → Int32) → (Nat → Int32) → (Nat → Int32) → Option ((Nat → Int32) × (Nat → Int32) × (Nat → Int32) × (Nat → Int32) × (Nat → Int32))} {k_77 : (Nat → Int32) → (Nat → Int32) → (Nat → Int32) → (Nat → Int32) → (Nat → Int32) → Option ((Nat → Int32) × (Nat → Int32) × (Nat → Int32) × (Nat → Int32) × (Nat → Int32))} (F : Fx p s m args meth c b_M_inverse 5 "CoinKeeperModel" "inverse" none D cy ad A) (hk_57 : I_M_inverse_s3x23_57 p l e s m args below meth c D cy A ad o q b1 b2 z h2 k_57) (hk_77 : I_M_inverse_s3x23_77 p l e s m args below meth c D cy A ad o q b1 b2 z h2 k_77) : I_M_inverse_s3x23_123 p l e s m args below meth c D cy A ad o q b1 b2 z h2 (xb_M_inverse_s3x23_123 fu z h2 k_57 k_77) := by
  obtain ⟨hx, hb, hr, hml, hown, hts, hlocks, hK, hA, hSt, hnm, hex⟩ := id F
  intro y0 u0 u1 u2 u3 u4 res hf H locs ls hP hD hS hl
  unfold xb_M_inverse_s3x23_123 at hf
  refine lv_istore (lv' := [(4, .int y0), (0, .ref o), (1, .ref b1), (3, .ref (ad 23))]) hx hb d_M_inverse_123 hl (by decide) rfl (fun ls hl => ?_)
  refine lv_aload_n hx hb d_M_inverse_125 rfl (lv_at hl 1 rfl) ?_
  refine va_get (D := D) (ci := 12) (v := .ref (q 66)) (C := "CoinKeeperModel") (T := F_12) (N := 98) hx hb hts i_12 hown hK hP 0 rfl rfl 75 (by decide) (hts _ gw_1494) (fun _ h9 => h9) rfl d_M_inverse_126 ?_
  refine lv_iload hx hb d_M_inverse_129 (lv_at hl 0 rfl) ?_
  obtain ⟨f1, hc, hf⟩ := bdp1 hf
  refine q_av (wr := [(o, .inr (12, mo q z)), ((q 48), .inl (cy 1, 8, .inl u0)), ((q 49), .inl (cy 1, 8, .inl u1)), ((q 67), .inl (cy 1, 8, .inl u3)), (b1, .inl (cy 1, 8, .inl u4)), (b2, .inl (cy 1, 8, .inl h2))]) (va_runS (As := [.ref (q 66), .int y0]) (rest := []) ⟨hx, hb, hml, hown, hts⟩ (c_M_half l D cy ad fu (q 66) y0 u2 _ hc H.size) ⟨q_cB hts gw_1990 gw_18 gw_1988 hdm_23 ⟨by decide, by decide⟩, hts _ gw_1989⟩ (q_pre (hP.sub [3] rfl) (hD.sub [3] (by decide) rfl) hK hSt hS (va_free hD hS hA [3] rfl) _) rfl rfl hl.1 rfl (lv_room (Nat.le_of_ble_eq_true rfl)) d_M_inverse_131 ⟨Nat.le_of_ble_eq_true rfl, Nat.le_of_ble_eq_true rfl⟩) hP hD hS hA [3] [0, 1, 2, 4, 5, 6] rfl rfl (by decide) (by decide) (fun H locs hP hD hS => ?_)
  clear hc
  have hP : va_P D classes [(o, .inr (12, mo q z)), ((q 48), .inl (cy 1, 8, .inl u0)), ((q 49), .inl (cy 1, 8, .inl u1)), ((q 67), .inl (cy 1, 8, .inl u3)), (b1, .inl (cy 1, 8, .inl u4)), (b2, .inl (cy 1, 8, .inl h2)), ((q 66), .inl (cy 1, 8, .inl f1))] H := hP
  have hD : va_D A [(o, .inr (12, mo q z)), ((q 48), .inl (cy 1, 8, .inl u0)), ((q 49), .inl (cy 1, 8, .inl u1)), ((q 67), .inl (cy 1, 8, .inl u3)), (b1, .inl (cy 1, 8, .inl u4)), (b2, .inl (cy 1, 8, .inl h2)), ((q 66), .inl (cy 1, 8, .inl f1))] := hD
  refine lv_goto (tgt := 77) hx hb d_M_inverse_134 (by decide) ?_
  exact hk_77 _ _ _ _ _ _ hf _ _ _ (hP.sub (ws' := [(o, .inr (12, mo q z)), ((q 48), .inl (cy 1, 8, .inl u0)), ((q 49), .inl (cy 1, 8, .inl u1)), ((q 66), .inl (cy 1, 8, .inl f1)), ((q 67), .inl (cy 1, 8, .inl u3)), (b1, .inl (cy 1, 8, .inl u4)), (b2, .inl (cy 1, 8, .inl h2))]) [0, 1, 2, 6, 3, 4, 5] rfl) (hD.sub (ws' := [(o, .inr (12, mo q z)), ((q 48), .inl (cy 1, 8, .inl u0)), ((q 49), .inl (cy 1, 8, .inl u1)), ((q 66), .inl (cy 1, 8, .inl f1)), ((q 67), .inl (cy 1, 8, .inl u3)), (b1, .inl (cy 1, 8, .inl u4)), (b2, .inl (cy 1, 8, .inl h2))]) [0, 1, 2, 6, 3, 4, 5] (by decide) rfl) hS (lv_sub hl [1, 2, 3] rfl)
set_option maxHeartbeats 8000000 in
set_option maxRecDepth 100000 in
theorem wb_M_inverse_s3x23_77 {p : Program} {l : Launch} {e : Env} {s : State} {m : MethodId} {args : Array Value} {below : List Frame} {meth : Method} {c : Code} {D : va_G} {cy : Nat → ClassId} {A : Nat → Prop} {ad : Nat → Nat} {o : Nat} {q : Nat → Nat} {b1 : Nat} {b2 : Nat} {z : Nat → Int32} {h2 : Nat → Int32} {fu : Nat} {k_57 : (Nat → Int32) → (Nat → Int32) → (Nat → Int32) → (Nat → Int32) → (Nat → Int32) → Option ((Nat → Int32) × (Nat → Int32) × (Nat → Int32) × (Nat → Int32) × (Nat → Int32))} {k_77 : (Nat → Int32) → (Nat → Int32) → (Nat → Int32) → (Nat → Int32) → (Nat → Int32) → Option ((Nat → Int32) × (Nat → Int32) × (Nat → Int32) × (Nat → Int32) × (Nat → Int32))} (F : Fx p s m args meth c b_M_inverse 5 "CoinKeeperModel" "inverse" none D cy ad A) (hk_57 : I_M_inverse_s3x23_57 p l e s m args below meth c D cy A ad o q b1 b2 z h2 k_57) (hk_77 : I_M_inverse_s3x23_77 p l e s m args below meth c D cy A ad o q b1 b2 z h2 k_77) : I_M_inverse_s3x23_77 p l e s m args below meth c D cy A ad o q b1 b2 z h2 (xb_M_inverse_s3x23_77 fu z h2 k_57 k_77) := by
  obtain ⟨hx, hb, hr, hml, hown, hts, hlocks, hK, hA, hSt, hnm, hex⟩ := id F
  intro u0 u1 u2 u3 u4 res hf H locs ls hP hD hS hl
  unfold xb_M_inverse_s3x23_77 at hf
  refine lv_aload_n hx hb d_M_inverse_77 rfl (lv_at hl 0 rfl) ?_
  refine va_get (D := D) (ci := 12) (v := .ref (q 48)) (C := "CoinKeeperModel") (T := F_12) (N := 98) hx hb hts i_12 hown hK hP 0 rfl rfl 56 (by decide) (hts _ gw_1475) (fun _ h9 => h9) rfl d_M_inverse_78 ?_
  refine lv_iconst (v := 0) hx hb d_M_inverse_81 (by decide) ?_
  refine va_iald hx hb hK hP 1 1 rfl rfl (inb_in (by decide)) d_M_inverse_82 ?_
  refine lv_topi (fun v1 ev => ?_)
  have hf := bn ev hf
  clear ev
  refine lv_iconst (v := 1) hx hb d_M_inverse_83 (by decide) ?_
  refine lv_iand hx hb d_M_inverse_84 ?_
  refine lv_if_ne (tgt := 137) hx hb d_M_inverse_85 (by decide) (fun cx => ?_) (fun cx => ?_)
  · have hf := ifn cx hf
    exact w_M_inverse_s3x23_137 F hk_57 fu _ _ _ _ _ _ hf _ _ _ hP hD hS (lv_sub hl [0, 1, 2] rfl)
  · have hf := ifp cx hf
    refine lv_aload_n hx hb d_M_inverse_88 rfl (lv_at hl 0 rfl) ?_
    refine va_get (D := D) (ci := 12) (v := .ref (q 48)) (C := "CoinKeeperModel") (T := F_12) (N := 98) hx hb hts i_12 hown hK hP 0 rfl rfl 56 (by decide) (hts _ gw_1475) (fun _ h9 => h9) rfl d_M_inverse_89 ?_
    refine lv_iconst (v := 0) hx hb d_M_inverse_92 (by decide) ?_
    obtain ⟨f2, hc, hf⟩ := bdp1 hf
    refine q_av (wr := [(o, .inr (12, mo q z)), ((q 49), .inl (cy 1, 8, .inl u1)), ((q 66), .inl (cy 1, 8, .inl u2)), ((q 67), .inl (cy 1, 8, .inl u3)), (b1, .inl (cy 1, 8, .inl u4)), (b2, .inl (cy 1, 8, .inl h2))]) (va_runS (As := [.ref (q 48), .int (0 : Int32)]) (rest := []) ⟨hx, hb, hml, hown, hts⟩ (c_M_half l D cy ad fu (q 48) (0 : Int32) u0 _ hc H.size) ⟨q_cB hts gw_1990 gw_18 gw_1988 hdm_23 ⟨by decide, by decide⟩, hts _ gw_1989⟩ (q_pre (hP.sub [1] rfl) (hD.sub [1] (by decide) rfl) hK hSt hS (va_free hD hS hA [1] rfl) _) rfl rfl hl.1 rfl (lv_room (Nat.le_of_ble_eq_true rfl)) d_M_inverse_93 ⟨Nat.le_of_ble_eq_true rfl, Nat.le_of_ble_eq_true rfl⟩) hP hD hS hA [1] [0, 2, 3, 4, 5, 6] rfl rfl (by decide) (by decide) (fun H locs hP hD hS => ?_)
    clear hc
    have hP : va_P D classes [(o, .inr (12, mo q z)), ((q 49), .inl (cy 1, 8, .inl u1)), ((q 66), .inl (cy 1, 8, .inl u2)), ((q 67), .inl (cy 1, 8, .inl u3)), (b1, .inl (cy 1, 8, .inl u4)), (b2, .inl (cy 1, 8, .inl h2)), ((q 48), .inl (cy 1, 8, .inl f2))] H := hP
    have hD : va_D A [(o, .inr (12, mo q z)), ((q 49), .inl (cy 1, 8, .inl u1)), ((q 66), .inl (cy 1, 8, .inl u2)), ((q 67), .inl (cy 1, 8, .inl u3)), (b1, .inl (cy 1, 8, .inl u4)), (b2, .inl (cy 1, 8, .inl h2)), ((q 48), .inl (cy 1, 8, .inl f2))] := hD
    refine lv_aload_n hx hb d_M_inverse_96 rfl (lv_at hl 0 rfl) ?_
    refine va_get (D := D) (ci := 12) (v := .ref (q 66)) (C := "CoinKeeperModel") (T := F_12) (N := 98) hx hb hts i_12 hown hK hP 0 rfl rfl 75 (by decide) (hts _ gw_1494) (fun _ h9 => h9) rfl d_M_inverse_97 ?_
    refine lv_iconst (v := 0) hx hb d_M_inverse_100 (by decide) ?_
    refine va_iald hx hb hK hP 2 1 rfl rfl (inb_in (by decide)) d_M_inverse_101 ?_
    refine lv_topi (fun v3 ev => ?_)
    have hf := bn ev hf
    clear ev
    refine lv_iconst (v := 1) hx hb d_M_inverse_102 (by decide) ?_
    refine lv_iand hx hb d_M_inverse_103 ?_
    refine lv_if_ne (tgt := 111) hx hb d_M_inverse_104 (by decide) (fun cx => ?_) (fun cx => ?_)
    · have hf := ifn cx hf
      refine lv_aload_n hx hb d_M_inverse_111 rfl (lv_at hl 0 rfl) ?_
      refine va_get (D := D) (ci := 12) (v := .ref (q 66)) (C := "CoinKeeperModel") (T := F_12) (N := 98) hx hb hts i_12 hown hK hP 0 rfl rfl 75 (by decide) (hts _ gw_1494) (fun _ h9 => h9) rfl d_M_inverse_112 ?_
      refine lv_aload_n hx hb d_M_inverse_115 rfl (lv_at hl 0 rfl) ?_
      refine va_get (D := D) (ci := 12) (v := .ref (q 66)) (C := "CoinKeeperModel") (T := F_12) (N := 98) hx hb hts i_12 hown hK hP 0 rfl rfl 75 (by decide) (hts _ gw_1494) (fun _ h9 => h9) rfl d_M_inverse_116 ?_
      refine lv_aload_n hx hb d_M_inverse_119 rfl (lv_at hl 2 rfl) ?_
      obtain ⟨v4, f5, hc, hf⟩ := bdp2 hf
      refine q_ai (wr := [(o, .inr (12, mo q z)), ((q 49), .inl (cy 1, 8, .inl u1)), ((q 67), .inl (cy 1, 8, .inl u3)), (b1, .inl (cy 1, 8, .inl u4)), (b2, .inl (cy 1, 8, .inl h2)), ((q 48), .inl (cy 1, 8, .inl f2))]) (va_runS (As := [.ref (q 66), .ref (q 66), .ref (ad 23)]) (rest := []) ⟨hx, hb, hml, hown, hts⟩ (c_M_add_e10s2x23 l D cy ad fu (q 66) u2 _ hc H.size) ⟨q_cB hts gw_1389 gw_18 gw_1387 hdm_19 ⟨by decide, by decide⟩, hts _ gw_1388⟩ (q_pre (hP.sub [2] rfl) (hD.sub [2] (by decide) rfl) hK hSt hS (va_free hD hS hA [2] rfl) _) rfl rfl hl.1 rfl (lv_room (Nat.le_of_ble_eq_true rfl)) d_M_inverse_120 ⟨Nat.le_of_ble_eq_true rfl, Nat.le_of_ble_eq_true rfl⟩) hP hD hS hA [2] [0, 1, 3, 4, 5, 6] rfl rfl (by decide) (by decide) (fun H locs hP hD hS => ?_)
      clear hc
      have hP : va_P D classes [(o, .inr (12, mo q z)), ((q 49), .inl (cy 1, 8, .inl u1)), ((q 67), .inl (cy 1, 8, .inl u3)), (b1, .inl (cy 1, 8, .inl u4)), (b2, .inl (cy 1, 8, .inl h2)), ((q 48), .inl (cy 1, 8, .inl f2)), ((q 66), .inl (cy 1, 8, .inl f5))] H := hP
      have hD : va_D A [(o, .inr (12, mo q z)), ((q 49), .inl (cy 1, 8, .inl u1)), ((q 67), .inl (cy 1, 8, .inl u3)), (b1, .inl (cy 1, 8, .inl u4)), (b2, .inl (cy 1, 8, .inl h2)), ((q 48), .inl (cy 1, 8, .inl f2)), ((q 66), .inl (cy 1, 8, .inl f5))] := hD
      exact wb_M_inverse_s3x23_123 (fu := fu) F hk_57 hk_77 _ _ _ _ _ _ _ hf _ _ _ (hP.sub (ws' := [(o, .inr (12, mo q z)), ((q 48), .inl (cy 1, 8, .inl f2)), ((q 49), .inl (cy 1, 8, .inl u1)), ((q 66), .inl (cy 1, 8, .inl f5)), ((q 67), .inl (cy 1, 8, .inl u3)), (b1, .inl (cy 1, 8, .inl u4)), (b2, .inl (cy 1, 8, .inl h2))]) [0, 5, 1, 6, 2, 3, 4] rfl) (hD.sub (ws' := [(o, .inr (12, mo q z)), ((q 48), .inl (cy 1, 8, .inl f2)), ((q 49), .inl (cy 1, 8, .inl u1)), ((q 66), .inl (cy 1, 8, .inl f5)), ((q 67), .inl (cy 1, 8, .inl u3)), (b1, .inl (cy 1, 8, .inl u4)), (b2, .inl (cy 1, 8, .inl h2))]) [0, 5, 1, 6, 2, 3, 4] (by decide) rfl) hS (lv_sub hl [0, 1, 2] rfl)
    · have hf := ifp cx hf
      refine lv_iconst (v := 0) hx hb d_M_inverse_107 (by decide) ?_
      refine lv_goto (tgt := 123) hx hb d_M_inverse_108 (by decide) ?_
      exact wb_M_inverse_s3x23_123 (fu := fu) F hk_57 hk_77 _ _ _ _ _ _ _ hf _ _ _ (hP.sub (ws' := [(o, .inr (12, mo q z)), ((q 48), .inl (cy 1, 8, .inl f2)), ((q 49), .inl (cy 1, 8, .inl u1)), ((q 66), .inl (cy 1, 8, .inl u2)), ((q 67), .inl (cy 1, 8, .inl u3)), (b1, .inl (cy 1, 8, .inl u4)), (b2, .inl (cy 1, 8, .inl h2))]) [0, 6, 1, 2, 3, 4, 5] rfl) (hD.sub (ws' := [(o, .inr (12, mo q z)), ((q 48), .inl (cy 1, 8, .inl f2)), ((q 49), .inl (cy 1, 8, .inl u1)), ((q 66), .inl (cy 1, 8, .inl u2)), ((q 67), .inl (cy 1, 8, .inl u3)), (b1, .inl (cy 1, 8, .inl u4)), (b2, .inl (cy 1, 8, .inl h2))]) [0, 6, 1, 2, 3, 4, 5] (by decide) rfl) hS (lv_sub hl [0, 1, 2] rfl)
theorem w_M_inverse_s3x23_77 {p : Program} {l : Launch} {e : Env} {s : State} {m : MethodId} {args : Array Value} {below : List Frame} {meth : Method} {c : Code} {D : va_G} {cy : Nat → ClassId} {A : Nat → Prop} {ad : Nat → Nat} {o : Nat} {q : Nat → Nat} {b1 : Nat} {b2 : Nat} {z : Nat → Int32} {h2 : Nat → Int32} {fu : Nat} {k_57 : (Nat → Int32) → (Nat → Int32) → (Nat → Int32) → (Nat → Int32) → (Nat → Int32) → Option ((Nat → Int32) × (Nat → Int32) × (Nat → Int32) × (Nat → Int32) × (Nat → Int32))} (F : Fx p s m args meth c b_M_inverse 5 "CoinKeeperModel" "inverse" none D cy ad A) (hk_57 : I_M_inverse_s3x23_57 p l e s m args below meth c D cy A ad o q b1 b2 z h2 k_57) : ∀ n : Nat, I_M_inverse_s3x23_77 p l e s m args below meth c D cy A ad o q b1 b2 z h2 (x_M_inverse_s3x23_77 fu z h2 k_57 n)
  | 0 => fun _ _ _ _ _ _ hf => nomatch (show (none : Option ((Nat → Int32) × (Nat → Int32) × (Nat → Int32) × (Nat → Int32) × (Nat → Int32))) = some _ from hf)
  | n + 1 => wb_M_inverse_s3x23_77 F hk_57 (w_M_inverse_s3x23_77 F hk_57 n)
set_option maxHeartbeats 8000000 in
set_option maxRecDepth 100000 in
theorem wb_M_inverse_s3x23_57 {p : Program} {l : Launch} {e : Env} {s : State} {m : MethodId} {args : Array Value} {below : List Frame} {meth : Method} {c : Code} {D : va_G} {cy : Nat → ClassId} {A : Nat → Prop} {ad : Nat → Nat} {o : Nat} {q : Nat → Nat} {b1 : Nat} {b2 : Nat} {z : Nat → Int32} {h2 : Nat → Int32} {fu : Nat} {k_57 : (Nat → Int32) → (Nat → Int32) → (Nat → Int32) → (Nat → Int32) → (Nat → Int32) → Option ((Nat → Int32) × (Nat → Int32) × (Nat → Int32) × (Nat → Int32) × (Nat → Int32))} (F : Fx p s m args meth c b_M_inverse 5 "CoinKeeperModel" "inverse" none D cy ad A) (hk_57 : I_M_inverse_s3x23_57 p l e s m args below meth c D cy A ad o q b1 b2 z h2 k_57) : I_M_inverse_s3x23_57 p l e s m args below meth c D cy A ad o q b1 b2 z h2 (xb_M_inverse_s3x23_57 fu z h2 k_57) := by
  obtain ⟨hx, hb, hr, hml, hown, hts, hlocks, hK, hA, hSt, hnm, hex⟩ := id F
  intro u0 u1 u2 u3 u4 res hf H locs ls hP hD hS hl
  unfold xb_M_inverse_s3x23_57 at hf
  refine lv_aload_n hx hb d_M_inverse_57 rfl (lv_at hl 0 rfl) ?_
  refine va_get (D := D) (ci := 12) (v := .ref (q 48)) (C := "CoinKeeperModel") (T := F_12) (N := 98) hx hb hts i_12 hown hK hP 0 rfl rfl 56 (by decide) (hts _ gw_1475) (fun _ h9 => h9) rfl d_M_inverse_58 ?_
  obtain ⟨v1, hc, hf⟩ := bdp1 hf
  refine q_ai (wr := [(o, .inr (12, mo q z)), ((q 49), .inl (cy 1, 8, .inl u1)), ((q 66), .inl (cy 1, 8, .inl u2)), ((q 67), .inl (cy 1, 8, .inl u3)), (b1, .inl (cy 1, 8, .inl u4)), (b2, .inl (cy 1, 8, .inl h2))]) (va_runS (As := [.ref (q 48)]) (rest := []) ⟨hx, hb, hml, hown, hts⟩ (c_M_isOne l D cy ad fu (q 48) u0 _ hc H.size) ⟨q_cB hts gw_2011 gw_18 gw_2009 hdm_28 ⟨by decide, by decide⟩, hts _ gw_2010⟩ (q_pre (hP.sub [1] rfl) (hD.sub [1] (by decide) rfl) hK hSt hS (va_free hD hS hA [1] rfl) _) rfl rfl hl.1 rfl (lv_room (Nat.le_of_ble_eq_true rfl)) d_M_inverse_61 ⟨Nat.le_of_ble_eq_true rfl, Nat.le_of_ble_eq_true rfl⟩) hP hD hS hA [1] [0, 2, 3, 4, 5, 6] rfl rfl (by decide) (by decide) (fun H locs hP hD hS => ?_)
  clear hc
  have hP : va_P D classes [(o, .inr (12, mo q z)), ((q 49), .inl (cy 1, 8, .inl u1)), ((q 66), .inl (cy 1, 8, .inl u2)), ((q 67), .inl (cy 1, 8, .inl u3)), (b1, .inl (cy 1, 8, .inl u4)), (b2, .inl (cy 1, 8, .inl h2)), ((q 48), .inl (cy 1, 8, .inl u0))] H := hP
  have hD : va_D A [(o, .inr (12, mo q z)), ((q 49), .inl (cy 1, 8, .inl u1)), ((q 66), .inl (cy 1, 8, .inl u2)), ((q 67), .inl (cy 1, 8, .inl u3)), (b1, .inl (cy 1, 8, .inl u4)), (b2, .inl (cy 1, 8, .inl h2)), ((q 48), .inl (cy 1, 8, .inl u0))] := hD
  refine lv_if_ne (tgt := 311) hx hb d_M_inverse_64 (by decide) (fun cx => ?_) (fun cx => ?_)
  · have hf := ifn cx hf
    exact wb_M_inverse_s3x23_311 (fu := fu) F _ _ _ _ _ _ hf _ _ _ (hP.sub (ws' := [(o, .inr (12, mo q z)), ((q 48), .inl (cy 1, 8, .inl u0)), ((q 49), .inl (cy 1, 8, .inl u1)), ((q 66), .inl (cy 1, 8, .inl u2)), ((q 67), .inl (cy 1, 8, .inl u3)), (b1, .inl (cy 1, 8, .inl u4)), (b2, .inl (cy 1, 8, .inl h2))]) [0, 6, 1, 2, 3, 4, 5] rfl) (hD.sub (ws' := [(o, .inr (12, mo q z)), ((q 48), .inl (cy 1, 8, .inl u0)), ((q 49), .inl (cy 1, 8, .inl u1)), ((q 66), .inl (cy 1, 8, .inl u2)), ((q 67), .inl (cy 1, 8, .inl u3)), (b1, .inl (cy 1, 8, .inl u4)), (b2, .inl (cy 1, 8, .inl h2))]) [0, 6, 1, 2, 3, 4, 5] (by decide) rfl) hS (lv_sub hl [0, 1] rfl)
  · have hf := ifp cx hf
    refine lv_aload_n hx hb d_M_inverse_67 rfl (lv_at hl 0 rfl) ?_
    refine va_get (D := D) (ci := 12) (v := .ref (q 49)) (C := "CoinKeeperModel") (T := F_12) (N := 98) hx hb hts i_12 hown hK hP 0 rfl rfl 57 (by decide) (hts _ gw_1476) (fun _ h9 => h9) rfl d_M_inverse_68 ?_
    obtain ⟨v2, hc, hf⟩ := bdp1 hf
    refine q_ai (wr := [(o, .inr (12, mo q z)), ((q 66), .inl (cy 1, 8, .inl u2)), ((q 67), .inl (cy 1, 8, .inl u3)), (b1, .inl (cy 1, 8, .inl u4)), (b2, .inl (cy 1, 8, .inl h2)), ((q 48), .inl (cy 1, 8, .inl u0))]) (va_runS (As := [.ref (q 49)]) (rest := []) ⟨hx, hb, hml, hown, hts⟩ (c_M_isOne l D cy ad fu (q 49) u1 _ hc H.size) ⟨q_cB hts gw_2011 gw_18 gw_2009 hdm_28 ⟨by decide, by decide⟩, hts _ gw_2010⟩ (q_pre (hP.sub [1] rfl) (hD.sub [1] (by decide) rfl) hK hSt hS (va_free hD hS hA [1] rfl) _) rfl rfl hl.1 rfl (lv_room (Nat.le_of_ble_eq_true rfl)) d_M_inverse_71 ⟨Nat.le_of_ble_eq_true rfl, Nat.le_of_ble_eq_true rfl⟩) hP hD hS hA [1] [0, 2, 3, 4, 5, 6] rfl rfl (by decide) (by decide) (fun H locs hP hD hS => ?_)
    clear hc
    have hP : va_P D classes [(o, .inr (12, mo q z)), ((q 66), .inl (cy 1, 8, .inl u2)), ((q 67), .inl (cy 1, 8, .inl u3)), (b1, .inl (cy 1, 8, .inl u4)), (b2, .inl (cy 1, 8, .inl h2)), ((q 48), .inl (cy 1, 8, .inl u0)), ((q 49), .inl (cy 1, 8, .inl u1))] H := hP
    have hD : va_D A [(o, .inr (12, mo q z)), ((q 66), .inl (cy 1, 8, .inl u2)), ((q 67), .inl (cy 1, 8, .inl u3)), (b1, .inl (cy 1, 8, .inl u4)), (b2, .inl (cy 1, 8, .inl h2)), ((q 48), .inl (cy 1, 8, .inl u0)), ((q 49), .inl (cy 1, 8, .inl u1))] := hD
    refine lv_if_ne (tgt := 311) hx hb d_M_inverse_74 (by decide) (fun cx => ?_) (fun cx => ?_)
    · have hf := ifn cx hf
      exact wb_M_inverse_s3x23_311 (fu := fu) F _ _ _ _ _ _ hf _ _ _ (hP.sub (ws' := [(o, .inr (12, mo q z)), ((q 48), .inl (cy 1, 8, .inl u0)), ((q 49), .inl (cy 1, 8, .inl u1)), ((q 66), .inl (cy 1, 8, .inl u2)), ((q 67), .inl (cy 1, 8, .inl u3)), (b1, .inl (cy 1, 8, .inl u4)), (b2, .inl (cy 1, 8, .inl h2))]) [0, 5, 6, 1, 2, 3, 4] rfl) (hD.sub (ws' := [(o, .inr (12, mo q z)), ((q 48), .inl (cy 1, 8, .inl u0)), ((q 49), .inl (cy 1, 8, .inl u1)), ((q 66), .inl (cy 1, 8, .inl u2)), ((q 67), .inl (cy 1, 8, .inl u3)), (b1, .inl (cy 1, 8, .inl u4)), (b2, .inl (cy 1, 8, .inl h2))]) [0, 5, 6, 1, 2, 3, 4] (by decide) rfl) hS (lv_sub hl [0, 1] rfl)
    · have hf := ifp cx hf
      exact w_M_inverse_s3x23_77 F hk_57 fu _ _ _ _ _ _ hf _ _ _ (hP.sub (ws' := [(o, .inr (12, mo q z)), ((q 48), .inl (cy 1, 8, .inl u0)), ((q 49), .inl (cy 1, 8, .inl u1)), ((q 66), .inl (cy 1, 8, .inl u2)), ((q 67), .inl (cy 1, 8, .inl u3)), (b1, .inl (cy 1, 8, .inl u4)), (b2, .inl (cy 1, 8, .inl h2))]) [0, 5, 6, 1, 2, 3, 4] rfl) (hD.sub (ws' := [(o, .inr (12, mo q z)), ((q 48), .inl (cy 1, 8, .inl u0)), ((q 49), .inl (cy 1, 8, .inl u1)), ((q 66), .inl (cy 1, 8, .inl u2)), ((q 67), .inl (cy 1, 8, .inl u3)), (b1, .inl (cy 1, 8, .inl u4)), (b2, .inl (cy 1, 8, .inl h2))]) [0, 5, 6, 1, 2, 3, 4] (by decide) rfl) hS (lv_sub hl [0, 1, 2] rfl)
theorem w_M_inverse_s3x23_57 {p : Program} {l : Launch} {e : Env} {s : State} {m : MethodId} {args : Array Value} {below : List Frame} {meth : Method} {c : Code} {D : va_G} {cy : Nat → ClassId} {A : Nat → Prop} {ad : Nat → Nat} {o : Nat} {q : Nat → Nat} {b1 : Nat} {b2 : Nat} {z : Nat → Int32} {h2 : Nat → Int32} {fu : Nat} (F : Fx p s m args meth c b_M_inverse 5 "CoinKeeperModel" "inverse" none D cy ad A) : ∀ n : Nat, I_M_inverse_s3x23_57 p l e s m args below meth c D cy A ad o q b1 b2 z h2 (x_M_inverse_s3x23_57 fu z h2 n)
  | 0 => fun _ _ _ _ _ _ hf => nomatch (show (none : Option ((Nat → Int32) × (Nat → Int32) × (Nat → Int32) × (Nat → Int32) × (Nat → Int32))) = some _ from hf)
  | n + 1 => wb_M_inverse_s3x23_57 F (w_M_inverse_s3x23_57 F n)
set_option maxHeartbeats 8000000 in
set_option maxRecDepth 100000 in
theorem wb_M_inverse_s3x23_42 {p : Program} {l : Launch} {e : Env} {s : State} {m : MethodId} {args : Array Value} {below : List Frame} {meth : Method} {c : Code} {D : va_G} {cy : Nat → ClassId} {A : Nat → Prop} {ad : Nat → Nat} {o : Nat} {q : Nat → Nat} {b1 : Nat} {b2 : Nat} {z : Nat → Int32} {h2 : Nat → Int32} {fu : Nat} {k_19 : Int32 → (Nat → Int32) → (Nat → Int32) → (Nat → Int32) → (Nat → Int32) → (Nat → Int32) → Option ((Nat → Int32) × (Nat → Int32) × (Nat → Int32) × (Nat → Int32) × (Nat → Int32))} (F : Fx p s m args meth c b_M_inverse 5 "CoinKeeperModel" "inverse" none D cy ad A) (hk_19 : I_M_inverse_s3x23_19 p l e s m args below meth c D cy A ad o q b1 b2 z h2 k_19) : I_M_inverse_s3x23_42 p l e s m args below meth c D cy A ad o q b1 b2 z h2 (xb_M_inverse_s3x23_42 fu z h2 k_19) := by
  obtain ⟨hx, hb, hr, hml, hown, hts, hlocks, hK, hA, hSt, hnm, hex⟩ := id F
  intro x4 y0 y1 u0 u1 u2 u3 u4 res hf H locs ls hP hD hS hl
  unfold xb_M_inverse_s3x23_42 at hf
  obtain ⟨hg, hf⟩ := gdp hf
  refine va_iast hx hb hK hP hD hS 3 1 rfl rfl (inb_in hg) d_M_inverse_42 (fun H locs hP hD hS => ?_)
  obtain ⟨f1, ev, hf⟩ := bne hf
  have hP : va_P D classes [(o, .inr (12, mo q z)), ((q 48), .inl (cy 1, 8, .inl u0)), ((q 49), .inl (cy 1, 8, .inl u1)), ((q 66), .inl (cy 1, 8, .inl f1)), ((q 67), .inl (cy 1, 8, .inl u3)), (b1, .inl (cy 1, 8, .inl u4)), (b2, .inl (cy 1, 8, .inl h2))] H := by rw [ev]; exact hP
  have hD : va_D A [(o, .inr (12, mo q z)), ((q 48), .inl (cy 1, 8, .inl u0)), ((q 49), .inl (cy 1, 8, .inl u1)), ((q 66), .inl (cy 1, 8, .inl f1)), ((q 67), .inl (cy 1, 8, .inl u3)), (b1, .inl (cy 1, 8, .inl u4)), (b2, .inl (cy 1, 8, .inl h2))] := by rw [ev]; exact hD
  clear ev
  refine lv_aload_n hx hb d_M_inverse_43 rfl (lv_at hl 0 rfl) ?_
  refine va_get (D := D) (ci := 12) (v := .ref (q 67)) (C := "CoinKeeperModel") (T := F_12) (N := 98) hx hb hts i_12 hown hK hP 0 rfl rfl 76 (by decide) (hts _ gw_1495) (fun _ h9 => h9) rfl d_M_inverse_44 ?_
  refine lv_iload hx hb d_M_inverse_47 (lv_at hl 3 rfl) ?_
  refine lv_iconst (v := 0) hx hb d_M_inverse_49 (by decide) ?_
  obtain ⟨hg, hf⟩ := gdp hf
  refine va_iast hx hb hK hP hD hS 4 1 rfl rfl (inb_in hg) d_M_inverse_50 (fun H locs hP hD hS => ?_)
  obtain ⟨f2, ev, hf⟩ := bne hf
  have hP : va_P D classes [(o, .inr (12, mo q z)), ((q 48), .inl (cy 1, 8, .inl u0)), ((q 49), .inl (cy 1, 8, .inl u1)), ((q 66), .inl (cy 1, 8, .inl f1)), ((q 67), .inl (cy 1, 8, .inl f2)), (b1, .inl (cy 1, 8, .inl u4)), (b2, .inl (cy 1, 8, .inl h2))] H := by rw [ev]; exact hP
  have hD : va_D A [(o, .inr (12, mo q z)), ((q 48), .inl (cy 1, 8, .inl u0)), ((q 49), .inl (cy 1, 8, .inl u1)), ((q 66), .inl (cy 1, 8, .inl f1)), ((q 67), .inl (cy 1, 8, .inl f2)), (b1, .inl (cy 1, 8, .inl u4)), (b2, .inl (cy 1, 8, .inl h2))] := by rw [ev]; exact hD
  clear ev
  obtain ⟨v3, ev, hf⟩ := bne hf
  refine lv_iinc (v := v3) (lv' := [(4, .int v3), (0, .ref o), (1, .ref b1), (3, .ref (ad 23))]) hx hb d_M_inverse_51 hl (k := 3) rfl (by rw [ev]; rfl) (by decide) rfl (fun ls hl => ?_)
  clear ev
  refine lv_goto (tgt := 19) hx hb d_M_inverse_54 (by decide) ?_
  exact hk_19 _ _ _ _ _ _ _ hf _ _ _ hP hD hS (lv_sub hl [1, 2, 3, 0] rfl)
set_option maxHeartbeats 8000000 in
set_option maxRecDepth 100000 in
theorem wb_M_inverse_s3x23_19 {p : Program} {l : Launch} {e : Env} {s : State} {m : MethodId} {args : Array Value} {below : List Frame} {meth : Method} {c : Code} {D : va_G} {cy : Nat → ClassId} {A : Nat → Prop} {ad : Nat → Nat} {o : Nat} {q : Nat → Nat} {b1 : Nat} {b2 : Nat} {z : Nat → Int32} {h2 : Nat → Int32} {fu : Nat} {k_19 : Int32 → (Nat → Int32) → (Nat → Int32) → (Nat → Int32) → (Nat → Int32) → (Nat → Int32) → Option ((Nat → Int32) × (Nat → Int32) × (Nat → Int32) × (Nat → Int32) × (Nat → Int32))} (F : Fx p s m args meth c b_M_inverse 5 "CoinKeeperModel" "inverse" none D cy ad A) (hk_19 : I_M_inverse_s3x23_19 p l e s m args below meth c D cy A ad o q b1 b2 z h2 k_19) : I_M_inverse_s3x23_19 p l e s m args below meth c D cy A ad o q b1 b2 z h2 (xb_M_inverse_s3x23_19 fu z h2 k_19) := by
  obtain ⟨hx, hb, hr, hml, hown, hts, hlocks, hK, hA, hSt, hnm, hex⟩ := id F
  intro x4 u0 u1 u2 u3 u4 res hf H locs ls hP hD hS hl
  unfold xb_M_inverse_s3x23_19 at hf
  refine lv_iload hx hb d_M_inverse_19 (lv_at hl 3 rfl) ?_
  refine lv_bipush (v := 8) hx hb d_M_inverse_21 (by decide) ?_
  refine lv_icmp_ge (tgt := 57) hx hb d_M_inverse_23 (by decide) (fun cx => ?_) (fun cx => ?_)
  · have hf := ifp cx hf
    exact w_M_inverse_s3x23_57 F fu _ _ _ _ _ _ hf _ _ _ hP hD hS (lv_sub hl [0, 1, 2] rfl)
  · have hf := ifn cx hf
    refine lv_aload_n hx hb d_M_inverse_26 rfl (lv_at hl 0 rfl) ?_
    refine va_get (D := D) (ci := 12) (v := .ref (q 66)) (C := "CoinKeeperModel") (T := F_12) (N := 98) hx hb hts i_12 hown hK hP 0 rfl rfl 75 (by decide) (hts _ gw_1494) (fun _ h9 => h9) rfl d_M_inverse_27 ?_
    refine lv_iload hx hb d_M_inverse_30 (lv_at hl 3 rfl) ?_
    refine lv_iload hx hb d_M_inverse_32 (lv_at hl 3 rfl) ?_
    refine lv_if_ne (tgt := 41) hx hb d_M_inverse_34 (by decide) (fun cx => ?_) (fun cx => ?_)
    · have hf := ifn cx hf
      refine lv_iconst (v := 0) hx hb d_M_inverse_41 (by decide) ?_
      exact wb_M_inverse_s3x23_42 (fu := fu) F hk_19 _ _ _ _ _ _ _ _ _ hf _ _ _ hP hD hS (lv_sub hl [0, 1, 2, 3] rfl)
    · have hf := ifp cx hf
      refine lv_iconst (v := 1) hx hb d_M_inverse_37 (by decide) ?_
      refine lv_goto (tgt := 42) hx hb d_M_inverse_38 (by decide) ?_
      exact wb_M_inverse_s3x23_42 (fu := fu) F hk_19 _ _ _ _ _ _ _ _ _ hf _ _ _ hP hD hS (lv_sub hl [0, 1, 2, 3] rfl)
theorem w_M_inverse_s3x23_19 {p : Program} {l : Launch} {e : Env} {s : State} {m : MethodId} {args : Array Value} {below : List Frame} {meth : Method} {c : Code} {D : va_G} {cy : Nat → ClassId} {A : Nat → Prop} {ad : Nat → Nat} {o : Nat} {q : Nat → Nat} {b1 : Nat} {b2 : Nat} {z : Nat → Int32} {h2 : Nat → Int32} {fu : Nat} (F : Fx p s m args meth c b_M_inverse 5 "CoinKeeperModel" "inverse" none D cy ad A) : ∀ n : Nat, I_M_inverse_s3x23_19 p l e s m args below meth c D cy A ad o q b1 b2 z h2 (x_M_inverse_s3x23_19 fu z h2 n)
  | 0 => fun _ _ _ _ _ _ _ hf => nomatch (show (none : Option ((Nat → Int32) × (Nat → Int32) × (Nat → Int32) × (Nat → Int32) × (Nat → Int32))) = some _ from hf)
  | n + 1 => wb_M_inverse_s3x23_19 F (w_M_inverse_s3x23_19 F n)
set_option maxHeartbeats 8000000 in
set_option maxRecDepth 100000 in
theorem we_M_inverse_s3x23 {p : Program} {l : Launch} {e : Env} {s : State} {m : MethodId} {args : Array Value} {below : List Frame} {meth : Method} {c : Code} {D : va_G} {cy : Nat → ClassId} {A : Nat → Prop} {ad : Nat → Nat} {o : Nat} {q : Nat → Nat} {b1 : Nat} {b2 : Nat} {z : Nat → Int32} {h2 : Nat → Int32} {fu : Nat} (F : Fx p s m args meth c b_M_inverse 5 "CoinKeeperModel" "inverse" none D cy ad A) : I_M_inverse_s3x23_e p l e s m args below meth c D cy A ad o q b1 b2 z h2 (x_M_inverse_s3x23 fu z h2) := by
  obtain ⟨hx, hb, hr, hml, hown, hts, hlocks, hK, hA, hSt, hnm, hex⟩ := id F
  intro u0 u1 u2 u3 u4 res hf H locs ls hP hD hS hl
  unfold x_M_inverse_s3x23 at hf
  refine lv_aload_n hx hb d_M_inverse_0 rfl (lv_at hl 0 rfl) ?_
  refine va_get (D := D) (ci := 12) (v := .ref (q 48)) (C := "CoinKeeperModel") (T := F_12) (N := 98) hx hb hts i_12 hown hK hP 0 rfl rfl 56 (by decide) (hts _ gw_1475) (fun _ h9 => h9) rfl d_M_inverse_1 ?_
  refine lv_aload_n hx hb d_M_inverse_4 rfl (lv_at hl 2 rfl) ?_
  obtain ⟨f1, hc, hf⟩ := bdp1 hf
  refine q_av (wr := [(o, .inr (12, mo q z)), ((q 49), .inl (cy 1, 8, .inl u1)), ((q 66), .inl (cy 1, 8, .inl u2)), ((q 67), .inl (cy 1, 8, .inl u3)), (b1, .inl (cy 1, 8, .inl u4))]) (va_runS (As := [.ref (q 48), .ref b2]) (rest := []) ⟨hx, hb, hml, hown, hts⟩ (c_M_copy l D cy ad fu (q 48) b2 h2 u0 _ hc H.size) ⟨q_cB hts gw_1397 gw_18 gw_1395 hdm_24 ⟨by decide, by decide⟩, hts _ gw_1396⟩ (q_pre (hP.sub [1, 6] rfl) (hD.sub [1, 6] (by decide) rfl) hK hSt hS (va_free hD hS hA [1, 6] rfl) _) rfl rfl hl.1 rfl (lv_room (Nat.le_of_ble_eq_true rfl)) d_M_inverse_5 ⟨Nat.le_of_ble_eq_true rfl, Nat.le_of_ble_eq_true rfl⟩) hP hD hS hA [1, 6] [0, 2, 3, 4, 5] rfl rfl (by decide) (by decide) (fun H locs hP hD hS => ?_)
  clear hc
  have hP : va_P D classes [(o, .inr (12, mo q z)), ((q 49), .inl (cy 1, 8, .inl u1)), ((q 66), .inl (cy 1, 8, .inl u2)), ((q 67), .inl (cy 1, 8, .inl u3)), (b1, .inl (cy 1, 8, .inl u4)), ((q 48), .inl (cy 1, 8, .inl f1)), (b2, .inl (cy 1, 8, .inl h2))] H := hP
  have hD : va_D A [(o, .inr (12, mo q z)), ((q 49), .inl (cy 1, 8, .inl u1)), ((q 66), .inl (cy 1, 8, .inl u2)), ((q 67), .inl (cy 1, 8, .inl u3)), (b1, .inl (cy 1, 8, .inl u4)), ((q 48), .inl (cy 1, 8, .inl f1)), (b2, .inl (cy 1, 8, .inl h2))] := hD
  refine lv_aload_n hx hb d_M_inverse_8 rfl (lv_at hl 0 rfl) ?_
  refine va_get (D := D) (ci := 12) (v := .ref (q 49)) (C := "CoinKeeperModel") (T := F_12) (N := 98) hx hb hts i_12 hown hK hP 0 rfl rfl 57 (by decide) (hts _ gw_1476) (fun _ h9 => h9) rfl d_M_inverse_9 ?_
  refine lv_aload_n hx hb d_M_inverse_12 rfl (lv_at hl 3 rfl) ?_
  obtain ⟨f2, hc, hf⟩ := bdp1 hf
  refine q_av (wr := [(o, .inr (12, mo q z)), ((q 66), .inl (cy 1, 8, .inl u2)), ((q 67), .inl (cy 1, 8, .inl u3)), (b1, .inl (cy 1, 8, .inl u4)), ((q 48), .inl (cy 1, 8, .inl f1)), (b2, .inl (cy 1, 8, .inl h2))]) (va_runS (As := [.ref (q 49), .ref (ad 23)]) (rest := []) ⟨hx, hb, hml, hown, hts⟩ (c_M_copy_s1x23 l D cy ad fu (q 49) u1 _ hc H.size) ⟨q_cB hts gw_1397 gw_18 gw_1395 hdm_24 ⟨by decide, by decide⟩, hts _ gw_1396⟩ (q_pre (hP.sub [1] rfl) (hD.sub [1] (by decide) rfl) hK hSt hS (va_free hD hS hA [1] rfl) _) rfl rfl hl.1 rfl (lv_room (Nat.le_of_ble_eq_true rfl)) d_M_inverse_13 ⟨Nat.le_of_ble_eq_true rfl, Nat.le_of_ble_eq_true rfl⟩) hP hD hS hA [1] [0, 2, 3, 4, 5, 6] rfl rfl (by decide) (by decide) (fun H locs hP hD hS => ?_)
  clear hc
  have hP : va_P D classes [(o, .inr (12, mo q z)), ((q 66), .inl (cy 1, 8, .inl u2)), ((q 67), .inl (cy 1, 8, .inl u3)), (b1, .inl (cy 1, 8, .inl u4)), ((q 48), .inl (cy 1, 8, .inl f1)), (b2, .inl (cy 1, 8, .inl h2)), ((q 49), .inl (cy 1, 8, .inl f2))] H := hP
  have hD : va_D A [(o, .inr (12, mo q z)), ((q 66), .inl (cy 1, 8, .inl u2)), ((q 67), .inl (cy 1, 8, .inl u3)), (b1, .inl (cy 1, 8, .inl u4)), ((q 48), .inl (cy 1, 8, .inl f1)), (b2, .inl (cy 1, 8, .inl h2)), ((q 49), .inl (cy 1, 8, .inl f2))] := hD
  refine lv_iconst (v := 0) hx hb d_M_inverse_16 (by decide) ?_
  refine lv_istore (lv' := [(4, .int (0 : Int32)), (0, .ref o), (1, .ref b1), (2, .ref b2), (3, .ref (ad 23))]) hx hb d_M_inverse_17 hl (by decide) rfl (fun ls hl => ?_)
  exact w_M_inverse_s3x23_19 F fu _ _ _ _ _ _ _ hf _ _ _ (hP.sub (ws' := [(o, .inr (12, mo q z)), ((q 48), .inl (cy 1, 8, .inl f1)), ((q 49), .inl (cy 1, 8, .inl f2)), ((q 66), .inl (cy 1, 8, .inl u2)), ((q 67), .inl (cy 1, 8, .inl u3)), (b1, .inl (cy 1, 8, .inl u4)), (b2, .inl (cy 1, 8, .inl h2))]) [0, 4, 6, 1, 2, 3, 5] rfl) (hD.sub (ws' := [(o, .inr (12, mo q z)), ((q 48), .inl (cy 1, 8, .inl f1)), ((q 49), .inl (cy 1, 8, .inl f2)), ((q 66), .inl (cy 1, 8, .inl u2)), ((q 67), .inl (cy 1, 8, .inl u3)), (b1, .inl (cy 1, 8, .inl u4)), (b2, .inl (cy 1, 8, .inl h2))]) [0, 4, 6, 1, 2, 3, 5] (by decide) rfl) hS (lv_sub hl [1, 2, 4, 0] rfl)
theorem c_M_inverse_s3x23 (l : Launch) (D : va_G) (cy : Nat → ClassId) (ad : Nat → Nat) (fu : Nat) (o : Nat) (q : Nat → Nat) (b1 : Nat) (b2 : Nat) (z : Nat → Int32) (h2 : Nat → Int32) (u0 : Nat → Int32) (u1 : Nat → Int32) (u2 : Nat → Int32) (u3 : Nat → Int32) (u4 : Nat → Int32) (res : (Nat → Int32) × (Nat → Int32) × (Nat → Int32) × (Nat → Int32) × (Nat → Int32)) (hf : x_M_inverse_s3x23 fu z h2 u0 u1 u2 u3 u4 = some res) (sz : Nat) : Met l ({ cls := "CoinKeeperModel", name := "inverse", desc := "([I[I[I)V" } : Jvm.MethodName) (.code ({ cls := "CoinKeeperModel", name := "inverse", desc := "([I[I[I)V" } : Jvm.MethodName) b_M_inverse 5 none :: gw) rm_M_inverse_s3x23 (va_Pc [.ref o, .ref b1, .ref b2, .ref (ad 23)] (Pr D cy ad [(o, .inr (12, mo q z)), ((q 48), .inl (cy 1, 8, .inl u0)), ((q 49), .inl (cy 1, 8, .inl u1)), ((q 66), .inl (cy 1, 8, .inl u2)), ((q 67), .inl (cy 1, 8, .inl u3)), (b1, .inl (cy 1, 8, .inl u4)), (b2, .inl (cy 1, 8, .inl h2))] sz)) (q_M_inverse_s3x23 D cy (va_A [(o, .inr (12, mo q z)), ((q 48), .inl (cy 1, 8, .inl u0)), ((q 49), .inl (cy 1, 8, .inl u1)), ((q 66), .inl (cy 1, 8, .inl u2)), ((q 67), .inl (cy 1, 8, .inl u3)), (b1, .inl (cy 1, 8, .inl u4)), (b2, .inl (cy 1, 8, .inl h2))] sz) o q b1 b2 z h2 res) 0 0 (va_A [(o, .inr (12, mo q z)), ((q 48), .inl (cy 1, 8, .inl u0)), ((q 49), .inl (cy 1, 8, .inl u1)), ((q 66), .inl (cy 1, 8, .inl u2)), ((q 67), .inl (cy 1, 8, .inl u3)), (b1, .inl (cy 1, 8, .inl u4)), (b2, .inl (cy 1, 8, .inl h2))] sz) :=
  q_met (Qc := fun A => q_M_inverse_s3x23 D cy A o q b1 b2 z h2 res) (by decide) rfl rfl (Nat.le_of_ble_eq_true rfl) (fun p e s m below meth c ls F hP hD hS hl => we_M_inverse_s3x23 (fu := fu) F u0 u1 u2 u3 u4 res hf _ _ _ hP hD hS hl) sz
abbrev rm_M_add_e10e20 : Room := { frames := 0, cells := 0, slots := 0, locals := 0 }
abbrev q_M_add_e10e20 (D : va_G) (cy : Nat → ClassId) (A : Nat → Prop) (b0 : Nat) (res : Int32 × (Nat → Int32)) : Array Value → State → Outcome → State → Prop := va_Qi (fun r' (_ : Unit) => r' = res.1) (fun _ t => Po D cy A [(b0, .inl (cy 1, 8, .inl res.2))] t) A
def I_M_add_e10e20_5 (p : Program) (l : Launch) (e : Env) (s : State) (m : MethodId) (args : Array Value) (below : List Frame) (meth : Method) (c : Code) (D : va_G) (cy : Nat → ClassId) (A : Nat → Prop) (ad : Nat → Nat) (b0 : Nat) (k : Int64 → Int32 → (Nat → Int32) → Option (Int32 × (Nat → Int32))) : Prop :=
  ∀ (x3 : Int64) (x5 : Int32) (u0 : Nat → Int32) (res : Int32 × (Nat → Int32)), k x3 x5 u0 = some res → ∀ (H : Heap) (locs : List Loc) (ls : Array Slot), va_P D classes [(b0, .inl (cy 1, 8, .inl u0))] H → va_D A [(b0, .inl (cy 1, 8, .inl u0))] → va_S A s.heap H locs → lv_has ls 6 [(0, .ref b0), (1, .ref b0), (2, .ref b0), (3, .long x3), (5, .int x5)] → W p l e rm_M_add_e10e20 s m args below meth c H locs 0 0 (MQ below (q_M_add_e10e20 D cy A b0 res) args s 0 0 A) (F0 m 5 ls [])
def I_M_add_e10e20_e (p : Program) (l : Launch) (e : Env) (s : State) (m : MethodId) (args : Array Value) (below : List Frame) (meth : Method) (c : Code) (D : va_G) (cy : Nat → ClassId) (A : Nat → Prop) (ad : Nat → Nat) (b0 : Nat) (k : (Nat → Int32) → Option (Int32 × (Nat → Int32))) : Prop :=
  ∀ (u0 : Nat → Int32) (res : Int32 × (Nat → Int32)), k u0 = some res → ∀ (H : Heap) (locs : List Loc) (ls : Array Slot), va_P D classes [(b0, .inl (cy 1, 8, .inl u0))] H → va_D A [(b0, .inl (cy 1, 8, .inl u0))] → va_S A s.heap H locs → lv_has ls 6 [(0, .ref b0), (1, .ref b0), (2, .ref b0)] → W p l e rm_M_add_e10e20 s m args below meth c H locs 0 0 (MQ below (q_M_add_e10e20 D cy A b0 res) args s 0 0 A) (F0 m 0 ls [])
set_option maxHeartbeats 8000000 in
set_option maxRecDepth 100000 in
theorem wb_M_add_e10e20_5 {p : Program} {l : Launch} {e : Env} {s : State} {m : MethodId} {args : Array Value} {below : List Frame} {meth : Method} {c : Code} {D : va_G} {cy : Nat → ClassId} {A : Nat → Prop} {ad : Nat → Nat} {b0 : Nat} {fu : Nat} {k_5 : Int64 → Int32 → (Nat → Int32) → Option (Int32 × (Nat → Int32))} (F : Fx p s m args meth c b_M_add 6 "CoinKeeperModel" "add" (some .int) D cy ad A) (hk_5 : I_M_add_e10e20_5 p l e s m args below meth c D cy A ad b0 k_5) : I_M_add_e10e20_5 p l e s m args below meth c D cy A ad b0 (xb_M_add_e10e20_5 fu k_5) := by
  obtain ⟨hx, hb, hr, hml, hown, hts, hlocks, hK, hA, hSt, hnm, hex⟩ := id F
  intro x3 x5 u0 res hf H locs ls hP hD hS hl
  unfold xb_M_add_e10e20_5 at hf
  refine lv_iload hx hb d_M_add_5 (lv_at hl 4 rfl) ?_
  refine lv_bipush (v := 8) hx hb d_M_add_7 (by decide) ?_
  refine lv_icmp_ge (tgt := 51) hx hb d_M_add_9 (by decide) (fun cx => ?_) (fun cx => ?_)
  · have hf := ifp cx hf
    refine lv_lload_n hx hb d_M_add_51 rfl (lv_at hl 3 rfl) ?_
    refine lv_l2i hx hb d_M_add_52 rfl ?_
    refine lv_topi (fun v1 ev => ?_)
    have hf := bn ev hf
    clear ev
    obtain rfl := Option.some.inj hf
    exact q_ri hx hb hr hlocks hK hP hD hS d_M_add_53
  · have hf := ifn cx hf
    refine lv_lload_n hx hb d_M_add_12 rfl (lv_at hl 3 rfl) ?_
    refine lv_aload_n hx hb d_M_add_13 rfl (lv_at hl 1 rfl) ?_
    refine lv_iload hx hb d_M_add_14 (lv_at hl 4 rfl) ?_
    obtain ⟨hg, hf⟩ := gdp hf
    refine va_iald hx hb hK hP 0 1 rfl rfl (inb_in hg) d_M_add_16 ?_
    refine lv_topi (fun v2 ev => ?_)
    have hf := bn ev hf
    clear ev
    refine lv_i2l hx hb d_M_add_17 rfl ?_
    refine lv_topl (fun v3 ev => ?_)
    have hf := bn ev hf
    clear ev
    refine lv_ldc2 (v := 4294967295) hx hb hown (hts _ gw_1390) d_M_add_18 ?_
    refine lv_land hx hb d_M_add_21 ?_
    refine lv_topl (fun v4 ev => ?_)
    have hf := bn ev hf
    clear ev
    refine lv_aload_n hx hb d_M_add_22 rfl (lv_at hl 2 rfl) ?_
    refine lv_iload hx hb d_M_add_23 (lv_at hl 4 rfl) ?_
    obtain ⟨hg, hf⟩ := gdp hf
    refine va_iald hx hb hK hP 0 1 rfl rfl (inb_in hg) d_M_add_25 ?_
    refine lv_topi (fun v5 ev => ?_)
    have hf := bn ev hf
    clear ev
    refine lv_i2l hx hb d_M_add_26 rfl ?_
    refine lv_topl (fun v6 ev => ?_)
    have hf := bn ev hf
    clear ev
    refine lv_ldc2 (v := 4294967295) hx hb hown (hts _ gw_1390) d_M_add_27 ?_
    refine lv_land hx hb d_M_add_30 ?_
    refine lv_ladd hx hb d_M_add_31 ?_
    refine lv_ladd hx hb d_M_add_32 ?_
    refine lv_topl (fun v7 ev => ?_)
    have hf := bn ev hf
    clear ev
    refine lv_lstore_n (lv' := [(3, .long v7), (0, .ref b0), (1, .ref b0), (2, .ref b0), (5, .int x5)]) hx hb d_M_add_33 rfl hl (by decide) rfl (fun ls hl => ?_)
    refine lv_aload_n hx hb d_M_add_34 rfl (lv_at hl 1 rfl) ?_
    refine lv_iload hx hb d_M_add_35 (lv_at hl 4 rfl) ?_
    refine lv_lload_n hx hb d_M_add_37 rfl (lv_at hl 0 rfl) ?_
    refine lv_l2i hx hb d_M_add_38 rfl ?_
    refine lv_topi (fun v8 ev => ?_)
    have hf := bn ev hf
    clear ev
    obtain ⟨hg, hf⟩ := gdp hf
    refine va_iast hx hb hK hP hD hS 0 1 rfl rfl (inb_in hg) d_M_add_39 (fun H locs hP hD hS => ?_)
    obtain ⟨f9, ev, hf⟩ := bne hf
    have hP : va_P D classes [(b0, .inl (cy 1, 8, .inl f9))] H := by rw [ev]; exact hP
    have hD : va_D A [(b0, .inl (cy 1, 8, .inl f9))] := by rw [ev]; exact hD
    clear ev
    refine lv_lload_n hx hb d_M_add_40 rfl (lv_at hl 0 rfl) ?_
    refine lv_bipush (v := 32) hx hb d_M_add_41 (by decide) ?_
    refine lv_lushr hx hb d_M_add_43 rfl ?_
    refine lv_topl (fun v10 ev => ?_)
    have hf := bn ev hf
    clear ev
    refine lv_lstore_n (lv' := [(3, .long v10), (0, .ref b0), (1, .ref b0), (2, .ref b0), (5, .int x5)]) hx hb d_M_add_44 rfl hl (by decide) rfl (fun ls hl => ?_)
    obtain ⟨v11, ev, hf⟩ := bne hf
    refine lv_iinc (v := v11) (lv' := [(5, .int v11), (3, .long v10), (0, .ref b0), (1, .ref b0), (2, .ref b0)]) hx hb d_M_add_45 hl (k := 4) rfl (by rw [ev]; rfl) (by decide) rfl (fun ls hl => ?_)
    clear ev
    refine lv_goto (tgt := 5) hx hb d_M_add_48 (by decide) ?_
    exact hk_5 _ _ _ _ hf _ _ _ hP hD hS (lv_sub hl [2, 3, 4, 1, 0] rfl)
theorem w_M_add_e10e20_5 {p : Program} {l : Launch} {e : Env} {s : State} {m : MethodId} {args : Array Value} {below : List Frame} {meth : Method} {c : Code} {D : va_G} {cy : Nat → ClassId} {A : Nat → Prop} {ad : Nat → Nat} {b0 : Nat} {fu : Nat} (F : Fx p s m args meth c b_M_add 6 "CoinKeeperModel" "add" (some .int) D cy ad A) : ∀ n : Nat, I_M_add_e10e20_5 p l e s m args below meth c D cy A ad b0 (x_M_add_e10e20_5 fu n)
  | 0 => fun _ _ _ _ hf => nomatch (show (none : Option (Int32 × (Nat → Int32))) = some _ from hf)
  | n + 1 => wb_M_add_e10e20_5 F (w_M_add_e10e20_5 F n)
set_option maxHeartbeats 8000000 in
set_option maxRecDepth 100000 in
theorem we_M_add_e10e20 {p : Program} {l : Launch} {e : Env} {s : State} {m : MethodId} {args : Array Value} {below : List Frame} {meth : Method} {c : Code} {D : va_G} {cy : Nat → ClassId} {A : Nat → Prop} {ad : Nat → Nat} {b0 : Nat} {fu : Nat} (F : Fx p s m args meth c b_M_add 6 "CoinKeeperModel" "add" (some .int) D cy ad A) : I_M_add_e10e20_e p l e s m args below meth c D cy A ad b0 (x_M_add_e10e20 fu) := by
  obtain ⟨hx, hb, hr, hml, hown, hts, hlocks, hK, hA, hSt, hnm, hex⟩ := id F
  intro u0 res hf H locs ls hP hD hS hl
  unfold x_M_add_e10e20 at hf
  refine lv_lconst (v := 0) hx hb d_M_add_0 (by decide) ?_
  refine lv_lstore_n (lv' := [(3, .long (0 : Int64)), (0, .ref b0), (1, .ref b0), (2, .ref b0)]) hx hb d_M_add_1 rfl hl (by decide) rfl (fun ls hl => ?_)
  refine lv_iconst (v := 0) hx hb d_M_add_2 (by decide) ?_
  refine lv_istore (lv' := [(5, .int (0 : Int32)), (3, .long (0 : Int64)), (0, .ref b0), (1, .ref b0), (2, .ref b0)]) hx hb d_M_add_3 hl (by decide) rfl (fun ls hl => ?_)
  exact w_M_add_e10e20_5 F fu _ _ _ _ hf _ _ _ hP hD hS (lv_sub hl [2, 3, 4, 1, 0] rfl)
theorem c_M_add_e10e20 (l : Launch) (D : va_G) (cy : Nat → ClassId) (ad : Nat → Nat) (fu : Nat) (b0 : Nat) (u0 : Nat → Int32) (res : Int32 × (Nat → Int32)) (hf : x_M_add_e10e20 fu u0 = some res) (sz : Nat) : Met l ({ cls := "CoinKeeperModel", name := "add", desc := "([I[I[I)I" } : Jvm.MethodName) (.code ({ cls := "CoinKeeperModel", name := "add", desc := "([I[I[I)I" } : Jvm.MethodName) b_M_add 6 (some .int) :: gw) rm_M_add_e10e20 (va_Pc [.ref b0, .ref b0, .ref b0] (Pr D cy ad [(b0, .inl (cy 1, 8, .inl u0))] sz)) (q_M_add_e10e20 D cy (va_A [(b0, .inl (cy 1, 8, .inl u0))] sz) b0 res) 0 0 (va_A [(b0, .inl (cy 1, 8, .inl u0))] sz) :=
  q_met (Qc := fun A => q_M_add_e10e20 D cy A b0 res) (by decide) rfl rfl (Nat.le_of_ble_eq_true rfl) (fun p e s m below meth c ls F hP hD hS hl => we_M_add_e10e20 (fu := fu) F u0 res hf _ _ _ hP hD hS hl) sz
abbrev b_M_timesN : ByteArray := prog_14_method_30_code
theorem d_M_timesN_0 : decode b_M_timesN 0 = .ok (.aload_n 0, 1) := by decide +kernel
theorem d_M_timesN_1 : decode b_M_timesN 1 = .ok (.aload_n 2, 1) := by decide +kernel
theorem d_M_timesN_2 : decode b_M_timesN 2 = .ok (.aload_n 3, 1) := by decide +kernel
theorem d_M_timesN_3 : decode b_M_timesN 3 = .ok (.invokevirtual 370, 3) := by decide +kernel
theorem d_M_timesN_6 : decode b_M_timesN 6 = .ok (.iconst 0, 1) := by decide +kernel
theorem d_M_timesN_7 : decode b_M_timesN 7 = .ok (.istore 4, 2) := by decide +kernel
theorem d_M_timesN_9 : decode b_M_timesN 9 = .ok (.iload 4, 2) := by decide +kernel
theorem d_M_timesN_11 : decode b_M_timesN 11 = .ok (.bipush 8, 2) := by decide +kernel
theorem d_M_timesN_13 : decode b_M_timesN 13 = .ok (.if_icmp .ge 17, 3) := by decide +kernel
theorem d_M_timesN_16 : decode b_M_timesN 16 = .ok (.aload_n 0, 1) := by decide +kernel
theorem d_M_timesN_17 : decode b_M_timesN 17 = .ok (.getfield 139, 3) := by decide +kernel
theorem d_M_timesN_20 : decode b_M_timesN 20 = .ok (.iload 4, 2) := by decide +kernel
theorem d_M_timesN_22 : decode b_M_timesN 22 = .ok (.iconst 0, 1) := by decide +kernel
theorem d_M_timesN_23 : decode b_M_timesN 23 = .ok (.iastore, 1) := by decide +kernel
theorem d_M_timesN_24 : decode b_M_timesN 24 = .ok (.iinc 4 1, 3) := by decide +kernel
theorem d_M_timesN_27 : decode b_M_timesN 27 = .ok (.goto (-18), 3) := by decide +kernel
theorem d_M_timesN_30 : decode b_M_timesN 30 = .ok (.sipush 511, 3) := by decide +kernel
theorem d_M_timesN_33 : decode b_M_timesN 33 = .ok (.istore 4, 2) := by decide +kernel
theorem d_M_timesN_35 : decode b_M_timesN 35 = .ok (.iload 4, 2) := by decide +kernel
theorem d_M_timesN_37 : decode b_M_timesN 37 = .ok (.ifCond .lt 98, 3) := by decide +kernel
theorem d_M_timesN_40 : decode b_M_timesN 40 = .ok (.aload_n 0, 1) := by decide +kernel
theorem d_M_timesN_41 : decode b_M_timesN 41 = .ok (.getfield 139, 3) := by decide +kernel
theorem d_M_timesN_44 : decode b_M_timesN 44 = .ok (.bipush 7, 2) := by decide +kernel
theorem d_M_timesN_46 : decode b_M_timesN 46 = .ok (.iaload, 1) := by decide +kernel
theorem d_M_timesN_47 : decode b_M_timesN 47 = .ok (.bipush 31, 2) := by decide +kernel
theorem d_M_timesN_49 : decode b_M_timesN 49 = .ok (.iushr, 1) := by decide +kernel
theorem d_M_timesN_50 : decode b_M_timesN 50 = .ok (.istore 5, 2) := by decide +kernel
theorem d_M_timesN_52 : decode b_M_timesN 52 = .ok (.aload_n 0, 1) := by decide +kernel
theorem d_M_timesN_53 : decode b_M_timesN 53 = .ok (.getfield 139, 3) := by decide +kernel
theorem d_M_timesN_56 : decode b_M_timesN 56 = .ok (.aload_n 0, 1) := by decide +kernel
theorem d_M_timesN_57 : decode b_M_timesN 57 = .ok (.getfield 139, 3) := by decide +kernel
theorem d_M_timesN_60 : decode b_M_timesN 60 = .ok (.aload_n 0, 1) := by decide +kernel
theorem d_M_timesN_61 : decode b_M_timesN 61 = .ok (.getfield 139, 3) := by decide +kernel
theorem d_M_timesN_64 : decode b_M_timesN 64 = .ok (.invokestatic 338, 3) := by decide +kernel
theorem d_M_timesN_67 : decode b_M_timesN 67 = .ok (.pop, 1) := by decide +kernel
theorem d_M_timesN_68 : decode b_M_timesN 68 = .ok (.aload_n 0, 1) := by decide +kernel
theorem d_M_timesN_69 : decode b_M_timesN 69 = .ok (.getfield 139, 3) := by decide +kernel
theorem d_M_timesN_72 : decode b_M_timesN 72 = .ok (.iconst 0, 1) := by decide +kernel
theorem d_M_timesN_73 : decode b_M_timesN 73 = .ok (.dup2, 1) := by decide +kernel
theorem d_M_timesN_74 : decode b_M_timesN 74 = .ok (.iaload, 1) := by decide +kernel
theorem d_M_timesN_75 : decode b_M_timesN 75 = .ok (.aload_n 0, 1) := by decide +kernel
theorem d_M_timesN_76 : decode b_M_timesN 76 = .ok (.getfield 166, 3) := by decide +kernel
theorem d_M_timesN_79 : decode b_M_timesN 79 = .ok (.iload 4, 2) := by decide +kernel
theorem d_M_timesN_81 : decode b_M_timesN 81 = .ok (.bipush 32, 2) := by decide +kernel
theorem d_M_timesN_83 : decode b_M_timesN 83 = .ok (.idiv, 1) := by decide +kernel
theorem d_M_timesN_84 : decode b_M_timesN 84 = .ok (.iaload, 1) := by decide +kernel
theorem d_M_timesN_85 : decode b_M_timesN 85 = .ok (.iload 4, 2) := by decide +kernel
theorem d_M_timesN_87 : decode b_M_timesN 87 = .ok (.bipush 32, 2) := by decide +kernel
theorem d_M_timesN_89 : decode b_M_timesN 89 = .ok (.irem, 1) := by decide +kernel
theorem d_M_timesN_90 : decode b_M_timesN 90 = .ok (.iushr, 1) := by decide +kernel
theorem d_M_timesN_91 : decode b_M_timesN 91 = .ok (.iconst 1, 1) := by decide +kernel
theorem d_M_timesN_92 : decode b_M_timesN 92 = .ok (.iand, 1) := by decide +kernel
theorem d_M_timesN_93 : decode b_M_timesN 93 = .ok (.ior, 1) := by decide +kernel
theorem d_M_timesN_94 : decode b_M_timesN 94 = .ok (.iastore, 1) := by decide +kernel
theorem d_M_timesN_95 : decode b_M_timesN 95 = .ok (.iload 5, 2) := by decide +kernel
theorem d_M_timesN_97 : decode b_M_timesN 97 = .ok (.iconst 1, 1) := by decide +kernel
theorem d_M_timesN_98 : decode b_M_timesN 98 = .ok (.if_icmp .eq 16, 3) := by decide +kernel
theorem d_M_timesN_101 : decode b_M_timesN 101 = .ok (.aload_n 0, 1) := by decide +kernel
theorem d_M_timesN_102 : decode b_M_timesN 102 = .ok (.getfield 139, 3) := by decide +kernel
theorem d_M_timesN_105 : decode b_M_timesN 105 = .ok (.getstatic 385, 3) := by decide +kernel
theorem d_M_timesN_108 : decode b_M_timesN 108 = .ok (.invokestatic 346, 3) := by decide +kernel
theorem d_M_timesN_111 : decode b_M_timesN 111 = .ok (.ifCond .lt 18, 3) := by decide +kernel
theorem d_M_timesN_114 : decode b_M_timesN 114 = .ok (.aload_n 0, 1) := by decide +kernel
theorem d_M_timesN_115 : decode b_M_timesN 115 = .ok (.getfield 139, 3) := by decide +kernel
theorem d_M_timesN_118 : decode b_M_timesN 118 = .ok (.aload_n 0, 1) := by decide +kernel
theorem d_M_timesN_119 : decode b_M_timesN 119 = .ok (.getfield 139, 3) := by decide +kernel
theorem d_M_timesN_122 : decode b_M_timesN 122 = .ok (.getstatic 385, 3) := by decide +kernel
theorem d_M_timesN_125 : decode b_M_timesN 125 = .ok (.invokestatic 350, 3) := by decide +kernel
theorem d_M_timesN_128 : decode b_M_timesN 128 = .ok (.pop, 1) := by decide +kernel
theorem d_M_timesN_129 : decode b_M_timesN 129 = .ok (.iinc 4 (-1), 3) := by decide +kernel
theorem d_M_timesN_132 : decode b_M_timesN 132 = .ok (.goto (-97), 3) := by decide +kernel
theorem d_M_timesN_135 : decode b_M_timesN 135 = .ok (.aload_n 1, 1) := by decide +kernel
theorem d_M_timesN_136 : decode b_M_timesN 136 = .ok (.aload_n 0, 1) := by decide +kernel
theorem d_M_timesN_137 : decode b_M_timesN 137 = .ok (.getfield 139, 3) := by decide +kernel
theorem d_M_timesN_140 : decode b_M_timesN 140 = .ok (.invokestatic 334, 3) := by decide +kernel
theorem d_M_timesN_143 : decode b_M_timesN 143 = .ok (.return_, 1) := by decide +kernel
abbrev rm_M_timesN : Room := { frames := 3, cells := 0, slots := 0, locals := 64 }
abbrev q_M_timesN (D : va_G) (cy : Nat → ClassId) (A : Nat → Prop) (o : Nat) (q : Nat → Nat) (b1 : Nat) (b2 : Nat) (b3 : Nat) (z : Nat → Int32) (h2 : Nat → Int32) (h3 : Nat → Int32) (res : (Nat → Int32) × (Nat → Int32) × (Nat → Int32)) : Array Value → State → Outcome → State → Prop := va_Qv (fun (_ : Unit) => True) (fun _ t => Po D cy A [(o, .inr (12, mo q z)), ((q 41), .inl (cy 1, 8, .inl res.1)), ((q 50), .inl (cy 1, 16, .inl res.2.1)), (b1, .inl (cy 1, 8, .inl res.2.2)), (b2, .inl (cy 1, 8, .inl h2)), (b3, .inl (cy 1, 8, .inl h3))] t) A
def I_M_timesN_129 (p : Program) (l : Launch) (e : Env) (s : State) (m : MethodId) (args : Array Value) (below : List Frame) (meth : Method) (c : Code) (D : va_G) (cy : Nat → ClassId) (A : Nat → Prop) (ad : Nat → Nat) (o : Nat) (q : Nat → Nat) (b1 : Nat) (b2 : Nat) (b3 : Nat) (z : Nat → Int32) (h2 : Nat → Int32) (h3 : Nat → Int32) (k : Int32 → (Nat → Int32) → (Nat → Int32) → (Nat → Int32) → Option ((Nat → Int32) × (Nat → Int32) × (Nat → Int32))) : Prop :=
  ∀ (x4 : Int32) (u0 : Nat → Int32) (u1 : Nat → Int32) (u2 : Nat → Int32) (res : (Nat → Int32) × (Nat → Int32) × (Nat → Int32)), k x4 u0 u1 u2 = some res → ∀ (H : Heap) (locs : List Loc) (ls : Array Slot), va_P D classes [(o, .inr (12, mo q z)), ((q 41), .inl (cy 1, 8, .inl u0)), ((q 50), .inl (cy 1, 16, .inl u1)), (b1, .inl (cy 1, 8, .inl u2)), (b2, .inl (cy 1, 8, .inl h2)), (b3, .inl (cy 1, 8, .inl h3))] H → va_D A [(o, .inr (12, mo q z)), ((q 41), .inl (cy 1, 8, .inl u0)), ((q 50), .inl (cy 1, 16, .inl u1)), (b1, .inl (cy 1, 8, .inl u2)), (b2, .inl (cy 1, 8, .inl h2)), (b3, .inl (cy 1, 8, .inl h3))] → va_S A s.heap H locs → lv_has ls 6 [(0, .ref o), (1, .ref b1), (4, .int x4)] → W p l e rm_M_timesN s m args below meth c H locs 0 0 (MQ below (q_M_timesN D cy A o q b1 b2 b3 z h2 h3 res) args s 0 0 A) (F0 m 129 ls [])
def I_M_timesN_114 (p : Program) (l : Launch) (e : Env) (s : State) (m : MethodId) (args : Array Value) (below : List Frame) (meth : Method) (c : Code) (D : va_G) (cy : Nat → ClassId) (A : Nat → Prop) (ad : Nat → Nat) (o : Nat) (q : Nat → Nat) (b1 : Nat) (b2 : Nat) (b3 : Nat) (z : Nat → Int32) (h2 : Nat → Int32) (h3 : Nat → Int32) (k : Int32 → (Nat → Int32) → (Nat → Int32) → (Nat → Int32) → Option ((Nat → Int32) × (Nat → Int32) × (Nat → Int32))) : Prop :=
  ∀ (x4 : Int32) (u0 : Nat → Int32) (u1 : Nat → Int32) (u2 : Nat → Int32) (res : (Nat → Int32) × (Nat → Int32) × (Nat → Int32)), k x4 u0 u1 u2 = some res → ∀ (H : Heap) (locs : List Loc) (ls : Array Slot), va_P D classes [(o, .inr (12, mo q z)), ((q 41), .inl (cy 1, 8, .inl u0)), ((q 50), .inl (cy 1, 16, .inl u1)), (b1, .inl (cy 1, 8, .inl u2)), (b2, .inl (cy 1, 8, .inl h2)), (b3, .inl (cy 1, 8, .inl h3))] H → va_D A [(o, .inr (12, mo q z)), ((q 41), .inl (cy 1, 8, .inl u0)), ((q 50), .inl (cy 1, 16, .inl u1)), (b1, .inl (cy 1, 8, .inl u2)), (b2, .inl (cy 1, 8, .inl h2)), (b3, .inl (cy 1, 8, .inl h3))] → va_S A s.heap H locs → lv_has ls 6 [(0, .ref o), (1, .ref b1), (4, .int x4)] → W p l e rm_M_timesN s m args below meth c H locs 0 0 (MQ below (q_M_timesN D cy A o q b1 b2 b3 z h2 h3 res) args s 0 0 A) (F0 m 114 ls [])
def I_M_timesN_35 (p : Program) (l : Launch) (e : Env) (s : State) (m : MethodId) (args : Array Value) (below : List Frame) (meth : Method) (c : Code) (D : va_G) (cy : Nat → ClassId) (A : Nat → Prop) (ad : Nat → Nat) (o : Nat) (q : Nat → Nat) (b1 : Nat) (b2 : Nat) (b3 : Nat) (z : Nat → Int32) (h2 : Nat → Int32) (h3 : Nat → Int32) (k : Int32 → (Nat → Int32) → (Nat → Int32) → (Nat → Int32) → Option ((Nat → Int32) × (Nat → Int32) × (Nat → Int32))) : Prop :=
  ∀ (x4 : Int32) (u0 : Nat → Int32) (u1 : Nat → Int32) (u2 : Nat → Int32) (res : (Nat → Int32) × (Nat → Int32) × (Nat → Int32)), k x4 u0 u1 u2 = some res → ∀ (H : Heap) (locs : List Loc) (ls : Array Slot), va_P D classes [(o, .inr (12, mo q z)), ((q 41), .inl (cy 1, 8, .inl u0)), ((q 50), .inl (cy 1, 16, .inl u1)), (b1, .inl (cy 1, 8, .inl u2)), (b2, .inl (cy 1, 8, .inl h2)), (b3, .inl (cy 1, 8, .inl h3))] H → va_D A [(o, .inr (12, mo q z)), ((q 41), .inl (cy 1, 8, .inl u0)), ((q 50), .inl (cy 1, 16, .inl u1)), (b1, .inl (cy 1, 8, .inl u2)), (b2, .inl (cy 1, 8, .inl h2)), (b3, .inl (cy 1, 8, .inl h3))] → va_S A s.heap H locs → lv_has ls 6 [(0, .ref o), (1, .ref b1), (4, .int x4)] → W p l e rm_M_timesN s m args below meth c H locs 0 0 (MQ below (q_M_timesN D cy A o q b1 b2 b3 z h2 h3 res) args s 0 0 A) (F0 m 35 ls [])
def I_M_timesN_9 (p : Program) (l : Launch) (e : Env) (s : State) (m : MethodId) (args : Array Value) (below : List Frame) (meth : Method) (c : Code) (D : va_G) (cy : Nat → ClassId) (A : Nat → Prop) (ad : Nat → Nat) (o : Nat) (q : Nat → Nat) (b1 : Nat) (b2 : Nat) (b3 : Nat) (z : Nat → Int32) (h2 : Nat → Int32) (h3 : Nat → Int32) (k : Int32 → (Nat → Int32) → (Nat → Int32) → (Nat → Int32) → Option ((Nat → Int32) × (Nat → Int32) × (Nat → Int32))) : Prop :=
  ∀ (x4 : Int32) (u0 : Nat → Int32) (u1 : Nat → Int32) (u2 : Nat → Int32) (res : (Nat → Int32) × (Nat → Int32) × (Nat → Int32)), k x4 u0 u1 u2 = some res → ∀ (H : Heap) (locs : List Loc) (ls : Array Slot), va_P D classes [(o, .inr (12, mo q z)), ((q 41), .inl (cy 1, 8, .inl u0)), ((q 50), .inl (cy 1, 16, .inl u1)), (b1, .inl (cy 1, 8, .inl u2)), (b2, .inl (cy 1, 8, .inl h2)), (b3, .inl (cy 1, 8, .inl h3))] H → va_D A [(o, .inr (12, mo q z)), ((q 41), .inl (cy 1, 8, .inl u0)), ((q 50), .inl (cy 1, 16, .inl u1)), (b1, .inl (cy 1, 8, .inl u2)), (b2, .inl (cy 1, 8, .inl h2)), (b3, .inl (cy 1, 8, .inl h3))] → va_S A s.heap H locs → lv_has ls 6 [(0, .ref o), (1, .ref b1), (4, .int x4)] → W p l e rm_M_timesN s m args below meth c H locs 0 0 (MQ below (q_M_timesN D cy A o q b1 b2 b3 z h2 h3 res) args s 0 0 A) (F0 m 9 ls [])
def I_M_timesN_e (p : Program) (l : Launch) (e : Env) (s : State) (m : MethodId) (args : Array Value) (below : List Frame) (meth : Method) (c : Code) (D : va_G) (cy : Nat → ClassId) (A : Nat → Prop) (ad : Nat → Nat) (o : Nat) (q : Nat → Nat) (b1 : Nat) (b2 : Nat) (b3 : Nat) (z : Nat → Int32) (h2 : Nat → Int32) (h3 : Nat → Int32) (k : (Nat → Int32) → (Nat → Int32) → (Nat → Int32) → Option ((Nat → Int32) × (Nat → Int32) × (Nat → Int32))) : Prop :=
  ∀ (u0 : Nat → Int32) (u1 : Nat → Int32) (u2 : Nat → Int32) (res : (Nat → Int32) × (Nat → Int32) × (Nat → Int32)), k u0 u1 u2 = some res → ∀ (H : Heap) (locs : List Loc) (ls : Array Slot), va_P D classes [(o, .inr (12, mo q z)), ((q 41), .inl (cy 1, 8, .inl u0)), ((q 50), .inl (cy 1, 16, .inl u1)), (b1, .inl (cy 1, 8, .inl u2)), (b2, .inl (cy 1, 8, .inl h2)), (b3, .inl (cy 1, 8, .inl h3))] H → va_D A [(o, .inr (12, mo q z)), ((q 41), .inl (cy 1, 8, .inl u0)), ((q 50), .inl (cy 1, 16, .inl u1)), (b1, .inl (cy 1, 8, .inl u2)), (b2, .inl (cy 1, 8, .inl h2)), (b3, .inl (cy 1, 8, .inl h3))] → va_S A s.heap H locs → lv_has ls 6 [(0, .ref o), (1, .ref b1), (2, .ref b2), (3, .ref b3)] → W p l e rm_M_timesN s m args below meth c H locs 0 0 (MQ below (q_M_timesN D cy A o q b1 b2 b3 z h2 h3 res) args s 0 0 A) (F0 m 0 ls [])
set_option maxHeartbeats 8000000 in
set_option maxRecDepth 100000 in
theorem wb_M_timesN_129 {p : Program} {l : Launch} {e : Env} {s : State} {m : MethodId} {args : Array Value} {below : List Frame} {meth : Method} {c : Code} {D : va_G} {cy : Nat → ClassId} {A : Nat → Prop} {ad : Nat → Nat} {o : Nat} {q : Nat → Nat} {b1 : Nat} {b2 : Nat} {b3 : Nat} {z : Nat → Int32} {h2 : Nat → Int32} {h3 : Nat → Int32} {fu : Nat} {k_35 : Int32 → (Nat → Int32) → (Nat → Int32) → (Nat → Int32) → Option ((Nat → Int32) × (Nat → Int32) × (Nat → Int32))} (F : Fx p s m args meth c b_M_timesN 6 "CoinKeeperModel" "timesN" none D cy ad A) (hk_35 : I_M_timesN_35 p l e s m args below meth c D cy A ad o q b1 b2 b3 z h2 h3 k_35) : I_M_timesN_129 p l e s m args below meth c D cy A ad o q b1 b2 b3 z h2 h3 (xb_M_timesN_129 fu z h2 h3 k_35) := by
  obtain ⟨hx, hb, hr, hml, hown, hts, hlocks, hK, hA, hSt, hnm, hex⟩ := id F
  intro x4 u0 u1 u2 res hf H locs ls hP hD hS hl
  unfold xb_M_timesN_129 at hf
  obtain ⟨v1, ev, hf⟩ := bne hf
  refine lv_iinc (v := v1) (lv' := [(4, .int v1), (0, .ref o), (1, .ref b1)]) hx hb d_M_timesN_129 hl (k := 2) rfl (by rw [ev]; rfl) (by decide) rfl (fun ls hl => ?_)
  clear ev
  refine lv_goto (tgt := 35) hx hb d_M_timesN_132 (by decide) ?_
  exact hk_35 _ _ _ _ _ hf _ _ _ hP hD hS (lv_sub hl [1, 2, 0] rfl)
set_option maxHeartbeats 8000000 in
set_option maxRecDepth 100000 in
theorem wb_M_timesN_114 {p : Program} {l : Launch} {e : Env} {s : State} {m : MethodId} {args : Array Value} {below : List Frame} {meth : Method} {c : Code} {D : va_G} {cy : Nat → ClassId} {A : Nat → Prop} {ad : Nat → Nat} {o : Nat} {q : Nat → Nat} {b1 : Nat} {b2 : Nat} {b3 : Nat} {z : Nat → Int32} {h2 : Nat → Int32} {h3 : Nat → Int32} {fu : Nat} {k_35 : Int32 → (Nat → Int32) → (Nat → Int32) → (Nat → Int32) → Option ((Nat → Int32) × (Nat → Int32) × (Nat → Int32))} (F : Fx p s m args meth c b_M_timesN 6 "CoinKeeperModel" "timesN" none D cy ad A) (hk_35 : I_M_timesN_35 p l e s m args below meth c D cy A ad o q b1 b2 b3 z h2 h3 k_35) : I_M_timesN_114 p l e s m args below meth c D cy A ad o q b1 b2 b3 z h2 h3 (xb_M_timesN_114 fu z h2 h3 k_35) := by
  obtain ⟨hx, hb, hr, hml, hown, hts, hlocks, hK, hA, hSt, hnm, hex⟩ := id F
  intro x4 u0 u1 u2 res hf H locs ls hP hD hS hl
  unfold xb_M_timesN_114 at hf
  refine lv_aload_n hx hb d_M_timesN_114 rfl (lv_at hl 0 rfl) ?_
  refine va_get (D := D) (ci := 12) (v := .ref (q 41)) (C := "CoinKeeperModel") (T := F_12) (N := 98) hx hb hts i_12 hown hK hP 0 rfl rfl 49 (by decide) (hts _ gw_1468) (fun _ h9 => h9) rfl d_M_timesN_115 ?_
  refine lv_aload_n hx hb d_M_timesN_118 rfl (lv_at hl 0 rfl) ?_
  refine va_get (D := D) (ci := 12) (v := .ref (q 41)) (C := "CoinKeeperModel") (T := F_12) (N := 98) hx hb hts i_12 hown hK hP 0 rfl rfl 49 (by decide) (hts _ gw_1468) (fun _ h9 => h9) rfl d_M_timesN_119 ?_
  refine va_gets hx hb (hSt.1 23 _ rfl).1 hS hown (hts _ gw_2003) (fun _ h9 => h9) d_M_timesN_122 ?_
  obtain ⟨v1, f2, hc, hf⟩ := bdp2 hf
  refine q_ai (wr := [(o, .inr (12, mo q z)), ((q 50), .inl (cy 1, 16, .inl u1)), (b1, .inl (cy 1, 8, .inl u2)), (b2, .inl (cy 1, 8, .inl h2)), (b3, .inl (cy 1, 8, .inl h3))]) (va_runS (As := [.ref (q 41), .ref (q 41), .ref (ad 23)]) (rest := []) ⟨hx, hb, hml, hown, hts⟩ (c_M_sub_e10s2x23 l D cy ad fu (q 41) u0 _ hc H.size) ⟨q_cB hts gw_1414 gw_18 gw_1412 hdm_17 ⟨by decide, by decide⟩, hts _ gw_1413⟩ (q_pre (hP.sub [1] rfl) (hD.sub [1] (by decide) rfl) hK hSt hS (va_free hD hS hA [1] rfl) _) rfl rfl hl.1 rfl (lv_room (Nat.le_of_ble_eq_true rfl)) d_M_timesN_125 ⟨Nat.le_of_ble_eq_true rfl, Nat.le_of_ble_eq_true rfl⟩) hP hD hS hA [1] [0, 2, 3, 4, 5] rfl rfl (by decide) (by decide) (fun H locs hP hD hS => ?_)
  clear hc
  have hP : va_P D classes [(o, .inr (12, mo q z)), ((q 50), .inl (cy 1, 16, .inl u1)), (b1, .inl (cy 1, 8, .inl u2)), (b2, .inl (cy 1, 8, .inl h2)), (b3, .inl (cy 1, 8, .inl h3)), ((q 41), .inl (cy 1, 8, .inl f2))] H := hP
  have hD : va_D A [(o, .inr (12, mo q z)), ((q 50), .inl (cy 1, 16, .inl u1)), (b1, .inl (cy 1, 8, .inl u2)), (b2, .inl (cy 1, 8, .inl h2)), (b3, .inl (cy 1, 8, .inl h3)), ((q 41), .inl (cy 1, 8, .inl f2))] := hD
  refine lv_pop hx hb d_M_timesN_128 rfl ?_
  exact wb_M_timesN_129 (fu := fu) F hk_35 _ _ _ _ _ hf _ _ _ (hP.sub (ws' := [(o, .inr (12, mo q z)), ((q 41), .inl (cy 1, 8, .inl f2)), ((q 50), .inl (cy 1, 16, .inl u1)), (b1, .inl (cy 1, 8, .inl u2)), (b2, .inl (cy 1, 8, .inl h2)), (b3, .inl (cy 1, 8, .inl h3))]) [0, 5, 1, 2, 3, 4] rfl) (hD.sub (ws' := [(o, .inr (12, mo q z)), ((q 41), .inl (cy 1, 8, .inl f2)), ((q 50), .inl (cy 1, 16, .inl u1)), (b1, .inl (cy 1, 8, .inl u2)), (b2, .inl (cy 1, 8, .inl h2)), (b3, .inl (cy 1, 8, .inl h3))]) [0, 5, 1, 2, 3, 4] (by decide) rfl) hS (lv_sub hl [0, 1, 2] rfl)
set_option maxHeartbeats 8000000 in
set_option maxRecDepth 100000 in
theorem wb_M_timesN_35 {p : Program} {l : Launch} {e : Env} {s : State} {m : MethodId} {args : Array Value} {below : List Frame} {meth : Method} {c : Code} {D : va_G} {cy : Nat → ClassId} {A : Nat → Prop} {ad : Nat → Nat} {o : Nat} {q : Nat → Nat} {b1 : Nat} {b2 : Nat} {b3 : Nat} {z : Nat → Int32} {h2 : Nat → Int32} {h3 : Nat → Int32} {fu : Nat} {k_35 : Int32 → (Nat → Int32) → (Nat → Int32) → (Nat → Int32) → Option ((Nat → Int32) × (Nat → Int32) × (Nat → Int32))} (F : Fx p s m args meth c b_M_timesN 6 "CoinKeeperModel" "timesN" none D cy ad A) (hk_35 : I_M_timesN_35 p l e s m args below meth c D cy A ad o q b1 b2 b3 z h2 h3 k_35) : I_M_timesN_35 p l e s m args below meth c D cy A ad o q b1 b2 b3 z h2 h3 (xb_M_timesN_35 fu z h2 h3 k_35) := by
  obtain ⟨hx, hb, hr, hml, hown, hts, hlocks, hK, hA, hSt, hnm, hex⟩ := id F
  intro x4 u0 u1 u2 res hf H locs ls hP hD hS hl
  unfold xb_M_timesN_35 at hf
  refine lv_iload hx hb d_M_timesN_35 (lv_at hl 2 rfl) ?_
  refine lv_if_lt (tgt := 135) hx hb d_M_timesN_37 (by decide) (fun cx => ?_) (fun cx => ?_)
  · have hf := ifp cx hf
    refine lv_aload_n hx hb d_M_timesN_135 rfl (lv_at hl 1 rfl) ?_
    refine lv_aload_n hx hb d_M_timesN_136 rfl (lv_at hl 0 rfl) ?_
    refine va_get (D := D) (ci := 12) (v := .ref (q 41)) (C := "CoinKeeperModel") (T := F_12) (N := 98) hx hb hts i_12 hown hK hP 0 rfl rfl 49 (by decide) (hts _ gw_1468) (fun _ h9 => h9) rfl d_M_timesN_137 ?_
    obtain ⟨f1, hc, hf⟩ := bdp1 hf
    refine q_av (wr := [(o, .inr (12, mo q z)), ((q 50), .inl (cy 1, 16, .inl u1)), (b2, .inl (cy 1, 8, .inl h2)), (b3, .inl (cy 1, 8, .inl h3))]) (va_runS (As := [.ref b1, .ref (q 41)]) (rest := []) ⟨hx, hb, hml, hown, hts⟩ (c_M_copy l D cy ad fu b1 (q 41) u0 u2 _ hc H.size) ⟨q_cB hts gw_1397 gw_18 gw_1395 hdm_24 ⟨by decide, by decide⟩, hts _ gw_1396⟩ (q_pre (hP.sub [3, 1] rfl) (hD.sub [3, 1] (by decide) rfl) hK hSt hS (va_free hD hS hA [3, 1] rfl) _) rfl rfl hl.1 rfl (lv_room (Nat.le_of_ble_eq_true rfl)) d_M_timesN_140 ⟨Nat.le_of_ble_eq_true rfl, Nat.le_of_ble_eq_true rfl⟩) hP hD hS hA [3, 1] [0, 2, 4, 5] rfl rfl (by decide) (by decide) (fun H locs hP hD hS => ?_)
    clear hc
    have hP : va_P D classes [(o, .inr (12, mo q z)), ((q 50), .inl (cy 1, 16, .inl u1)), (b2, .inl (cy 1, 8, .inl h2)), (b3, .inl (cy 1, 8, .inl h3)), (b1, .inl (cy 1, 8, .inl f1)), ((q 41), .inl (cy 1, 8, .inl u0))] H := hP
    have hD : va_D A [(o, .inr (12, mo q z)), ((q 50), .inl (cy 1, 16, .inl u1)), (b2, .inl (cy 1, 8, .inl h2)), (b3, .inl (cy 1, 8, .inl h3)), (b1, .inl (cy 1, 8, .inl f1)), ((q 41), .inl (cy 1, 8, .inl u0))] := hD
    obtain rfl := Option.some.inj hf
    exact q_rv hx hb hr hlocks hK (hP.sub [0, 5, 1, 4, 2, 3] rfl) (hD.sub [0, 5, 1, 4, 2, 3] (by decide) rfl) hS d_M_timesN_143
  · have hf := ifn cx hf
    refine lv_aload_n hx hb d_M_timesN_40 rfl (lv_at hl 0 rfl) ?_
    refine va_get (D := D) (ci := 12) (v := .ref (q 41)) (C := "CoinKeeperModel") (T := F_12) (N := 98) hx hb hts i_12 hown hK hP 0 rfl rfl 49 (by decide) (hts _ gw_1468) (fun _ h9 => h9) rfl d_M_timesN_41 ?_
    refine lv_bipush (v := 7) hx hb d_M_timesN_44 (by decide) ?_
    refine va_iald hx hb hK hP 1 1 rfl rfl (inb_in (by decide)) d_M_timesN_46 ?_
    refine lv_topi (fun v2 ev => ?_)
    have hf := bn ev hf
    clear ev
    refine lv_bipush (v := 31) hx hb d_M_timesN_47 (by decide) ?_
    refine lv_iushr hx hb d_M_timesN_49 rfl ?_
    refine lv_topi (fun v3 ev => ?_)
    have hf := bn ev hf
    clear ev
    refine lv_istore (lv' := [(5, .int v3), (0, .ref o), (1, .ref b1), (4, .int x4)]) hx hb d_M_timesN_50 hl (by decide) rfl (fun ls hl => ?_)
    refine lv_aload_n hx hb d_M_timesN_52 rfl (lv_at hl 1 rfl) ?_
    refine va_get (D := D) (ci := 12) (v := .ref (q 41)) (C := "CoinKeeperModel") (T := F_12) (N := 98) hx hb hts i_12 hown hK hP 0 rfl rfl 49 (by decide) (hts _ gw_1468) (fun _ h9 => h9) rfl d_M_timesN_53 ?_
    refine lv_aload_n hx hb d_M_timesN_56 rfl (lv_at hl 1 rfl) ?_
    refine va_get (D := D) (ci := 12) (v := .ref (q 41)) (C := "CoinKeeperModel") (T := F_12) (N := 98) hx hb hts i_12 hown hK hP 0 rfl rfl 49 (by decide) (hts _ gw_1468) (fun _ h9 => h9) rfl d_M_timesN_57 ?_
    refine lv_aload_n hx hb d_M_timesN_60 rfl (lv_at hl 1 rfl) ?_
    refine va_get (D := D) (ci := 12) (v := .ref (q 41)) (C := "CoinKeeperModel") (T := F_12) (N := 98) hx hb hts i_12 hown hK hP 0 rfl rfl 49 (by decide) (hts _ gw_1468) (fun _ h9 => h9) rfl d_M_timesN_61 ?_
    obtain ⟨v4, f5, hc, hf⟩ := bdp2 hf
    refine q_ai (wr := [(o, .inr (12, mo q z)), ((q 50), .inl (cy 1, 16, .inl u1)), (b1, .inl (cy 1, 8, .inl u2)), (b2, .inl (cy 1, 8, .inl h2)), (b3, .inl (cy 1, 8, .inl h3))]) (va_runS (As := [.ref (q 41), .ref (q 41), .ref (q 41)]) (rest := []) ⟨hx, hb, hml, hown, hts⟩ (c_M_add_e10e20 l D cy ad fu (q 41) u0 _ hc H.size) ⟨q_cB hts gw_1389 gw_18 gw_1387 hdm_19 ⟨by decide, by decide⟩, hts _ gw_1388⟩ (q_pre (hP.sub [1] rfl) (hD.sub [1] (by decide) rfl) hK hSt hS (va_free hD hS hA [1] rfl) _) rfl rfl hl.1 rfl (lv_room (Nat.le_of_ble_eq_true rfl)) d_M_timesN_64 ⟨Nat.le_of_ble_eq_true rfl, Nat.le_of_ble_eq_true rfl⟩) hP hD hS hA [1] [0, 2, 3, 4, 5] rfl rfl (by decide) (by decide) (fun H locs hP hD hS => ?_)
    clear hc
    have hP : va_P D classes [(o, .inr (12, mo q z)), ((q 50), .inl (cy 1, 16, .inl u1)), (b1, .inl (cy 1, 8, .inl u2)), (b2, .inl (cy 1, 8, .inl h2)), (b3, .inl (cy 1, 8, .inl h3)), ((q 41), .inl (cy 1, 8, .inl f5))] H := hP
    have hD : va_D A [(o, .inr (12, mo q z)), ((q 50), .inl (cy 1, 16, .inl u1)), (b1, .inl (cy 1, 8, .inl u2)), (b2, .inl (cy 1, 8, .inl h2)), (b3, .inl (cy 1, 8, .inl h3)), ((q 41), .inl (cy 1, 8, .inl f5))] := hD
    refine lv_pop hx hb d_M_timesN_67 rfl ?_
    refine lv_aload_n hx hb d_M_timesN_68 rfl (lv_at hl 1 rfl) ?_
    refine va_get (D := D) (ci := 12) (v := .ref (q 41)) (C := "CoinKeeperModel") (T := F_12) (N := 98) hx hb hts i_12 hown hK hP 0 rfl rfl 49 (by decide) (hts _ gw_1468) (fun _ h9 => h9) rfl d_M_timesN_69 ?_
    refine lv_iconst (v := 0) hx hb d_M_timesN_72 (by decide) ?_
    refine lv_dup2_11 hx hb d_M_timesN_73 rfl rfl ?_
    refine va_iald hx hb hK hP 5 1 rfl rfl (inb_in (by decide)) d_M_timesN_74 ?_
    refine lv_topi (fun v6 ev => ?_)
    have hf := bn ev hf
    clear ev
    refine lv_aload_n hx hb d_M_timesN_75 rfl (lv_at hl 1 rfl) ?_
    refine va_get (D := D) (ci := 12) (v := .ref (q 50)) (C := "CoinKeeperModel") (T := F_12) (N := 98) hx hb hts i_12 hown hK hP 0 rfl rfl 58 (by decide) (hts _ gw_1477) (fun _ h9 => h9) rfl d_M_timesN_76 ?_
    refine lv_iload hx hb d_M_timesN_79 (lv_at hl 3 rfl) ?_
    refine lv_bipush (v := 32) hx hb d_M_timesN_81 (by decide) ?_
    refine lv_idiv hx hb d_M_timesN_83 (by decide) ?_
    refine lv_topi (fun v7 ev => ?_)
    have hf := bn ev hf
    clear ev
    obtain ⟨hg, hf⟩ := gdp hf
    refine va_iald hx hb hK hP 1 1 rfl rfl (inb_in hg) d_M_timesN_84 ?_
    refine lv_topi (fun v8 ev => ?_)
    have hf := bn ev hf
    clear ev
    refine lv_iload hx hb d_M_timesN_85 (lv_at hl 3 rfl) ?_
    refine lv_bipush (v := 32) hx hb d_M_timesN_87 (by decide) ?_
    refine lv_irem hx hb d_M_timesN_89 (by decide) ?_
    refine lv_iushr hx hb d_M_timesN_90 rfl ?_
    refine lv_topi (fun v9 ev => ?_)
    have hf := bn ev hf
    clear ev
    refine lv_iconst (v := 1) hx hb d_M_timesN_91 (by decide) ?_
    refine lv_iand hx hb d_M_timesN_92 ?_
    refine lv_ior hx hb d_M_timesN_93 ?_
    refine lv_topi (fun v10 ev => ?_)
    have hf := bn ev hf
    clear ev
    refine va_iast hx hb hK hP hD hS 5 1 rfl rfl (inb_in (by decide)) d_M_timesN_94 (fun H locs hP hD hS => ?_)
    obtain ⟨f11, ev, hf⟩ := bne hf
    have hP : va_P D classes [(o, .inr (12, mo q z)), ((q 50), .inl (cy 1, 16, .inl u1)), (b1, .inl (cy 1, 8, .inl u2)), (b2, .inl (cy 1, 8, .inl h2)), (b3, .inl (cy 1, 8, .inl h3)), ((q 41), .inl (cy 1, 8, .inl f11))] H := by rw [ev]; exact hP
    have hD : va_D A [(o, .inr (12, mo q z)), ((q 50), .inl (cy 1, 16, .inl u1)), (b1, .inl (cy 1, 8, .inl u2)), (b2, .inl (cy 1, 8, .inl h2)), (b3, .inl (cy 1, 8, .inl h3)), ((q 41), .inl (cy 1, 8, .inl f11))] := by rw [ev]; exact hD
    clear ev
    refine lv_iload hx hb d_M_timesN_95 (lv_at hl 0 rfl) ?_
    refine lv_iconst (v := 1) hx hb d_M_timesN_97 (by decide) ?_
    refine lv_icmp_eq (tgt := 114) hx hb d_M_timesN_98 (by decide) (fun cx => ?_) (fun cx => ?_)
    · have hf := ifp cx hf
      exact wb_M_timesN_114 (fu := fu) F hk_35 _ _ _ _ _ hf _ _ _ (hP.sub (ws' := [(o, .inr (12, mo q z)), ((q 41), .inl (cy 1, 8, .inl f11)), ((q 50), .inl (cy 1, 16, .inl u1)), (b1, .inl (cy 1, 8, .inl u2)), (b2, .inl (cy 1, 8, .inl h2)), (b3, .inl (cy 1, 8, .inl h3))]) [0, 5, 1, 2, 3, 4] rfl) (hD.sub (ws' := [(o, .inr (12, mo q z)), ((q 41), .inl (cy 1, 8, .inl f11)), ((q 50), .inl (cy 1, 16, .inl u1)), (b1, .inl (cy 1, 8, .inl u2)), (b2, .inl (cy 1, 8, .inl h2)), (b3, .inl (cy 1, 8, .inl h3))]) [0, 5, 1, 2, 3, 4] (by decide) rfl) hS (lv_sub hl [1, 2, 3] rfl)
    · have hf := ifn cx hf
      refine lv_aload_n hx hb d_M_timesN_101 rfl (lv_at hl 1 rfl) ?_
      refine va_get (D := D) (ci := 12) (v := .ref (q 41)) (C := "CoinKeeperModel") (T := F_12) (N := 98) hx hb hts i_12 hown hK hP 0 rfl rfl 49 (by decide) (hts _ gw_1468) (fun _ h9 => h9) rfl d_M_timesN_102 ?_
      refine va_gets hx hb (hSt.1 23 _ rfl).1 hS hown (hts _ gw_2003) (fun _ h9 => h9) d_M_timesN_105 ?_
      obtain ⟨v12, hc, hf⟩ := bdp1 hf
      refine q_ai (wr := [(o, .inr (12, mo q z)), ((q 50), .inl (cy 1, 16, .inl u1)), (b1, .inl (cy 1, 8, .inl u2)), (b2, .inl (cy 1, 8, .inl h2)), (b3, .inl (cy 1, 8, .inl h3))]) (va_runS (As := [.ref (q 41), .ref (ad 23)]) (rest := []) ⟨hx, hb, hml, hown, hts⟩ (c_M_compare_s1x23 l D cy ad fu (q 41) f11 _ hc H.size) ⟨q_cB hts gw_1404 gw_18 gw_1402 hdm_16 ⟨by decide, by decide⟩, hts _ gw_1403⟩ (q_pre (hP.sub [5] rfl) (hD.sub [5] (by decide) rfl) hK hSt hS (va_free hD hS hA [5] rfl) _) rfl rfl hl.1 rfl (lv_room (Nat.le_of_ble_eq_true rfl)) d_M_timesN_108 ⟨Nat.le_of_ble_eq_true rfl, Nat.le_of_ble_eq_true rfl⟩) hP hD hS hA [5] [0, 1, 2, 3, 4] rfl rfl (by decide) (by decide) (fun H locs hP hD hS => ?_)
      clear hc
      have hP : va_P D classes [(o, .inr (12, mo q z)), ((q 50), .inl (cy 1, 16, .inl u1)), (b1, .inl (cy 1, 8, .inl u2)), (b2, .inl (cy 1, 8, .inl h2)), (b3, .inl (cy 1, 8, .inl h3)), ((q 41), .inl (cy 1, 8, .inl f11))] H := hP
      have hD : va_D A [(o, .inr (12, mo q z)), ((q 50), .inl (cy 1, 16, .inl u1)), (b1, .inl (cy 1, 8, .inl u2)), (b2, .inl (cy 1, 8, .inl h2)), (b3, .inl (cy 1, 8, .inl h3)), ((q 41), .inl (cy 1, 8, .inl f11))] := hD
      refine lv_if_lt (tgt := 129) hx hb d_M_timesN_111 (by decide) (fun cx => ?_) (fun cx => ?_)
      · have hf := ifp cx hf
        exact wb_M_timesN_129 (fu := fu) F hk_35 _ _ _ _ _ hf _ _ _ (hP.sub (ws' := [(o, .inr (12, mo q z)), ((q 41), .inl (cy 1, 8, .inl f11)), ((q 50), .inl (cy 1, 16, .inl u1)), (b1, .inl (cy 1, 8, .inl u2)), (b2, .inl (cy 1, 8, .inl h2)), (b3, .inl (cy 1, 8, .inl h3))]) [0, 5, 1, 2, 3, 4] rfl) (hD.sub (ws' := [(o, .inr (12, mo q z)), ((q 41), .inl (cy 1, 8, .inl f11)), ((q 50), .inl (cy 1, 16, .inl u1)), (b1, .inl (cy 1, 8, .inl u2)), (b2, .inl (cy 1, 8, .inl h2)), (b3, .inl (cy 1, 8, .inl h3))]) [0, 5, 1, 2, 3, 4] (by decide) rfl) hS (lv_sub hl [1, 2, 3] rfl)
      · have hf := ifn cx hf
        exact wb_M_timesN_114 (fu := fu) F hk_35 _ _ _ _ _ hf _ _ _ (hP.sub (ws' := [(o, .inr (12, mo q z)), ((q 41), .inl (cy 1, 8, .inl f11)), ((q 50), .inl (cy 1, 16, .inl u1)), (b1, .inl (cy 1, 8, .inl u2)), (b2, .inl (cy 1, 8, .inl h2)), (b3, .inl (cy 1, 8, .inl h3))]) [0, 5, 1, 2, 3, 4] rfl) (hD.sub (ws' := [(o, .inr (12, mo q z)), ((q 41), .inl (cy 1, 8, .inl f11)), ((q 50), .inl (cy 1, 16, .inl u1)), (b1, .inl (cy 1, 8, .inl u2)), (b2, .inl (cy 1, 8, .inl h2)), (b3, .inl (cy 1, 8, .inl h3))]) [0, 5, 1, 2, 3, 4] (by decide) rfl) hS (lv_sub hl [1, 2, 3] rfl)
theorem w_M_timesN_35 {p : Program} {l : Launch} {e : Env} {s : State} {m : MethodId} {args : Array Value} {below : List Frame} {meth : Method} {c : Code} {D : va_G} {cy : Nat → ClassId} {A : Nat → Prop} {ad : Nat → Nat} {o : Nat} {q : Nat → Nat} {b1 : Nat} {b2 : Nat} {b3 : Nat} {z : Nat → Int32} {h2 : Nat → Int32} {h3 : Nat → Int32} {fu : Nat} (F : Fx p s m args meth c b_M_timesN 6 "CoinKeeperModel" "timesN" none D cy ad A) : ∀ n : Nat, I_M_timesN_35 p l e s m args below meth c D cy A ad o q b1 b2 b3 z h2 h3 (x_M_timesN_35 fu z h2 h3 n)
  | 0 => fun _ _ _ _ _ hf => nomatch (show (none : Option ((Nat → Int32) × (Nat → Int32) × (Nat → Int32))) = some _ from hf)
  | n + 1 => wb_M_timesN_35 F (w_M_timesN_35 F n)
set_option maxHeartbeats 8000000 in
set_option maxRecDepth 100000 in
theorem wb_M_timesN_9 {p : Program} {l : Launch} {e : Env} {s : State} {m : MethodId} {args : Array Value} {below : List Frame} {meth : Method} {c : Code} {D : va_G} {cy : Nat → ClassId} {A : Nat → Prop} {ad : Nat → Nat} {o : Nat} {q : Nat → Nat} {b1 : Nat} {b2 : Nat} {b3 : Nat} {z : Nat → Int32} {h2 : Nat → Int32} {h3 : Nat → Int32} {fu : Nat} {k_9 : Int32 → (Nat → Int32) → (Nat → Int32) → (Nat → Int32) → Option ((Nat → Int32) × (Nat → Int32) × (Nat → Int32))} (F : Fx p s m args meth c b_M_timesN 6 "CoinKeeperModel" "timesN" none D cy ad A) (hk_9 : I_M_timesN_9 p l e s m args below meth c D cy A ad o q b1 b2 b3 z h2 h3 k_9) : I_M_timesN_9 p l e s m args below meth c D cy A ad o q b1 b2 b3 z h2 h3 (xb_M_timesN_9 fu z h2 h3 k_9) := by
  obtain ⟨hx, hb, hr, hml, hown, hts, hlocks, hK, hA, hSt, hnm, hex⟩ := id F
  intro x4 u0 u1 u2 res hf H locs ls hP hD hS hl
  unfold xb_M_timesN_9 at hf
  refine lv_iload hx hb d_M_timesN_9 (lv_at hl 2 rfl) ?_
  refine lv_bipush (v := 8) hx hb d_M_timesN_11 (by decide) ?_
  refine lv_icmp_ge (tgt := 30) hx hb d_M_timesN_13 (by decide) (fun cx => ?_) (fun cx => ?_)
  · have hf := ifp cx hf
    refine lv_sipush (v := 511) hx hb d_M_timesN_30 (by decide) ?_
    refine lv_istore (lv' := [(4, .int (511 : Int32)), (0, .ref o), (1, .ref b1)]) hx hb d_M_timesN_33 hl (by decide) rfl (fun ls hl => ?_)
    exact w_M_timesN_35 F fu _ _ _ _ _ hf _ _ _ hP hD hS (lv_sub hl [1, 2, 0] rfl)
  · have hf := ifn cx hf
    refine lv_aload_n hx hb d_M_timesN_16 rfl (lv_at hl 0 rfl) ?_
    refine va_get (D := D) (ci := 12) (v := .ref (q 41)) (C := "CoinKeeperModel") (T := F_12) (N := 98) hx hb hts i_12 hown hK hP 0 rfl rfl 49 (by decide) (hts _ gw_1468) (fun _ h9 => h9) rfl d_M_timesN_17 ?_
    refine lv_iload hx hb d_M_timesN_20 (lv_at hl 2 rfl) ?_
    refine lv_iconst (v := 0) hx hb d_M_timesN_22 (by decide) ?_
    obtain ⟨hg, hf⟩ := gdp hf
    refine va_iast hx hb hK hP hD hS 1 1 rfl rfl (inb_in hg) d_M_timesN_23 (fun H locs hP hD hS => ?_)
    obtain ⟨f1, ev, hf⟩ := bne hf
    have hP : va_P D classes [(o, .inr (12, mo q z)), ((q 41), .inl (cy 1, 8, .inl f1)), ((q 50), .inl (cy 1, 16, .inl u1)), (b1, .inl (cy 1, 8, .inl u2)), (b2, .inl (cy 1, 8, .inl h2)), (b3, .inl (cy 1, 8, .inl h3))] H := by rw [ev]; exact hP
    have hD : va_D A [(o, .inr (12, mo q z)), ((q 41), .inl (cy 1, 8, .inl f1)), ((q 50), .inl (cy 1, 16, .inl u1)), (b1, .inl (cy 1, 8, .inl u2)), (b2, .inl (cy 1, 8, .inl h2)), (b3, .inl (cy 1, 8, .inl h3))] := by rw [ev]; exact hD
    clear ev
    obtain ⟨v2, ev, hf⟩ := bne hf
    refine lv_iinc (v := v2) (lv' := [(4, .int v2), (0, .ref o), (1, .ref b1)]) hx hb d_M_timesN_24 hl (k := 2) rfl (by rw [ev]; rfl) (by decide) rfl (fun ls hl => ?_)
    clear ev
    refine lv_goto (tgt := 9) hx hb d_M_timesN_27 (by decide) ?_
    exact hk_9 _ _ _ _ _ hf _ _ _ hP hD hS (lv_sub hl [1, 2, 0] rfl)
theorem w_M_timesN_9 {p : Program} {l : Launch} {e : Env} {s : State} {m : MethodId} {args : Array Value} {below : List Frame} {meth : Method} {c : Code} {D : va_G} {cy : Nat → ClassId} {A : Nat → Prop} {ad : Nat → Nat} {o : Nat} {q : Nat → Nat} {b1 : Nat} {b2 : Nat} {b3 : Nat} {z : Nat → Int32} {h2 : Nat → Int32} {h3 : Nat → Int32} {fu : Nat} (F : Fx p s m args meth c b_M_timesN 6 "CoinKeeperModel" "timesN" none D cy ad A) : ∀ n : Nat, I_M_timesN_9 p l e s m args below meth c D cy A ad o q b1 b2 b3 z h2 h3 (x_M_timesN_9 fu z h2 h3 n)
  | 0 => fun _ _ _ _ _ hf => nomatch (show (none : Option ((Nat → Int32) × (Nat → Int32) × (Nat → Int32))) = some _ from hf)
  | n + 1 => wb_M_timesN_9 F (w_M_timesN_9 F n)
set_option maxHeartbeats 8000000 in
set_option maxRecDepth 100000 in
theorem we_M_timesN {p : Program} {l : Launch} {e : Env} {s : State} {m : MethodId} {args : Array Value} {below : List Frame} {meth : Method} {c : Code} {D : va_G} {cy : Nat → ClassId} {A : Nat → Prop} {ad : Nat → Nat} {o : Nat} {q : Nat → Nat} {b1 : Nat} {b2 : Nat} {b3 : Nat} {z : Nat → Int32} {h2 : Nat → Int32} {h3 : Nat → Int32} {fu : Nat} (F : Fx p s m args meth c b_M_timesN 6 "CoinKeeperModel" "timesN" none D cy ad A) : I_M_timesN_e p l e s m args below meth c D cy A ad o q b1 b2 b3 z h2 h3 (x_M_timesN fu z h2 h3) := by
  obtain ⟨hx, hb, hr, hml, hown, hts, hlocks, hK, hA, hSt, hnm, hex⟩ := id F
  intro u0 u1 u2 res hf H locs ls hP hD hS hl
  unfold x_M_timesN at hf
  refine lv_aload_n hx hb d_M_timesN_0 rfl (lv_at hl 0 rfl) ?_
  refine lv_aload_n hx hb d_M_timesN_1 rfl (lv_at hl 2 rfl) ?_
  refine lv_aload_n hx hb d_M_timesN_2 rfl (lv_at hl 3 rfl) ?_
  obtain ⟨f1, hc, hf⟩ := bdp1 hf
  refine q_av (wr := [((q 41), .inl (cy 1, 8, .inl u0)), (b1, .inl (cy 1, 8, .inl u2))]) (va_runV (C := "CoinKeeperModel") (As := [.ref b2, .ref b3]) (rest := []) ⟨hx, hb, hml, hown, hts⟩ (c_M_multiply l D cy ad fu o q b2 b3 z h2 h3 u1 _ hc H.size) ⟨q_cB hts gw_1983 gw_18 gw_1980 hdm_18 ⟨by decide, by decide⟩, hts _ gw_1982, hts _ gs_113⟩ (q_preV (q_pre (hP.sub [0, 2, 4, 5] rfl) (hD.sub [0, 2, 4, 5] (by decide) rfl) hK hSt hS (va_free hD hS hA [0, 2, 4, 5] rfl) _) (va_recv hK (hP.sub [0, 2, 4, 5] rfl) (ci := 12) (q0 := 0) rfl rfl)) rfl rfl hl.1 rfl (lv_room (Nat.le_of_ble_eq_true rfl)) d_M_timesN_3 ⟨Nat.le_of_ble_eq_true rfl, Nat.le_of_ble_eq_true rfl⟩) hP hD hS hA [0, 2, 4, 5] [1, 3] rfl rfl (by decide) (by decide) (fun H locs hP hD hS => ?_)
  clear hc
  have hP : va_P D classes [((q 41), .inl (cy 1, 8, .inl u0)), (b1, .inl (cy 1, 8, .inl u2)), (o, .inr (12, mo q z)), ((q 50), .inl (cy 1, 16, .inl f1)), (b2, .inl (cy 1, 8, .inl h2)), (b3, .inl (cy 1, 8, .inl h3))] H := hP
  have hD : va_D A [((q 41), .inl (cy 1, 8, .inl u0)), (b1, .inl (cy 1, 8, .inl u2)), (o, .inr (12, mo q z)), ((q 50), .inl (cy 1, 16, .inl f1)), (b2, .inl (cy 1, 8, .inl h2)), (b3, .inl (cy 1, 8, .inl h3))] := hD
  refine lv_iconst (v := 0) hx hb d_M_timesN_6 (by decide) ?_
  refine lv_istore (lv' := [(4, .int (0 : Int32)), (0, .ref o), (1, .ref b1), (2, .ref b2), (3, .ref b3)]) hx hb d_M_timesN_7 hl (by decide) rfl (fun ls hl => ?_)
  exact w_M_timesN_9 F fu _ _ _ _ _ hf _ _ _ (hP.sub (ws' := [(o, .inr (12, mo q z)), ((q 41), .inl (cy 1, 8, .inl u0)), ((q 50), .inl (cy 1, 16, .inl f1)), (b1, .inl (cy 1, 8, .inl u2)), (b2, .inl (cy 1, 8, .inl h2)), (b3, .inl (cy 1, 8, .inl h3))]) [2, 0, 3, 1, 4, 5] rfl) (hD.sub (ws' := [(o, .inr (12, mo q z)), ((q 41), .inl (cy 1, 8, .inl u0)), ((q 50), .inl (cy 1, 16, .inl f1)), (b1, .inl (cy 1, 8, .inl u2)), (b2, .inl (cy 1, 8, .inl h2)), (b3, .inl (cy 1, 8, .inl h3))]) [2, 0, 3, 1, 4, 5] (by decide) rfl) hS (lv_sub hl [1, 2, 0] rfl)
theorem c_M_timesN (l : Launch) (D : va_G) (cy : Nat → ClassId) (ad : Nat → Nat) (fu : Nat) (o : Nat) (q : Nat → Nat) (b1 : Nat) (b2 : Nat) (b3 : Nat) (z : Nat → Int32) (h2 : Nat → Int32) (h3 : Nat → Int32) (u0 : Nat → Int32) (u1 : Nat → Int32) (u2 : Nat → Int32) (res : (Nat → Int32) × (Nat → Int32) × (Nat → Int32)) (hf : x_M_timesN fu z h2 h3 u0 u1 u2 = some res) (sz : Nat) : Met l ({ cls := "CoinKeeperModel", name := "timesN", desc := "([I[I[I)V" } : Jvm.MethodName) (.code ({ cls := "CoinKeeperModel", name := "timesN", desc := "([I[I[I)V" } : Jvm.MethodName) b_M_timesN 6 none :: gw) rm_M_timesN (va_Pc [.ref o, .ref b1, .ref b2, .ref b3] (Pr D cy ad [(o, .inr (12, mo q z)), ((q 41), .inl (cy 1, 8, .inl u0)), ((q 50), .inl (cy 1, 16, .inl u1)), (b1, .inl (cy 1, 8, .inl u2)), (b2, .inl (cy 1, 8, .inl h2)), (b3, .inl (cy 1, 8, .inl h3))] sz)) (q_M_timesN D cy (va_A [(o, .inr (12, mo q z)), ((q 41), .inl (cy 1, 8, .inl u0)), ((q 50), .inl (cy 1, 16, .inl u1)), (b1, .inl (cy 1, 8, .inl u2)), (b2, .inl (cy 1, 8, .inl h2)), (b3, .inl (cy 1, 8, .inl h3))] sz) o q b1 b2 b3 z h2 h3 res) 0 0 (va_A [(o, .inr (12, mo q z)), ((q 41), .inl (cy 1, 8, .inl u0)), ((q 50), .inl (cy 1, 16, .inl u1)), (b1, .inl (cy 1, 8, .inl u2)), (b2, .inl (cy 1, 8, .inl h2)), (b3, .inl (cy 1, 8, .inl h3))] sz) :=
  q_met (Qc := fun A => q_M_timesN D cy A o q b1 b2 b3 z h2 h3 res) (by decide) rfl rfl (Nat.le_of_ble_eq_true rfl) (fun p e s m below meth c ls F hP hD hS hl => we_M_timesN (fu := fu) F u0 u1 u2 res hf _ _ _ hP hD hS hl) sz
abbrev rm_M_timesN_e21 : Room := { frames := 3, cells := 0, slots := 0, locals := 64 }
abbrev q_M_timesN_e21 (D : va_G) (cy : Nat → ClassId) (A : Nat → Prop) (o : Nat) (q : Nat → Nat) (b1 : Nat) (b3 : Nat) (z : Nat → Int32) (h3 : Nat → Int32) (res : (Nat → Int32) × (Nat → Int32) × (Nat → Int32)) : Array Value → State → Outcome → State → Prop := va_Qv (fun (_ : Unit) => True) (fun _ t => Po D cy A [(o, .inr (12, mo q z)), ((q 41), .inl (cy 1, 8, .inl res.1)), ((q 50), .inl (cy 1, 16, .inl res.2.1)), (b1, .inl (cy 1, 8, .inl res.2.2)), (b3, .inl (cy 1, 8, .inl h3))] t) A
def I_M_timesN_e21_129 (p : Program) (l : Launch) (e : Env) (s : State) (m : MethodId) (args : Array Value) (below : List Frame) (meth : Method) (c : Code) (D : va_G) (cy : Nat → ClassId) (A : Nat → Prop) (ad : Nat → Nat) (o : Nat) (q : Nat → Nat) (b1 : Nat) (b3 : Nat) (z : Nat → Int32) (h3 : Nat → Int32) (k : Int32 → (Nat → Int32) → (Nat → Int32) → (Nat → Int32) → Option ((Nat → Int32) × (Nat → Int32) × (Nat → Int32))) : Prop :=
  ∀ (x4 : Int32) (u0 : Nat → Int32) (u1 : Nat → Int32) (u2 : Nat → Int32) (res : (Nat → Int32) × (Nat → Int32) × (Nat → Int32)), k x4 u0 u1 u2 = some res → ∀ (H : Heap) (locs : List Loc) (ls : Array Slot), va_P D classes [(o, .inr (12, mo q z)), ((q 41), .inl (cy 1, 8, .inl u0)), ((q 50), .inl (cy 1, 16, .inl u1)), (b1, .inl (cy 1, 8, .inl u2)), (b3, .inl (cy 1, 8, .inl h3))] H → va_D A [(o, .inr (12, mo q z)), ((q 41), .inl (cy 1, 8, .inl u0)), ((q 50), .inl (cy 1, 16, .inl u1)), (b1, .inl (cy 1, 8, .inl u2)), (b3, .inl (cy 1, 8, .inl h3))] → va_S A s.heap H locs → lv_has ls 6 [(0, .ref o), (1, .ref b1), (4, .int x4)] → W p l e rm_M_timesN_e21 s m args below meth c H locs 0 0 (MQ below (q_M_timesN_e21 D cy A o q b1 b3 z h3 res) args s 0 0 A) (F0 m 129 ls [])
def I_M_timesN_e21_114 (p : Program) (l : Launch) (e : Env) (s : State) (m : MethodId) (args : Array Value) (below : List Frame) (meth : Method) (c : Code) (D : va_G) (cy : Nat → ClassId) (A : Nat → Prop) (ad : Nat → Nat) (o : Nat) (q : Nat → Nat) (b1 : Nat) (b3 : Nat) (z : Nat → Int32) (h3 : Nat → Int32) (k : Int32 → (Nat → Int32) → (Nat → Int32) → (Nat → Int32) → Option ((Nat → Int32) × (Nat → Int32) × (Nat → Int32))) : Prop :=
  ∀ (x4 : Int32) (u0 : Nat → Int32) (u1 : Nat → Int32) (u2 : Nat → Int32) (res : (Nat → Int32) × (Nat → Int32) × (Nat → Int32)), k x4 u0 u1 u2 = some res → ∀ (H : Heap) (locs : List Loc) (ls : Array Slot), va_P D classes [(o, .inr (12, mo q z)), ((q 41), .inl (cy 1, 8, .inl u0)), ((q 50), .inl (cy 1, 16, .inl u1)), (b1, .inl (cy 1, 8, .inl u2)), (b3, .inl (cy 1, 8, .inl h3))] H → va_D A [(o, .inr (12, mo q z)), ((q 41), .inl (cy 1, 8, .inl u0)), ((q 50), .inl (cy 1, 16, .inl u1)), (b1, .inl (cy 1, 8, .inl u2)), (b3, .inl (cy 1, 8, .inl h3))] → va_S A s.heap H locs → lv_has ls 6 [(0, .ref o), (1, .ref b1), (4, .int x4)] → W p l e rm_M_timesN_e21 s m args below meth c H locs 0 0 (MQ below (q_M_timesN_e21 D cy A o q b1 b3 z h3 res) args s 0 0 A) (F0 m 114 ls [])
def I_M_timesN_e21_35 (p : Program) (l : Launch) (e : Env) (s : State) (m : MethodId) (args : Array Value) (below : List Frame) (meth : Method) (c : Code) (D : va_G) (cy : Nat → ClassId) (A : Nat → Prop) (ad : Nat → Nat) (o : Nat) (q : Nat → Nat) (b1 : Nat) (b3 : Nat) (z : Nat → Int32) (h3 : Nat → Int32) (k : Int32 → (Nat → Int32) → (Nat → Int32) → (Nat → Int32) → Option ((Nat → Int32) × (Nat → Int32) × (Nat → Int32))) : Prop :=
  ∀ (x4 : Int32) (u0 : Nat → Int32) (u1 : Nat → Int32) (u2 : Nat → Int32) (res : (Nat → Int32) × (Nat → Int32) × (Nat → Int32)), k x4 u0 u1 u2 = some res → ∀ (H : Heap) (locs : List Loc) (ls : Array Slot), va_P D classes [(o, .inr (12, mo q z)), ((q 41), .inl (cy 1, 8, .inl u0)), ((q 50), .inl (cy 1, 16, .inl u1)), (b1, .inl (cy 1, 8, .inl u2)), (b3, .inl (cy 1, 8, .inl h3))] H → va_D A [(o, .inr (12, mo q z)), ((q 41), .inl (cy 1, 8, .inl u0)), ((q 50), .inl (cy 1, 16, .inl u1)), (b1, .inl (cy 1, 8, .inl u2)), (b3, .inl (cy 1, 8, .inl h3))] → va_S A s.heap H locs → lv_has ls 6 [(0, .ref o), (1, .ref b1), (4, .int x4)] → W p l e rm_M_timesN_e21 s m args below meth c H locs 0 0 (MQ below (q_M_timesN_e21 D cy A o q b1 b3 z h3 res) args s 0 0 A) (F0 m 35 ls [])
def I_M_timesN_e21_9 (p : Program) (l : Launch) (e : Env) (s : State) (m : MethodId) (args : Array Value) (below : List Frame) (meth : Method) (c : Code) (D : va_G) (cy : Nat → ClassId) (A : Nat → Prop) (ad : Nat → Nat) (o : Nat) (q : Nat → Nat) (b1 : Nat) (b3 : Nat) (z : Nat → Int32) (h3 : Nat → Int32) (k : Int32 → (Nat → Int32) → (Nat → Int32) → (Nat → Int32) → Option ((Nat → Int32) × (Nat → Int32) × (Nat → Int32))) : Prop :=
  ∀ (x4 : Int32) (u0 : Nat → Int32) (u1 : Nat → Int32) (u2 : Nat → Int32) (res : (Nat → Int32) × (Nat → Int32) × (Nat → Int32)), k x4 u0 u1 u2 = some res → ∀ (H : Heap) (locs : List Loc) (ls : Array Slot), va_P D classes [(o, .inr (12, mo q z)), ((q 41), .inl (cy 1, 8, .inl u0)), ((q 50), .inl (cy 1, 16, .inl u1)), (b1, .inl (cy 1, 8, .inl u2)), (b3, .inl (cy 1, 8, .inl h3))] H → va_D A [(o, .inr (12, mo q z)), ((q 41), .inl (cy 1, 8, .inl u0)), ((q 50), .inl (cy 1, 16, .inl u1)), (b1, .inl (cy 1, 8, .inl u2)), (b3, .inl (cy 1, 8, .inl h3))] → va_S A s.heap H locs → lv_has ls 6 [(0, .ref o), (1, .ref b1), (4, .int x4)] → W p l e rm_M_timesN_e21 s m args below meth c H locs 0 0 (MQ below (q_M_timesN_e21 D cy A o q b1 b3 z h3 res) args s 0 0 A) (F0 m 9 ls [])
def I_M_timesN_e21_e (p : Program) (l : Launch) (e : Env) (s : State) (m : MethodId) (args : Array Value) (below : List Frame) (meth : Method) (c : Code) (D : va_G) (cy : Nat → ClassId) (A : Nat → Prop) (ad : Nat → Nat) (o : Nat) (q : Nat → Nat) (b1 : Nat) (b3 : Nat) (z : Nat → Int32) (h3 : Nat → Int32) (k : (Nat → Int32) → (Nat → Int32) → (Nat → Int32) → Option ((Nat → Int32) × (Nat → Int32) × (Nat → Int32))) : Prop :=
  ∀ (u0 : Nat → Int32) (u1 : Nat → Int32) (u2 : Nat → Int32) (res : (Nat → Int32) × (Nat → Int32) × (Nat → Int32)), k u0 u1 u2 = some res → ∀ (H : Heap) (locs : List Loc) (ls : Array Slot), va_P D classes [(o, .inr (12, mo q z)), ((q 41), .inl (cy 1, 8, .inl u0)), ((q 50), .inl (cy 1, 16, .inl u1)), (b1, .inl (cy 1, 8, .inl u2)), (b3, .inl (cy 1, 8, .inl h3))] H → va_D A [(o, .inr (12, mo q z)), ((q 41), .inl (cy 1, 8, .inl u0)), ((q 50), .inl (cy 1, 16, .inl u1)), (b1, .inl (cy 1, 8, .inl u2)), (b3, .inl (cy 1, 8, .inl h3))] → va_S A s.heap H locs → lv_has ls 6 [(0, .ref o), (1, .ref b1), (2, .ref b1), (3, .ref b3)] → W p l e rm_M_timesN_e21 s m args below meth c H locs 0 0 (MQ below (q_M_timesN_e21 D cy A o q b1 b3 z h3 res) args s 0 0 A) (F0 m 0 ls [])
set_option maxHeartbeats 8000000 in
set_option maxRecDepth 100000 in
theorem wb_M_timesN_e21_129 {p : Program} {l : Launch} {e : Env} {s : State} {m : MethodId} {args : Array Value} {below : List Frame} {meth : Method} {c : Code} {D : va_G} {cy : Nat → ClassId} {A : Nat → Prop} {ad : Nat → Nat} {o : Nat} {q : Nat → Nat} {b1 : Nat} {b3 : Nat} {z : Nat → Int32} {h3 : Nat → Int32} {fu : Nat} {k_35 : Int32 → (Nat → Int32) → (Nat → Int32) → (Nat → Int32) → Option ((Nat → Int32) × (Nat → Int32) × (Nat → Int32))} (F : Fx p s m args meth c b_M_timesN 6 "CoinKeeperModel" "timesN" none D cy ad A) (hk_35 : I_M_timesN_e21_35 p l e s m args below meth c D cy A ad o q b1 b3 z h3 k_35) : I_M_timesN_e21_129 p l e s m args below meth c D cy A ad o q b1 b3 z h3 (xb_M_timesN_e21_129 fu z h3 k_35) := by
  obtain ⟨hx, hb, hr, hml, hown, hts, hlocks, hK, hA, hSt, hnm, hex⟩ := id F
  intro x4 u0 u1 u2 res hf H locs ls hP hD hS hl
  unfold xb_M_timesN_e21_129 at hf
  obtain ⟨v1, ev, hf⟩ := bne hf
  refine lv_iinc (v := v1) (lv' := [(4, .int v1), (0, .ref o), (1, .ref b1)]) hx hb d_M_timesN_129 hl (k := 2) rfl (by rw [ev]; rfl) (by decide) rfl (fun ls hl => ?_)
  clear ev
  refine lv_goto (tgt := 35) hx hb d_M_timesN_132 (by decide) ?_
  exact hk_35 _ _ _ _ _ hf _ _ _ hP hD hS (lv_sub hl [1, 2, 0] rfl)
set_option maxHeartbeats 8000000 in
set_option maxRecDepth 100000 in
theorem wb_M_timesN_e21_114 {p : Program} {l : Launch} {e : Env} {s : State} {m : MethodId} {args : Array Value} {below : List Frame} {meth : Method} {c : Code} {D : va_G} {cy : Nat → ClassId} {A : Nat → Prop} {ad : Nat → Nat} {o : Nat} {q : Nat → Nat} {b1 : Nat} {b3 : Nat} {z : Nat → Int32} {h3 : Nat → Int32} {fu : Nat} {k_35 : Int32 → (Nat → Int32) → (Nat → Int32) → (Nat → Int32) → Option ((Nat → Int32) × (Nat → Int32) × (Nat → Int32))} (F : Fx p s m args meth c b_M_timesN 6 "CoinKeeperModel" "timesN" none D cy ad A) (hk_35 : I_M_timesN_e21_35 p l e s m args below meth c D cy A ad o q b1 b3 z h3 k_35) : I_M_timesN_e21_114 p l e s m args below meth c D cy A ad o q b1 b3 z h3 (xb_M_timesN_e21_114 fu z h3 k_35) := by
  obtain ⟨hx, hb, hr, hml, hown, hts, hlocks, hK, hA, hSt, hnm, hex⟩ := id F
  intro x4 u0 u1 u2 res hf H locs ls hP hD hS hl
  unfold xb_M_timesN_e21_114 at hf
  refine lv_aload_n hx hb d_M_timesN_114 rfl (lv_at hl 0 rfl) ?_
  refine va_get (D := D) (ci := 12) (v := .ref (q 41)) (C := "CoinKeeperModel") (T := F_12) (N := 98) hx hb hts i_12 hown hK hP 0 rfl rfl 49 (by decide) (hts _ gw_1468) (fun _ h9 => h9) rfl d_M_timesN_115 ?_
  refine lv_aload_n hx hb d_M_timesN_118 rfl (lv_at hl 0 rfl) ?_
  refine va_get (D := D) (ci := 12) (v := .ref (q 41)) (C := "CoinKeeperModel") (T := F_12) (N := 98) hx hb hts i_12 hown hK hP 0 rfl rfl 49 (by decide) (hts _ gw_1468) (fun _ h9 => h9) rfl d_M_timesN_119 ?_
  refine va_gets hx hb (hSt.1 23 _ rfl).1 hS hown (hts _ gw_2003) (fun _ h9 => h9) d_M_timesN_122 ?_
  obtain ⟨v1, f2, hc, hf⟩ := bdp2 hf
  refine q_ai (wr := [(o, .inr (12, mo q z)), ((q 50), .inl (cy 1, 16, .inl u1)), (b1, .inl (cy 1, 8, .inl u2)), (b3, .inl (cy 1, 8, .inl h3))]) (va_runS (As := [.ref (q 41), .ref (q 41), .ref (ad 23)]) (rest := []) ⟨hx, hb, hml, hown, hts⟩ (c_M_sub_e10s2x23 l D cy ad fu (q 41) u0 _ hc H.size) ⟨q_cB hts gw_1414 gw_18 gw_1412 hdm_17 ⟨by decide, by decide⟩, hts _ gw_1413⟩ (q_pre (hP.sub [1] rfl) (hD.sub [1] (by decide) rfl) hK hSt hS (va_free hD hS hA [1] rfl) _) rfl rfl hl.1 rfl (lv_room (Nat.le_of_ble_eq_true rfl)) d_M_timesN_125 ⟨Nat.le_of_ble_eq_true rfl, Nat.le_of_ble_eq_true rfl⟩) hP hD hS hA [1] [0, 2, 3, 4] rfl rfl (by decide) (by decide) (fun H locs hP hD hS => ?_)
  clear hc
  have hP : va_P D classes [(o, .inr (12, mo q z)), ((q 50), .inl (cy 1, 16, .inl u1)), (b1, .inl (cy 1, 8, .inl u2)), (b3, .inl (cy 1, 8, .inl h3)), ((q 41), .inl (cy 1, 8, .inl f2))] H := hP
  have hD : va_D A [(o, .inr (12, mo q z)), ((q 50), .inl (cy 1, 16, .inl u1)), (b1, .inl (cy 1, 8, .inl u2)), (b3, .inl (cy 1, 8, .inl h3)), ((q 41), .inl (cy 1, 8, .inl f2))] := hD
  refine lv_pop hx hb d_M_timesN_128 rfl ?_
  exact wb_M_timesN_e21_129 (fu := fu) F hk_35 _ _ _ _ _ hf _ _ _ (hP.sub (ws' := [(o, .inr (12, mo q z)), ((q 41), .inl (cy 1, 8, .inl f2)), ((q 50), .inl (cy 1, 16, .inl u1)), (b1, .inl (cy 1, 8, .inl u2)), (b3, .inl (cy 1, 8, .inl h3))]) [0, 4, 1, 2, 3] rfl) (hD.sub (ws' := [(o, .inr (12, mo q z)), ((q 41), .inl (cy 1, 8, .inl f2)), ((q 50), .inl (cy 1, 16, .inl u1)), (b1, .inl (cy 1, 8, .inl u2)), (b3, .inl (cy 1, 8, .inl h3))]) [0, 4, 1, 2, 3] (by decide) rfl) hS (lv_sub hl [0, 1, 2] rfl)
set_option maxHeartbeats 8000000 in
set_option maxRecDepth 100000 in
theorem wb_M_timesN_e21_35 {p : Program} {l : Launch} {e : Env} {s : State} {m : MethodId} {args : Array Value} {below : List Frame} {meth : Method} {c : Code} {D : va_G} {cy : Nat → ClassId} {A : Nat → Prop} {ad : Nat → Nat} {o : Nat} {q : Nat → Nat} {b1 : Nat} {b3 : Nat} {z : Nat → Int32} {h3 : Nat → Int32} {fu : Nat} {k_35 : Int32 → (Nat → Int32) → (Nat → Int32) → (Nat → Int32) → Option ((Nat → Int32) × (Nat → Int32) × (Nat → Int32))} (F : Fx p s m args meth c b_M_timesN 6 "CoinKeeperModel" "timesN" none D cy ad A) (hk_35 : I_M_timesN_e21_35 p l e s m args below meth c D cy A ad o q b1 b3 z h3 k_35) : I_M_timesN_e21_35 p l e s m args below meth c D cy A ad o q b1 b3 z h3 (xb_M_timesN_e21_35 fu z h3 k_35) := by
  obtain ⟨hx, hb, hr, hml, hown, hts, hlocks, hK, hA, hSt, hnm, hex⟩ := id F
  intro x4 u0 u1 u2 res hf H locs ls hP hD hS hl
  unfold xb_M_timesN_e21_35 at hf
  refine lv_iload hx hb d_M_timesN_35 (lv_at hl 2 rfl) ?_
  refine lv_if_lt (tgt := 135) hx hb d_M_timesN_37 (by decide) (fun cx => ?_) (fun cx => ?_)
  · have hf := ifp cx hf
    refine lv_aload_n hx hb d_M_timesN_135 rfl (lv_at hl 1 rfl) ?_
    refine lv_aload_n hx hb d_M_timesN_136 rfl (lv_at hl 0 rfl) ?_
    refine va_get (D := D) (ci := 12) (v := .ref (q 41)) (C := "CoinKeeperModel") (T := F_12) (N := 98) hx hb hts i_12 hown hK hP 0 rfl rfl 49 (by decide) (hts _ gw_1468) (fun _ h9 => h9) rfl d_M_timesN_137 ?_
    obtain ⟨f1, hc, hf⟩ := bdp1 hf
    refine q_av (wr := [(o, .inr (12, mo q z)), ((q 50), .inl (cy 1, 16, .inl u1)), (b3, .inl (cy 1, 8, .inl h3))]) (va_runS (As := [.ref b1, .ref (q 41)]) (rest := []) ⟨hx, hb, hml, hown, hts⟩ (c_M_copy l D cy ad fu b1 (q 41) u0 u2 _ hc H.size) ⟨q_cB hts gw_1397 gw_18 gw_1395 hdm_24 ⟨by decide, by decide⟩, hts _ gw_1396⟩ (q_pre (hP.sub [3, 1] rfl) (hD.sub [3, 1] (by decide) rfl) hK hSt hS (va_free hD hS hA [3, 1] rfl) _) rfl rfl hl.1 rfl (lv_room (Nat.le_of_ble_eq_true rfl)) d_M_timesN_140 ⟨Nat.le_of_ble_eq_true rfl, Nat.le_of_ble_eq_true rfl⟩) hP hD hS hA [3, 1] [0, 2, 4] rfl rfl (by decide) (by decide) (fun H locs hP hD hS => ?_)
    clear hc
    have hP : va_P D classes [(o, .inr (12, mo q z)), ((q 50), .inl (cy 1, 16, .inl u1)), (b3, .inl (cy 1, 8, .inl h3)), (b1, .inl (cy 1, 8, .inl f1)), ((q 41), .inl (cy 1, 8, .inl u0))] H := hP
    have hD : va_D A [(o, .inr (12, mo q z)), ((q 50), .inl (cy 1, 16, .inl u1)), (b3, .inl (cy 1, 8, .inl h3)), (b1, .inl (cy 1, 8, .inl f1)), ((q 41), .inl (cy 1, 8, .inl u0))] := hD
    obtain rfl := Option.some.inj hf
    exact q_rv hx hb hr hlocks hK (hP.sub [0, 4, 1, 3, 2] rfl) (hD.sub [0, 4, 1, 3, 2] (by decide) rfl) hS d_M_timesN_143
  · have hf := ifn cx hf
    refine lv_aload_n hx hb d_M_timesN_40 rfl (lv_at hl 0 rfl) ?_
    refine va_get (D := D) (ci := 12) (v := .ref (q 41)) (C := "CoinKeeperModel") (T := F_12) (N := 98) hx hb hts i_12 hown hK hP 0 rfl rfl 49 (by decide) (hts _ gw_1468) (fun _ h9 => h9) rfl d_M_timesN_41 ?_
    refine lv_bipush (v := 7) hx hb d_M_timesN_44 (by decide) ?_
    refine va_iald hx hb hK hP 1 1 rfl rfl (inb_in (by decide)) d_M_timesN_46 ?_
    refine lv_topi (fun v2 ev => ?_)
    have hf := bn ev hf
    clear ev
    refine lv_bipush (v := 31) hx hb d_M_timesN_47 (by decide) ?_
    refine lv_iushr hx hb d_M_timesN_49 rfl ?_
    refine lv_topi (fun v3 ev => ?_)
    have hf := bn ev hf
    clear ev
    refine lv_istore (lv' := [(5, .int v3), (0, .ref o), (1, .ref b1), (4, .int x4)]) hx hb d_M_timesN_50 hl (by decide) rfl (fun ls hl => ?_)
    refine lv_aload_n hx hb d_M_timesN_52 rfl (lv_at hl 1 rfl) ?_
    refine va_get (D := D) (ci := 12) (v := .ref (q 41)) (C := "CoinKeeperModel") (T := F_12) (N := 98) hx hb hts i_12 hown hK hP 0 rfl rfl 49 (by decide) (hts _ gw_1468) (fun _ h9 => h9) rfl d_M_timesN_53 ?_
    refine lv_aload_n hx hb d_M_timesN_56 rfl (lv_at hl 1 rfl) ?_
    refine va_get (D := D) (ci := 12) (v := .ref (q 41)) (C := "CoinKeeperModel") (T := F_12) (N := 98) hx hb hts i_12 hown hK hP 0 rfl rfl 49 (by decide) (hts _ gw_1468) (fun _ h9 => h9) rfl d_M_timesN_57 ?_
    refine lv_aload_n hx hb d_M_timesN_60 rfl (lv_at hl 1 rfl) ?_
    refine va_get (D := D) (ci := 12) (v := .ref (q 41)) (C := "CoinKeeperModel") (T := F_12) (N := 98) hx hb hts i_12 hown hK hP 0 rfl rfl 49 (by decide) (hts _ gw_1468) (fun _ h9 => h9) rfl d_M_timesN_61 ?_
    obtain ⟨v4, f5, hc, hf⟩ := bdp2 hf
    refine q_ai (wr := [(o, .inr (12, mo q z)), ((q 50), .inl (cy 1, 16, .inl u1)), (b1, .inl (cy 1, 8, .inl u2)), (b3, .inl (cy 1, 8, .inl h3))]) (va_runS (As := [.ref (q 41), .ref (q 41), .ref (q 41)]) (rest := []) ⟨hx, hb, hml, hown, hts⟩ (c_M_add_e10e20 l D cy ad fu (q 41) u0 _ hc H.size) ⟨q_cB hts gw_1389 gw_18 gw_1387 hdm_19 ⟨by decide, by decide⟩, hts _ gw_1388⟩ (q_pre (hP.sub [1] rfl) (hD.sub [1] (by decide) rfl) hK hSt hS (va_free hD hS hA [1] rfl) _) rfl rfl hl.1 rfl (lv_room (Nat.le_of_ble_eq_true rfl)) d_M_timesN_64 ⟨Nat.le_of_ble_eq_true rfl, Nat.le_of_ble_eq_true rfl⟩) hP hD hS hA [1] [0, 2, 3, 4] rfl rfl (by decide) (by decide) (fun H locs hP hD hS => ?_)
    clear hc
    have hP : va_P D classes [(o, .inr (12, mo q z)), ((q 50), .inl (cy 1, 16, .inl u1)), (b1, .inl (cy 1, 8, .inl u2)), (b3, .inl (cy 1, 8, .inl h3)), ((q 41), .inl (cy 1, 8, .inl f5))] H := hP
    have hD : va_D A [(o, .inr (12, mo q z)), ((q 50), .inl (cy 1, 16, .inl u1)), (b1, .inl (cy 1, 8, .inl u2)), (b3, .inl (cy 1, 8, .inl h3)), ((q 41), .inl (cy 1, 8, .inl f5))] := hD
    refine lv_pop hx hb d_M_timesN_67 rfl ?_
    refine lv_aload_n hx hb d_M_timesN_68 rfl (lv_at hl 1 rfl) ?_
    refine va_get (D := D) (ci := 12) (v := .ref (q 41)) (C := "CoinKeeperModel") (T := F_12) (N := 98) hx hb hts i_12 hown hK hP 0 rfl rfl 49 (by decide) (hts _ gw_1468) (fun _ h9 => h9) rfl d_M_timesN_69 ?_
    refine lv_iconst (v := 0) hx hb d_M_timesN_72 (by decide) ?_
    refine lv_dup2_11 hx hb d_M_timesN_73 rfl rfl ?_
    refine va_iald hx hb hK hP 4 1 rfl rfl (inb_in (by decide)) d_M_timesN_74 ?_
    refine lv_topi (fun v6 ev => ?_)
    have hf := bn ev hf
    clear ev
    refine lv_aload_n hx hb d_M_timesN_75 rfl (lv_at hl 1 rfl) ?_
    refine va_get (D := D) (ci := 12) (v := .ref (q 50)) (C := "CoinKeeperModel") (T := F_12) (N := 98) hx hb hts i_12 hown hK hP 0 rfl rfl 58 (by decide) (hts _ gw_1477) (fun _ h9 => h9) rfl d_M_timesN_76 ?_
    refine lv_iload hx hb d_M_timesN_79 (lv_at hl 3 rfl) ?_
    refine lv_bipush (v := 32) hx hb d_M_timesN_81 (by decide) ?_
    refine lv_idiv hx hb d_M_timesN_83 (by decide) ?_
    refine lv_topi (fun v7 ev => ?_)
    have hf := bn ev hf
    clear ev
    obtain ⟨hg, hf⟩ := gdp hf
    refine va_iald hx hb hK hP 1 1 rfl rfl (inb_in hg) d_M_timesN_84 ?_
    refine lv_topi (fun v8 ev => ?_)
    have hf := bn ev hf
    clear ev
    refine lv_iload hx hb d_M_timesN_85 (lv_at hl 3 rfl) ?_
    refine lv_bipush (v := 32) hx hb d_M_timesN_87 (by decide) ?_
    refine lv_irem hx hb d_M_timesN_89 (by decide) ?_
    refine lv_iushr hx hb d_M_timesN_90 rfl ?_
    refine lv_topi (fun v9 ev => ?_)
    have hf := bn ev hf
    clear ev
    refine lv_iconst (v := 1) hx hb d_M_timesN_91 (by decide) ?_
    refine lv_iand hx hb d_M_timesN_92 ?_
    refine lv_ior hx hb d_M_timesN_93 ?_
    refine lv_topi (fun v10 ev => ?_)
    have hf := bn ev hf
    clear ev
    refine va_iast hx hb hK hP hD hS 4 1 rfl rfl (inb_in (by decide)) d_M_timesN_94 (fun H locs hP hD hS => ?_)
    obtain ⟨f11, ev, hf⟩ := bne hf
    have hP : va_P D classes [(o, .inr (12, mo q z)), ((q 50), .inl (cy 1, 16, .inl u1)), (b1, .inl (cy 1, 8, .inl u2)), (b3, .inl (cy 1, 8, .inl h3)), ((q 41), .inl (cy 1, 8, .inl f11))] H := by rw [ev]; exact hP
    have hD : va_D A [(o, .inr (12, mo q z)), ((q 50), .inl (cy 1, 16, .inl u1)), (b1, .inl (cy 1, 8, .inl u2)), (b3, .inl (cy 1, 8, .inl h3)), ((q 41), .inl (cy 1, 8, .inl f11))] := by rw [ev]; exact hD
    clear ev
    refine lv_iload hx hb d_M_timesN_95 (lv_at hl 0 rfl) ?_
    refine lv_iconst (v := 1) hx hb d_M_timesN_97 (by decide) ?_
    refine lv_icmp_eq (tgt := 114) hx hb d_M_timesN_98 (by decide) (fun cx => ?_) (fun cx => ?_)
    · have hf := ifp cx hf
      exact wb_M_timesN_e21_114 (fu := fu) F hk_35 _ _ _ _ _ hf _ _ _ (hP.sub (ws' := [(o, .inr (12, mo q z)), ((q 41), .inl (cy 1, 8, .inl f11)), ((q 50), .inl (cy 1, 16, .inl u1)), (b1, .inl (cy 1, 8, .inl u2)), (b3, .inl (cy 1, 8, .inl h3))]) [0, 4, 1, 2, 3] rfl) (hD.sub (ws' := [(o, .inr (12, mo q z)), ((q 41), .inl (cy 1, 8, .inl f11)), ((q 50), .inl (cy 1, 16, .inl u1)), (b1, .inl (cy 1, 8, .inl u2)), (b3, .inl (cy 1, 8, .inl h3))]) [0, 4, 1, 2, 3] (by decide) rfl) hS (lv_sub hl [1, 2, 3] rfl)
    · have hf := ifn cx hf
      refine lv_aload_n hx hb d_M_timesN_101 rfl (lv_at hl 1 rfl) ?_
      refine va_get (D := D) (ci := 12) (v := .ref (q 41)) (C := "CoinKeeperModel") (T := F_12) (N := 98) hx hb hts i_12 hown hK hP 0 rfl rfl 49 (by decide) (hts _ gw_1468) (fun _ h9 => h9) rfl d_M_timesN_102 ?_
      refine va_gets hx hb (hSt.1 23 _ rfl).1 hS hown (hts _ gw_2003) (fun _ h9 => h9) d_M_timesN_105 ?_
      obtain ⟨v12, hc, hf⟩ := bdp1 hf
      refine q_ai (wr := [(o, .inr (12, mo q z)), ((q 50), .inl (cy 1, 16, .inl u1)), (b1, .inl (cy 1, 8, .inl u2)), (b3, .inl (cy 1, 8, .inl h3))]) (va_runS (As := [.ref (q 41), .ref (ad 23)]) (rest := []) ⟨hx, hb, hml, hown, hts⟩ (c_M_compare_s1x23 l D cy ad fu (q 41) f11 _ hc H.size) ⟨q_cB hts gw_1404 gw_18 gw_1402 hdm_16 ⟨by decide, by decide⟩, hts _ gw_1403⟩ (q_pre (hP.sub [4] rfl) (hD.sub [4] (by decide) rfl) hK hSt hS (va_free hD hS hA [4] rfl) _) rfl rfl hl.1 rfl (lv_room (Nat.le_of_ble_eq_true rfl)) d_M_timesN_108 ⟨Nat.le_of_ble_eq_true rfl, Nat.le_of_ble_eq_true rfl⟩) hP hD hS hA [4] [0, 1, 2, 3] rfl rfl (by decide) (by decide) (fun H locs hP hD hS => ?_)
      clear hc
      have hP : va_P D classes [(o, .inr (12, mo q z)), ((q 50), .inl (cy 1, 16, .inl u1)), (b1, .inl (cy 1, 8, .inl u2)), (b3, .inl (cy 1, 8, .inl h3)), ((q 41), .inl (cy 1, 8, .inl f11))] H := hP
      have hD : va_D A [(o, .inr (12, mo q z)), ((q 50), .inl (cy 1, 16, .inl u1)), (b1, .inl (cy 1, 8, .inl u2)), (b3, .inl (cy 1, 8, .inl h3)), ((q 41), .inl (cy 1, 8, .inl f11))] := hD
      refine lv_if_lt (tgt := 129) hx hb d_M_timesN_111 (by decide) (fun cx => ?_) (fun cx => ?_)
      · have hf := ifp cx hf
        exact wb_M_timesN_e21_129 (fu := fu) F hk_35 _ _ _ _ _ hf _ _ _ (hP.sub (ws' := [(o, .inr (12, mo q z)), ((q 41), .inl (cy 1, 8, .inl f11)), ((q 50), .inl (cy 1, 16, .inl u1)), (b1, .inl (cy 1, 8, .inl u2)), (b3, .inl (cy 1, 8, .inl h3))]) [0, 4, 1, 2, 3] rfl) (hD.sub (ws' := [(o, .inr (12, mo q z)), ((q 41), .inl (cy 1, 8, .inl f11)), ((q 50), .inl (cy 1, 16, .inl u1)), (b1, .inl (cy 1, 8, .inl u2)), (b3, .inl (cy 1, 8, .inl h3))]) [0, 4, 1, 2, 3] (by decide) rfl) hS (lv_sub hl [1, 2, 3] rfl)
      · have hf := ifn cx hf
        exact wb_M_timesN_e21_114 (fu := fu) F hk_35 _ _ _ _ _ hf _ _ _ (hP.sub (ws' := [(o, .inr (12, mo q z)), ((q 41), .inl (cy 1, 8, .inl f11)), ((q 50), .inl (cy 1, 16, .inl u1)), (b1, .inl (cy 1, 8, .inl u2)), (b3, .inl (cy 1, 8, .inl h3))]) [0, 4, 1, 2, 3] rfl) (hD.sub (ws' := [(o, .inr (12, mo q z)), ((q 41), .inl (cy 1, 8, .inl f11)), ((q 50), .inl (cy 1, 16, .inl u1)), (b1, .inl (cy 1, 8, .inl u2)), (b3, .inl (cy 1, 8, .inl h3))]) [0, 4, 1, 2, 3] (by decide) rfl) hS (lv_sub hl [1, 2, 3] rfl)
theorem w_M_timesN_e21_35 {p : Program} {l : Launch} {e : Env} {s : State} {m : MethodId} {args : Array Value} {below : List Frame} {meth : Method} {c : Code} {D : va_G} {cy : Nat → ClassId} {A : Nat → Prop} {ad : Nat → Nat} {o : Nat} {q : Nat → Nat} {b1 : Nat} {b3 : Nat} {z : Nat → Int32} {h3 : Nat → Int32} {fu : Nat} (F : Fx p s m args meth c b_M_timesN 6 "CoinKeeperModel" "timesN" none D cy ad A) : ∀ n : Nat, I_M_timesN_e21_35 p l e s m args below meth c D cy A ad o q b1 b3 z h3 (x_M_timesN_e21_35 fu z h3 n)
  | 0 => fun _ _ _ _ _ hf => nomatch (show (none : Option ((Nat → Int32) × (Nat → Int32) × (Nat → Int32))) = some _ from hf)
  | n + 1 => wb_M_timesN_e21_35 F (w_M_timesN_e21_35 F n)
set_option maxHeartbeats 8000000 in
set_option maxRecDepth 100000 in
theorem wb_M_timesN_e21_9 {p : Program} {l : Launch} {e : Env} {s : State} {m : MethodId} {args : Array Value} {below : List Frame} {meth : Method} {c : Code} {D : va_G} {cy : Nat → ClassId} {A : Nat → Prop} {ad : Nat → Nat} {o : Nat} {q : Nat → Nat} {b1 : Nat} {b3 : Nat} {z : Nat → Int32} {h3 : Nat → Int32} {fu : Nat} {k_9 : Int32 → (Nat → Int32) → (Nat → Int32) → (Nat → Int32) → Option ((Nat → Int32) × (Nat → Int32) × (Nat → Int32))} (F : Fx p s m args meth c b_M_timesN 6 "CoinKeeperModel" "timesN" none D cy ad A) (hk_9 : I_M_timesN_e21_9 p l e s m args below meth c D cy A ad o q b1 b3 z h3 k_9) : I_M_timesN_e21_9 p l e s m args below meth c D cy A ad o q b1 b3 z h3 (xb_M_timesN_e21_9 fu z h3 k_9) := by
  obtain ⟨hx, hb, hr, hml, hown, hts, hlocks, hK, hA, hSt, hnm, hex⟩ := id F
  intro x4 u0 u1 u2 res hf H locs ls hP hD hS hl
  unfold xb_M_timesN_e21_9 at hf
  refine lv_iload hx hb d_M_timesN_9 (lv_at hl 2 rfl) ?_
  refine lv_bipush (v := 8) hx hb d_M_timesN_11 (by decide) ?_
  refine lv_icmp_ge (tgt := 30) hx hb d_M_timesN_13 (by decide) (fun cx => ?_) (fun cx => ?_)
  · have hf := ifp cx hf
    refine lv_sipush (v := 511) hx hb d_M_timesN_30 (by decide) ?_
    refine lv_istore (lv' := [(4, .int (511 : Int32)), (0, .ref o), (1, .ref b1)]) hx hb d_M_timesN_33 hl (by decide) rfl (fun ls hl => ?_)
    exact w_M_timesN_e21_35 F fu _ _ _ _ _ hf _ _ _ hP hD hS (lv_sub hl [1, 2, 0] rfl)
  · have hf := ifn cx hf
    refine lv_aload_n hx hb d_M_timesN_16 rfl (lv_at hl 0 rfl) ?_
    refine va_get (D := D) (ci := 12) (v := .ref (q 41)) (C := "CoinKeeperModel") (T := F_12) (N := 98) hx hb hts i_12 hown hK hP 0 rfl rfl 49 (by decide) (hts _ gw_1468) (fun _ h9 => h9) rfl d_M_timesN_17 ?_
    refine lv_iload hx hb d_M_timesN_20 (lv_at hl 2 rfl) ?_
    refine lv_iconst (v := 0) hx hb d_M_timesN_22 (by decide) ?_
    obtain ⟨hg, hf⟩ := gdp hf
    refine va_iast hx hb hK hP hD hS 1 1 rfl rfl (inb_in hg) d_M_timesN_23 (fun H locs hP hD hS => ?_)
    obtain ⟨f1, ev, hf⟩ := bne hf
    have hP : va_P D classes [(o, .inr (12, mo q z)), ((q 41), .inl (cy 1, 8, .inl f1)), ((q 50), .inl (cy 1, 16, .inl u1)), (b1, .inl (cy 1, 8, .inl u2)), (b3, .inl (cy 1, 8, .inl h3))] H := by rw [ev]; exact hP
    have hD : va_D A [(o, .inr (12, mo q z)), ((q 41), .inl (cy 1, 8, .inl f1)), ((q 50), .inl (cy 1, 16, .inl u1)), (b1, .inl (cy 1, 8, .inl u2)), (b3, .inl (cy 1, 8, .inl h3))] := by rw [ev]; exact hD
    clear ev
    obtain ⟨v2, ev, hf⟩ := bne hf
    refine lv_iinc (v := v2) (lv' := [(4, .int v2), (0, .ref o), (1, .ref b1)]) hx hb d_M_timesN_24 hl (k := 2) rfl (by rw [ev]; rfl) (by decide) rfl (fun ls hl => ?_)
    clear ev
    refine lv_goto (tgt := 9) hx hb d_M_timesN_27 (by decide) ?_
    exact hk_9 _ _ _ _ _ hf _ _ _ hP hD hS (lv_sub hl [1, 2, 0] rfl)
theorem w_M_timesN_e21_9 {p : Program} {l : Launch} {e : Env} {s : State} {m : MethodId} {args : Array Value} {below : List Frame} {meth : Method} {c : Code} {D : va_G} {cy : Nat → ClassId} {A : Nat → Prop} {ad : Nat → Nat} {o : Nat} {q : Nat → Nat} {b1 : Nat} {b3 : Nat} {z : Nat → Int32} {h3 : Nat → Int32} {fu : Nat} (F : Fx p s m args meth c b_M_timesN 6 "CoinKeeperModel" "timesN" none D cy ad A) : ∀ n : Nat, I_M_timesN_e21_9 p l e s m args below meth c D cy A ad o q b1 b3 z h3 (x_M_timesN_e21_9 fu z h3 n)
  | 0 => fun _ _ _ _ _ hf => nomatch (show (none : Option ((Nat → Int32) × (Nat → Int32) × (Nat → Int32))) = some _ from hf)
  | n + 1 => wb_M_timesN_e21_9 F (w_M_timesN_e21_9 F n)
set_option maxHeartbeats 8000000 in
set_option maxRecDepth 100000 in
theorem we_M_timesN_e21 {p : Program} {l : Launch} {e : Env} {s : State} {m : MethodId} {args : Array Value} {below : List Frame} {meth : Method} {c : Code} {D : va_G} {cy : Nat → ClassId} {A : Nat → Prop} {ad : Nat → Nat} {o : Nat} {q : Nat → Nat} {b1 : Nat} {b3 : Nat} {z : Nat → Int32} {h3 : Nat → Int32} {fu : Nat} (F : Fx p s m args meth c b_M_timesN 6 "CoinKeeperModel" "timesN" none D cy ad A) : I_M_timesN_e21_e p l e s m args below meth c D cy A ad o q b1 b3 z h3 (x_M_timesN_e21 fu z h3) := by
  obtain ⟨hx, hb, hr, hml, hown, hts, hlocks, hK, hA, hSt, hnm, hex⟩ := id F
  intro u0 u1 u2 res hf H locs ls hP hD hS hl
  unfold x_M_timesN_e21 at hf
  refine lv_aload_n hx hb d_M_timesN_0 rfl (lv_at hl 0 rfl) ?_
  refine lv_aload_n hx hb d_M_timesN_1 rfl (lv_at hl 2 rfl) ?_
  refine lv_aload_n hx hb d_M_timesN_2 rfl (lv_at hl 3 rfl) ?_
  obtain ⟨f1, hc, hf⟩ := bdp1 hf
  refine q_av (wr := [((q 41), .inl (cy 1, 8, .inl u0))]) (va_runV (C := "CoinKeeperModel") (As := [.ref b1, .ref b3]) (rest := []) ⟨hx, hb, hml, hown, hts⟩ (c_M_multiply l D cy ad fu o q b1 b3 z u2 h3 u1 _ hc H.size) ⟨q_cB hts gw_1983 gw_18 gw_1980 hdm_18 ⟨by decide, by decide⟩, hts _ gw_1982, hts _ gs_113⟩ (q_preV (q_pre (hP.sub [0, 2, 3, 4] rfl) (hD.sub [0, 2, 3, 4] (by decide) rfl) hK hSt hS (va_free hD hS hA [0, 2, 3, 4] rfl) _) (va_recv hK (hP.sub [0, 2, 3, 4] rfl) (ci := 12) (q0 := 0) rfl rfl)) rfl rfl hl.1 rfl (lv_room (Nat.le_of_ble_eq_true rfl)) d_M_timesN_3 ⟨Nat.le_of_ble_eq_true rfl, Nat.le_of_ble_eq_true rfl⟩) hP hD hS hA [0, 2, 3, 4] [1] rfl rfl (by decide) (by decide) (fun H locs hP hD hS => ?_)
  clear hc
  have hP : va_P D classes [((q 41), .inl (cy 1, 8, .inl u0)), (o, .inr (12, mo q z)), ((q 50), .inl (cy 1, 16, .inl f1)), (b1, .inl (cy 1, 8, .inl u2)), (b3, .inl (cy 1, 8, .inl h3))] H := hP
  have hD : va_D A [((q 41), .inl (cy 1, 8, .inl u0)), (o, .inr (12, mo q z)), ((q 50), .inl (cy 1, 16, .inl f1)), (b1, .inl (cy 1, 8, .inl u2)), (b3, .inl (cy 1, 8, .inl h3))] := hD
  refine lv_iconst (v := 0) hx hb d_M_timesN_6 (by decide) ?_
  refine lv_istore (lv' := [(4, .int (0 : Int32)), (0, .ref o), (1, .ref b1), (2, .ref b1), (3, .ref b3)]) hx hb d_M_timesN_7 hl (by decide) rfl (fun ls hl => ?_)
  exact w_M_timesN_e21_9 F fu _ _ _ _ _ hf _ _ _ (hP.sub (ws' := [(o, .inr (12, mo q z)), ((q 41), .inl (cy 1, 8, .inl u0)), ((q 50), .inl (cy 1, 16, .inl f1)), (b1, .inl (cy 1, 8, .inl u2)), (b3, .inl (cy 1, 8, .inl h3))]) [1, 0, 2, 3, 4] rfl) (hD.sub (ws' := [(o, .inr (12, mo q z)), ((q 41), .inl (cy 1, 8, .inl u0)), ((q 50), .inl (cy 1, 16, .inl f1)), (b1, .inl (cy 1, 8, .inl u2)), (b3, .inl (cy 1, 8, .inl h3))]) [1, 0, 2, 3, 4] (by decide) rfl) hS (lv_sub hl [1, 2, 0] rfl)
theorem c_M_timesN_e21 (l : Launch) (D : va_G) (cy : Nat → ClassId) (ad : Nat → Nat) (fu : Nat) (o : Nat) (q : Nat → Nat) (b1 : Nat) (b3 : Nat) (z : Nat → Int32) (h3 : Nat → Int32) (u0 : Nat → Int32) (u1 : Nat → Int32) (u2 : Nat → Int32) (res : (Nat → Int32) × (Nat → Int32) × (Nat → Int32)) (hf : x_M_timesN_e21 fu z h3 u0 u1 u2 = some res) (sz : Nat) : Met l ({ cls := "CoinKeeperModel", name := "timesN", desc := "([I[I[I)V" } : Jvm.MethodName) (.code ({ cls := "CoinKeeperModel", name := "timesN", desc := "([I[I[I)V" } : Jvm.MethodName) b_M_timesN 6 none :: gw) rm_M_timesN_e21 (va_Pc [.ref o, .ref b1, .ref b1, .ref b3] (Pr D cy ad [(o, .inr (12, mo q z)), ((q 41), .inl (cy 1, 8, .inl u0)), ((q 50), .inl (cy 1, 16, .inl u1)), (b1, .inl (cy 1, 8, .inl u2)), (b3, .inl (cy 1, 8, .inl h3))] sz)) (q_M_timesN_e21 D cy (va_A [(o, .inr (12, mo q z)), ((q 41), .inl (cy 1, 8, .inl u0)), ((q 50), .inl (cy 1, 16, .inl u1)), (b1, .inl (cy 1, 8, .inl u2)), (b3, .inl (cy 1, 8, .inl h3))] sz) o q b1 b3 z h3 res) 0 0 (va_A [(o, .inr (12, mo q z)), ((q 41), .inl (cy 1, 8, .inl u0)), ((q 50), .inl (cy 1, 16, .inl u1)), (b1, .inl (cy 1, 8, .inl u2)), (b3, .inl (cy 1, 8, .inl h3))] sz) :=
  q_met (Qc := fun A => q_M_timesN_e21 D cy A o q b1 b3 z h3 res) (by decide) rfl rfl (Nat.le_of_ble_eq_true rfl) (fun p e s m below meth c ls F hP hD hS hl => we_M_timesN_e21 (fu := fu) F u0 u1 u2 res hf _ _ _ hP hD hS hl) sz
abbrev rm_M_copy_s1x24 : Room := { frames := 1, cells := 0, slots := 0, locals := 26 }
abbrev q_M_copy_s1x24 (D : va_G) (cy : Nat → ClassId) (A : Nat → Prop) (b0 : Nat) (res : (Nat → Int32)) : Array Value → State → Outcome → State → Prop := va_Qv (fun (_ : Unit) => True) (fun _ t => Po D cy A [(b0, .inl (cy 1, 8, .inl res))] t) A
def I_M_copy_s1x24_e (p : Program) (l : Launch) (e : Env) (s : State) (m : MethodId) (args : Array Value) (below : List Frame) (meth : Method) (c : Code) (D : va_G) (cy : Nat → ClassId) (A : Nat → Prop) (ad : Nat → Nat) (b0 : Nat) (k : (Nat → Int32) → Option ((Nat → Int32))) : Prop :=
  ∀ (u0 : Nat → Int32) (res : (Nat → Int32)), k u0 = some res → ∀ (H : Heap) (locs : List Loc) (ls : Array Slot), va_P D classes [(b0, .inl (cy 1, 8, .inl u0))] H → va_D A [(b0, .inl (cy 1, 8, .inl u0))] → va_S A s.heap H locs → lv_has ls 2 [(0, .ref b0), (1, .ref (ad 24))] → W p l e rm_M_copy_s1x24 s m args below meth c H locs 0 0 (MQ below (q_M_copy_s1x24 D cy A b0 res) args s 0 0 A) (F0 m 0 ls [])
set_option maxHeartbeats 8000000 in
set_option maxRecDepth 100000 in
theorem we_M_copy_s1x24 {p : Program} {l : Launch} {e : Env} {s : State} {m : MethodId} {args : Array Value} {below : List Frame} {meth : Method} {c : Code} {D : va_G} {cy : Nat → ClassId} {A : Nat → Prop} {ad : Nat → Nat} {b0 : Nat} {fu : Nat} (F : Fx p s m args meth c b_M_copy 2 "CoinKeeperModel" "copy" none D cy ad A) : I_M_copy_s1x24_e p l e s m args below meth c D cy A ad b0 (x_M_copy_s1x24 fu) := by
  obtain ⟨hx, hb, hr, hml, hown, hts, hlocks, hK, hA, hSt, hnm, hex⟩ := id F
  intro u0 res hf H locs ls hP hD hS hl
  unfold x_M_copy_s1x24 at hf
  refine lv_aload_n hx hb d_M_copy_0 rfl (lv_at hl 1 rfl) ?_
  refine lv_iconst (v := 0) hx hb d_M_copy_1 (by decide) ?_
  refine lv_aload_n hx hb d_M_copy_2 rfl (lv_at hl 0 rfl) ?_
  refine lv_iconst (v := 0) hx hb d_M_copy_3 (by decide) ?_
  refine lv_bipush (v := 8) hx hb d_M_copy_4 (by decide) ?_
  obtain ⟨hg, hf⟩ := gdp hf
  refine q_copyt (rest := []) hx hb (hml.trans hl.1.symm) hown (hts _ gw_1398) (hts _ gw_497) (hts _ gw_496) (hts _ gw_17) hK hP hD hS (hSt.1 24 _ rfl).2 0 1 rfl rfl (cpk_p hg).1 (cpk_p hg).2.1 (cpk_p hg).2.2.1 (cpk_p hg).2.2.2.1 (cpk_p hg).2.2.2.2 (by decide) (by decide) d_M_copy_6 (fun H locs hP hD hS => ?_)
  obtain ⟨f1, ev, hf⟩ := bne hf
  have hP : va_P D classes [(b0, .inl (cy 1, 8, .inl f1))] H := by rw [ev]; exact hP
  have hD : va_D A [(b0, .inl (cy 1, 8, .inl f1))] := by rw [ev]; exact hD
  clear ev
  obtain rfl := Option.some.inj hf
  exact q_rv hx hb hr hlocks hK hP hD hS d_M_copy_9
theorem c_M_copy_s1x24 (l : Launch) (D : va_G) (cy : Nat → ClassId) (ad : Nat → Nat) (fu : Nat) (b0 : Nat) (u0 : Nat → Int32) (res : (Nat → Int32)) (hf : x_M_copy_s1x24 fu u0 = some res) (sz : Nat) : Met l ({ cls := "CoinKeeperModel", name := "copy", desc := "([I[I)V" } : Jvm.MethodName) (.code ({ cls := "CoinKeeperModel", name := "copy", desc := "([I[I)V" } : Jvm.MethodName) b_M_copy 2 none :: gw) rm_M_copy_s1x24 (va_Pc [.ref b0, .ref (ad 24)] (Pr D cy ad [(b0, .inl (cy 1, 8, .inl u0))] sz)) (q_M_copy_s1x24 D cy (va_A [(b0, .inl (cy 1, 8, .inl u0))] sz) b0 res) 0 0 (va_A [(b0, .inl (cy 1, 8, .inl u0))] sz) :=
  q_met (Qc := fun A => q_M_copy_s1x24 D cy A b0 res) (by decide) rfl rfl (Nat.le_of_ble_eq_true rfl) (fun p e s m below meth c ls F hP hD hS hl => we_M_copy_s1x24 (fu := fu) F u0 res hf _ _ _ hP hD hS hl) sz
abbrev rm_M_copy_s1x25 : Room := { frames := 1, cells := 0, slots := 0, locals := 26 }
abbrev q_M_copy_s1x25 (D : va_G) (cy : Nat → ClassId) (A : Nat → Prop) (b0 : Nat) (res : (Nat → Int32)) : Array Value → State → Outcome → State → Prop := va_Qv (fun (_ : Unit) => True) (fun _ t => Po D cy A [(b0, .inl (cy 1, 8, .inl res))] t) A
def I_M_copy_s1x25_e (p : Program) (l : Launch) (e : Env) (s : State) (m : MethodId) (args : Array Value) (below : List Frame) (meth : Method) (c : Code) (D : va_G) (cy : Nat → ClassId) (A : Nat → Prop) (ad : Nat → Nat) (b0 : Nat) (k : (Nat → Int32) → Option ((Nat → Int32))) : Prop :=
  ∀ (u0 : Nat → Int32) (res : (Nat → Int32)), k u0 = some res → ∀ (H : Heap) (locs : List Loc) (ls : Array Slot), va_P D classes [(b0, .inl (cy 1, 8, .inl u0))] H → va_D A [(b0, .inl (cy 1, 8, .inl u0))] → va_S A s.heap H locs → lv_has ls 2 [(0, .ref b0), (1, .ref (ad 25))] → W p l e rm_M_copy_s1x25 s m args below meth c H locs 0 0 (MQ below (q_M_copy_s1x25 D cy A b0 res) args s 0 0 A) (F0 m 0 ls [])
set_option maxHeartbeats 8000000 in
set_option maxRecDepth 100000 in
theorem we_M_copy_s1x25 {p : Program} {l : Launch} {e : Env} {s : State} {m : MethodId} {args : Array Value} {below : List Frame} {meth : Method} {c : Code} {D : va_G} {cy : Nat → ClassId} {A : Nat → Prop} {ad : Nat → Nat} {b0 : Nat} {fu : Nat} (F : Fx p s m args meth c b_M_copy 2 "CoinKeeperModel" "copy" none D cy ad A) : I_M_copy_s1x25_e p l e s m args below meth c D cy A ad b0 (x_M_copy_s1x25 fu) := by
  obtain ⟨hx, hb, hr, hml, hown, hts, hlocks, hK, hA, hSt, hnm, hex⟩ := id F
  intro u0 res hf H locs ls hP hD hS hl
  unfold x_M_copy_s1x25 at hf
  refine lv_aload_n hx hb d_M_copy_0 rfl (lv_at hl 1 rfl) ?_
  refine lv_iconst (v := 0) hx hb d_M_copy_1 (by decide) ?_
  refine lv_aload_n hx hb d_M_copy_2 rfl (lv_at hl 0 rfl) ?_
  refine lv_iconst (v := 0) hx hb d_M_copy_3 (by decide) ?_
  refine lv_bipush (v := 8) hx hb d_M_copy_4 (by decide) ?_
  obtain ⟨hg, hf⟩ := gdp hf
  refine q_copyt (rest := []) hx hb (hml.trans hl.1.symm) hown (hts _ gw_1398) (hts _ gw_497) (hts _ gw_496) (hts _ gw_17) hK hP hD hS (hSt.1 25 _ rfl).2 0 1 rfl rfl (cpk_p hg).1 (cpk_p hg).2.1 (cpk_p hg).2.2.1 (cpk_p hg).2.2.2.1 (cpk_p hg).2.2.2.2 (by decide) (by decide) d_M_copy_6 (fun H locs hP hD hS => ?_)
  obtain ⟨f1, ev, hf⟩ := bne hf
  have hP : va_P D classes [(b0, .inl (cy 1, 8, .inl f1))] H := by rw [ev]; exact hP
  have hD : va_D A [(b0, .inl (cy 1, 8, .inl f1))] := by rw [ev]; exact hD
  clear ev
  obtain rfl := Option.some.inj hf
  exact q_rv hx hb hr hlocks hK hP hD hS d_M_copy_9
theorem c_M_copy_s1x25 (l : Launch) (D : va_G) (cy : Nat → ClassId) (ad : Nat → Nat) (fu : Nat) (b0 : Nat) (u0 : Nat → Int32) (res : (Nat → Int32)) (hf : x_M_copy_s1x25 fu u0 = some res) (sz : Nat) : Met l ({ cls := "CoinKeeperModel", name := "copy", desc := "([I[I)V" } : Jvm.MethodName) (.code ({ cls := "CoinKeeperModel", name := "copy", desc := "([I[I)V" } : Jvm.MethodName) b_M_copy 2 none :: gw) rm_M_copy_s1x25 (va_Pc [.ref b0, .ref (ad 25)] (Pr D cy ad [(b0, .inl (cy 1, 8, .inl u0))] sz)) (q_M_copy_s1x25 D cy (va_A [(b0, .inl (cy 1, 8, .inl u0))] sz) b0 res) 0 0 (va_A [(b0, .inl (cy 1, 8, .inl u0))] sz) :=
  q_met (Qc := fun A => q_M_copy_s1x25 D cy A b0 res) (by decide) rfl rfl (Nat.le_of_ble_eq_true rfl) (fun p e s m below meth c ls F hP hD hS hl => we_M_copy_s1x25 (fu := fu) F u0 res hf _ _ _ hP hD hS hl) sz
abbrev rm_M_compare_s0x24 : Room := { frames := 2, cells := 0, slots := 0, locals := 42 }
abbrev q_M_compare_s0x24 (D : va_G) (cy : Nat → ClassId) (A : Nat → Prop) (b1 : Nat) (h1 : Nat → Int32) (res : Int32) : Array Value → State → Outcome → State → Prop := va_Qi (fun r' (_ : Unit) => r' = res) (fun _ t => Po D cy A [(b1, .inl (cy 1, 8, .inl h1))] t) A
def I_M_compare_s0x24_3 (p : Program) (l : Launch) (e : Env) (s : State) (m : MethodId) (args : Array Value) (below : List Frame) (meth : Method) (c : Code) (D : va_G) (cy : Nat → ClassId) (A : Nat → Prop) (ad : Nat → Nat) (b1 : Nat) (h1 : Nat → Int32) (k : Int32 → Option (Int32)) : Prop :=
  ∀ (x2 : Int32) (res : Int32), k x2 = some res → ∀ (H : Heap) (locs : List Loc) (ls : Array Slot), va_P D classes [(b1, .inl (cy 1, 8, .inl h1))] H → va_D A [(b1, .inl (cy 1, 8, .inl h1))] → va_S A s.heap H locs → lv_has ls 3 [(0, .ref (ad 24)), (1, .ref b1), (2, .int x2)] → W p l e rm_M_compare_s0x24 s m args below meth c H locs 0 0 (MQ below (q_M_compare_s0x24 D cy A b1 h1 res) args s 0 0 A) (F0 m 3 ls [])
def I_M_compare_s0x24_e (p : Program) (l : Launch) (e : Env) (s : State) (m : MethodId) (args : Array Value) (below : List Frame) (meth : Method) (c : Code) (D : va_G) (cy : Nat → ClassId) (A : Nat → Prop) (ad : Nat → Nat) (b1 : Nat) (h1 : Nat → Int32) (k : Option (Int32)) : Prop :=
  ∀ (res : Int32), k  = some res → ∀ (H : Heap) (locs : List Loc) (ls : Array Slot), va_P D classes [(b1, .inl (cy 1, 8, .inl h1))] H → va_D A [(b1, .inl (cy 1, 8, .inl h1))] → va_S A s.heap H locs → lv_has ls 3 [(0, .ref (ad 24)), (1, .ref b1)] → W p l e rm_M_compare_s0x24 s m args below meth c H locs 0 0 (MQ below (q_M_compare_s0x24 D cy A b1 h1 res) args s 0 0 A) (F0 m 0 ls [])
set_option maxHeartbeats 8000000 in
set_option maxRecDepth 100000 in
theorem wb_M_compare_s0x24_3 {p : Program} {l : Launch} {e : Env} {s : State} {m : MethodId} {args : Array Value} {below : List Frame} {meth : Method} {c : Code} {D : va_G} {cy : Nat → ClassId} {A : Nat → Prop} {ad : Nat → Nat} {b1 : Nat} {h1 : Nat → Int32} {fu : Nat} {k_3 : Int32 → Option (Int32)} (F : Fx p s m args meth c b_M_compare 3 "CoinKeeperModel" "compare" (some .int) D cy ad A) (hk_3 : I_M_compare_s0x24_3 p l e s m args below meth c D cy A ad b1 h1 k_3) : I_M_compare_s0x24_3 p l e s m args below meth c D cy A ad b1 h1 (xb_M_compare_s0x24_3 fu h1 k_3) := by
  obtain ⟨hx, hb, hr, hml, hown, hts, hlocks, hK, hA, hSt, hnm, hex⟩ := id F
  intro x2 res hf H locs ls hP hD hS hl
  unfold xb_M_compare_s0x24_3 at hf
  refine lv_iload_n hx hb d_M_compare_3 rfl (lv_at hl 2 rfl) ?_
  refine lv_if_lt (tgt := 32) hx hb d_M_compare_4 (by decide) (fun cx => ?_) (fun cx => ?_)
  · have hf := ifp cx hf
    refine lv_iconst (v := 0) hx hb d_M_compare_32 (by decide) ?_
    obtain rfl := Option.some.inj hf
    exact q_ri hx hb hr hlocks hK hP hD hS d_M_compare_33
  · have hf := ifn cx hf
    refine lv_aload_n hx hb d_M_compare_7 rfl (lv_at hl 0 rfl) ?_
    refine lv_iload_n hx hb d_M_compare_8 rfl (lv_at hl 2 rfl) ?_
    obtain ⟨hg, hf⟩ := gdp hf
    refine va_ti (v := .int (tb_24.getD x2.toNatClampNeg 0)) hx hb (hSt.1 24 _ rfl).2 hS (inb_in hg) rfl d_M_compare_9 ?_
    refine lv_topi (fun v1 ev => ?_)
    have hf := bn ev hf
    clear ev
    refine lv_aload_n hx hb d_M_compare_10 rfl (lv_at hl 1 rfl) ?_
    refine lv_iload_n hx hb d_M_compare_11 rfl (lv_at hl 2 rfl) ?_
    obtain ⟨hg, hf⟩ := gdp hf
    refine va_iald hx hb hK hP 0 1 rfl rfl (inb_in hg) d_M_compare_12 ?_
    refine lv_topi (fun v2 ev => ?_)
    have hf := bn ev hf
    clear ev
    refine lv_icmp_eq (tgt := 26) hx hb d_M_compare_13 (by decide) (fun cx => ?_) (fun cx => ?_)
    · have hf := ifp cx hf
      obtain ⟨v3, ev, hf⟩ := bne hf
      refine lv_iinc (v := v3) (lv' := [(2, .int v3), (0, .ref (ad 24)), (1, .ref b1)]) hx hb d_M_compare_26 hl (k := 2) rfl (by rw [ev]; rfl) (by decide) rfl (fun ls hl => ?_)
      clear ev
      refine lv_goto (tgt := 3) hx hb d_M_compare_29 (by decide) ?_
      exact hk_3 _ _ hf _ _ _ hP hD hS (lv_sub hl [1, 2, 0] rfl)
    · have hf := ifn cx hf
      refine lv_aload_n hx hb d_M_compare_16 rfl (lv_at hl 0 rfl) ?_
      refine lv_iload_n hx hb d_M_compare_17 rfl (lv_at hl 2 rfl) ?_
      obtain ⟨hg, hf⟩ := gdp hf
      refine va_ti (v := .int (tb_24.getD x2.toNatClampNeg 0)) hx hb (hSt.1 24 _ rfl).2 hS (inb_in hg) rfl d_M_compare_18 ?_
      refine lv_topi (fun v4 ev => ?_)
      have hf := bn ev hf
      clear ev
      refine lv_aload_n hx hb d_M_compare_19 rfl (lv_at hl 1 rfl) ?_
      refine lv_iload_n hx hb d_M_compare_20 rfl (lv_at hl 2 rfl) ?_
      obtain ⟨hg, hf⟩ := gdp hf
      refine va_iald hx hb hK hP 0 1 rfl rfl (inb_in hg) d_M_compare_21 ?_
      refine lv_topi (fun v5 ev => ?_)
      have hf := bn ev hf
      clear ev
      obtain ⟨v6, hc, hf⟩ := bdp1 hf
      refine q_ai (wr := [(b1, .inl (cy 1, 8, .inl h1))]) (va_runS (As := [.int v4, .int v5]) (rest := []) ⟨hx, hb, hml, hown, hts⟩ (c_Ig_compareUnsigned l D cy ad fu v4 v5 _ hc H.size) ⟨q_cB hts gw_1407 gw_19 gw_1405 hdm_15 ⟨by decide, by decide⟩, hts _ gw_1406⟩ (q_pre (hP.sub [] rfl) (hD.sub [] (by decide) rfl) hK hSt hS (va_free hD hS hA [] rfl) _) rfl rfl hl.1 rfl (lv_room (Nat.le_of_ble_eq_true rfl)) d_M_compare_22 ⟨Nat.le_of_ble_eq_true rfl, Nat.le_of_ble_eq_true rfl⟩) hP hD hS hA [] [0] rfl rfl (by decide) (by decide) (fun H locs hP hD hS => ?_)
      clear hc
      have hP : va_P D classes [(b1, .inl (cy 1, 8, .inl h1))] H := hP
      have hD : va_D A [(b1, .inl (cy 1, 8, .inl h1))] := hD
      obtain rfl := Option.some.inj hf
      exact q_ri hx hb hr hlocks hK hP hD hS d_M_compare_25
theorem w_M_compare_s0x24_3 {p : Program} {l : Launch} {e : Env} {s : State} {m : MethodId} {args : Array Value} {below : List Frame} {meth : Method} {c : Code} {D : va_G} {cy : Nat → ClassId} {A : Nat → Prop} {ad : Nat → Nat} {b1 : Nat} {h1 : Nat → Int32} {fu : Nat} (F : Fx p s m args meth c b_M_compare 3 "CoinKeeperModel" "compare" (some .int) D cy ad A) : ∀ n : Nat, I_M_compare_s0x24_3 p l e s m args below meth c D cy A ad b1 h1 (x_M_compare_s0x24_3 fu h1 n)
  | 0 => fun _ _ hf => nomatch (show (none : Option (Int32)) = some _ from hf)
  | n + 1 => wb_M_compare_s0x24_3 F (w_M_compare_s0x24_3 F n)
set_option maxHeartbeats 8000000 in
set_option maxRecDepth 100000 in
theorem we_M_compare_s0x24 {p : Program} {l : Launch} {e : Env} {s : State} {m : MethodId} {args : Array Value} {below : List Frame} {meth : Method} {c : Code} {D : va_G} {cy : Nat → ClassId} {A : Nat → Prop} {ad : Nat → Nat} {b1 : Nat} {h1 : Nat → Int32} {fu : Nat} (F : Fx p s m args meth c b_M_compare 3 "CoinKeeperModel" "compare" (some .int) D cy ad A) : I_M_compare_s0x24_e p l e s m args below meth c D cy A ad b1 h1 (x_M_compare_s0x24 fu h1) := by
  obtain ⟨hx, hb, hr, hml, hown, hts, hlocks, hK, hA, hSt, hnm, hex⟩ := id F
  intro  res hf H locs ls hP hD hS hl
  unfold x_M_compare_s0x24 at hf
  refine lv_bipush (v := 7) hx hb d_M_compare_0 (by decide) ?_
  refine lv_istore_n (lv' := [(2, .int (7 : Int32)), (0, .ref (ad 24)), (1, .ref b1)]) hx hb d_M_compare_2 rfl hl (by decide) rfl (fun ls hl => ?_)
  exact w_M_compare_s0x24_3 F fu _ _ hf _ _ _ hP hD hS (lv_sub hl [1, 2, 0] rfl)
theorem c_M_compare_s0x24 (l : Launch) (D : va_G) (cy : Nat → ClassId) (ad : Nat → Nat) (fu : Nat) (b1 : Nat) (h1 : Nat → Int32) (res : Int32) (hf : x_M_compare_s0x24 fu h1 = some res) (sz : Nat) : Met l ({ cls := "CoinKeeperModel", name := "compare", desc := "([I[I)I" } : Jvm.MethodName) (.code ({ cls := "CoinKeeperModel", name := "compare", desc := "([I[I)I" } : Jvm.MethodName) b_M_compare 3 (some .int) :: gw) rm_M_compare_s0x24 (va_Pc [.ref (ad 24), .ref b1] (Pr D cy ad [(b1, .inl (cy 1, 8, .inl h1))] sz)) (q_M_compare_s0x24 D cy (va_A [(b1, .inl (cy 1, 8, .inl h1))] sz) b1 h1 res) 0 0 (va_A [(b1, .inl (cy 1, 8, .inl h1))] sz) :=
  q_met (Qc := fun A => q_M_compare_s0x24 D cy A b1 h1 res) (by decide) rfl rfl (Nat.le_of_ble_eq_true rfl) (fun p e s m below meth c ls F hP hD hS hl => we_M_compare_s0x24 (fu := fu) F  res hf _ _ _ hP hD hS hl) sz
abbrev rm_M_compare_s0x25 : Room := { frames := 2, cells := 0, slots := 0, locals := 42 }
abbrev q_M_compare_s0x25 (D : va_G) (cy : Nat → ClassId) (A : Nat → Prop) (b1 : Nat) (h1 : Nat → Int32) (res : Int32) : Array Value → State → Outcome → State → Prop := va_Qi (fun r' (_ : Unit) => r' = res) (fun _ t => Po D cy A [(b1, .inl (cy 1, 8, .inl h1))] t) A
def I_M_compare_s0x25_3 (p : Program) (l : Launch) (e : Env) (s : State) (m : MethodId) (args : Array Value) (below : List Frame) (meth : Method) (c : Code) (D : va_G) (cy : Nat → ClassId) (A : Nat → Prop) (ad : Nat → Nat) (b1 : Nat) (h1 : Nat → Int32) (k : Int32 → Option (Int32)) : Prop :=
  ∀ (x2 : Int32) (res : Int32), k x2 = some res → ∀ (H : Heap) (locs : List Loc) (ls : Array Slot), va_P D classes [(b1, .inl (cy 1, 8, .inl h1))] H → va_D A [(b1, .inl (cy 1, 8, .inl h1))] → va_S A s.heap H locs → lv_has ls 3 [(0, .ref (ad 25)), (1, .ref b1), (2, .int x2)] → W p l e rm_M_compare_s0x25 s m args below meth c H locs 0 0 (MQ below (q_M_compare_s0x25 D cy A b1 h1 res) args s 0 0 A) (F0 m 3 ls [])
def I_M_compare_s0x25_e (p : Program) (l : Launch) (e : Env) (s : State) (m : MethodId) (args : Array Value) (below : List Frame) (meth : Method) (c : Code) (D : va_G) (cy : Nat → ClassId) (A : Nat → Prop) (ad : Nat → Nat) (b1 : Nat) (h1 : Nat → Int32) (k : Option (Int32)) : Prop :=
  ∀ (res : Int32), k  = some res → ∀ (H : Heap) (locs : List Loc) (ls : Array Slot), va_P D classes [(b1, .inl (cy 1, 8, .inl h1))] H → va_D A [(b1, .inl (cy 1, 8, .inl h1))] → va_S A s.heap H locs → lv_has ls 3 [(0, .ref (ad 25)), (1, .ref b1)] → W p l e rm_M_compare_s0x25 s m args below meth c H locs 0 0 (MQ below (q_M_compare_s0x25 D cy A b1 h1 res) args s 0 0 A) (F0 m 0 ls [])
set_option maxHeartbeats 8000000 in
set_option maxRecDepth 100000 in
theorem wb_M_compare_s0x25_3 {p : Program} {l : Launch} {e : Env} {s : State} {m : MethodId} {args : Array Value} {below : List Frame} {meth : Method} {c : Code} {D : va_G} {cy : Nat → ClassId} {A : Nat → Prop} {ad : Nat → Nat} {b1 : Nat} {h1 : Nat → Int32} {fu : Nat} {k_3 : Int32 → Option (Int32)} (F : Fx p s m args meth c b_M_compare 3 "CoinKeeperModel" "compare" (some .int) D cy ad A) (hk_3 : I_M_compare_s0x25_3 p l e s m args below meth c D cy A ad b1 h1 k_3) : I_M_compare_s0x25_3 p l e s m args below meth c D cy A ad b1 h1 (xb_M_compare_s0x25_3 fu h1 k_3) := by
  obtain ⟨hx, hb, hr, hml, hown, hts, hlocks, hK, hA, hSt, hnm, hex⟩ := id F
  intro x2 res hf H locs ls hP hD hS hl
  unfold xb_M_compare_s0x25_3 at hf
  refine lv_iload_n hx hb d_M_compare_3 rfl (lv_at hl 2 rfl) ?_
  refine lv_if_lt (tgt := 32) hx hb d_M_compare_4 (by decide) (fun cx => ?_) (fun cx => ?_)
  · have hf := ifp cx hf
    refine lv_iconst (v := 0) hx hb d_M_compare_32 (by decide) ?_
    obtain rfl := Option.some.inj hf
    exact q_ri hx hb hr hlocks hK hP hD hS d_M_compare_33
  · have hf := ifn cx hf
    refine lv_aload_n hx hb d_M_compare_7 rfl (lv_at hl 0 rfl) ?_
    refine lv_iload_n hx hb d_M_compare_8 rfl (lv_at hl 2 rfl) ?_
    obtain ⟨hg, hf⟩ := gdp hf
    refine va_ti (v := .int (tb_25.getD x2.toNatClampNeg 0)) hx hb (hSt.1 25 _ rfl).2 hS (inb_in hg) rfl d_M_compare_9 ?_
    refine lv_topi (fun v1 ev => ?_)
    have hf := bn ev hf
    clear ev
    refine lv_aload_n hx hb d_M_compare_10 rfl (lv_at hl 1 rfl) ?_
    refine lv_iload_n hx hb d_M_compare_11 rfl (lv_at hl 2 rfl) ?_
    obtain ⟨hg, hf⟩ := gdp hf
    refine va_iald hx hb hK hP 0 1 rfl rfl (inb_in hg) d_M_compare_12 ?_
    refine lv_topi (fun v2 ev => ?_)
    have hf := bn ev hf
    clear ev
    refine lv_icmp_eq (tgt := 26) hx hb d_M_compare_13 (by decide) (fun cx => ?_) (fun cx => ?_)
    · have hf := ifp cx hf
      obtain ⟨v3, ev, hf⟩ := bne hf
      refine lv_iinc (v := v3) (lv' := [(2, .int v3), (0, .ref (ad 25)), (1, .ref b1)]) hx hb d_M_compare_26 hl (k := 2) rfl (by rw [ev]; rfl) (by decide) rfl (fun ls hl => ?_)
      clear ev
      refine lv_goto (tgt := 3) hx hb d_M_compare_29 (by decide) ?_
      exact hk_3 _ _ hf _ _ _ hP hD hS (lv_sub hl [1, 2, 0] rfl)
    · have hf := ifn cx hf
      refine lv_aload_n hx hb d_M_compare_16 rfl (lv_at hl 0 rfl) ?_
      refine lv_iload_n hx hb d_M_compare_17 rfl (lv_at hl 2 rfl) ?_
      obtain ⟨hg, hf⟩ := gdp hf
      refine va_ti (v := .int (tb_25.getD x2.toNatClampNeg 0)) hx hb (hSt.1 25 _ rfl).2 hS (inb_in hg) rfl d_M_compare_18 ?_
      refine lv_topi (fun v4 ev => ?_)
      have hf := bn ev hf
      clear ev
      refine lv_aload_n hx hb d_M_compare_19 rfl (lv_at hl 1 rfl) ?_
      refine lv_iload_n hx hb d_M_compare_20 rfl (lv_at hl 2 rfl) ?_
      obtain ⟨hg, hf⟩ := gdp hf
      refine va_iald hx hb hK hP 0 1 rfl rfl (inb_in hg) d_M_compare_21 ?_
      refine lv_topi (fun v5 ev => ?_)
      have hf := bn ev hf
      clear ev
      obtain ⟨v6, hc, hf⟩ := bdp1 hf
      refine q_ai (wr := [(b1, .inl (cy 1, 8, .inl h1))]) (va_runS (As := [.int v4, .int v5]) (rest := []) ⟨hx, hb, hml, hown, hts⟩ (c_Ig_compareUnsigned l D cy ad fu v4 v5 _ hc H.size) ⟨q_cB hts gw_1407 gw_19 gw_1405 hdm_15 ⟨by decide, by decide⟩, hts _ gw_1406⟩ (q_pre (hP.sub [] rfl) (hD.sub [] (by decide) rfl) hK hSt hS (va_free hD hS hA [] rfl) _) rfl rfl hl.1 rfl (lv_room (Nat.le_of_ble_eq_true rfl)) d_M_compare_22 ⟨Nat.le_of_ble_eq_true rfl, Nat.le_of_ble_eq_true rfl⟩) hP hD hS hA [] [0] rfl rfl (by decide) (by decide) (fun H locs hP hD hS => ?_)
      clear hc
      have hP : va_P D classes [(b1, .inl (cy 1, 8, .inl h1))] H := hP
      have hD : va_D A [(b1, .inl (cy 1, 8, .inl h1))] := hD
      obtain rfl := Option.some.inj hf
      exact q_ri hx hb hr hlocks hK hP hD hS d_M_compare_25
theorem w_M_compare_s0x25_3 {p : Program} {l : Launch} {e : Env} {s : State} {m : MethodId} {args : Array Value} {below : List Frame} {meth : Method} {c : Code} {D : va_G} {cy : Nat → ClassId} {A : Nat → Prop} {ad : Nat → Nat} {b1 : Nat} {h1 : Nat → Int32} {fu : Nat} (F : Fx p s m args meth c b_M_compare 3 "CoinKeeperModel" "compare" (some .int) D cy ad A) : ∀ n : Nat, I_M_compare_s0x25_3 p l e s m args below meth c D cy A ad b1 h1 (x_M_compare_s0x25_3 fu h1 n)
  | 0 => fun _ _ hf => nomatch (show (none : Option (Int32)) = some _ from hf)
  | n + 1 => wb_M_compare_s0x25_3 F (w_M_compare_s0x25_3 F n)
set_option maxHeartbeats 8000000 in
set_option maxRecDepth 100000 in
theorem we_M_compare_s0x25 {p : Program} {l : Launch} {e : Env} {s : State} {m : MethodId} {args : Array Value} {below : List Frame} {meth : Method} {c : Code} {D : va_G} {cy : Nat → ClassId} {A : Nat → Prop} {ad : Nat → Nat} {b1 : Nat} {h1 : Nat → Int32} {fu : Nat} (F : Fx p s m args meth c b_M_compare 3 "CoinKeeperModel" "compare" (some .int) D cy ad A) : I_M_compare_s0x25_e p l e s m args below meth c D cy A ad b1 h1 (x_M_compare_s0x25 fu h1) := by
  obtain ⟨hx, hb, hr, hml, hown, hts, hlocks, hK, hA, hSt, hnm, hex⟩ := id F
  intro  res hf H locs ls hP hD hS hl
  unfold x_M_compare_s0x25 at hf
  refine lv_bipush (v := 7) hx hb d_M_compare_0 (by decide) ?_
  refine lv_istore_n (lv' := [(2, .int (7 : Int32)), (0, .ref (ad 25)), (1, .ref b1)]) hx hb d_M_compare_2 rfl hl (by decide) rfl (fun ls hl => ?_)
  exact w_M_compare_s0x25_3 F fu _ _ hf _ _ _ hP hD hS (lv_sub hl [1, 2, 0] rfl)
theorem c_M_compare_s0x25 (l : Launch) (D : va_G) (cy : Nat → ClassId) (ad : Nat → Nat) (fu : Nat) (b1 : Nat) (h1 : Nat → Int32) (res : Int32) (hf : x_M_compare_s0x25 fu h1 = some res) (sz : Nat) : Met l ({ cls := "CoinKeeperModel", name := "compare", desc := "([I[I)I" } : Jvm.MethodName) (.code ({ cls := "CoinKeeperModel", name := "compare", desc := "([I[I)I" } : Jvm.MethodName) b_M_compare 3 (some .int) :: gw) rm_M_compare_s0x25 (va_Pc [.ref (ad 25), .ref b1] (Pr D cy ad [(b1, .inl (cy 1, 8, .inl h1))] sz)) (q_M_compare_s0x25 D cy (va_A [(b1, .inl (cy 1, 8, .inl h1))] sz) b1 h1 res) 0 0 (va_A [(b1, .inl (cy 1, 8, .inl h1))] sz) :=
  q_met (Qc := fun A => q_M_compare_s0x25 D cy A b1 h1 res) (by decide) rfl rfl (Nat.le_of_ble_eq_true rfl) (fun p e s m below meth c ls F hP hD hS hl => we_M_compare_s0x25 (fu := fu) F  res hf _ _ _ hP hD hS hl) sz
abbrev rm_M_sub : Room := { frames := 0, cells := 0, slots := 0, locals := 0 }
abbrev q_M_sub (D : va_G) (cy : Nat → ClassId) (A : Nat → Prop) (b0 : Nat) (b1 : Nat) (b2 : Nat) (h1 : Nat → Int32) (h2 : Nat → Int32) (res : Int32 × (Nat → Int32)) : Array Value → State → Outcome → State → Prop := va_Qi (fun r' (_ : Unit) => r' = res.1) (fun _ t => Po D cy A [(b0, .inl (cy 1, 8, .inl res.2)), (b1, .inl (cy 1, 8, .inl h1)), (b2, .inl (cy 1, 8, .inl h2))] t) A
def I_M_sub_5 (p : Program) (l : Launch) (e : Env) (s : State) (m : MethodId) (args : Array Value) (below : List Frame) (meth : Method) (c : Code) (D : va_G) (cy : Nat → ClassId) (A : Nat → Prop) (ad : Nat → Nat) (b0 : Nat) (b1 : Nat) (b2 : Nat) (h1 : Nat → Int32) (h2 : Nat → Int32) (k : Int64 → Int32 → (Nat → Int32) → Option (Int32 × (Nat → Int32))) : Prop :=
  ∀ (x3 : Int64) (x5 : Int32) (u0 : Nat → Int32) (res : Int32 × (Nat → Int32)), k x3 x5 u0 = some res → ∀ (H : Heap) (locs : List Loc) (ls : Array Slot), va_P D classes [(b0, .inl (cy 1, 8, .inl u0)), (b1, .inl (cy 1, 8, .inl h1)), (b2, .inl (cy 1, 8, .inl h2))] H → va_D A [(b0, .inl (cy 1, 8, .inl u0)), (b1, .inl (cy 1, 8, .inl h1)), (b2, .inl (cy 1, 8, .inl h2))] → va_S A s.heap H locs → lv_has ls 6 [(0, .ref b0), (1, .ref b1), (2, .ref b2), (3, .long x3), (5, .int x5)] → W p l e rm_M_sub s m args below meth c H locs 0 0 (MQ below (q_M_sub D cy A b0 b1 b2 h1 h2 res) args s 0 0 A) (F0 m 5 ls [])
def I_M_sub_e (p : Program) (l : Launch) (e : Env) (s : State) (m : MethodId) (args : Array Value) (below : List Frame) (meth : Method) (c : Code) (D : va_G) (cy : Nat → ClassId) (A : Nat → Prop) (ad : Nat → Nat) (b0 : Nat) (b1 : Nat) (b2 : Nat) (h1 : Nat → Int32) (h2 : Nat → Int32) (k : (Nat → Int32) → Option (Int32 × (Nat → Int32))) : Prop :=
  ∀ (u0 : Nat → Int32) (res : Int32 × (Nat → Int32)), k u0 = some res → ∀ (H : Heap) (locs : List Loc) (ls : Array Slot), va_P D classes [(b0, .inl (cy 1, 8, .inl u0)), (b1, .inl (cy 1, 8, .inl h1)), (b2, .inl (cy 1, 8, .inl h2))] H → va_D A [(b0, .inl (cy 1, 8, .inl u0)), (b1, .inl (cy 1, 8, .inl h1)), (b2, .inl (cy 1, 8, .inl h2))] → va_S A s.heap H locs → lv_has ls 6 [(0, .ref b0), (1, .ref b1), (2, .ref b2)] → W p l e rm_M_sub s m args below meth c H locs 0 0 (MQ below (q_M_sub D cy A b0 b1 b2 h1 h2 res) args s 0 0 A) (F0 m 0 ls [])
set_option maxHeartbeats 8000000 in
set_option maxRecDepth 100000 in
theorem wb_M_sub_5 {p : Program} {l : Launch} {e : Env} {s : State} {m : MethodId} {args : Array Value} {below : List Frame} {meth : Method} {c : Code} {D : va_G} {cy : Nat → ClassId} {A : Nat → Prop} {ad : Nat → Nat} {b0 : Nat} {b1 : Nat} {b2 : Nat} {h1 : Nat → Int32} {h2 : Nat → Int32} {fu : Nat} {k_5 : Int64 → Int32 → (Nat → Int32) → Option (Int32 × (Nat → Int32))} (F : Fx p s m args meth c b_M_sub 6 "CoinKeeperModel" "sub" (some .int) D cy ad A) (hk_5 : I_M_sub_5 p l e s m args below meth c D cy A ad b0 b1 b2 h1 h2 k_5) : I_M_sub_5 p l e s m args below meth c D cy A ad b0 b1 b2 h1 h2 (xb_M_sub_5 fu h1 h2 k_5) := by
  obtain ⟨hx, hb, hr, hml, hown, hts, hlocks, hK, hA, hSt, hnm, hex⟩ := id F
  intro x3 x5 u0 res hf H locs ls hP hD hS hl
  unfold xb_M_sub_5 at hf
  refine lv_iload hx hb d_M_sub_5 (lv_at hl 4 rfl) ?_
  refine lv_bipush (v := 8) hx hb d_M_sub_7 (by decide) ?_
  refine lv_icmp_ge (tgt := 51) hx hb d_M_sub_9 (by decide) (fun cx => ?_) (fun cx => ?_)
  · have hf := ifp cx hf
    refine lv_lload_n hx hb d_M_sub_51 rfl (lv_at hl 3 rfl) ?_
    refine lv_l2i hx hb d_M_sub_52 rfl ?_
    refine lv_topi (fun v1 ev => ?_)
    have hf := bn ev hf
    clear ev
    obtain rfl := Option.some.inj hf
    exact q_ri hx hb hr hlocks hK hP hD hS d_M_sub_53
  · have hf := ifn cx hf
    refine lv_aload_n hx hb d_M_sub_12 rfl (lv_at hl 1 rfl) ?_
    refine lv_iload hx hb d_M_sub_13 (lv_at hl 4 rfl) ?_
    obtain ⟨hg, hf⟩ := gdp hf
    refine va_iald hx hb hK hP 1 1 rfl rfl (inb_in hg) d_M_sub_15 ?_
    refine lv_topi (fun v2 ev => ?_)
    have hf := bn ev hf
    clear ev
    refine lv_i2l hx hb d_M_sub_16 rfl ?_
    refine lv_topl (fun v3 ev => ?_)
    have hf := bn ev hf
    clear ev
    refine lv_ldc2 (v := 4294967295) hx hb hown (hts _ gw_1390) d_M_sub_17 ?_
    refine lv_land hx hb d_M_sub_20 ?_
    refine lv_topl (fun v4 ev => ?_)
    have hf := bn ev hf
    clear ev
    refine lv_aload_n hx hb d_M_sub_21 rfl (lv_at hl 2 rfl) ?_
    refine lv_iload hx hb d_M_sub_22 (lv_at hl 4 rfl) ?_
    obtain ⟨hg, hf⟩ := gdp hf
    refine va_iald hx hb hK hP 2 1 rfl rfl (inb_in hg) d_M_sub_24 ?_
    refine lv_topi (fun v5 ev => ?_)
    have hf := bn ev hf
    clear ev
    refine lv_i2l hx hb d_M_sub_25 rfl ?_
    refine lv_topl (fun v6 ev => ?_)
    have hf := bn ev hf
    clear ev
    refine lv_ldc2 (v := 4294967295) hx hb hown (hts _ gw_1390) d_M_sub_26 ?_
    refine lv_land hx hb d_M_sub_29 ?_
    refine lv_lsub hx hb d_M_sub_30 ?_
    refine lv_topl (fun v7 ev => ?_)
    have hf := bn ev hf
    clear ev
    refine lv_lload_n hx hb d_M_sub_31 rfl (lv_at hl 3 rfl) ?_
    refine lv_ladd hx hb d_M_sub_32 ?_
    refine lv_topl (fun v8 ev => ?_)
    have hf := bn ev hf
    clear ev
    refine lv_lstore_n (lv' := [(3, .long v8), (0, .ref b0), (1, .ref b1), (2, .ref b2), (5, .int x5)]) hx hb d_M_sub_33 rfl hl (by decide) rfl (fun ls hl => ?_)
    refine lv_aload_n hx hb d_M_sub_34 rfl (lv_at hl 1 rfl) ?_
    refine lv_iload hx hb d_M_sub_35 (lv_at hl 4 rfl) ?_
    refine lv_lload_n hx hb d_M_sub_37 rfl (lv_at hl 0 rfl) ?_
    refine lv_l2i hx hb d_M_sub_38 rfl ?_
    refine lv_topi (fun v9 ev => ?_)
    have hf := bn ev hf
    clear ev
    obtain ⟨hg, hf⟩ := gdp hf
    refine va_iast hx hb hK hP hD hS 0 1 rfl rfl (inb_in hg) d_M_sub_39 (fun H locs hP hD hS => ?_)
    obtain ⟨f10, ev, hf⟩ := bne hf
    have hP : va_P D classes [(b0, .inl (cy 1, 8, .inl f10)), (b1, .inl (cy 1, 8, .inl h1)), (b2, .inl (cy 1, 8, .inl h2))] H := by rw [ev]; exact hP
    have hD : va_D A [(b0, .inl (cy 1, 8, .inl f10)), (b1, .inl (cy 1, 8, .inl h1)), (b2, .inl (cy 1, 8, .inl h2))] := by rw [ev]; exact hD
    clear ev
    refine lv_lload_n hx hb d_M_sub_40 rfl (lv_at hl 0 rfl) ?_
    refine lv_bipush (v := 32) hx hb d_M_sub_41 (by decide) ?_
    refine lv_lshr hx hb d_M_sub_43 rfl ?_
    refine lv_topl (fun v11 ev => ?_)
    have hf := bn ev hf
    clear ev
    refine lv_lstore_n (lv' := [(3, .long v11), (0, .ref b0), (1, .ref b1), (2, .ref b2), (5, .int x5)]) hx hb d_M_sub_44 rfl hl (by decide) rfl (fun ls hl => ?_)
    obtain ⟨v12, ev, hf⟩ := bne hf
    refine lv_iinc (v := v12) (lv' := [(5, .int v12), (3, .long v11), (0, .ref b0), (1, .ref b1), (2, .ref b2)]) hx hb d_M_sub_45 hl (k := 4) rfl (by rw [ev]; rfl) (by decide) rfl (fun ls hl => ?_)
    clear ev
    refine lv_goto (tgt := 5) hx hb d_M_sub_48 (by decide) ?_
    exact hk_5 _ _ _ _ hf _ _ _ hP hD hS (lv_sub hl [2, 3, 4, 1, 0] rfl)
theorem w_M_sub_5 {p : Program} {l : Launch} {e : Env} {s : State} {m : MethodId} {args : Array Value} {below : List Frame} {meth : Method} {c : Code} {D : va_G} {cy : Nat → ClassId} {A : Nat → Prop} {ad : Nat → Nat} {b0 : Nat} {b1 : Nat} {b2 : Nat} {h1 : Nat → Int32} {h2 : Nat → Int32} {fu : Nat} (F : Fx p s m args meth c b_M_sub 6 "CoinKeeperModel" "sub" (some .int) D cy ad A) : ∀ n : Nat, I_M_sub_5 p l e s m args below meth c D cy A ad b0 b1 b2 h1 h2 (x_M_sub_5 fu h1 h2 n)
  | 0 => fun _ _ _ _ hf => nomatch (show (none : Option (Int32 × (Nat → Int32))) = some _ from hf)
  | n + 1 => wb_M_sub_5 F (w_M_sub_5 F n)
set_option maxHeartbeats 8000000 in
set_option maxRecDepth 100000 in
theorem we_M_sub {p : Program} {l : Launch} {e : Env} {s : State} {m : MethodId} {args : Array Value} {below : List Frame} {meth : Method} {c : Code} {D : va_G} {cy : Nat → ClassId} {A : Nat → Prop} {ad : Nat → Nat} {b0 : Nat} {b1 : Nat} {b2 : Nat} {h1 : Nat → Int32} {h2 : Nat → Int32} {fu : Nat} (F : Fx p s m args meth c b_M_sub 6 "CoinKeeperModel" "sub" (some .int) D cy ad A) : I_M_sub_e p l e s m args below meth c D cy A ad b0 b1 b2 h1 h2 (x_M_sub fu h1 h2) := by
  obtain ⟨hx, hb, hr, hml, hown, hts, hlocks, hK, hA, hSt, hnm, hex⟩ := id F
  intro u0 res hf H locs ls hP hD hS hl
  unfold x_M_sub at hf
  refine lv_lconst (v := 0) hx hb d_M_sub_0 (by decide) ?_
  refine lv_lstore_n (lv' := [(3, .long (0 : Int64)), (0, .ref b0), (1, .ref b1), (2, .ref b2)]) hx hb d_M_sub_1 rfl hl (by decide) rfl (fun ls hl => ?_)
  refine lv_iconst (v := 0) hx hb d_M_sub_2 (by decide) ?_
  refine lv_istore (lv' := [(5, .int (0 : Int32)), (3, .long (0 : Int64)), (0, .ref b0), (1, .ref b1), (2, .ref b2)]) hx hb d_M_sub_3 hl (by decide) rfl (fun ls hl => ?_)
  exact w_M_sub_5 F fu _ _ _ _ hf _ _ _ hP hD hS (lv_sub hl [2, 3, 4, 1, 0] rfl)
theorem c_M_sub (l : Launch) (D : va_G) (cy : Nat → ClassId) (ad : Nat → Nat) (fu : Nat) (b0 : Nat) (b1 : Nat) (b2 : Nat) (h1 : Nat → Int32) (h2 : Nat → Int32) (u0 : Nat → Int32) (res : Int32 × (Nat → Int32)) (hf : x_M_sub fu h1 h2 u0 = some res) (sz : Nat) : Met l ({ cls := "CoinKeeperModel", name := "sub", desc := "([I[I[I)I" } : Jvm.MethodName) (.code ({ cls := "CoinKeeperModel", name := "sub", desc := "([I[I[I)I" } : Jvm.MethodName) b_M_sub 6 (some .int) :: gw) rm_M_sub (va_Pc [.ref b0, .ref b1, .ref b2] (Pr D cy ad [(b0, .inl (cy 1, 8, .inl u0)), (b1, .inl (cy 1, 8, .inl h1)), (b2, .inl (cy 1, 8, .inl h2))] sz)) (q_M_sub D cy (va_A [(b0, .inl (cy 1, 8, .inl u0)), (b1, .inl (cy 1, 8, .inl h1)), (b2, .inl (cy 1, 8, .inl h2))] sz) b0 b1 b2 h1 h2 res) 0 0 (va_A [(b0, .inl (cy 1, 8, .inl u0)), (b1, .inl (cy 1, 8, .inl h1)), (b2, .inl (cy 1, 8, .inl h2))] sz) :=
  q_met (Qc := fun A => q_M_sub D cy A b0 b1 b2 h1 h2 res) (by decide) rfl rfl (Nat.le_of_ble_eq_true rfl) (fun p e s m below meth c ls F hP hD hS hl => we_M_sub (fu := fu) F u0 res hf _ _ _ hP hD hS hl) sz
abbrev rm_M_add_e10s2x22 : Room := { frames := 0, cells := 0, slots := 0, locals := 0 }
abbrev q_M_add_e10s2x22 (D : va_G) (cy : Nat → ClassId) (A : Nat → Prop) (b0 : Nat) (res : Int32 × (Nat → Int32)) : Array Value → State → Outcome → State → Prop := va_Qi (fun r' (_ : Unit) => r' = res.1) (fun _ t => Po D cy A [(b0, .inl (cy 1, 8, .inl res.2))] t) A
def I_M_add_e10s2x22_5 (p : Program) (l : Launch) (e : Env) (s : State) (m : MethodId) (args : Array Value) (below : List Frame) (meth : Method) (c : Code) (D : va_G) (cy : Nat → ClassId) (A : Nat → Prop) (ad : Nat → Nat) (b0 : Nat) (k : Int64 → Int32 → (Nat → Int32) → Option (Int32 × (Nat → Int32))) : Prop :=
  ∀ (x3 : Int64) (x5 : Int32) (u0 : Nat → Int32) (res : Int32 × (Nat → Int32)), k x3 x5 u0 = some res → ∀ (H : Heap) (locs : List Loc) (ls : Array Slot), va_P D classes [(b0, .inl (cy 1, 8, .inl u0))] H → va_D A [(b0, .inl (cy 1, 8, .inl u0))] → va_S A s.heap H locs → lv_has ls 6 [(0, .ref b0), (1, .ref b0), (2, .ref (ad 22)), (3, .long x3), (5, .int x5)] → W p l e rm_M_add_e10s2x22 s m args below meth c H locs 0 0 (MQ below (q_M_add_e10s2x22 D cy A b0 res) args s 0 0 A) (F0 m 5 ls [])
def I_M_add_e10s2x22_e (p : Program) (l : Launch) (e : Env) (s : State) (m : MethodId) (args : Array Value) (below : List Frame) (meth : Method) (c : Code) (D : va_G) (cy : Nat → ClassId) (A : Nat → Prop) (ad : Nat → Nat) (b0 : Nat) (k : (Nat → Int32) → Option (Int32 × (Nat → Int32))) : Prop :=
  ∀ (u0 : Nat → Int32) (res : Int32 × (Nat → Int32)), k u0 = some res → ∀ (H : Heap) (locs : List Loc) (ls : Array Slot), va_P D classes [(b0, .inl (cy 1, 8, .inl u0))] H → va_D A [(b0, .inl (cy 1, 8, .inl u0))] → va_S A s.heap H locs → lv_has ls 6 [(0, .ref b0), (1, .ref b0), (2, .ref (ad 22))] → W p l e rm_M_add_e10s2x22 s m args below meth c H locs 0 0 (MQ below (q_M_add_e10s2x22 D cy A b0 res) args s 0 0 A) (F0 m 0 ls [])
set_option maxHeartbeats 8000000 in
set_option maxRecDepth 100000 in
theorem wb_M_add_e10s2x22_5 {p : Program} {l : Launch} {e : Env} {s : State} {m : MethodId} {args : Array Value} {below : List Frame} {meth : Method} {c : Code} {D : va_G} {cy : Nat → ClassId} {A : Nat → Prop} {ad : Nat → Nat} {b0 : Nat} {fu : Nat} {k_5 : Int64 → Int32 → (Nat → Int32) → Option (Int32 × (Nat → Int32))} (F : Fx p s m args meth c b_M_add 6 "CoinKeeperModel" "add" (some .int) D cy ad A) (hk_5 : I_M_add_e10s2x22_5 p l e s m args below meth c D cy A ad b0 k_5) : I_M_add_e10s2x22_5 p l e s m args below meth c D cy A ad b0 (xb_M_add_e10s2x22_5 fu k_5) := by
  obtain ⟨hx, hb, hr, hml, hown, hts, hlocks, hK, hA, hSt, hnm, hex⟩ := id F
  intro x3 x5 u0 res hf H locs ls hP hD hS hl
  unfold xb_M_add_e10s2x22_5 at hf
  refine lv_iload hx hb d_M_add_5 (lv_at hl 4 rfl) ?_
  refine lv_bipush (v := 8) hx hb d_M_add_7 (by decide) ?_
  refine lv_icmp_ge (tgt := 51) hx hb d_M_add_9 (by decide) (fun cx => ?_) (fun cx => ?_)
  · have hf := ifp cx hf
    refine lv_lload_n hx hb d_M_add_51 rfl (lv_at hl 3 rfl) ?_
    refine lv_l2i hx hb d_M_add_52 rfl ?_
    refine lv_topi (fun v1 ev => ?_)
    have hf := bn ev hf
    clear ev
    obtain rfl := Option.some.inj hf
    exact q_ri hx hb hr hlocks hK hP hD hS d_M_add_53
  · have hf := ifn cx hf
    refine lv_lload_n hx hb d_M_add_12 rfl (lv_at hl 3 rfl) ?_
    refine lv_aload_n hx hb d_M_add_13 rfl (lv_at hl 1 rfl) ?_
    refine lv_iload hx hb d_M_add_14 (lv_at hl 4 rfl) ?_
    obtain ⟨hg, hf⟩ := gdp hf
    refine va_iald hx hb hK hP 0 1 rfl rfl (inb_in hg) d_M_add_16 ?_
    refine lv_topi (fun v2 ev => ?_)
    have hf := bn ev hf
    clear ev
    refine lv_i2l hx hb d_M_add_17 rfl ?_
    refine lv_topl (fun v3 ev => ?_)
    have hf := bn ev hf
    clear ev
    refine lv_ldc2 (v := 4294967295) hx hb hown (hts _ gw_1390) d_M_add_18 ?_
    refine lv_land hx hb d_M_add_21 ?_
    refine lv_topl (fun v4 ev => ?_)
    have hf := bn ev hf
    clear ev
    refine lv_aload_n hx hb d_M_add_22 rfl (lv_at hl 2 rfl) ?_
    refine lv_iload hx hb d_M_add_23 (lv_at hl 4 rfl) ?_
    obtain ⟨hg, hf⟩ := gdp hf
    refine va_ti (v := .int (tb_22.getD x5.toNatClampNeg 0)) hx hb (hSt.1 22 _ rfl).2 hS (inb_in hg) rfl d_M_add_25 ?_
    refine lv_topi (fun v5 ev => ?_)
    have hf := bn ev hf
    clear ev
    refine lv_i2l hx hb d_M_add_26 rfl ?_
    refine lv_topl (fun v6 ev => ?_)
    have hf := bn ev hf
    clear ev
    refine lv_ldc2 (v := 4294967295) hx hb hown (hts _ gw_1390) d_M_add_27 ?_
    refine lv_land hx hb d_M_add_30 ?_
    refine lv_ladd hx hb d_M_add_31 ?_
    refine lv_ladd hx hb d_M_add_32 ?_
    refine lv_topl (fun v7 ev => ?_)
    have hf := bn ev hf
    clear ev
    refine lv_lstore_n (lv' := [(3, .long v7), (0, .ref b0), (1, .ref b0), (2, .ref (ad 22)), (5, .int x5)]) hx hb d_M_add_33 rfl hl (by decide) rfl (fun ls hl => ?_)
    refine lv_aload_n hx hb d_M_add_34 rfl (lv_at hl 1 rfl) ?_
    refine lv_iload hx hb d_M_add_35 (lv_at hl 4 rfl) ?_
    refine lv_lload_n hx hb d_M_add_37 rfl (lv_at hl 0 rfl) ?_
    refine lv_l2i hx hb d_M_add_38 rfl ?_
    refine lv_topi (fun v8 ev => ?_)
    have hf := bn ev hf
    clear ev
    obtain ⟨hg, hf⟩ := gdp hf
    refine va_iast hx hb hK hP hD hS 0 1 rfl rfl (inb_in hg) d_M_add_39 (fun H locs hP hD hS => ?_)
    obtain ⟨f9, ev, hf⟩ := bne hf
    have hP : va_P D classes [(b0, .inl (cy 1, 8, .inl f9))] H := by rw [ev]; exact hP
    have hD : va_D A [(b0, .inl (cy 1, 8, .inl f9))] := by rw [ev]; exact hD
    clear ev
    refine lv_lload_n hx hb d_M_add_40 rfl (lv_at hl 0 rfl) ?_
    refine lv_bipush (v := 32) hx hb d_M_add_41 (by decide) ?_
    refine lv_lushr hx hb d_M_add_43 rfl ?_
    refine lv_topl (fun v10 ev => ?_)
    have hf := bn ev hf
    clear ev
    refine lv_lstore_n (lv' := [(3, .long v10), (0, .ref b0), (1, .ref b0), (2, .ref (ad 22)), (5, .int x5)]) hx hb d_M_add_44 rfl hl (by decide) rfl (fun ls hl => ?_)
    obtain ⟨v11, ev, hf⟩ := bne hf
    refine lv_iinc (v := v11) (lv' := [(5, .int v11), (3, .long v10), (0, .ref b0), (1, .ref b0), (2, .ref (ad 22))]) hx hb d_M_add_45 hl (k := 4) rfl (by rw [ev]; rfl) (by decide) rfl (fun ls hl => ?_)
    clear ev
    refine lv_goto (tgt := 5) hx hb d_M_add_48 (by decide) ?_
    exact hk_5 _ _ _ _ hf _ _ _ hP hD hS (lv_sub hl [2, 3, 4, 1, 0] rfl)
theorem w_M_add_e10s2x22_5 {p : Program} {l : Launch} {e : Env} {s : State} {m : MethodId} {args : Array Value} {below : List Frame} {meth : Method} {c : Code} {D : va_G} {cy : Nat → ClassId} {A : Nat → Prop} {ad : Nat → Nat} {b0 : Nat} {fu : Nat} (F : Fx p s m args meth c b_M_add 6 "CoinKeeperModel" "add" (some .int) D cy ad A) : ∀ n : Nat, I_M_add_e10s2x22_5 p l e s m args below meth c D cy A ad b0 (x_M_add_e10s2x22_5 fu n)
  | 0 => fun _ _ _ _ hf => nomatch (show (none : Option (Int32 × (Nat → Int32))) = some _ from hf)
  | n + 1 => wb_M_add_e10s2x22_5 F (w_M_add_e10s2x22_5 F n)
set_option maxHeartbeats 8000000 in
set_option maxRecDepth 100000 in
theorem we_M_add_e10s2x22 {p : Program} {l : Launch} {e : Env} {s : State} {m : MethodId} {args : Array Value} {below : List Frame} {meth : Method} {c : Code} {D : va_G} {cy : Nat → ClassId} {A : Nat → Prop} {ad : Nat → Nat} {b0 : Nat} {fu : Nat} (F : Fx p s m args meth c b_M_add 6 "CoinKeeperModel" "add" (some .int) D cy ad A) : I_M_add_e10s2x22_e p l e s m args below meth c D cy A ad b0 (x_M_add_e10s2x22 fu) := by
  obtain ⟨hx, hb, hr, hml, hown, hts, hlocks, hK, hA, hSt, hnm, hex⟩ := id F
  intro u0 res hf H locs ls hP hD hS hl
  unfold x_M_add_e10s2x22 at hf
  refine lv_lconst (v := 0) hx hb d_M_add_0 (by decide) ?_
  refine lv_lstore_n (lv' := [(3, .long (0 : Int64)), (0, .ref b0), (1, .ref b0), (2, .ref (ad 22))]) hx hb d_M_add_1 rfl hl (by decide) rfl (fun ls hl => ?_)
  refine lv_iconst (v := 0) hx hb d_M_add_2 (by decide) ?_
  refine lv_istore (lv' := [(5, .int (0 : Int32)), (3, .long (0 : Int64)), (0, .ref b0), (1, .ref b0), (2, .ref (ad 22))]) hx hb d_M_add_3 hl (by decide) rfl (fun ls hl => ?_)
  exact w_M_add_e10s2x22_5 F fu _ _ _ _ hf _ _ _ hP hD hS (lv_sub hl [2, 3, 4, 1, 0] rfl)
theorem c_M_add_e10s2x22 (l : Launch) (D : va_G) (cy : Nat → ClassId) (ad : Nat → Nat) (fu : Nat) (b0 : Nat) (u0 : Nat → Int32) (res : Int32 × (Nat → Int32)) (hf : x_M_add_e10s2x22 fu u0 = some res) (sz : Nat) : Met l ({ cls := "CoinKeeperModel", name := "add", desc := "([I[I[I)I" } : Jvm.MethodName) (.code ({ cls := "CoinKeeperModel", name := "add", desc := "([I[I[I)I" } : Jvm.MethodName) b_M_add 6 (some .int) :: gw) rm_M_add_e10s2x22 (va_Pc [.ref b0, .ref b0, .ref (ad 22)] (Pr D cy ad [(b0, .inl (cy 1, 8, .inl u0))] sz)) (q_M_add_e10s2x22 D cy (va_A [(b0, .inl (cy 1, 8, .inl u0))] sz) b0 res) 0 0 (va_A [(b0, .inl (cy 1, 8, .inl u0))] sz) :=
  q_met (Qc := fun A => q_M_add_e10s2x22 D cy A b0 res) (by decide) rfl rfl (Nat.le_of_ble_eq_true rfl) (fun p e s m below meth c ls F hP hD hS hl => we_M_add_e10s2x22 (fu := fu) F u0 res hf _ _ _ hP hD hS hl) sz
abbrev b_M_minus : ByteArray := prog_14_method_25_code
theorem d_M_minus_0 : decode b_M_minus 0 = .ok (.aload_n 0, 1) := by decide +kernel
theorem d_M_minus_1 : decode b_M_minus 1 = .ok (.aload_n 1, 1) := by decide +kernel
theorem d_M_minus_2 : decode b_M_minus 2 = .ok (.aload_n 2, 1) := by decide +kernel
theorem d_M_minus_3 : decode b_M_minus 3 = .ok (.invokestatic 350, 3) := by decide +kernel
theorem d_M_minus_6 : decode b_M_minus 6 = .ok (.ifCond .eq 12, 3) := by decide +kernel
theorem d_M_minus_9 : decode b_M_minus 9 = .ok (.aload_n 0, 1) := by decide +kernel
theorem d_M_minus_10 : decode b_M_minus 10 = .ok (.aload_n 0, 1) := by decide +kernel
theorem d_M_minus_11 : decode b_M_minus 11 = .ok (.getstatic 375, 3) := by decide +kernel
theorem d_M_minus_14 : decode b_M_minus 14 = .ok (.invokestatic 338, 3) := by decide +kernel
theorem d_M_minus_17 : decode b_M_minus 17 = .ok (.pop, 1) := by decide +kernel
theorem d_M_minus_18 : decode b_M_minus 18 = .ok (.return_, 1) := by decide +kernel
abbrev rm_M_minus : Room := { frames := 1, cells := 0, slots := 0, locals := 25 }
abbrev q_M_minus (D : va_G) (cy : Nat → ClassId) (A : Nat → Prop) (b0 : Nat) (b1 : Nat) (b2 : Nat) (h1 : Nat → Int32) (h2 : Nat → Int32) (res : (Nat → Int32)) : Array Value → State → Outcome → State → Prop := va_Qv (fun (_ : Unit) => True) (fun _ t => Po D cy A [(b0, .inl (cy 1, 8, .inl res)), (b1, .inl (cy 1, 8, .inl h1)), (b2, .inl (cy 1, 8, .inl h2))] t) A
def I_M_minus_e (p : Program) (l : Launch) (e : Env) (s : State) (m : MethodId) (args : Array Value) (below : List Frame) (meth : Method) (c : Code) (D : va_G) (cy : Nat → ClassId) (A : Nat → Prop) (ad : Nat → Nat) (b0 : Nat) (b1 : Nat) (b2 : Nat) (h1 : Nat → Int32) (h2 : Nat → Int32) (k : (Nat → Int32) → Option ((Nat → Int32))) : Prop :=
  ∀ (u0 : Nat → Int32) (res : (Nat → Int32)), k u0 = some res → ∀ (H : Heap) (locs : List Loc) (ls : Array Slot), va_P D classes [(b0, .inl (cy 1, 8, .inl u0)), (b1, .inl (cy 1, 8, .inl h1)), (b2, .inl (cy 1, 8, .inl h2))] H → va_D A [(b0, .inl (cy 1, 8, .inl u0)), (b1, .inl (cy 1, 8, .inl h1)), (b2, .inl (cy 1, 8, .inl h2))] → va_S A s.heap H locs → lv_has ls 3 [(0, .ref b0), (1, .ref b1), (2, .ref b2)] → W p l e rm_M_minus s m args below meth c H locs 0 0 (MQ below (q_M_minus D cy A b0 b1 b2 h1 h2 res) args s 0 0 A) (F0 m 0 ls [])
set_option maxHeartbeats 8000000 in
set_option maxRecDepth 100000 in
theorem we_M_minus {p : Program} {l : Launch} {e : Env} {s : State} {m : MethodId} {args : Array Value} {below : List Frame} {meth : Method} {c : Code} {D : va_G} {cy : Nat → ClassId} {A : Nat → Prop} {ad : Nat → Nat} {b0 : Nat} {b1 : Nat} {b2 : Nat} {h1 : Nat → Int32} {h2 : Nat → Int32} {fu : Nat} (F : Fx p s m args meth c b_M_minus 3 "CoinKeeperModel" "minus" none D cy ad A) : I_M_minus_e p l e s m args below meth c D cy A ad b0 b1 b2 h1 h2 (x_M_minus fu h1 h2) := by
  obtain ⟨hx, hb, hr, hml, hown, hts, hlocks, hK, hA, hSt, hnm, hex⟩ := id F
  intro u0 res hf H locs ls hP hD hS hl
  unfold x_M_minus at hf
  refine lv_aload_n hx hb d_M_minus_0 rfl (lv_at hl 0 rfl) ?_
  refine lv_aload_n hx hb d_M_minus_1 rfl (lv_at hl 1 rfl) ?_
  refine lv_aload_n hx hb d_M_minus_2 rfl (lv_at hl 2 rfl) ?_
  obtain ⟨v1, f2, hc, hf⟩ := bdp2 hf
  refine q_ai (wr := []) (va_runS (As := [.ref b0, .ref b1, .ref b2]) (rest := []) ⟨hx, hb, hml, hown, hts⟩ (c_M_sub l D cy ad fu b0 b1 b2 h1 h2 u0 _ hc H.size) ⟨q_cB hts gw_1414 gw_18 gw_1412 hdm_17 ⟨by decide, by decide⟩, hts _ gw_1413⟩ (q_pre (hP.sub [0, 1, 2] rfl) (hD.sub [0, 1, 2] (by decide) rfl) hK hSt hS (va_free hD hS hA [0, 1, 2] rfl) _) rfl rfl hl.1 rfl (lv_room (Nat.le_of_ble_eq_true rfl)) d_M_minus_3 ⟨Nat.le_of_ble_eq_true rfl, Nat.le_of_ble_eq_true rfl⟩) hP hD hS hA [0, 1, 2] [] rfl rfl (by decide) (by decide) (fun H locs hP hD hS => ?_)
  clear hc
  have hP : va_P D classes [(b0, .inl (cy 1, 8, .inl f2)), (b1, .inl (cy 1, 8, .inl h1)), (b2, .inl (cy 1, 8, .inl h2))] H := hP
  have hD : va_D A [(b0, .inl (cy 1, 8, .inl f2)), (b1, .inl (cy 1, 8, .inl h1)), (b2, .inl (cy 1, 8, .inl h2))] := hD
  refine lv_if_eq (tgt := 18) hx hb d_M_minus_6 (by decide) (fun cx => ?_) (fun cx => ?_)
  · have hf := ifp cx hf
    obtain rfl := Option.some.inj hf
    exact q_rv hx hb hr hlocks hK hP hD hS d_M_minus_18
  · have hf := ifn cx hf
    refine lv_aload_n hx hb d_M_minus_9 rfl (lv_at hl 0 rfl) ?_
    refine lv_aload_n hx hb d_M_minus_10 rfl (lv_at hl 0 rfl) ?_
    refine va_gets hx hb (hSt.1 22 _ rfl).1 hS hown (hts _ gw_1974) (fun _ h9 => h9) d_M_minus_11 ?_
    obtain ⟨v3, f4, hc, hf⟩ := bdp2 hf
    refine q_ai (wr := [(b1, .inl (cy 1, 8, .inl h1)), (b2, .inl (cy 1, 8, .inl h2))]) (va_runS (As := [.ref b0, .ref b0, .ref (ad 22)]) (rest := []) ⟨hx, hb, hml, hown, hts⟩ (c_M_add_e10s2x22 l D cy ad fu b0 f2 _ hc H.size) ⟨q_cB hts gw_1389 gw_18 gw_1387 hdm_19 ⟨by decide, by decide⟩, hts _ gw_1388⟩ (q_pre (hP.sub [0] rfl) (hD.sub [0] (by decide) rfl) hK hSt hS (va_free hD hS hA [0] rfl) _) rfl rfl hl.1 rfl (lv_room (Nat.le_of_ble_eq_true rfl)) d_M_minus_14 ⟨Nat.le_of_ble_eq_true rfl, Nat.le_of_ble_eq_true rfl⟩) hP hD hS hA [0] [1, 2] rfl rfl (by decide) (by decide) (fun H locs hP hD hS => ?_)
    clear hc
    have hP : va_P D classes [(b1, .inl (cy 1, 8, .inl h1)), (b2, .inl (cy 1, 8, .inl h2)), (b0, .inl (cy 1, 8, .inl f4))] H := hP
    have hD : va_D A [(b1, .inl (cy 1, 8, .inl h1)), (b2, .inl (cy 1, 8, .inl h2)), (b0, .inl (cy 1, 8, .inl f4))] := hD
    refine lv_pop hx hb d_M_minus_17 rfl ?_
    obtain rfl := Option.some.inj hf
    exact q_rv hx hb hr hlocks hK (hP.sub [2, 0, 1] rfl) (hD.sub [2, 0, 1] (by decide) rfl) hS d_M_minus_18
theorem c_M_minus (l : Launch) (D : va_G) (cy : Nat → ClassId) (ad : Nat → Nat) (fu : Nat) (b0 : Nat) (b1 : Nat) (b2 : Nat) (h1 : Nat → Int32) (h2 : Nat → Int32) (u0 : Nat → Int32) (res : (Nat → Int32)) (hf : x_M_minus fu h1 h2 u0 = some res) (sz : Nat) : Met l ({ cls := "CoinKeeperModel", name := "minus", desc := "([I[I[I)V" } : Jvm.MethodName) (.code ({ cls := "CoinKeeperModel", name := "minus", desc := "([I[I[I)V" } : Jvm.MethodName) b_M_minus 3 none :: gw) rm_M_minus (va_Pc [.ref b0, .ref b1, .ref b2] (Pr D cy ad [(b0, .inl (cy 1, 8, .inl u0)), (b1, .inl (cy 1, 8, .inl h1)), (b2, .inl (cy 1, 8, .inl h2))] sz)) (q_M_minus D cy (va_A [(b0, .inl (cy 1, 8, .inl u0)), (b1, .inl (cy 1, 8, .inl h1)), (b2, .inl (cy 1, 8, .inl h2))] sz) b0 b1 b2 h1 h2 res) 0 0 (va_A [(b0, .inl (cy 1, 8, .inl u0)), (b1, .inl (cy 1, 8, .inl h1)), (b2, .inl (cy 1, 8, .inl h2))] sz) :=
  q_met (Qc := fun A => q_M_minus D cy A b0 b1 b2 h1 h2 res) (by decide) rfl rfl (Nat.le_of_ble_eq_true rfl) (fun p e s m below meth c ls F hP hD hS hl => we_M_minus (fu := fu) F u0 res hf _ _ _ hP hD hS hl) sz
