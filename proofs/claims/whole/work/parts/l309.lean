abbrev b_M_join : ByteArray := prog_14_method_31_code
theorem d_M_join_0 : decode b_M_join 0 = .ok (.aload_n 0, 1) := by decide +kernel
theorem d_M_join_1 : decode b_M_join 1 = .ok (.getfield 388, 3) := by decide +kernel
theorem d_M_join_4 : decode b_M_join 4 = .ok (.ifCond .eq 30, 3) := by decide +kernel
theorem d_M_join_7 : decode b_M_join 7 = .ok (.iload_n 3, 1) := by decide +kernel
theorem d_M_join_8 : decode b_M_join 8 = .ok (.ifCond .eq 4, 3) := by decide +kernel
theorem d_M_join_11 : decode b_M_join 11 = .ok (.return_, 1) := by decide +kernel
theorem d_M_join_12 : decode b_M_join 12 = .ok (.aload_n 0, 1) := by decide +kernel
theorem d_M_join_13 : decode b_M_join 13 = .ok (.getfield 193, 3) := by decide +kernel
theorem d_M_join_16 : decode b_M_join 16 = .ok (.aload_n 1, 1) := by decide +kernel
theorem d_M_join_17 : decode b_M_join 17 = .ok (.invokestatic 334, 3) := by decide +kernel
theorem d_M_join_20 : decode b_M_join 20 = .ok (.aload_n 0, 1) := by decide +kernel
theorem d_M_join_21 : decode b_M_join 21 = .ok (.getfield 196, 3) := by decide +kernel
theorem d_M_join_24 : decode b_M_join 24 = .ok (.aload_n 2, 1) := by decide +kernel
theorem d_M_join_25 : decode b_M_join 25 = .ok (.invokestatic 334, 3) := by decide +kernel
theorem d_M_join_28 : decode b_M_join 28 = .ok (.aload_n 0, 1) := by decide +kernel
theorem d_M_join_29 : decode b_M_join 29 = .ok (.iconst 0, 1) := by decide +kernel
theorem d_M_join_30 : decode b_M_join 30 = .ok (.putfield 388, 3) := by decide +kernel
theorem d_M_join_33 : decode b_M_join 33 = .ok (.return_, 1) := by decide +kernel
theorem d_M_join_34 : decode b_M_join 34 = .ok (.iload_n 3, 1) := by decide +kernel
theorem d_M_join_35 : decode b_M_join 35 = .ok (.ifCond .ne 14, 3) := by decide +kernel
theorem d_M_join_38 : decode b_M_join 38 = .ok (.aload_n 0, 1) := by decide +kernel
theorem d_M_join_39 : decode b_M_join 39 = .ok (.getfield 193, 3) := by decide +kernel
theorem d_M_join_42 : decode b_M_join 42 = .ok (.aload_n 1, 1) := by decide +kernel
theorem d_M_join_43 : decode b_M_join 43 = .ok (.invokestatic 346, 3) := by decide +kernel
theorem d_M_join_46 : decode b_M_join 46 = .ok (.ifCond .ne 7, 3) := by decide +kernel
theorem d_M_join_49 : decode b_M_join 49 = .ok (.iconst 1, 1) := by decide +kernel
theorem d_M_join_50 : decode b_M_join 50 = .ok (.goto 4, 3) := by decide +kernel
theorem d_M_join_53 : decode b_M_join 53 = .ok (.iconst 0, 1) := by decide +kernel
theorem d_M_join_54 : decode b_M_join 54 = .ok (.istore 4, 2) := by decide +kernel
theorem d_M_join_56 : decode b_M_join 56 = .ok (.iload 4, 2) := by decide +kernel
theorem d_M_join_58 : decode b_M_join 58 = .ok (.ifCond .eq 34, 3) := by decide +kernel
theorem d_M_join_61 : decode b_M_join 61 = .ok (.iload_n 3, 1) := by decide +kernel
theorem d_M_join_62 : decode b_M_join 62 = .ok (.ifCond .ne 14, 3) := by decide +kernel
theorem d_M_join_65 : decode b_M_join 65 = .ok (.aload_n 0, 1) := by decide +kernel
theorem d_M_join_66 : decode b_M_join 66 = .ok (.getfield 196, 3) := by decide +kernel
theorem d_M_join_69 : decode b_M_join 69 = .ok (.aload_n 2, 1) := by decide +kernel
theorem d_M_join_70 : decode b_M_join 70 = .ok (.invokestatic 346, 3) := by decide +kernel
theorem d_M_join_73 : decode b_M_join 73 = .ok (.ifCond .ne 13, 3) := by decide +kernel
theorem d_M_join_76 : decode b_M_join 76 = .ok (.aload_n 0, 1) := by decide +kernel
theorem d_M_join_77 : decode b_M_join 77 = .ok (.getfield 196, 3) := by decide +kernel
theorem d_M_join_80 : decode b_M_join 80 = .ok (.invokestatic 355, 3) := by decide +kernel
theorem d_M_join_83 : decode b_M_join 83 = .ok (.ifCond .eq 9, 3) := by decide +kernel
theorem d_M_join_86 : decode b_M_join 86 = .ok (.aload_n 0, 1) := by decide +kernel
theorem d_M_join_87 : decode b_M_join 87 = .ok (.iconst 1, 1) := by decide +kernel
theorem d_M_join_88 : decode b_M_join 88 = .ok (.putfield 388, 3) := by decide +kernel
theorem d_M_join_91 : decode b_M_join 91 = .ok (.return_, 1) := by decide +kernel
theorem d_M_join_92 : decode b_M_join 92 = .ok (.iload 4, 2) := by decide +kernel
theorem d_M_join_94 : decode b_M_join 94 = .ok (.ifCond .eq 67, 3) := by decide +kernel
theorem d_M_join_97 : decode b_M_join 97 = .ok (.aload_n 0, 1) := by decide +kernel
theorem d_M_join_98 : decode b_M_join 98 = .ok (.aload_n 0, 1) := by decide +kernel
theorem d_M_join_99 : decode b_M_join 99 = .ok (.getfield 172, 3) := by decide +kernel
theorem d_M_join_102 : decode b_M_join 102 = .ok (.aload_n 0, 1) := by decide +kernel
theorem d_M_join_103 : decode b_M_join 103 = .ok (.getfield 193, 3) := by decide +kernel
theorem d_M_join_106 : decode b_M_join 106 = .ok (.aload_n 0, 1) := by decide +kernel
theorem d_M_join_107 : decode b_M_join 107 = .ok (.getfield 193, 3) := by decide +kernel
theorem d_M_join_110 : decode b_M_join 110 = .ok (.invokevirtual 392, 3) := by decide +kernel
theorem d_M_join_113 : decode b_M_join 113 = .ok (.aload_n 0, 1) := by decide +kernel
theorem d_M_join_114 : decode b_M_join 114 = .ok (.getfield 175, 3) := by decide +kernel
theorem d_M_join_117 : decode b_M_join 117 = .ok (.aload_n 0, 1) := by decide +kernel
theorem d_M_join_118 : decode b_M_join 118 = .ok (.getfield 172, 3) := by decide +kernel
theorem d_M_join_121 : decode b_M_join 121 = .ok (.aload_n 0, 1) := by decide +kernel
theorem d_M_join_122 : decode b_M_join 122 = .ok (.getfield 172, 3) := by decide +kernel
theorem d_M_join_125 : decode b_M_join 125 = .ok (.invokestatic 396, 3) := by decide +kernel
theorem d_M_join_128 : decode b_M_join 128 = .ok (.aload_n 0, 1) := by decide +kernel
theorem d_M_join_129 : decode b_M_join 129 = .ok (.getfield 172, 3) := by decide +kernel
theorem d_M_join_132 : decode b_M_join 132 = .ok (.aload_n 0, 1) := by decide +kernel
theorem d_M_join_133 : decode b_M_join 133 = .ok (.getfield 172, 3) := by decide +kernel
theorem d_M_join_136 : decode b_M_join 136 = .ok (.aload_n 0, 1) := by decide +kernel
theorem d_M_join_137 : decode b_M_join 137 = .ok (.getfield 175, 3) := by decide +kernel
theorem d_M_join_140 : decode b_M_join 140 = .ok (.invokestatic 396, 3) := by decide +kernel
theorem d_M_join_143 : decode b_M_join 143 = .ok (.aload_n 0, 1) := by decide +kernel
theorem d_M_join_144 : decode b_M_join 144 = .ok (.getfield 175, 3) := by decide +kernel
theorem d_M_join_147 : decode b_M_join 147 = .ok (.aload_n 0, 1) := by decide +kernel
theorem d_M_join_148 : decode b_M_join 148 = .ok (.getfield 196, 3) := by decide +kernel
theorem d_M_join_151 : decode b_M_join 151 = .ok (.aload_n 0, 1) := by decide +kernel
theorem d_M_join_152 : decode b_M_join 152 = .ok (.getfield 196, 3) := by decide +kernel
theorem d_M_join_155 : decode b_M_join 155 = .ok (.invokestatic 396, 3) := by decide +kernel
theorem d_M_join_158 : decode b_M_join 158 = .ok (.goto 27, 3) := by decide +kernel
theorem d_M_join_161 : decode b_M_join 161 = .ok (.aload_n 0, 1) := by decide +kernel
theorem d_M_join_162 : decode b_M_join 162 = .ok (.getfield 172, 3) := by decide +kernel
theorem d_M_join_165 : decode b_M_join 165 = .ok (.aload_n 2, 1) := by decide +kernel
theorem d_M_join_166 : decode b_M_join 166 = .ok (.aload_n 0, 1) := by decide +kernel
theorem d_M_join_167 : decode b_M_join 167 = .ok (.getfield 196, 3) := by decide +kernel
theorem d_M_join_170 : decode b_M_join 170 = .ok (.invokestatic 399, 3) := by decide +kernel
theorem d_M_join_173 : decode b_M_join 173 = .ok (.aload_n 0, 1) := by decide +kernel
theorem d_M_join_174 : decode b_M_join 174 = .ok (.getfield 175, 3) := by decide +kernel
theorem d_M_join_177 : decode b_M_join 177 = .ok (.aload_n 1, 1) := by decide +kernel
theorem d_M_join_178 : decode b_M_join 178 = .ok (.aload_n 0, 1) := by decide +kernel
theorem d_M_join_179 : decode b_M_join 179 = .ok (.getfield 193, 3) := by decide +kernel
theorem d_M_join_182 : decode b_M_join 182 = .ok (.invokestatic 399, 3) := by decide +kernel
theorem d_M_join_185 : decode b_M_join 185 = .ok (.aload_n 0, 1) := by decide +kernel
theorem d_M_join_186 : decode b_M_join 186 = .ok (.aload_n 0, 1) := by decide +kernel
theorem d_M_join_187 : decode b_M_join 187 = .ok (.getfield 178, 3) := by decide +kernel
theorem d_M_join_190 : decode b_M_join 190 = .ok (.aload_n 0, 1) := by decide +kernel
theorem d_M_join_191 : decode b_M_join 191 = .ok (.getfield 175, 3) := by decide +kernel
theorem d_M_join_194 : decode b_M_join 194 = .ok (.getstatic 375, 3) := by decide +kernel
theorem d_M_join_197 : decode b_M_join 197 = .ok (.invokevirtual 402, 3) := by decide +kernel
theorem d_M_join_200 : decode b_M_join 200 = .ok (.aload_n 0, 1) := by decide +kernel
theorem d_M_join_201 : decode b_M_join 201 = .ok (.aload_n 0, 1) := by decide +kernel
theorem d_M_join_202 : decode b_M_join 202 = .ok (.getfield 169, 3) := by decide +kernel
theorem d_M_join_205 : decode b_M_join 205 = .ok (.aload_n 0, 1) := by decide +kernel
theorem d_M_join_206 : decode b_M_join 206 = .ok (.getfield 172, 3) := by decide +kernel
theorem d_M_join_209 : decode b_M_join 209 = .ok (.aload_n 0, 1) := by decide +kernel
theorem d_M_join_210 : decode b_M_join 210 = .ok (.getfield 178, 3) := by decide +kernel
theorem d_M_join_213 : decode b_M_join 213 = .ok (.invokevirtual 392, 3) := by decide +kernel
theorem d_M_join_216 : decode b_M_join 216 = .ok (.aload_n 0, 1) := by decide +kernel
theorem d_M_join_217 : decode b_M_join 217 = .ok (.aload_n 0, 1) := by decide +kernel
theorem d_M_join_218 : decode b_M_join 218 = .ok (.getfield 172, 3) := by decide +kernel
theorem d_M_join_221 : decode b_M_join 221 = .ok (.aload_n 0, 1) := by decide +kernel
theorem d_M_join_222 : decode b_M_join 222 = .ok (.getfield 169, 3) := by decide +kernel
theorem d_M_join_225 : decode b_M_join 225 = .ok (.aload_n 0, 1) := by decide +kernel
theorem d_M_join_226 : decode b_M_join 226 = .ok (.getfield 169, 3) := by decide +kernel
theorem d_M_join_229 : decode b_M_join 229 = .ok (.invokevirtual 392, 3) := by decide +kernel
theorem d_M_join_232 : decode b_M_join 232 = .ok (.aload_n 0, 1) := by decide +kernel
theorem d_M_join_233 : decode b_M_join 233 = .ok (.getfield 172, 3) := by decide +kernel
theorem d_M_join_236 : decode b_M_join 236 = .ok (.aload_n 0, 1) := by decide +kernel
theorem d_M_join_237 : decode b_M_join 237 = .ok (.getfield 172, 3) := by decide +kernel
theorem d_M_join_240 : decode b_M_join 240 = .ok (.aload_n 0, 1) := by decide +kernel
theorem d_M_join_241 : decode b_M_join 241 = .ok (.getfield 193, 3) := by decide +kernel
theorem d_M_join_244 : decode b_M_join 244 = .ok (.invokestatic 399, 3) := by decide +kernel
theorem d_M_join_247 : decode b_M_join 247 = .ok (.aload_n 0, 1) := by decide +kernel
theorem d_M_join_248 : decode b_M_join 248 = .ok (.getfield 172, 3) := by decide +kernel
theorem d_M_join_251 : decode b_M_join 251 = .ok (.aload_n 0, 1) := by decide +kernel
theorem d_M_join_252 : decode b_M_join 252 = .ok (.getfield 172, 3) := by decide +kernel
theorem d_M_join_255 : decode b_M_join 255 = .ok (.iload 4, 2) := by decide +kernel
theorem d_M_join_257 : decode b_M_join 257 = .ok (.ifCond .eq 10, 3) := by decide +kernel
theorem d_M_join_260 : decode b_M_join 260 = .ok (.aload_n 0, 1) := by decide +kernel
theorem d_M_join_261 : decode b_M_join 261 = .ok (.getfield 193, 3) := by decide +kernel
theorem d_M_join_264 : decode b_M_join 264 = .ok (.goto 4, 3) := by decide +kernel
theorem d_M_join_267 : decode b_M_join 267 = .ok (.aload_n 1, 1) := by decide +kernel
theorem d_M_join_268 : decode b_M_join 268 = .ok (.invokestatic 399, 3) := by decide +kernel
theorem d_M_join_271 : decode b_M_join 271 = .ok (.aload_n 0, 1) := by decide +kernel
theorem d_M_join_272 : decode b_M_join 272 = .ok (.getfield 175, 3) := by decide +kernel
theorem d_M_join_275 : decode b_M_join 275 = .ok (.aload_n 0, 1) := by decide +kernel
theorem d_M_join_276 : decode b_M_join 276 = .ok (.getfield 193, 3) := by decide +kernel
theorem d_M_join_279 : decode b_M_join 279 = .ok (.aload_n 0, 1) := by decide +kernel
theorem d_M_join_280 : decode b_M_join 280 = .ok (.getfield 172, 3) := by decide +kernel
theorem d_M_join_283 : decode b_M_join 283 = .ok (.invokestatic 399, 3) := by decide +kernel
theorem d_M_join_286 : decode b_M_join 286 = .ok (.aload_n 0, 1) := by decide +kernel
theorem d_M_join_287 : decode b_M_join 287 = .ok (.aload_n 0, 1) := by decide +kernel
theorem d_M_join_288 : decode b_M_join 288 = .ok (.getfield 175, 3) := by decide +kernel
theorem d_M_join_291 : decode b_M_join 291 = .ok (.aload_n 0, 1) := by decide +kernel
theorem d_M_join_292 : decode b_M_join 292 = .ok (.getfield 175, 3) := by decide +kernel
theorem d_M_join_295 : decode b_M_join 295 = .ok (.aload_n 0, 1) := by decide +kernel
theorem d_M_join_296 : decode b_M_join 296 = .ok (.getfield 169, 3) := by decide +kernel
theorem d_M_join_299 : decode b_M_join 299 = .ok (.invokevirtual 392, 3) := by decide +kernel
theorem d_M_join_302 : decode b_M_join 302 = .ok (.aload_n 0, 1) := by decide +kernel
theorem d_M_join_303 : decode b_M_join 303 = .ok (.getfield 196, 3) := by decide +kernel
theorem d_M_join_306 : decode b_M_join 306 = .ok (.aload_n 0, 1) := by decide +kernel
theorem d_M_join_307 : decode b_M_join 307 = .ok (.getfield 175, 3) := by decide +kernel
theorem d_M_join_310 : decode b_M_join 310 = .ok (.aload_n 0, 1) := by decide +kernel
theorem d_M_join_311 : decode b_M_join 311 = .ok (.getfield 196, 3) := by decide +kernel
theorem d_M_join_314 : decode b_M_join 314 = .ok (.invokestatic 399, 3) := by decide +kernel
theorem d_M_join_317 : decode b_M_join 317 = .ok (.aload_n 0, 1) := by decide +kernel
theorem d_M_join_318 : decode b_M_join 318 = .ok (.getfield 193, 3) := by decide +kernel
theorem d_M_join_321 : decode b_M_join 321 = .ok (.aload_n 0, 1) := by decide +kernel
theorem d_M_join_322 : decode b_M_join 322 = .ok (.getfield 172, 3) := by decide +kernel
theorem d_M_join_325 : decode b_M_join 325 = .ok (.invokestatic 334, 3) := by decide +kernel
theorem d_M_join_328 : decode b_M_join 328 = .ok (.return_, 1) := by decide +kernel
abbrev rm_M_join : Room := { frames := 4, cells := 0, slots := 0, locals := 92 }
abbrev q_M_join (D : va_G) (cy : Nat → ClassId) (A : Nat → Prop) (o : Nat) (q : Nat → Nat) (b1 : Nat) (b2 : Nat) (h1 : Nat → Int32) (h2 : Nat → Int32) (res : (Nat → Int32) × (Nat → Int32) × (Nat → Int32) × (Nat → Int32) × (Nat → Int32) × (Nat → Int32) × (Nat → Int32) × (Nat → Int32) × (Nat → Int32) × (Nat → Int32) × (Nat → Int32) × (Nat → Int32)) : Array Value → State → Outcome → State → Prop := va_Qv (fun (_ : Unit) => True) (fun _ t => Po D cy A [(o, .inr (12, mo q res.1)), ((q 48), .inl (cy 1, 8, .inl res.2.1)), ((q 49), .inl (cy 1, 8, .inl res.2.2.1)), ((q 50), .inl (cy 1, 16, .inl res.2.2.2.1)), ((q 51), .inl (cy 1, 8, .inl res.2.2.2.2.1)), ((q 52), .inl (cy 1, 8, .inl res.2.2.2.2.2.1)), ((q 53), .inl (cy 1, 8, .inl res.2.2.2.2.2.2.1)), ((q 54), .inl (cy 1, 8, .inl res.2.2.2.2.2.2.2.1)), ((q 59), .inl (cy 1, 8, .inl res.2.2.2.2.2.2.2.2.1)), ((q 60), .inl (cy 1, 8, .inl res.2.2.2.2.2.2.2.2.2.1)), ((q 66), .inl (cy 1, 8, .inl res.2.2.2.2.2.2.2.2.2.2.1)), ((q 67), .inl (cy 1, 8, .inl res.2.2.2.2.2.2.2.2.2.2.2)), (b1, .inl (cy 1, 8, .inl h1)), (b2, .inl (cy 1, 8, .inl h2))] t) A
def I_M_join_185 (p : Program) (l : Launch) (e : Env) (s : State) (m : MethodId) (args : Array Value) (below : List Frame) (meth : Method) (c : Code) (D : va_G) (cy : Nat → ClassId) (A : Nat → Prop) (ad : Nat → Nat) (o : Nat) (q : Nat → Nat) (b1 : Nat) (b2 : Nat) (h1 : Nat → Int32) (h2 : Nat → Int32) (k : Int32 → (Nat → Int32) → (Nat → Int32) → (Nat → Int32) → (Nat → Int32) → (Nat → Int32) → (Nat → Int32) → (Nat → Int32) → (Nat → Int32) → (Nat → Int32) → (Nat → Int32) → (Nat → Int32) → (Nat → Int32) → Option ((Nat → Int32) × (Nat → Int32) × (Nat → Int32) × (Nat → Int32) × (Nat → Int32) × (Nat → Int32) × (Nat → Int32) × (Nat → Int32) × (Nat → Int32) × (Nat → Int32) × (Nat → Int32) × (Nat → Int32))) : Prop :=
  ∀ (x4 : Int32) (u0 : Nat → Int32) (u1 : Nat → Int32) (u2 : Nat → Int32) (u3 : Nat → Int32) (u4 : Nat → Int32) (u5 : Nat → Int32) (u6 : Nat → Int32) (u7 : Nat → Int32) (u8 : Nat → Int32) (u9 : Nat → Int32) (u10 : Nat → Int32) (u11 : Nat → Int32) (res : (Nat → Int32) × (Nat → Int32) × (Nat → Int32) × (Nat → Int32) × (Nat → Int32) × (Nat → Int32) × (Nat → Int32) × (Nat → Int32) × (Nat → Int32) × (Nat → Int32) × (Nat → Int32) × (Nat → Int32)), k x4 u0 u1 u2 u3 u4 u5 u6 u7 u8 u9 u10 u11 = some res → ∀ (H : Heap) (locs : List Loc) (ls : Array Slot), va_P D classes [(o, .inr (12, mo q u0)), ((q 48), .inl (cy 1, 8, .inl u1)), ((q 49), .inl (cy 1, 8, .inl u2)), ((q 50), .inl (cy 1, 16, .inl u3)), ((q 51), .inl (cy 1, 8, .inl u4)), ((q 52), .inl (cy 1, 8, .inl u5)), ((q 53), .inl (cy 1, 8, .inl u6)), ((q 54), .inl (cy 1, 8, .inl u7)), ((q 59), .inl (cy 1, 8, .inl u8)), ((q 60), .inl (cy 1, 8, .inl u9)), ((q 66), .inl (cy 1, 8, .inl u10)), ((q 67), .inl (cy 1, 8, .inl u11)), (b1, .inl (cy 1, 8, .inl h1)), (b2, .inl (cy 1, 8, .inl h2))] H → va_D A [(o, .inr (12, mo q u0)), ((q 48), .inl (cy 1, 8, .inl u1)), ((q 49), .inl (cy 1, 8, .inl u2)), ((q 50), .inl (cy 1, 16, .inl u3)), ((q 51), .inl (cy 1, 8, .inl u4)), ((q 52), .inl (cy 1, 8, .inl u5)), ((q 53), .inl (cy 1, 8, .inl u6)), ((q 54), .inl (cy 1, 8, .inl u7)), ((q 59), .inl (cy 1, 8, .inl u8)), ((q 60), .inl (cy 1, 8, .inl u9)), ((q 66), .inl (cy 1, 8, .inl u10)), ((q 67), .inl (cy 1, 8, .inl u11)), (b1, .inl (cy 1, 8, .inl h1)), (b2, .inl (cy 1, 8, .inl h2))] → va_S A s.heap H locs → lv_has ls 5 [(0, .ref o), (1, .ref b1), (4, .int x4)] → W p l e rm_M_join s m args below meth c H locs 0 0 (MQ below (q_M_join D cy A o q b1 b2 h1 h2 res) args s 0 0 A) (F0 m 185 ls [])
def I_M_join_92 (p : Program) (l : Launch) (e : Env) (s : State) (m : MethodId) (args : Array Value) (below : List Frame) (meth : Method) (c : Code) (D : va_G) (cy : Nat → ClassId) (A : Nat → Prop) (ad : Nat → Nat) (o : Nat) (q : Nat → Nat) (b1 : Nat) (b2 : Nat) (h1 : Nat → Int32) (h2 : Nat → Int32) (k : Int32 → (Nat → Int32) → (Nat → Int32) → (Nat → Int32) → (Nat → Int32) → (Nat → Int32) → (Nat → Int32) → (Nat → Int32) → (Nat → Int32) → (Nat → Int32) → (Nat → Int32) → (Nat → Int32) → (Nat → Int32) → Option ((Nat → Int32) × (Nat → Int32) × (Nat → Int32) × (Nat → Int32) × (Nat → Int32) × (Nat → Int32) × (Nat → Int32) × (Nat → Int32) × (Nat → Int32) × (Nat → Int32) × (Nat → Int32) × (Nat → Int32))) : Prop :=
  ∀ (x4 : Int32) (u0 : Nat → Int32) (u1 : Nat → Int32) (u2 : Nat → Int32) (u3 : Nat → Int32) (u4 : Nat → Int32) (u5 : Nat → Int32) (u6 : Nat → Int32) (u7 : Nat → Int32) (u8 : Nat → Int32) (u9 : Nat → Int32) (u10 : Nat → Int32) (u11 : Nat → Int32) (res : (Nat → Int32) × (Nat → Int32) × (Nat → Int32) × (Nat → Int32) × (Nat → Int32) × (Nat → Int32) × (Nat → Int32) × (Nat → Int32) × (Nat → Int32) × (Nat → Int32) × (Nat → Int32) × (Nat → Int32)), k x4 u0 u1 u2 u3 u4 u5 u6 u7 u8 u9 u10 u11 = some res → ∀ (H : Heap) (locs : List Loc) (ls : Array Slot), va_P D classes [(o, .inr (12, mo q u0)), ((q 48), .inl (cy 1, 8, .inl u1)), ((q 49), .inl (cy 1, 8, .inl u2)), ((q 50), .inl (cy 1, 16, .inl u3)), ((q 51), .inl (cy 1, 8, .inl u4)), ((q 52), .inl (cy 1, 8, .inl u5)), ((q 53), .inl (cy 1, 8, .inl u6)), ((q 54), .inl (cy 1, 8, .inl u7)), ((q 59), .inl (cy 1, 8, .inl u8)), ((q 60), .inl (cy 1, 8, .inl u9)), ((q 66), .inl (cy 1, 8, .inl u10)), ((q 67), .inl (cy 1, 8, .inl u11)), (b1, .inl (cy 1, 8, .inl h1)), (b2, .inl (cy 1, 8, .inl h2))] H → va_D A [(o, .inr (12, mo q u0)), ((q 48), .inl (cy 1, 8, .inl u1)), ((q 49), .inl (cy 1, 8, .inl u2)), ((q 50), .inl (cy 1, 16, .inl u3)), ((q 51), .inl (cy 1, 8, .inl u4)), ((q 52), .inl (cy 1, 8, .inl u5)), ((q 53), .inl (cy 1, 8, .inl u6)), ((q 54), .inl (cy 1, 8, .inl u7)), ((q 59), .inl (cy 1, 8, .inl u8)), ((q 60), .inl (cy 1, 8, .inl u9)), ((q 66), .inl (cy 1, 8, .inl u10)), ((q 67), .inl (cy 1, 8, .inl u11)), (b1, .inl (cy 1, 8, .inl h1)), (b2, .inl (cy 1, 8, .inl h2))] → va_S A s.heap H locs → lv_has ls 5 [(0, .ref o), (1, .ref b1), (2, .ref b2), (4, .int x4)] → W p l e rm_M_join s m args below meth c H locs 0 0 (MQ below (q_M_join D cy A o q b1 b2 h1 h2 res) args s 0 0 A) (F0 m 92 ls [])
def I_M_join_86 (p : Program) (l : Launch) (e : Env) (s : State) (m : MethodId) (args : Array Value) (below : List Frame) (meth : Method) (c : Code) (D : va_G) (cy : Nat → ClassId) (A : Nat → Prop) (ad : Nat → Nat) (o : Nat) (q : Nat → Nat) (b1 : Nat) (b2 : Nat) (h1 : Nat → Int32) (h2 : Nat → Int32) (k : (Nat → Int32) → (Nat → Int32) → (Nat → Int32) → (Nat → Int32) → (Nat → Int32) → (Nat → Int32) → (Nat → Int32) → (Nat → Int32) → (Nat → Int32) → (Nat → Int32) → (Nat → Int32) → (Nat → Int32) → Option ((Nat → Int32) × (Nat → Int32) × (Nat → Int32) × (Nat → Int32) × (Nat → Int32) × (Nat → Int32) × (Nat → Int32) × (Nat → Int32) × (Nat → Int32) × (Nat → Int32) × (Nat → Int32) × (Nat → Int32))) : Prop :=
  ∀ (u0 : Nat → Int32) (u1 : Nat → Int32) (u2 : Nat → Int32) (u3 : Nat → Int32) (u4 : Nat → Int32) (u5 : Nat → Int32) (u6 : Nat → Int32) (u7 : Nat → Int32) (u8 : Nat → Int32) (u9 : Nat → Int32) (u10 : Nat → Int32) (u11 : Nat → Int32) (res : (Nat → Int32) × (Nat → Int32) × (Nat → Int32) × (Nat → Int32) × (Nat → Int32) × (Nat → Int32) × (Nat → Int32) × (Nat → Int32) × (Nat → Int32) × (Nat → Int32) × (Nat → Int32) × (Nat → Int32)), k u0 u1 u2 u3 u4 u5 u6 u7 u8 u9 u10 u11 = some res → ∀ (H : Heap) (locs : List Loc) (ls : Array Slot), va_P D classes [(o, .inr (12, mo q u0)), ((q 48), .inl (cy 1, 8, .inl u1)), ((q 49), .inl (cy 1, 8, .inl u2)), ((q 50), .inl (cy 1, 16, .inl u3)), ((q 51), .inl (cy 1, 8, .inl u4)), ((q 52), .inl (cy 1, 8, .inl u5)), ((q 53), .inl (cy 1, 8, .inl u6)), ((q 54), .inl (cy 1, 8, .inl u7)), ((q 59), .inl (cy 1, 8, .inl u8)), ((q 60), .inl (cy 1, 8, .inl u9)), ((q 66), .inl (cy 1, 8, .inl u10)), ((q 67), .inl (cy 1, 8, .inl u11)), (b1, .inl (cy 1, 8, .inl h1)), (b2, .inl (cy 1, 8, .inl h2))] H → va_D A [(o, .inr (12, mo q u0)), ((q 48), .inl (cy 1, 8, .inl u1)), ((q 49), .inl (cy 1, 8, .inl u2)), ((q 50), .inl (cy 1, 16, .inl u3)), ((q 51), .inl (cy 1, 8, .inl u4)), ((q 52), .inl (cy 1, 8, .inl u5)), ((q 53), .inl (cy 1, 8, .inl u6)), ((q 54), .inl (cy 1, 8, .inl u7)), ((q 59), .inl (cy 1, 8, .inl u8)), ((q 60), .inl (cy 1, 8, .inl u9)), ((q 66), .inl (cy 1, 8, .inl u10)), ((q 67), .inl (cy 1, 8, .inl u11)), (b1, .inl (cy 1, 8, .inl h1)), (b2, .inl (cy 1, 8, .inl h2))] → va_S A s.heap H locs → lv_has ls 5 [(0, .ref o)] → W p l e rm_M_join s m args below meth c H locs 0 0 (MQ below (q_M_join D cy A o q b1 b2 h1 h2 res) args s 0 0 A) (F0 m 86 ls [])
def I_M_join_76 (p : Program) (l : Launch) (e : Env) (s : State) (m : MethodId) (args : Array Value) (below : List Frame) (meth : Method) (c : Code) (D : va_G) (cy : Nat → ClassId) (A : Nat → Prop) (ad : Nat → Nat) (o : Nat) (q : Nat → Nat) (b1 : Nat) (b2 : Nat) (h1 : Nat → Int32) (h2 : Nat → Int32) (k : Int32 → (Nat → Int32) → (Nat → Int32) → (Nat → Int32) → (Nat → Int32) → (Nat → Int32) → (Nat → Int32) → (Nat → Int32) → (Nat → Int32) → (Nat → Int32) → (Nat → Int32) → (Nat → Int32) → (Nat → Int32) → Option ((Nat → Int32) × (Nat → Int32) × (Nat → Int32) × (Nat → Int32) × (Nat → Int32) × (Nat → Int32) × (Nat → Int32) × (Nat → Int32) × (Nat → Int32) × (Nat → Int32) × (Nat → Int32) × (Nat → Int32))) : Prop :=
  ∀ (x4 : Int32) (u0 : Nat → Int32) (u1 : Nat → Int32) (u2 : Nat → Int32) (u3 : Nat → Int32) (u4 : Nat → Int32) (u5 : Nat → Int32) (u6 : Nat → Int32) (u7 : Nat → Int32) (u8 : Nat → Int32) (u9 : Nat → Int32) (u10 : Nat → Int32) (u11 : Nat → Int32) (res : (Nat → Int32) × (Nat → Int32) × (Nat → Int32) × (Nat → Int32) × (Nat → Int32) × (Nat → Int32) × (Nat → Int32) × (Nat → Int32) × (Nat → Int32) × (Nat → Int32) × (Nat → Int32) × (Nat → Int32)), k x4 u0 u1 u2 u3 u4 u5 u6 u7 u8 u9 u10 u11 = some res → ∀ (H : Heap) (locs : List Loc) (ls : Array Slot), va_P D classes [(o, .inr (12, mo q u0)), ((q 48), .inl (cy 1, 8, .inl u1)), ((q 49), .inl (cy 1, 8, .inl u2)), ((q 50), .inl (cy 1, 16, .inl u3)), ((q 51), .inl (cy 1, 8, .inl u4)), ((q 52), .inl (cy 1, 8, .inl u5)), ((q 53), .inl (cy 1, 8, .inl u6)), ((q 54), .inl (cy 1, 8, .inl u7)), ((q 59), .inl (cy 1, 8, .inl u8)), ((q 60), .inl (cy 1, 8, .inl u9)), ((q 66), .inl (cy 1, 8, .inl u10)), ((q 67), .inl (cy 1, 8, .inl u11)), (b1, .inl (cy 1, 8, .inl h1)), (b2, .inl (cy 1, 8, .inl h2))] H → va_D A [(o, .inr (12, mo q u0)), ((q 48), .inl (cy 1, 8, .inl u1)), ((q 49), .inl (cy 1, 8, .inl u2)), ((q 50), .inl (cy 1, 16, .inl u3)), ((q 51), .inl (cy 1, 8, .inl u4)), ((q 52), .inl (cy 1, 8, .inl u5)), ((q 53), .inl (cy 1, 8, .inl u6)), ((q 54), .inl (cy 1, 8, .inl u7)), ((q 59), .inl (cy 1, 8, .inl u8)), ((q 60), .inl (cy 1, 8, .inl u9)), ((q 66), .inl (cy 1, 8, .inl u10)), ((q 67), .inl (cy 1, 8, .inl u11)), (b1, .inl (cy 1, 8, .inl h1)), (b2, .inl (cy 1, 8, .inl h2))] → va_S A s.heap H locs → lv_has ls 5 [(0, .ref o), (1, .ref b1), (2, .ref b2), (4, .int x4)] → W p l e rm_M_join s m args below meth c H locs 0 0 (MQ below (q_M_join D cy A o q b1 b2 h1 h2 res) args s 0 0 A) (F0 m 76 ls [])
def I_M_join_54 (p : Program) (l : Launch) (e : Env) (s : State) (m : MethodId) (args : Array Value) (below : List Frame) (meth : Method) (c : Code) (D : va_G) (cy : Nat → ClassId) (A : Nat → Prop) (ad : Nat → Nat) (o : Nat) (q : Nat → Nat) (b1 : Nat) (b2 : Nat) (h1 : Nat → Int32) (h2 : Nat → Int32) (k : Int32 → Int32 → (Nat → Int32) → (Nat → Int32) → (Nat → Int32) → (Nat → Int32) → (Nat → Int32) → (Nat → Int32) → (Nat → Int32) → (Nat → Int32) → (Nat → Int32) → (Nat → Int32) → (Nat → Int32) → (Nat → Int32) → Option ((Nat → Int32) × (Nat → Int32) × (Nat → Int32) × (Nat → Int32) × (Nat → Int32) × (Nat → Int32) × (Nat → Int32) × (Nat → Int32) × (Nat → Int32) × (Nat → Int32) × (Nat → Int32) × (Nat → Int32))) : Prop :=
  ∀ (x3 : Int32) (y0 : Int32) (u0 : Nat → Int32) (u1 : Nat → Int32) (u2 : Nat → Int32) (u3 : Nat → Int32) (u4 : Nat → Int32) (u5 : Nat → Int32) (u6 : Nat → Int32) (u7 : Nat → Int32) (u8 : Nat → Int32) (u9 : Nat → Int32) (u10 : Nat → Int32) (u11 : Nat → Int32) (res : (Nat → Int32) × (Nat → Int32) × (Nat → Int32) × (Nat → Int32) × (Nat → Int32) × (Nat → Int32) × (Nat → Int32) × (Nat → Int32) × (Nat → Int32) × (Nat → Int32) × (Nat → Int32) × (Nat → Int32)), k x3 y0 u0 u1 u2 u3 u4 u5 u6 u7 u8 u9 u10 u11 = some res → ∀ (H : Heap) (locs : List Loc) (ls : Array Slot), va_P D classes [(o, .inr (12, mo q u0)), ((q 48), .inl (cy 1, 8, .inl u1)), ((q 49), .inl (cy 1, 8, .inl u2)), ((q 50), .inl (cy 1, 16, .inl u3)), ((q 51), .inl (cy 1, 8, .inl u4)), ((q 52), .inl (cy 1, 8, .inl u5)), ((q 53), .inl (cy 1, 8, .inl u6)), ((q 54), .inl (cy 1, 8, .inl u7)), ((q 59), .inl (cy 1, 8, .inl u8)), ((q 60), .inl (cy 1, 8, .inl u9)), ((q 66), .inl (cy 1, 8, .inl u10)), ((q 67), .inl (cy 1, 8, .inl u11)), (b1, .inl (cy 1, 8, .inl h1)), (b2, .inl (cy 1, 8, .inl h2))] H → va_D A [(o, .inr (12, mo q u0)), ((q 48), .inl (cy 1, 8, .inl u1)), ((q 49), .inl (cy 1, 8, .inl u2)), ((q 50), .inl (cy 1, 16, .inl u3)), ((q 51), .inl (cy 1, 8, .inl u4)), ((q 52), .inl (cy 1, 8, .inl u5)), ((q 53), .inl (cy 1, 8, .inl u6)), ((q 54), .inl (cy 1, 8, .inl u7)), ((q 59), .inl (cy 1, 8, .inl u8)), ((q 60), .inl (cy 1, 8, .inl u9)), ((q 66), .inl (cy 1, 8, .inl u10)), ((q 67), .inl (cy 1, 8, .inl u11)), (b1, .inl (cy 1, 8, .inl h1)), (b2, .inl (cy 1, 8, .inl h2))] → va_S A s.heap H locs → lv_has ls 5 [(0, .ref o), (1, .ref b1), (2, .ref b2), (3, .int x3)] → W p l e rm_M_join s m args below meth c H locs 0 0 (MQ below (q_M_join D cy A o q b1 b2 h1 h2 res) args s 0 0 A) (F0 m 54 ls [.int y0])
def I_M_join_49 (p : Program) (l : Launch) (e : Env) (s : State) (m : MethodId) (args : Array Value) (below : List Frame) (meth : Method) (c : Code) (D : va_G) (cy : Nat → ClassId) (A : Nat → Prop) (ad : Nat → Nat) (o : Nat) (q : Nat → Nat) (b1 : Nat) (b2 : Nat) (h1 : Nat → Int32) (h2 : Nat → Int32) (k : Int32 → (Nat → Int32) → (Nat → Int32) → (Nat → Int32) → (Nat → Int32) → (Nat → Int32) → (Nat → Int32) → (Nat → Int32) → (Nat → Int32) → (Nat → Int32) → (Nat → Int32) → (Nat → Int32) → (Nat → Int32) → Option ((Nat → Int32) × (Nat → Int32) × (Nat → Int32) × (Nat → Int32) × (Nat → Int32) × (Nat → Int32) × (Nat → Int32) × (Nat → Int32) × (Nat → Int32) × (Nat → Int32) × (Nat → Int32) × (Nat → Int32))) : Prop :=
  ∀ (x3 : Int32) (u0 : Nat → Int32) (u1 : Nat → Int32) (u2 : Nat → Int32) (u3 : Nat → Int32) (u4 : Nat → Int32) (u5 : Nat → Int32) (u6 : Nat → Int32) (u7 : Nat → Int32) (u8 : Nat → Int32) (u9 : Nat → Int32) (u10 : Nat → Int32) (u11 : Nat → Int32) (res : (Nat → Int32) × (Nat → Int32) × (Nat → Int32) × (Nat → Int32) × (Nat → Int32) × (Nat → Int32) × (Nat → Int32) × (Nat → Int32) × (Nat → Int32) × (Nat → Int32) × (Nat → Int32) × (Nat → Int32)), k x3 u0 u1 u2 u3 u4 u5 u6 u7 u8 u9 u10 u11 = some res → ∀ (H : Heap) (locs : List Loc) (ls : Array Slot), va_P D classes [(o, .inr (12, mo q u0)), ((q 48), .inl (cy 1, 8, .inl u1)), ((q 49), .inl (cy 1, 8, .inl u2)), ((q 50), .inl (cy 1, 16, .inl u3)), ((q 51), .inl (cy 1, 8, .inl u4)), ((q 52), .inl (cy 1, 8, .inl u5)), ((q 53), .inl (cy 1, 8, .inl u6)), ((q 54), .inl (cy 1, 8, .inl u7)), ((q 59), .inl (cy 1, 8, .inl u8)), ((q 60), .inl (cy 1, 8, .inl u9)), ((q 66), .inl (cy 1, 8, .inl u10)), ((q 67), .inl (cy 1, 8, .inl u11)), (b1, .inl (cy 1, 8, .inl h1)), (b2, .inl (cy 1, 8, .inl h2))] H → va_D A [(o, .inr (12, mo q u0)), ((q 48), .inl (cy 1, 8, .inl u1)), ((q 49), .inl (cy 1, 8, .inl u2)), ((q 50), .inl (cy 1, 16, .inl u3)), ((q 51), .inl (cy 1, 8, .inl u4)), ((q 52), .inl (cy 1, 8, .inl u5)), ((q 53), .inl (cy 1, 8, .inl u6)), ((q 54), .inl (cy 1, 8, .inl u7)), ((q 59), .inl (cy 1, 8, .inl u8)), ((q 60), .inl (cy 1, 8, .inl u9)), ((q 66), .inl (cy 1, 8, .inl u10)), ((q 67), .inl (cy 1, 8, .inl u11)), (b1, .inl (cy 1, 8, .inl h1)), (b2, .inl (cy 1, 8, .inl h2))] → va_S A s.heap H locs → lv_has ls 5 [(0, .ref o), (1, .ref b1), (2, .ref b2), (3, .int x3)] → W p l e rm_M_join s m args below meth c H locs 0 0 (MQ below (q_M_join D cy A o q b1 b2 h1 h2 res) args s 0 0 A) (F0 m 49 ls [])
def I_M_join_e (p : Program) (l : Launch) (e : Env) (s : State) (m : MethodId) (args : Array Value) (below : List Frame) (meth : Method) (c : Code) (D : va_G) (cy : Nat → ClassId) (A : Nat → Prop) (ad : Nat → Nat) (o : Nat) (q : Nat → Nat) (b1 : Nat) (b2 : Nat) (h1 : Nat → Int32) (h2 : Nat → Int32) (k : Int32 → (Nat → Int32) → (Nat → Int32) → (Nat → Int32) → (Nat → Int32) → (Nat → Int32) → (Nat → Int32) → (Nat → Int32) → (Nat → Int32) → (Nat → Int32) → (Nat → Int32) → (Nat → Int32) → (Nat → Int32) → Option ((Nat → Int32) × (Nat → Int32) × (Nat → Int32) × (Nat → Int32) × (Nat → Int32) × (Nat → Int32) × (Nat → Int32) × (Nat → Int32) × (Nat → Int32) × (Nat → Int32) × (Nat → Int32) × (Nat → Int32))) : Prop :=
  ∀ (a3 : Int32) (u0 : Nat → Int32) (u1 : Nat → Int32) (u2 : Nat → Int32) (u3 : Nat → Int32) (u4 : Nat → Int32) (u5 : Nat → Int32) (u6 : Nat → Int32) (u7 : Nat → Int32) (u8 : Nat → Int32) (u9 : Nat → Int32) (u10 : Nat → Int32) (u11 : Nat → Int32) (res : (Nat → Int32) × (Nat → Int32) × (Nat → Int32) × (Nat → Int32) × (Nat → Int32) × (Nat → Int32) × (Nat → Int32) × (Nat → Int32) × (Nat → Int32) × (Nat → Int32) × (Nat → Int32) × (Nat → Int32)), k a3 u0 u1 u2 u3 u4 u5 u6 u7 u8 u9 u10 u11 = some res → ∀ (H : Heap) (locs : List Loc) (ls : Array Slot), va_P D classes [(o, .inr (12, mo q u0)), ((q 48), .inl (cy 1, 8, .inl u1)), ((q 49), .inl (cy 1, 8, .inl u2)), ((q 50), .inl (cy 1, 16, .inl u3)), ((q 51), .inl (cy 1, 8, .inl u4)), ((q 52), .inl (cy 1, 8, .inl u5)), ((q 53), .inl (cy 1, 8, .inl u6)), ((q 54), .inl (cy 1, 8, .inl u7)), ((q 59), .inl (cy 1, 8, .inl u8)), ((q 60), .inl (cy 1, 8, .inl u9)), ((q 66), .inl (cy 1, 8, .inl u10)), ((q 67), .inl (cy 1, 8, .inl u11)), (b1, .inl (cy 1, 8, .inl h1)), (b2, .inl (cy 1, 8, .inl h2))] H → va_D A [(o, .inr (12, mo q u0)), ((q 48), .inl (cy 1, 8, .inl u1)), ((q 49), .inl (cy 1, 8, .inl u2)), ((q 50), .inl (cy 1, 16, .inl u3)), ((q 51), .inl (cy 1, 8, .inl u4)), ((q 52), .inl (cy 1, 8, .inl u5)), ((q 53), .inl (cy 1, 8, .inl u6)), ((q 54), .inl (cy 1, 8, .inl u7)), ((q 59), .inl (cy 1, 8, .inl u8)), ((q 60), .inl (cy 1, 8, .inl u9)), ((q 66), .inl (cy 1, 8, .inl u10)), ((q 67), .inl (cy 1, 8, .inl u11)), (b1, .inl (cy 1, 8, .inl h1)), (b2, .inl (cy 1, 8, .inl h2))] → va_S A s.heap H locs → lv_has ls 5 [(0, .ref o), (1, .ref b1), (2, .ref b2), (3, .int a3)] → W p l e rm_M_join s m args below meth c H locs 0 0 (MQ below (q_M_join D cy A o q b1 b2 h1 h2 res) args s 0 0 A) (F0 m 0 ls [])
theorem hdm_29 : ({ cls := "CoinKeeperModel", name := "inverse", desc := "([I[I[I)V" } : Jvm.MethodName).cls ≠ "java/lang/invoke/MethodHandle" ∧ ({ cls := "CoinKeeperModel", name := "inverse", desc := "([I[I[I)V" } : Jvm.MethodName).cls ≠ "java/lang/invoke/VarHandle" ∧ (parseMethodDescriptor ({ cls := "CoinKeeperModel", name := "inverse", desc := "([I[I[I)V" } : Jvm.MethodName).desc).map (fun d => d.parameters.length) = some 3 := by decide +kernel
theorem hdm_30 : ({ cls := "CoinKeeperModel", name := "minus", desc := "([I[I[I)V" } : Jvm.MethodName).cls ≠ "java/lang/invoke/MethodHandle" ∧ ({ cls := "CoinKeeperModel", name := "minus", desc := "([I[I[I)V" } : Jvm.MethodName).cls ≠ "java/lang/invoke/VarHandle" ∧ (parseMethodDescriptor ({ cls := "CoinKeeperModel", name := "minus", desc := "([I[I[I)V" } : Jvm.MethodName).desc).map (fun d => d.parameters.length) = some 3 := by decide +kernel
set_option maxHeartbeats 8000000 in
set_option maxRecDepth 100000 in
theorem wb_M_join_185 {p : Program} {l : Launch} {e : Env} {s : State} {m : MethodId} {args : Array Value} {below : List Frame} {meth : Method} {c : Code} {D : va_G} {cy : Nat → ClassId} {A : Nat → Prop} {ad : Nat → Nat} {o : Nat} {q : Nat → Nat} {b1 : Nat} {b2 : Nat} {h1 : Nat → Int32} {h2 : Nat → Int32} {fu : Nat} (F : Fx p s m args meth c b_M_join 5 "CoinKeeperModel" "join" none D cy ad A) : I_M_join_185 p l e s m args below meth c D cy A ad o q b1 b2 h1 h2 (xb_M_join_185 fu h1 h2) := by
  obtain ⟨hx, hb, hr, hml, hown, hts, hlocks, hK, hA, hSt, hnm, hex⟩ := id F
  intro x4 u0 u1 u2 u3 u4 u5 u6 u7 u8 u9 u10 u11 res hf H locs ls hP hD hS hl
  unfold xb_M_join_185 at hf
  refine lv_aload_n hx hb d_M_join_185 rfl (lv_at hl 0 rfl) ?_
  refine lv_aload_n hx hb d_M_join_186 rfl (lv_at hl 0 rfl) ?_
  refine va_get (D := D) (ci := 12) (v := .ref (q 54)) (C := "CoinKeeperModel") (T := F_12) (N := 98) hx hb hts i_12 hown hK hP 0 rfl rfl 62 (by decide) (hts _ gw_1481) (fun _ h9 => h9) rfl d_M_join_187 ?_
  refine lv_aload_n hx hb d_M_join_190 rfl (lv_at hl 0 rfl) ?_
  refine va_get (D := D) (ci := 12) (v := .ref (q 53)) (C := "CoinKeeperModel") (T := F_12) (N := 98) hx hb hts i_12 hown hK hP 0 rfl rfl 61 (by decide) (hts _ gw_1480) (fun _ h9 => h9) rfl d_M_join_191 ?_
  refine va_gets hx hb (hSt.1 22 _ rfl).1 hS hown (hts _ gw_1974) (fun _ h9 => h9) d_M_join_194 ?_
  obtain ⟨f1, f2, f3, f4, f5, hc, hf⟩ := bdp5 hf
  refine q_av (wr := [((q 50), .inl (cy 1, 16, .inl u3)), ((q 51), .inl (cy 1, 8, .inl u4)), ((q 52), .inl (cy 1, 8, .inl u5)), ((q 59), .inl (cy 1, 8, .inl u8)), ((q 60), .inl (cy 1, 8, .inl u9)), (b1, .inl (cy 1, 8, .inl h1)), (b2, .inl (cy 1, 8, .inl h2))]) (va_runV (C := "CoinKeeperModel") (As := [.ref (q 54), .ref (q 53), .ref (ad 22)]) (rest := []) ⟨hx, hb, hml, hown, hts⟩ (c_M_inverse_s3x22 l D cy ad fu o q (q 54) (q 53) u0 u6 u1 u2 u10 u11 u7 _ hc H.size) ⟨q_cB hts gw_2008 gw_18 gw_2005 hdm_29 ⟨by decide, by decide⟩, hts _ gw_2007, hts _ gs_117⟩ (q_preV (q_pre (hP.sub [0, 1, 2, 10, 11, 7, 6] rfl) (hD.sub [0, 1, 2, 10, 11, 7, 6] (by decide) rfl) hK hSt hS (va_free hD hS hA [0, 1, 2, 10, 11, 7, 6] rfl) _) (va_recv hK (hP.sub [0, 1, 2, 10, 11, 7, 6] rfl) (ci := 12) (q0 := 0) rfl rfl)) rfl rfl hl.1 rfl (lv_room (Nat.le_of_ble_eq_true rfl)) d_M_join_197 ⟨Nat.le_of_ble_eq_true rfl, Nat.le_of_ble_eq_true rfl⟩) hP hD hS hA [0, 1, 2, 10, 11, 7, 6] [3, 4, 5, 8, 9, 12, 13] rfl rfl (by decide) (by decide) (fun H locs hP hD hS => ?_)
  clear hc
  have hP : va_P D classes [((q 50), .inl (cy 1, 16, .inl u3)), ((q 51), .inl (cy 1, 8, .inl u4)), ((q 52), .inl (cy 1, 8, .inl u5)), ((q 59), .inl (cy 1, 8, .inl u8)), ((q 60), .inl (cy 1, 8, .inl u9)), (b1, .inl (cy 1, 8, .inl h1)), (b2, .inl (cy 1, 8, .inl h2)), (o, .inr (12, mo q u0)), ((q 48), .inl (cy 1, 8, .inl f1)), ((q 49), .inl (cy 1, 8, .inl f2)), ((q 66), .inl (cy 1, 8, .inl f3)), ((q 67), .inl (cy 1, 8, .inl f4)), ((q 54), .inl (cy 1, 8, .inl f5)), ((q 53), .inl (cy 1, 8, .inl u6))] H := hP
  have hD : va_D A [((q 50), .inl (cy 1, 16, .inl u3)), ((q 51), .inl (cy 1, 8, .inl u4)), ((q 52), .inl (cy 1, 8, .inl u5)), ((q 59), .inl (cy 1, 8, .inl u8)), ((q 60), .inl (cy 1, 8, .inl u9)), (b1, .inl (cy 1, 8, .inl h1)), (b2, .inl (cy 1, 8, .inl h2)), (o, .inr (12, mo q u0)), ((q 48), .inl (cy 1, 8, .inl f1)), ((q 49), .inl (cy 1, 8, .inl f2)), ((q 66), .inl (cy 1, 8, .inl f3)), ((q 67), .inl (cy 1, 8, .inl f4)), ((q 54), .inl (cy 1, 8, .inl f5)), ((q 53), .inl (cy 1, 8, .inl u6))] := hD
  refine lv_aload_n hx hb d_M_join_200 rfl (lv_at hl 0 rfl) ?_
  refine lv_aload_n hx hb d_M_join_201 rfl (lv_at hl 0 rfl) ?_
  refine va_get (D := D) (ci := 12) (v := .ref (q 51)) (C := "CoinKeeperModel") (T := F_12) (N := 98) hx hb hts i_12 hown hK hP 7 rfl rfl 59 (by decide) (hts _ gw_1478) (fun _ h9 => h9) rfl d_M_join_202 ?_
  refine lv_aload_n hx hb d_M_join_205 rfl (lv_at hl 0 rfl) ?_
  refine va_get (D := D) (ci := 12) (v := .ref (q 52)) (C := "CoinKeeperModel") (T := F_12) (N := 98) hx hb hts i_12 hown hK hP 7 rfl rfl 60 (by decide) (hts _ gw_1479) (fun _ h9 => h9) rfl d_M_join_206 ?_
  refine lv_aload_n hx hb d_M_join_209 rfl (lv_at hl 0 rfl) ?_
  refine va_get (D := D) (ci := 12) (v := .ref (q 54)) (C := "CoinKeeperModel") (T := F_12) (N := 98) hx hb hts i_12 hown hK hP 7 rfl rfl 62 (by decide) (hts _ gw_1481) (fun _ h9 => h9) rfl d_M_join_210 ?_
  obtain ⟨f6, f7, hc, hf⟩ := bdp2 hf
  refine q_av (wr := [((q 59), .inl (cy 1, 8, .inl u8)), ((q 60), .inl (cy 1, 8, .inl u9)), (b1, .inl (cy 1, 8, .inl h1)), (b2, .inl (cy 1, 8, .inl h2)), ((q 48), .inl (cy 1, 8, .inl f1)), ((q 49), .inl (cy 1, 8, .inl f2)), ((q 66), .inl (cy 1, 8, .inl f3)), ((q 67), .inl (cy 1, 8, .inl f4)), ((q 53), .inl (cy 1, 8, .inl u6))]) (va_runV (C := "CoinKeeperModel") (As := [.ref (q 51), .ref (q 52), .ref (q 54)]) (rest := []) ⟨hx, hb, hml, hown, hts⟩ (c_M_times l D cy ad fu o q (q 51) (q 52) (q 54) u0 u5 f5 u3 u4 _ hc H.size) ⟨q_cB hts gw_1979 gw_18 gw_1976 hdm_20 ⟨by decide, by decide⟩, hts _ gw_1978, hts _ gs_112⟩ (q_preV (q_pre (hP.sub [7, 0, 1, 2, 12] rfl) (hD.sub [7, 0, 1, 2, 12] (by decide) rfl) hK hSt hS (va_free hD hS hA [7, 0, 1, 2, 12] rfl) _) (va_recv hK (hP.sub [7, 0, 1, 2, 12] rfl) (ci := 12) (q0 := 0) rfl rfl)) rfl rfl hl.1 rfl (lv_room (Nat.le_of_ble_eq_true rfl)) d_M_join_213 ⟨Nat.le_of_ble_eq_true rfl, Nat.le_of_ble_eq_true rfl⟩) hP hD hS hA [7, 0, 1, 2, 12] [3, 4, 5, 6, 8, 9, 10, 11, 13] rfl rfl (by decide) (by decide) (fun H locs hP hD hS => ?_)
  clear hc
  have hP : va_P D classes [((q 59), .inl (cy 1, 8, .inl u8)), ((q 60), .inl (cy 1, 8, .inl u9)), (b1, .inl (cy 1, 8, .inl h1)), (b2, .inl (cy 1, 8, .inl h2)), ((q 48), .inl (cy 1, 8, .inl f1)), ((q 49), .inl (cy 1, 8, .inl f2)), ((q 66), .inl (cy 1, 8, .inl f3)), ((q 67), .inl (cy 1, 8, .inl f4)), ((q 53), .inl (cy 1, 8, .inl u6)), (o, .inr (12, mo q u0)), ((q 50), .inl (cy 1, 16, .inl f6)), ((q 51), .inl (cy 1, 8, .inl f7)), ((q 52), .inl (cy 1, 8, .inl u5)), ((q 54), .inl (cy 1, 8, .inl f5))] H := hP
  have hD : va_D A [((q 59), .inl (cy 1, 8, .inl u8)), ((q 60), .inl (cy 1, 8, .inl u9)), (b1, .inl (cy 1, 8, .inl h1)), (b2, .inl (cy 1, 8, .inl h2)), ((q 48), .inl (cy 1, 8, .inl f1)), ((q 49), .inl (cy 1, 8, .inl f2)), ((q 66), .inl (cy 1, 8, .inl f3)), ((q 67), .inl (cy 1, 8, .inl f4)), ((q 53), .inl (cy 1, 8, .inl u6)), (o, .inr (12, mo q u0)), ((q 50), .inl (cy 1, 16, .inl f6)), ((q 51), .inl (cy 1, 8, .inl f7)), ((q 52), .inl (cy 1, 8, .inl u5)), ((q 54), .inl (cy 1, 8, .inl f5))] := hD
  refine lv_aload_n hx hb d_M_join_216 rfl (lv_at hl 0 rfl) ?_
  refine lv_aload_n hx hb d_M_join_217 rfl (lv_at hl 0 rfl) ?_
  refine va_get (D := D) (ci := 12) (v := .ref (q 52)) (C := "CoinKeeperModel") (T := F_12) (N := 98) hx hb hts i_12 hown hK hP 9 rfl rfl 60 (by decide) (hts _ gw_1479) (fun _ h9 => h9) rfl d_M_join_218 ?_
  refine lv_aload_n hx hb d_M_join_221 rfl (lv_at hl 0 rfl) ?_
  refine va_get (D := D) (ci := 12) (v := .ref (q 51)) (C := "CoinKeeperModel") (T := F_12) (N := 98) hx hb hts i_12 hown hK hP 9 rfl rfl 59 (by decide) (hts _ gw_1478) (fun _ h9 => h9) rfl d_M_join_222 ?_
  refine lv_aload_n hx hb d_M_join_225 rfl (lv_at hl 0 rfl) ?_
  refine va_get (D := D) (ci := 12) (v := .ref (q 51)) (C := "CoinKeeperModel") (T := F_12) (N := 98) hx hb hts i_12 hown hK hP 9 rfl rfl 59 (by decide) (hts _ gw_1478) (fun _ h9 => h9) rfl d_M_join_226 ?_
  obtain ⟨f8, f9, hc, hf⟩ := bdp2 hf
  refine q_av (wr := [((q 59), .inl (cy 1, 8, .inl u8)), ((q 60), .inl (cy 1, 8, .inl u9)), (b1, .inl (cy 1, 8, .inl h1)), (b2, .inl (cy 1, 8, .inl h2)), ((q 48), .inl (cy 1, 8, .inl f1)), ((q 49), .inl (cy 1, 8, .inl f2)), ((q 66), .inl (cy 1, 8, .inl f3)), ((q 67), .inl (cy 1, 8, .inl f4)), ((q 53), .inl (cy 1, 8, .inl u6)), ((q 54), .inl (cy 1, 8, .inl f5))]) (va_runV (C := "CoinKeeperModel") (As := [.ref (q 52), .ref (q 51), .ref (q 51)]) (rest := []) ⟨hx, hb, hml, hown, hts⟩ (c_M_times_e32 l D cy ad fu o q (q 52) (q 51) u0 f7 f6 u5 _ hc H.size) ⟨q_cB hts gw_1979 gw_18 gw_1976 hdm_20 ⟨by decide, by decide⟩, hts _ gw_1978, hts _ gs_112⟩ (q_preV (q_pre (hP.sub [9, 10, 12, 11] rfl) (hD.sub [9, 10, 12, 11] (by decide) rfl) hK hSt hS (va_free hD hS hA [9, 10, 12, 11] rfl) _) (va_recv hK (hP.sub [9, 10, 12, 11] rfl) (ci := 12) (q0 := 0) rfl rfl)) rfl rfl hl.1 rfl (lv_room (Nat.le_of_ble_eq_true rfl)) d_M_join_229 ⟨Nat.le_of_ble_eq_true rfl, Nat.le_of_ble_eq_true rfl⟩) hP hD hS hA [9, 10, 12, 11] [0, 1, 2, 3, 4, 5, 6, 7, 8, 13] rfl rfl (by decide) (by decide) (fun H locs hP hD hS => ?_)
  clear hc
  have hP : va_P D classes [((q 59), .inl (cy 1, 8, .inl u8)), ((q 60), .inl (cy 1, 8, .inl u9)), (b1, .inl (cy 1, 8, .inl h1)), (b2, .inl (cy 1, 8, .inl h2)), ((q 48), .inl (cy 1, 8, .inl f1)), ((q 49), .inl (cy 1, 8, .inl f2)), ((q 66), .inl (cy 1, 8, .inl f3)), ((q 67), .inl (cy 1, 8, .inl f4)), ((q 53), .inl (cy 1, 8, .inl u6)), ((q 54), .inl (cy 1, 8, .inl f5)), (o, .inr (12, mo q u0)), ((q 50), .inl (cy 1, 16, .inl f8)), ((q 52), .inl (cy 1, 8, .inl f9)), ((q 51), .inl (cy 1, 8, .inl f7))] H := hP
  have hD : va_D A [((q 59), .inl (cy 1, 8, .inl u8)), ((q 60), .inl (cy 1, 8, .inl u9)), (b1, .inl (cy 1, 8, .inl h1)), (b2, .inl (cy 1, 8, .inl h2)), ((q 48), .inl (cy 1, 8, .inl f1)), ((q 49), .inl (cy 1, 8, .inl f2)), ((q 66), .inl (cy 1, 8, .inl f3)), ((q 67), .inl (cy 1, 8, .inl f4)), ((q 53), .inl (cy 1, 8, .inl u6)), ((q 54), .inl (cy 1, 8, .inl f5)), (o, .inr (12, mo q u0)), ((q 50), .inl (cy 1, 16, .inl f8)), ((q 52), .inl (cy 1, 8, .inl f9)), ((q 51), .inl (cy 1, 8, .inl f7))] := hD
  refine lv_aload_n hx hb d_M_join_232 rfl (lv_at hl 0 rfl) ?_
  refine va_get (D := D) (ci := 12) (v := .ref (q 52)) (C := "CoinKeeperModel") (T := F_12) (N := 98) hx hb hts i_12 hown hK hP 10 rfl rfl 60 (by decide) (hts _ gw_1479) (fun _ h9 => h9) rfl d_M_join_233 ?_
  refine lv_aload_n hx hb d_M_join_236 rfl (lv_at hl 0 rfl) ?_
  refine va_get (D := D) (ci := 12) (v := .ref (q 52)) (C := "CoinKeeperModel") (T := F_12) (N := 98) hx hb hts i_12 hown hK hP 10 rfl rfl 60 (by decide) (hts _ gw_1479) (fun _ h9 => h9) rfl d_M_join_237 ?_
  refine lv_aload_n hx hb d_M_join_240 rfl (lv_at hl 0 rfl) ?_
  refine va_get (D := D) (ci := 12) (v := .ref (q 59)) (C := "CoinKeeperModel") (T := F_12) (N := 98) hx hb hts i_12 hown hK hP 10 rfl rfl 67 (by decide) (hts _ gw_1486) (fun _ h9 => h9) rfl d_M_join_241 ?_
  obtain ⟨f10, hc, hf⟩ := bdp1 hf
  refine q_av (wr := [((q 60), .inl (cy 1, 8, .inl u9)), (b1, .inl (cy 1, 8, .inl h1)), (b2, .inl (cy 1, 8, .inl h2)), ((q 48), .inl (cy 1, 8, .inl f1)), ((q 49), .inl (cy 1, 8, .inl f2)), ((q 66), .inl (cy 1, 8, .inl f3)), ((q 67), .inl (cy 1, 8, .inl f4)), ((q 53), .inl (cy 1, 8, .inl u6)), ((q 54), .inl (cy 1, 8, .inl f5)), (o, .inr (12, mo q u0)), ((q 50), .inl (cy 1, 16, .inl f8)), ((q 51), .inl (cy 1, 8, .inl f7))]) (va_runS (As := [.ref (q 52), .ref (q 52), .ref (q 59)]) (rest := []) ⟨hx, hb, hml, hown, hts⟩ (c_M_minus_e10 l D cy ad fu (q 52) (q 59) u8 f9 _ hc H.size) ⟨q_cB hts gw_2026 gw_18 gw_2024 hdm_30 ⟨by decide, by decide⟩, hts _ gw_2025⟩ (q_pre (hP.sub [12, 0] rfl) (hD.sub [12, 0] (by decide) rfl) hK hSt hS (va_free hD hS hA [12, 0] rfl) _) rfl rfl hl.1 rfl (lv_room (Nat.le_of_ble_eq_true rfl)) d_M_join_244 ⟨Nat.le_of_ble_eq_true rfl, Nat.le_of_ble_eq_true rfl⟩) hP hD hS hA [12, 0] [1, 2, 3, 4, 5, 6, 7, 8, 9, 10, 11, 13] rfl rfl (by decide) (by decide) (fun H locs hP hD hS => ?_)
  clear hc
  have hP : va_P D classes [((q 60), .inl (cy 1, 8, .inl u9)), (b1, .inl (cy 1, 8, .inl h1)), (b2, .inl (cy 1, 8, .inl h2)), ((q 48), .inl (cy 1, 8, .inl f1)), ((q 49), .inl (cy 1, 8, .inl f2)), ((q 66), .inl (cy 1, 8, .inl f3)), ((q 67), .inl (cy 1, 8, .inl f4)), ((q 53), .inl (cy 1, 8, .inl u6)), ((q 54), .inl (cy 1, 8, .inl f5)), (o, .inr (12, mo q u0)), ((q 50), .inl (cy 1, 16, .inl f8)), ((q 51), .inl (cy 1, 8, .inl f7)), ((q 52), .inl (cy 1, 8, .inl f10)), ((q 59), .inl (cy 1, 8, .inl u8))] H := hP
  have hD : va_D A [((q 60), .inl (cy 1, 8, .inl u9)), (b1, .inl (cy 1, 8, .inl h1)), (b2, .inl (cy 1, 8, .inl h2)), ((q 48), .inl (cy 1, 8, .inl f1)), ((q 49), .inl (cy 1, 8, .inl f2)), ((q 66), .inl (cy 1, 8, .inl f3)), ((q 67), .inl (cy 1, 8, .inl f4)), ((q 53), .inl (cy 1, 8, .inl u6)), ((q 54), .inl (cy 1, 8, .inl f5)), (o, .inr (12, mo q u0)), ((q 50), .inl (cy 1, 16, .inl f8)), ((q 51), .inl (cy 1, 8, .inl f7)), ((q 52), .inl (cy 1, 8, .inl f10)), ((q 59), .inl (cy 1, 8, .inl u8))] := hD
  refine lv_aload_n hx hb d_M_join_247 rfl (lv_at hl 0 rfl) ?_
  refine va_get (D := D) (ci := 12) (v := .ref (q 52)) (C := "CoinKeeperModel") (T := F_12) (N := 98) hx hb hts i_12 hown hK hP 9 rfl rfl 60 (by decide) (hts _ gw_1479) (fun _ h9 => h9) rfl d_M_join_248 ?_
  refine lv_aload_n hx hb d_M_join_251 rfl (lv_at hl 0 rfl) ?_
  refine va_get (D := D) (ci := 12) (v := .ref (q 52)) (C := "CoinKeeperModel") (T := F_12) (N := 98) hx hb hts i_12 hown hK hP 9 rfl rfl 60 (by decide) (hts _ gw_1479) (fun _ h9 => h9) rfl d_M_join_252 ?_
  refine lv_iload hx hb d_M_join_255 (lv_at hl 2 rfl) ?_
  refine lv_if_eq (tgt := 267) hx hb d_M_join_257 (by decide) (fun cx => ?_) (fun cx => ?_)
  · have hf := ifp cx hf
    refine lv_aload_n hx hb d_M_join_267 rfl (lv_at hl 1 rfl) ?_
    obtain ⟨f11, hc, hf⟩ := bdp1 hf
    refine q_av (wr := [((q 60), .inl (cy 1, 8, .inl u9)), (b2, .inl (cy 1, 8, .inl h2)), ((q 48), .inl (cy 1, 8, .inl f1)), ((q 49), .inl (cy 1, 8, .inl f2)), ((q 66), .inl (cy 1, 8, .inl f3)), ((q 67), .inl (cy 1, 8, .inl f4)), ((q 53), .inl (cy 1, 8, .inl u6)), ((q 54), .inl (cy 1, 8, .inl f5)), (o, .inr (12, mo q u0)), ((q 50), .inl (cy 1, 16, .inl f8)), ((q 51), .inl (cy 1, 8, .inl f7)), ((q 59), .inl (cy 1, 8, .inl u8))]) (va_runS (As := [.ref (q 52), .ref (q 52), .ref b1]) (rest := []) ⟨hx, hb, hml, hown, hts⟩ (c_M_minus_e10 l D cy ad fu (q 52) b1 h1 f10 _ hc H.size) ⟨q_cB hts gw_2026 gw_18 gw_2024 hdm_30 ⟨by decide, by decide⟩, hts _ gw_2025⟩ (q_pre (hP.sub [12, 1] rfl) (hD.sub [12, 1] (by decide) rfl) hK hSt hS (va_free hD hS hA [12, 1] rfl) _) rfl rfl hl.1 rfl (lv_room (Nat.le_of_ble_eq_true rfl)) d_M_join_268 ⟨Nat.le_of_ble_eq_true rfl, Nat.le_of_ble_eq_true rfl⟩) hP hD hS hA [12, 1] [0, 2, 3, 4, 5, 6, 7, 8, 9, 10, 11, 13] rfl rfl (by decide) (by decide) (fun H locs hP hD hS => ?_)
    clear hc
    have hP : va_P D classes [((q 60), .inl (cy 1, 8, .inl u9)), (b2, .inl (cy 1, 8, .inl h2)), ((q 48), .inl (cy 1, 8, .inl f1)), ((q 49), .inl (cy 1, 8, .inl f2)), ((q 66), .inl (cy 1, 8, .inl f3)), ((q 67), .inl (cy 1, 8, .inl f4)), ((q 53), .inl (cy 1, 8, .inl u6)), ((q 54), .inl (cy 1, 8, .inl f5)), (o, .inr (12, mo q u0)), ((q 50), .inl (cy 1, 16, .inl f8)), ((q 51), .inl (cy 1, 8, .inl f7)), ((q 59), .inl (cy 1, 8, .inl u8)), ((q 52), .inl (cy 1, 8, .inl f11)), (b1, .inl (cy 1, 8, .inl h1))] H := hP
    have hD : va_D A [((q 60), .inl (cy 1, 8, .inl u9)), (b2, .inl (cy 1, 8, .inl h2)), ((q 48), .inl (cy 1, 8, .inl f1)), ((q 49), .inl (cy 1, 8, .inl f2)), ((q 66), .inl (cy 1, 8, .inl f3)), ((q 67), .inl (cy 1, 8, .inl f4)), ((q 53), .inl (cy 1, 8, .inl u6)), ((q 54), .inl (cy 1, 8, .inl f5)), (o, .inr (12, mo q u0)), ((q 50), .inl (cy 1, 16, .inl f8)), ((q 51), .inl (cy 1, 8, .inl f7)), ((q 59), .inl (cy 1, 8, .inl u8)), ((q 52), .inl (cy 1, 8, .inl f11)), (b1, .inl (cy 1, 8, .inl h1))] := hD
    refine lv_aload_n hx hb d_M_join_271 rfl (lv_at hl 0 rfl) ?_
    refine va_get (D := D) (ci := 12) (v := .ref (q 53)) (C := "CoinKeeperModel") (T := F_12) (N := 98) hx hb hts i_12 hown hK hP 8 rfl rfl 61 (by decide) (hts _ gw_1480) (fun _ h9 => h9) rfl d_M_join_272 ?_
    refine lv_aload_n hx hb d_M_join_275 rfl (lv_at hl 0 rfl) ?_
    refine va_get (D := D) (ci := 12) (v := .ref (q 59)) (C := "CoinKeeperModel") (T := F_12) (N := 98) hx hb hts i_12 hown hK hP 8 rfl rfl 67 (by decide) (hts _ gw_1486) (fun _ h9 => h9) rfl d_M_join_276 ?_
    refine lv_aload_n hx hb d_M_join_279 rfl (lv_at hl 0 rfl) ?_
    refine va_get (D := D) (ci := 12) (v := .ref (q 52)) (C := "CoinKeeperModel") (T := F_12) (N := 98) hx hb hts i_12 hown hK hP 8 rfl rfl 60 (by decide) (hts _ gw_1479) (fun _ h9 => h9) rfl d_M_join_280 ?_
    obtain ⟨f12, hc, hf⟩ := bdp1 hf
    refine q_av (wr := [((q 60), .inl (cy 1, 8, .inl u9)), (b2, .inl (cy 1, 8, .inl h2)), ((q 48), .inl (cy 1, 8, .inl f1)), ((q 49), .inl (cy 1, 8, .inl f2)), ((q 66), .inl (cy 1, 8, .inl f3)), ((q 67), .inl (cy 1, 8, .inl f4)), ((q 54), .inl (cy 1, 8, .inl f5)), (o, .inr (12, mo q u0)), ((q 50), .inl (cy 1, 16, .inl f8)), ((q 51), .inl (cy 1, 8, .inl f7)), (b1, .inl (cy 1, 8, .inl h1))]) (va_runS (As := [.ref (q 53), .ref (q 59), .ref (q 52)]) (rest := []) ⟨hx, hb, hml, hown, hts⟩ (c_M_minus l D cy ad fu (q 53) (q 59) (q 52) u8 f11 u6 _ hc H.size) ⟨q_cB hts gw_2026 gw_18 gw_2024 hdm_30 ⟨by decide, by decide⟩, hts _ gw_2025⟩ (q_pre (hP.sub [6, 11, 12] rfl) (hD.sub [6, 11, 12] (by decide) rfl) hK hSt hS (va_free hD hS hA [6, 11, 12] rfl) _) rfl rfl hl.1 rfl (lv_room (Nat.le_of_ble_eq_true rfl)) d_M_join_283 ⟨Nat.le_of_ble_eq_true rfl, Nat.le_of_ble_eq_true rfl⟩) hP hD hS hA [6, 11, 12] [0, 1, 2, 3, 4, 5, 7, 8, 9, 10, 13] rfl rfl (by decide) (by decide) (fun H locs hP hD hS => ?_)
    clear hc
    have hP : va_P D classes [((q 60), .inl (cy 1, 8, .inl u9)), (b2, .inl (cy 1, 8, .inl h2)), ((q 48), .inl (cy 1, 8, .inl f1)), ((q 49), .inl (cy 1, 8, .inl f2)), ((q 66), .inl (cy 1, 8, .inl f3)), ((q 67), .inl (cy 1, 8, .inl f4)), ((q 54), .inl (cy 1, 8, .inl f5)), (o, .inr (12, mo q u0)), ((q 50), .inl (cy 1, 16, .inl f8)), ((q 51), .inl (cy 1, 8, .inl f7)), (b1, .inl (cy 1, 8, .inl h1)), ((q 53), .inl (cy 1, 8, .inl f12)), ((q 59), .inl (cy 1, 8, .inl u8)), ((q 52), .inl (cy 1, 8, .inl f11))] H := hP
    have hD : va_D A [((q 60), .inl (cy 1, 8, .inl u9)), (b2, .inl (cy 1, 8, .inl h2)), ((q 48), .inl (cy 1, 8, .inl f1)), ((q 49), .inl (cy 1, 8, .inl f2)), ((q 66), .inl (cy 1, 8, .inl f3)), ((q 67), .inl (cy 1, 8, .inl f4)), ((q 54), .inl (cy 1, 8, .inl f5)), (o, .inr (12, mo q u0)), ((q 50), .inl (cy 1, 16, .inl f8)), ((q 51), .inl (cy 1, 8, .inl f7)), (b1, .inl (cy 1, 8, .inl h1)), ((q 53), .inl (cy 1, 8, .inl f12)), ((q 59), .inl (cy 1, 8, .inl u8)), ((q 52), .inl (cy 1, 8, .inl f11))] := hD
    refine lv_aload_n hx hb d_M_join_286 rfl (lv_at hl 0 rfl) ?_
    refine lv_aload_n hx hb d_M_join_287 rfl (lv_at hl 0 rfl) ?_
    refine va_get (D := D) (ci := 12) (v := .ref (q 53)) (C := "CoinKeeperModel") (T := F_12) (N := 98) hx hb hts i_12 hown hK hP 7 rfl rfl 61 (by decide) (hts _ gw_1480) (fun _ h9 => h9) rfl d_M_join_288 ?_
    refine lv_aload_n hx hb d_M_join_291 rfl (lv_at hl 0 rfl) ?_
    refine va_get (D := D) (ci := 12) (v := .ref (q 53)) (C := "CoinKeeperModel") (T := F_12) (N := 98) hx hb hts i_12 hown hK hP 7 rfl rfl 61 (by decide) (hts _ gw_1480) (fun _ h9 => h9) rfl d_M_join_292 ?_
    refine lv_aload_n hx hb d_M_join_295 rfl (lv_at hl 0 rfl) ?_
    refine va_get (D := D) (ci := 12) (v := .ref (q 51)) (C := "CoinKeeperModel") (T := F_12) (N := 98) hx hb hts i_12 hown hK hP 7 rfl rfl 59 (by decide) (hts _ gw_1478) (fun _ h9 => h9) rfl d_M_join_296 ?_
    obtain ⟨f13, f14, hc, hf⟩ := bdp2 hf
    refine q_av (wr := [((q 60), .inl (cy 1, 8, .inl u9)), (b2, .inl (cy 1, 8, .inl h2)), ((q 48), .inl (cy 1, 8, .inl f1)), ((q 49), .inl (cy 1, 8, .inl f2)), ((q 66), .inl (cy 1, 8, .inl f3)), ((q 67), .inl (cy 1, 8, .inl f4)), ((q 54), .inl (cy 1, 8, .inl f5)), (b1, .inl (cy 1, 8, .inl h1)), ((q 59), .inl (cy 1, 8, .inl u8)), ((q 52), .inl (cy 1, 8, .inl f11))]) (va_runV (C := "CoinKeeperModel") (As := [.ref (q 53), .ref (q 53), .ref (q 51)]) (rest := []) ⟨hx, hb, hml, hown, hts⟩ (c_M_times_e21 l D cy ad fu o q (q 53) (q 51) u0 f7 f8 f12 _ hc H.size) ⟨q_cB hts gw_1979 gw_18 gw_1976 hdm_20 ⟨by decide, by decide⟩, hts _ gw_1978, hts _ gs_112⟩ (q_preV (q_pre (hP.sub [7, 8, 11, 9] rfl) (hD.sub [7, 8, 11, 9] (by decide) rfl) hK hSt hS (va_free hD hS hA [7, 8, 11, 9] rfl) _) (va_recv hK (hP.sub [7, 8, 11, 9] rfl) (ci := 12) (q0 := 0) rfl rfl)) rfl rfl hl.1 rfl (lv_room (Nat.le_of_ble_eq_true rfl)) d_M_join_299 ⟨Nat.le_of_ble_eq_true rfl, Nat.le_of_ble_eq_true rfl⟩) hP hD hS hA [7, 8, 11, 9] [0, 1, 2, 3, 4, 5, 6, 10, 12, 13] rfl rfl (by decide) (by decide) (fun H locs hP hD hS => ?_)
    clear hc
    have hP : va_P D classes [((q 60), .inl (cy 1, 8, .inl u9)), (b2, .inl (cy 1, 8, .inl h2)), ((q 48), .inl (cy 1, 8, .inl f1)), ((q 49), .inl (cy 1, 8, .inl f2)), ((q 66), .inl (cy 1, 8, .inl f3)), ((q 67), .inl (cy 1, 8, .inl f4)), ((q 54), .inl (cy 1, 8, .inl f5)), (b1, .inl (cy 1, 8, .inl h1)), ((q 59), .inl (cy 1, 8, .inl u8)), ((q 52), .inl (cy 1, 8, .inl f11)), (o, .inr (12, mo q u0)), ((q 50), .inl (cy 1, 16, .inl f13)), ((q 53), .inl (cy 1, 8, .inl f14)), ((q 51), .inl (cy 1, 8, .inl f7))] H := hP
    have hD : va_D A [((q 60), .inl (cy 1, 8, .inl u9)), (b2, .inl (cy 1, 8, .inl h2)), ((q 48), .inl (cy 1, 8, .inl f1)), ((q 49), .inl (cy 1, 8, .inl f2)), ((q 66), .inl (cy 1, 8, .inl f3)), ((q 67), .inl (cy 1, 8, .inl f4)), ((q 54), .inl (cy 1, 8, .inl f5)), (b1, .inl (cy 1, 8, .inl h1)), ((q 59), .inl (cy 1, 8, .inl u8)), ((q 52), .inl (cy 1, 8, .inl f11)), (o, .inr (12, mo q u0)), ((q 50), .inl (cy 1, 16, .inl f13)), ((q 53), .inl (cy 1, 8, .inl f14)), ((q 51), .inl (cy 1, 8, .inl f7))] := hD
    refine lv_aload_n hx hb d_M_join_302 rfl (lv_at hl 0 rfl) ?_
    refine va_get (D := D) (ci := 12) (v := .ref (q 60)) (C := "CoinKeeperModel") (T := F_12) (N := 98) hx hb hts i_12 hown hK hP 10 rfl rfl 68 (by decide) (hts _ gw_1487) (fun _ h9 => h9) rfl d_M_join_303 ?_
    refine lv_aload_n hx hb d_M_join_306 rfl (lv_at hl 0 rfl) ?_
    refine va_get (D := D) (ci := 12) (v := .ref (q 53)) (C := "CoinKeeperModel") (T := F_12) (N := 98) hx hb hts i_12 hown hK hP 10 rfl rfl 61 (by decide) (hts _ gw_1480) (fun _ h9 => h9) rfl d_M_join_307 ?_
    refine lv_aload_n hx hb d_M_join_310 rfl (lv_at hl 0 rfl) ?_
    refine va_get (D := D) (ci := 12) (v := .ref (q 60)) (C := "CoinKeeperModel") (T := F_12) (N := 98) hx hb hts i_12 hown hK hP 10 rfl rfl 68 (by decide) (hts _ gw_1487) (fun _ h9 => h9) rfl d_M_join_311 ?_
    obtain ⟨f15, hc, hf⟩ := bdp1 hf
    refine q_av (wr := [(b2, .inl (cy 1, 8, .inl h2)), ((q 48), .inl (cy 1, 8, .inl f1)), ((q 49), .inl (cy 1, 8, .inl f2)), ((q 66), .inl (cy 1, 8, .inl f3)), ((q 67), .inl (cy 1, 8, .inl f4)), ((q 54), .inl (cy 1, 8, .inl f5)), (b1, .inl (cy 1, 8, .inl h1)), ((q 59), .inl (cy 1, 8, .inl u8)), ((q 52), .inl (cy 1, 8, .inl f11)), (o, .inr (12, mo q u0)), ((q 50), .inl (cy 1, 16, .inl f13)), ((q 51), .inl (cy 1, 8, .inl f7))]) (va_runS (As := [.ref (q 60), .ref (q 53), .ref (q 60)]) (rest := []) ⟨hx, hb, hml, hown, hts⟩ (c_M_minus_e20 l D cy ad fu (q 60) (q 53) f14 u9 _ hc H.size) ⟨q_cB hts gw_2026 gw_18 gw_2024 hdm_30 ⟨by decide, by decide⟩, hts _ gw_2025⟩ (q_pre (hP.sub [0, 12] rfl) (hD.sub [0, 12] (by decide) rfl) hK hSt hS (va_free hD hS hA [0, 12] rfl) _) rfl rfl hl.1 rfl (lv_room (Nat.le_of_ble_eq_true rfl)) d_M_join_314 ⟨Nat.le_of_ble_eq_true rfl, Nat.le_of_ble_eq_true rfl⟩) hP hD hS hA [0, 12] [1, 2, 3, 4, 5, 6, 7, 8, 9, 10, 11, 13] rfl rfl (by decide) (by decide) (fun H locs hP hD hS => ?_)
    clear hc
    have hP : va_P D classes [(b2, .inl (cy 1, 8, .inl h2)), ((q 48), .inl (cy 1, 8, .inl f1)), ((q 49), .inl (cy 1, 8, .inl f2)), ((q 66), .inl (cy 1, 8, .inl f3)), ((q 67), .inl (cy 1, 8, .inl f4)), ((q 54), .inl (cy 1, 8, .inl f5)), (b1, .inl (cy 1, 8, .inl h1)), ((q 59), .inl (cy 1, 8, .inl u8)), ((q 52), .inl (cy 1, 8, .inl f11)), (o, .inr (12, mo q u0)), ((q 50), .inl (cy 1, 16, .inl f13)), ((q 51), .inl (cy 1, 8, .inl f7)), ((q 60), .inl (cy 1, 8, .inl f15)), ((q 53), .inl (cy 1, 8, .inl f14))] H := hP
    have hD : va_D A [(b2, .inl (cy 1, 8, .inl h2)), ((q 48), .inl (cy 1, 8, .inl f1)), ((q 49), .inl (cy 1, 8, .inl f2)), ((q 66), .inl (cy 1, 8, .inl f3)), ((q 67), .inl (cy 1, 8, .inl f4)), ((q 54), .inl (cy 1, 8, .inl f5)), (b1, .inl (cy 1, 8, .inl h1)), ((q 59), .inl (cy 1, 8, .inl u8)), ((q 52), .inl (cy 1, 8, .inl f11)), (o, .inr (12, mo q u0)), ((q 50), .inl (cy 1, 16, .inl f13)), ((q 51), .inl (cy 1, 8, .inl f7)), ((q 60), .inl (cy 1, 8, .inl f15)), ((q 53), .inl (cy 1, 8, .inl f14))] := hD
    refine lv_aload_n hx hb d_M_join_317 rfl (lv_at hl 0 rfl) ?_
    refine va_get (D := D) (ci := 12) (v := .ref (q 59)) (C := "CoinKeeperModel") (T := F_12) (N := 98) hx hb hts i_12 hown hK hP 9 rfl rfl 67 (by decide) (hts _ gw_1486) (fun _ h9 => h9) rfl d_M_join_318 ?_
    refine lv_aload_n hx hb d_M_join_321 rfl (lv_at hl 0 rfl) ?_
    refine va_get (D := D) (ci := 12) (v := .ref (q 52)) (C := "CoinKeeperModel") (T := F_12) (N := 98) hx hb hts i_12 hown hK hP 9 rfl rfl 60 (by decide) (hts _ gw_1479) (fun _ h9 => h9) rfl d_M_join_322 ?_
    obtain ⟨f16, hc, hf⟩ := bdp1 hf
    refine q_av (wr := [(b2, .inl (cy 1, 8, .inl h2)), ((q 48), .inl (cy 1, 8, .inl f1)), ((q 49), .inl (cy 1, 8, .inl f2)), ((q 66), .inl (cy 1, 8, .inl f3)), ((q 67), .inl (cy 1, 8, .inl f4)), ((q 54), .inl (cy 1, 8, .inl f5)), (b1, .inl (cy 1, 8, .inl h1)), (o, .inr (12, mo q u0)), ((q 50), .inl (cy 1, 16, .inl f13)), ((q 51), .inl (cy 1, 8, .inl f7)), ((q 60), .inl (cy 1, 8, .inl f15)), ((q 53), .inl (cy 1, 8, .inl f14))]) (va_runS (As := [.ref (q 59), .ref (q 52)]) (rest := []) ⟨hx, hb, hml, hown, hts⟩ (c_M_copy l D cy ad fu (q 59) (q 52) f11 u8 _ hc H.size) ⟨q_cB hts gw_1397 gw_18 gw_1395 hdm_24 ⟨by decide, by decide⟩, hts _ gw_1396⟩ (q_pre (hP.sub [7, 8] rfl) (hD.sub [7, 8] (by decide) rfl) hK hSt hS (va_free hD hS hA [7, 8] rfl) _) rfl rfl hl.1 rfl (lv_room (Nat.le_of_ble_eq_true rfl)) d_M_join_325 ⟨Nat.le_of_ble_eq_true rfl, Nat.le_of_ble_eq_true rfl⟩) hP hD hS hA [7, 8] [0, 1, 2, 3, 4, 5, 6, 9, 10, 11, 12, 13] rfl rfl (by decide) (by decide) (fun H locs hP hD hS => ?_)
    clear hc
    have hP : va_P D classes [(b2, .inl (cy 1, 8, .inl h2)), ((q 48), .inl (cy 1, 8, .inl f1)), ((q 49), .inl (cy 1, 8, .inl f2)), ((q 66), .inl (cy 1, 8, .inl f3)), ((q 67), .inl (cy 1, 8, .inl f4)), ((q 54), .inl (cy 1, 8, .inl f5)), (b1, .inl (cy 1, 8, .inl h1)), (o, .inr (12, mo q u0)), ((q 50), .inl (cy 1, 16, .inl f13)), ((q 51), .inl (cy 1, 8, .inl f7)), ((q 60), .inl (cy 1, 8, .inl f15)), ((q 53), .inl (cy 1, 8, .inl f14)), ((q 59), .inl (cy 1, 8, .inl f16)), ((q 52), .inl (cy 1, 8, .inl f11))] H := hP
    have hD : va_D A [(b2, .inl (cy 1, 8, .inl h2)), ((q 48), .inl (cy 1, 8, .inl f1)), ((q 49), .inl (cy 1, 8, .inl f2)), ((q 66), .inl (cy 1, 8, .inl f3)), ((q 67), .inl (cy 1, 8, .inl f4)), ((q 54), .inl (cy 1, 8, .inl f5)), (b1, .inl (cy 1, 8, .inl h1)), (o, .inr (12, mo q u0)), ((q 50), .inl (cy 1, 16, .inl f13)), ((q 51), .inl (cy 1, 8, .inl f7)), ((q 60), .inl (cy 1, 8, .inl f15)), ((q 53), .inl (cy 1, 8, .inl f14)), ((q 59), .inl (cy 1, 8, .inl f16)), ((q 52), .inl (cy 1, 8, .inl f11))] := hD
    obtain rfl := Option.some.inj hf
    exact q_rv hx hb hr hlocks hK (hP.sub [7, 1, 2, 8, 9, 13, 11, 5, 12, 10, 3, 4, 6, 0] rfl) (hD.sub [7, 1, 2, 8, 9, 13, 11, 5, 12, 10, 3, 4, 6, 0] (by decide) rfl) hS d_M_join_328
  · have hf := ifn cx hf
    refine lv_aload_n hx hb d_M_join_260 rfl (lv_at hl 0 rfl) ?_
    refine va_get (D := D) (ci := 12) (v := .ref (q 59)) (C := "CoinKeeperModel") (T := F_12) (N := 98) hx hb hts i_12 hown hK hP 9 rfl rfl 67 (by decide) (hts _ gw_1486) (fun _ h9 => h9) rfl d_M_join_261 ?_
    refine lv_goto (tgt := 268) hx hb d_M_join_264 (by decide) ?_
    obtain ⟨f17, hc, hf⟩ := bdp1 hf
    refine q_av (wr := [((q 60), .inl (cy 1, 8, .inl u9)), (b1, .inl (cy 1, 8, .inl h1)), (b2, .inl (cy 1, 8, .inl h2)), ((q 48), .inl (cy 1, 8, .inl f1)), ((q 49), .inl (cy 1, 8, .inl f2)), ((q 66), .inl (cy 1, 8, .inl f3)), ((q 67), .inl (cy 1, 8, .inl f4)), ((q 53), .inl (cy 1, 8, .inl u6)), ((q 54), .inl (cy 1, 8, .inl f5)), (o, .inr (12, mo q u0)), ((q 50), .inl (cy 1, 16, .inl f8)), ((q 51), .inl (cy 1, 8, .inl f7))]) (va_runS (As := [.ref (q 52), .ref (q 52), .ref (q 59)]) (rest := []) ⟨hx, hb, hml, hown, hts⟩ (c_M_minus_e10 l D cy ad fu (q 52) (q 59) u8 f10 _ hc H.size) ⟨q_cB hts gw_2026 gw_18 gw_2024 hdm_30 ⟨by decide, by decide⟩, hts _ gw_2025⟩ (q_pre (hP.sub [12, 13] rfl) (hD.sub [12, 13] (by decide) rfl) hK hSt hS (va_free hD hS hA [12, 13] rfl) _) rfl rfl hl.1 rfl (lv_room (Nat.le_of_ble_eq_true rfl)) d_M_join_268 ⟨Nat.le_of_ble_eq_true rfl, Nat.le_of_ble_eq_true rfl⟩) hP hD hS hA [12, 13] [0, 1, 2, 3, 4, 5, 6, 7, 8, 9, 10, 11] rfl rfl (by decide) (by decide) (fun H locs hP hD hS => ?_)
    clear hc
    have hP : va_P D classes [((q 60), .inl (cy 1, 8, .inl u9)), (b1, .inl (cy 1, 8, .inl h1)), (b2, .inl (cy 1, 8, .inl h2)), ((q 48), .inl (cy 1, 8, .inl f1)), ((q 49), .inl (cy 1, 8, .inl f2)), ((q 66), .inl (cy 1, 8, .inl f3)), ((q 67), .inl (cy 1, 8, .inl f4)), ((q 53), .inl (cy 1, 8, .inl u6)), ((q 54), .inl (cy 1, 8, .inl f5)), (o, .inr (12, mo q u0)), ((q 50), .inl (cy 1, 16, .inl f8)), ((q 51), .inl (cy 1, 8, .inl f7)), ((q 52), .inl (cy 1, 8, .inl f17)), ((q 59), .inl (cy 1, 8, .inl u8))] H := hP
    have hD : va_D A [((q 60), .inl (cy 1, 8, .inl u9)), (b1, .inl (cy 1, 8, .inl h1)), (b2, .inl (cy 1, 8, .inl h2)), ((q 48), .inl (cy 1, 8, .inl f1)), ((q 49), .inl (cy 1, 8, .inl f2)), ((q 66), .inl (cy 1, 8, .inl f3)), ((q 67), .inl (cy 1, 8, .inl f4)), ((q 53), .inl (cy 1, 8, .inl u6)), ((q 54), .inl (cy 1, 8, .inl f5)), (o, .inr (12, mo q u0)), ((q 50), .inl (cy 1, 16, .inl f8)), ((q 51), .inl (cy 1, 8, .inl f7)), ((q 52), .inl (cy 1, 8, .inl f17)), ((q 59), .inl (cy 1, 8, .inl u8))] := hD
    refine lv_aload_n hx hb d_M_join_271 rfl (lv_at hl 0 rfl) ?_
    refine va_get (D := D) (ci := 12) (v := .ref (q 53)) (C := "CoinKeeperModel") (T := F_12) (N := 98) hx hb hts i_12 hown hK hP 9 rfl rfl 61 (by decide) (hts _ gw_1480) (fun _ h9 => h9) rfl d_M_join_272 ?_
    refine lv_aload_n hx hb d_M_join_275 rfl (lv_at hl 0 rfl) ?_
    refine va_get (D := D) (ci := 12) (v := .ref (q 59)) (C := "CoinKeeperModel") (T := F_12) (N := 98) hx hb hts i_12 hown hK hP 9 rfl rfl 67 (by decide) (hts _ gw_1486) (fun _ h9 => h9) rfl d_M_join_276 ?_
    refine lv_aload_n hx hb d_M_join_279 rfl (lv_at hl 0 rfl) ?_
    refine va_get (D := D) (ci := 12) (v := .ref (q 52)) (C := "CoinKeeperModel") (T := F_12) (N := 98) hx hb hts i_12 hown hK hP 9 rfl rfl 60 (by decide) (hts _ gw_1479) (fun _ h9 => h9) rfl d_M_join_280 ?_
    obtain ⟨f18, hc, hf⟩ := bdp1 hf
    refine q_av (wr := [((q 60), .inl (cy 1, 8, .inl u9)), (b1, .inl (cy 1, 8, .inl h1)), (b2, .inl (cy 1, 8, .inl h2)), ((q 48), .inl (cy 1, 8, .inl f1)), ((q 49), .inl (cy 1, 8, .inl f2)), ((q 66), .inl (cy 1, 8, .inl f3)), ((q 67), .inl (cy 1, 8, .inl f4)), ((q 54), .inl (cy 1, 8, .inl f5)), (o, .inr (12, mo q u0)), ((q 50), .inl (cy 1, 16, .inl f8)), ((q 51), .inl (cy 1, 8, .inl f7))]) (va_runS (As := [.ref (q 53), .ref (q 59), .ref (q 52)]) (rest := []) ⟨hx, hb, hml, hown, hts⟩ (c_M_minus l D cy ad fu (q 53) (q 59) (q 52) u8 f17 u6 _ hc H.size) ⟨q_cB hts gw_2026 gw_18 gw_2024 hdm_30 ⟨by decide, by decide⟩, hts _ gw_2025⟩ (q_pre (hP.sub [7, 13, 12] rfl) (hD.sub [7, 13, 12] (by decide) rfl) hK hSt hS (va_free hD hS hA [7, 13, 12] rfl) _) rfl rfl hl.1 rfl (lv_room (Nat.le_of_ble_eq_true rfl)) d_M_join_283 ⟨Nat.le_of_ble_eq_true rfl, Nat.le_of_ble_eq_true rfl⟩) hP hD hS hA [7, 13, 12] [0, 1, 2, 3, 4, 5, 6, 8, 9, 10, 11] rfl rfl (by decide) (by decide) (fun H locs hP hD hS => ?_)
    clear hc
    have hP : va_P D classes [((q 60), .inl (cy 1, 8, .inl u9)), (b1, .inl (cy 1, 8, .inl h1)), (b2, .inl (cy 1, 8, .inl h2)), ((q 48), .inl (cy 1, 8, .inl f1)), ((q 49), .inl (cy 1, 8, .inl f2)), ((q 66), .inl (cy 1, 8, .inl f3)), ((q 67), .inl (cy 1, 8, .inl f4)), ((q 54), .inl (cy 1, 8, .inl f5)), (o, .inr (12, mo q u0)), ((q 50), .inl (cy 1, 16, .inl f8)), ((q 51), .inl (cy 1, 8, .inl f7)), ((q 53), .inl (cy 1, 8, .inl f18)), ((q 59), .inl (cy 1, 8, .inl u8)), ((q 52), .inl (cy 1, 8, .inl f17))] H := hP
    have hD : va_D A [((q 60), .inl (cy 1, 8, .inl u9)), (b1, .inl (cy 1, 8, .inl h1)), (b2, .inl (cy 1, 8, .inl h2)), ((q 48), .inl (cy 1, 8, .inl f1)), ((q 49), .inl (cy 1, 8, .inl f2)), ((q 66), .inl (cy 1, 8, .inl f3)), ((q 67), .inl (cy 1, 8, .inl f4)), ((q 54), .inl (cy 1, 8, .inl f5)), (o, .inr (12, mo q u0)), ((q 50), .inl (cy 1, 16, .inl f8)), ((q 51), .inl (cy 1, 8, .inl f7)), ((q 53), .inl (cy 1, 8, .inl f18)), ((q 59), .inl (cy 1, 8, .inl u8)), ((q 52), .inl (cy 1, 8, .inl f17))] := hD
    refine lv_aload_n hx hb d_M_join_286 rfl (lv_at hl 0 rfl) ?_
    refine lv_aload_n hx hb d_M_join_287 rfl (lv_at hl 0 rfl) ?_
    refine va_get (D := D) (ci := 12) (v := .ref (q 53)) (C := "CoinKeeperModel") (T := F_12) (N := 98) hx hb hts i_12 hown hK hP 8 rfl rfl 61 (by decide) (hts _ gw_1480) (fun _ h9 => h9) rfl d_M_join_288 ?_
    refine lv_aload_n hx hb d_M_join_291 rfl (lv_at hl 0 rfl) ?_
    refine va_get (D := D) (ci := 12) (v := .ref (q 53)) (C := "CoinKeeperModel") (T := F_12) (N := 98) hx hb hts i_12 hown hK hP 8 rfl rfl 61 (by decide) (hts _ gw_1480) (fun _ h9 => h9) rfl d_M_join_292 ?_
    refine lv_aload_n hx hb d_M_join_295 rfl (lv_at hl 0 rfl) ?_
    refine va_get (D := D) (ci := 12) (v := .ref (q 51)) (C := "CoinKeeperModel") (T := F_12) (N := 98) hx hb hts i_12 hown hK hP 8 rfl rfl 59 (by decide) (hts _ gw_1478) (fun _ h9 => h9) rfl d_M_join_296 ?_
    obtain ⟨f19, f20, hc, hf⟩ := bdp2 hf
    refine q_av (wr := [((q 60), .inl (cy 1, 8, .inl u9)), (b1, .inl (cy 1, 8, .inl h1)), (b2, .inl (cy 1, 8, .inl h2)), ((q 48), .inl (cy 1, 8, .inl f1)), ((q 49), .inl (cy 1, 8, .inl f2)), ((q 66), .inl (cy 1, 8, .inl f3)), ((q 67), .inl (cy 1, 8, .inl f4)), ((q 54), .inl (cy 1, 8, .inl f5)), ((q 59), .inl (cy 1, 8, .inl u8)), ((q 52), .inl (cy 1, 8, .inl f17))]) (va_runV (C := "CoinKeeperModel") (As := [.ref (q 53), .ref (q 53), .ref (q 51)]) (rest := []) ⟨hx, hb, hml, hown, hts⟩ (c_M_times_e21 l D cy ad fu o q (q 53) (q 51) u0 f7 f8 f18 _ hc H.size) ⟨q_cB hts gw_1979 gw_18 gw_1976 hdm_20 ⟨by decide, by decide⟩, hts _ gw_1978, hts _ gs_112⟩ (q_preV (q_pre (hP.sub [8, 9, 11, 10] rfl) (hD.sub [8, 9, 11, 10] (by decide) rfl) hK hSt hS (va_free hD hS hA [8, 9, 11, 10] rfl) _) (va_recv hK (hP.sub [8, 9, 11, 10] rfl) (ci := 12) (q0 := 0) rfl rfl)) rfl rfl hl.1 rfl (lv_room (Nat.le_of_ble_eq_true rfl)) d_M_join_299 ⟨Nat.le_of_ble_eq_true rfl, Nat.le_of_ble_eq_true rfl⟩) hP hD hS hA [8, 9, 11, 10] [0, 1, 2, 3, 4, 5, 6, 7, 12, 13] rfl rfl (by decide) (by decide) (fun H locs hP hD hS => ?_)
    clear hc
    have hP : va_P D classes [((q 60), .inl (cy 1, 8, .inl u9)), (b1, .inl (cy 1, 8, .inl h1)), (b2, .inl (cy 1, 8, .inl h2)), ((q 48), .inl (cy 1, 8, .inl f1)), ((q 49), .inl (cy 1, 8, .inl f2)), ((q 66), .inl (cy 1, 8, .inl f3)), ((q 67), .inl (cy 1, 8, .inl f4)), ((q 54), .inl (cy 1, 8, .inl f5)), ((q 59), .inl (cy 1, 8, .inl u8)), ((q 52), .inl (cy 1, 8, .inl f17)), (o, .inr (12, mo q u0)), ((q 50), .inl (cy 1, 16, .inl f19)), ((q 53), .inl (cy 1, 8, .inl f20)), ((q 51), .inl (cy 1, 8, .inl f7))] H := hP
    have hD : va_D A [((q 60), .inl (cy 1, 8, .inl u9)), (b1, .inl (cy 1, 8, .inl h1)), (b2, .inl (cy 1, 8, .inl h2)), ((q 48), .inl (cy 1, 8, .inl f1)), ((q 49), .inl (cy 1, 8, .inl f2)), ((q 66), .inl (cy 1, 8, .inl f3)), ((q 67), .inl (cy 1, 8, .inl f4)), ((q 54), .inl (cy 1, 8, .inl f5)), ((q 59), .inl (cy 1, 8, .inl u8)), ((q 52), .inl (cy 1, 8, .inl f17)), (o, .inr (12, mo q u0)), ((q 50), .inl (cy 1, 16, .inl f19)), ((q 53), .inl (cy 1, 8, .inl f20)), ((q 51), .inl (cy 1, 8, .inl f7))] := hD
    refine lv_aload_n hx hb d_M_join_302 rfl (lv_at hl 0 rfl) ?_
    refine va_get (D := D) (ci := 12) (v := .ref (q 60)) (C := "CoinKeeperModel") (T := F_12) (N := 98) hx hb hts i_12 hown hK hP 10 rfl rfl 68 (by decide) (hts _ gw_1487) (fun _ h9 => h9) rfl d_M_join_303 ?_
    refine lv_aload_n hx hb d_M_join_306 rfl (lv_at hl 0 rfl) ?_
    refine va_get (D := D) (ci := 12) (v := .ref (q 53)) (C := "CoinKeeperModel") (T := F_12) (N := 98) hx hb hts i_12 hown hK hP 10 rfl rfl 61 (by decide) (hts _ gw_1480) (fun _ h9 => h9) rfl d_M_join_307 ?_
    refine lv_aload_n hx hb d_M_join_310 rfl (lv_at hl 0 rfl) ?_
    refine va_get (D := D) (ci := 12) (v := .ref (q 60)) (C := "CoinKeeperModel") (T := F_12) (N := 98) hx hb hts i_12 hown hK hP 10 rfl rfl 68 (by decide) (hts _ gw_1487) (fun _ h9 => h9) rfl d_M_join_311 ?_
    obtain ⟨f21, hc, hf⟩ := bdp1 hf
    refine q_av (wr := [(b1, .inl (cy 1, 8, .inl h1)), (b2, .inl (cy 1, 8, .inl h2)), ((q 48), .inl (cy 1, 8, .inl f1)), ((q 49), .inl (cy 1, 8, .inl f2)), ((q 66), .inl (cy 1, 8, .inl f3)), ((q 67), .inl (cy 1, 8, .inl f4)), ((q 54), .inl (cy 1, 8, .inl f5)), ((q 59), .inl (cy 1, 8, .inl u8)), ((q 52), .inl (cy 1, 8, .inl f17)), (o, .inr (12, mo q u0)), ((q 50), .inl (cy 1, 16, .inl f19)), ((q 51), .inl (cy 1, 8, .inl f7))]) (va_runS (As := [.ref (q 60), .ref (q 53), .ref (q 60)]) (rest := []) ⟨hx, hb, hml, hown, hts⟩ (c_M_minus_e20 l D cy ad fu (q 60) (q 53) f20 u9 _ hc H.size) ⟨q_cB hts gw_2026 gw_18 gw_2024 hdm_30 ⟨by decide, by decide⟩, hts _ gw_2025⟩ (q_pre (hP.sub [0, 12] rfl) (hD.sub [0, 12] (by decide) rfl) hK hSt hS (va_free hD hS hA [0, 12] rfl) _) rfl rfl hl.1 rfl (lv_room (Nat.le_of_ble_eq_true rfl)) d_M_join_314 ⟨Nat.le_of_ble_eq_true rfl, Nat.le_of_ble_eq_true rfl⟩) hP hD hS hA [0, 12] [1, 2, 3, 4, 5, 6, 7, 8, 9, 10, 11, 13] rfl rfl (by decide) (by decide) (fun H locs hP hD hS => ?_)
    clear hc
    have hP : va_P D classes [(b1, .inl (cy 1, 8, .inl h1)), (b2, .inl (cy 1, 8, .inl h2)), ((q 48), .inl (cy 1, 8, .inl f1)), ((q 49), .inl (cy 1, 8, .inl f2)), ((q 66), .inl (cy 1, 8, .inl f3)), ((q 67), .inl (cy 1, 8, .inl f4)), ((q 54), .inl (cy 1, 8, .inl f5)), ((q 59), .inl (cy 1, 8, .inl u8)), ((q 52), .inl (cy 1, 8, .inl f17)), (o, .inr (12, mo q u0)), ((q 50), .inl (cy 1, 16, .inl f19)), ((q 51), .inl (cy 1, 8, .inl f7)), ((q 60), .inl (cy 1, 8, .inl f21)), ((q 53), .inl (cy 1, 8, .inl f20))] H := hP
    have hD : va_D A [(b1, .inl (cy 1, 8, .inl h1)), (b2, .inl (cy 1, 8, .inl h2)), ((q 48), .inl (cy 1, 8, .inl f1)), ((q 49), .inl (cy 1, 8, .inl f2)), ((q 66), .inl (cy 1, 8, .inl f3)), ((q 67), .inl (cy 1, 8, .inl f4)), ((q 54), .inl (cy 1, 8, .inl f5)), ((q 59), .inl (cy 1, 8, .inl u8)), ((q 52), .inl (cy 1, 8, .inl f17)), (o, .inr (12, mo q u0)), ((q 50), .inl (cy 1, 16, .inl f19)), ((q 51), .inl (cy 1, 8, .inl f7)), ((q 60), .inl (cy 1, 8, .inl f21)), ((q 53), .inl (cy 1, 8, .inl f20))] := hD
    refine lv_aload_n hx hb d_M_join_317 rfl (lv_at hl 0 rfl) ?_
    refine va_get (D := D) (ci := 12) (v := .ref (q 59)) (C := "CoinKeeperModel") (T := F_12) (N := 98) hx hb hts i_12 hown hK hP 9 rfl rfl 67 (by decide) (hts _ gw_1486) (fun _ h9 => h9) rfl d_M_join_318 ?_
    refine lv_aload_n hx hb d_M_join_321 rfl (lv_at hl 0 rfl) ?_
    refine va_get (D := D) (ci := 12) (v := .ref (q 52)) (C := "CoinKeeperModel") (T := F_12) (N := 98) hx hb hts i_12 hown hK hP 9 rfl rfl 60 (by decide) (hts _ gw_1479) (fun _ h9 => h9) rfl d_M_join_322 ?_
    obtain ⟨f22, hc, hf⟩ := bdp1 hf
    refine q_av (wr := [(b1, .inl (cy 1, 8, .inl h1)), (b2, .inl (cy 1, 8, .inl h2)), ((q 48), .inl (cy 1, 8, .inl f1)), ((q 49), .inl (cy 1, 8, .inl f2)), ((q 66), .inl (cy 1, 8, .inl f3)), ((q 67), .inl (cy 1, 8, .inl f4)), ((q 54), .inl (cy 1, 8, .inl f5)), (o, .inr (12, mo q u0)), ((q 50), .inl (cy 1, 16, .inl f19)), ((q 51), .inl (cy 1, 8, .inl f7)), ((q 60), .inl (cy 1, 8, .inl f21)), ((q 53), .inl (cy 1, 8, .inl f20))]) (va_runS (As := [.ref (q 59), .ref (q 52)]) (rest := []) ⟨hx, hb, hml, hown, hts⟩ (c_M_copy l D cy ad fu (q 59) (q 52) f17 u8 _ hc H.size) ⟨q_cB hts gw_1397 gw_18 gw_1395 hdm_24 ⟨by decide, by decide⟩, hts _ gw_1396⟩ (q_pre (hP.sub [7, 8] rfl) (hD.sub [7, 8] (by decide) rfl) hK hSt hS (va_free hD hS hA [7, 8] rfl) _) rfl rfl hl.1 rfl (lv_room (Nat.le_of_ble_eq_true rfl)) d_M_join_325 ⟨Nat.le_of_ble_eq_true rfl, Nat.le_of_ble_eq_true rfl⟩) hP hD hS hA [7, 8] [0, 1, 2, 3, 4, 5, 6, 9, 10, 11, 12, 13] rfl rfl (by decide) (by decide) (fun H locs hP hD hS => ?_)
    clear hc
    have hP : va_P D classes [(b1, .inl (cy 1, 8, .inl h1)), (b2, .inl (cy 1, 8, .inl h2)), ((q 48), .inl (cy 1, 8, .inl f1)), ((q 49), .inl (cy 1, 8, .inl f2)), ((q 66), .inl (cy 1, 8, .inl f3)), ((q 67), .inl (cy 1, 8, .inl f4)), ((q 54), .inl (cy 1, 8, .inl f5)), (o, .inr (12, mo q u0)), ((q 50), .inl (cy 1, 16, .inl f19)), ((q 51), .inl (cy 1, 8, .inl f7)), ((q 60), .inl (cy 1, 8, .inl f21)), ((q 53), .inl (cy 1, 8, .inl f20)), ((q 59), .inl (cy 1, 8, .inl f22)), ((q 52), .inl (cy 1, 8, .inl f17))] H := hP
    have hD : va_D A [(b1, .inl (cy 1, 8, .inl h1)), (b2, .inl (cy 1, 8, .inl h2)), ((q 48), .inl (cy 1, 8, .inl f1)), ((q 49), .inl (cy 1, 8, .inl f2)), ((q 66), .inl (cy 1, 8, .inl f3)), ((q 67), .inl (cy 1, 8, .inl f4)), ((q 54), .inl (cy 1, 8, .inl f5)), (o, .inr (12, mo q u0)), ((q 50), .inl (cy 1, 16, .inl f19)), ((q 51), .inl (cy 1, 8, .inl f7)), ((q 60), .inl (cy 1, 8, .inl f21)), ((q 53), .inl (cy 1, 8, .inl f20)), ((q 59), .inl (cy 1, 8, .inl f22)), ((q 52), .inl (cy 1, 8, .inl f17))] := hD
    obtain rfl := Option.some.inj hf
    exact q_rv hx hb hr hlocks hK (hP.sub [7, 2, 3, 8, 9, 13, 11, 6, 12, 10, 4, 5, 0, 1] rfl) (hD.sub [7, 2, 3, 8, 9, 13, 11, 6, 12, 10, 4, 5, 0, 1] (by decide) rfl) hS d_M_join_328
set_option maxHeartbeats 8000000 in
set_option maxRecDepth 100000 in
theorem wb_M_join_92 {p : Program} {l : Launch} {e : Env} {s : State} {m : MethodId} {args : Array Value} {below : List Frame} {meth : Method} {c : Code} {D : va_G} {cy : Nat → ClassId} {A : Nat → Prop} {ad : Nat → Nat} {o : Nat} {q : Nat → Nat} {b1 : Nat} {b2 : Nat} {h1 : Nat → Int32} {h2 : Nat → Int32} {fu : Nat} (F : Fx p s m args meth c b_M_join 5 "CoinKeeperModel" "join" none D cy ad A) : I_M_join_92 p l e s m args below meth c D cy A ad o q b1 b2 h1 h2 (xb_M_join_92 fu h1 h2) := by
  obtain ⟨hx, hb, hr, hml, hown, hts, hlocks, hK, hA, hSt, hnm, hex⟩ := id F
  intro x4 u0 u1 u2 u3 u4 u5 u6 u7 u8 u9 u10 u11 res hf H locs ls hP hD hS hl
  unfold xb_M_join_92 at hf
  refine lv_iload hx hb d_M_join_92 (lv_at hl 3 rfl) ?_
  refine lv_if_eq (tgt := 161) hx hb d_M_join_94 (by decide) (fun cx => ?_) (fun cx => ?_)
  · have hf := ifp cx hf
    refine lv_aload_n hx hb d_M_join_161 rfl (lv_at hl 0 rfl) ?_
    refine va_get (D := D) (ci := 12) (v := .ref (q 52)) (C := "CoinKeeperModel") (T := F_12) (N := 98) hx hb hts i_12 hown hK hP 0 rfl rfl 60 (by decide) (hts _ gw_1479) (fun _ h9 => h9) rfl d_M_join_162 ?_
    refine lv_aload_n hx hb d_M_join_165 rfl (lv_at hl 2 rfl) ?_
    refine lv_aload_n hx hb d_M_join_166 rfl (lv_at hl 0 rfl) ?_
    refine va_get (D := D) (ci := 12) (v := .ref (q 60)) (C := "CoinKeeperModel") (T := F_12) (N := 98) hx hb hts i_12 hown hK hP 0 rfl rfl 68 (by decide) (hts _ gw_1487) (fun _ h9 => h9) rfl d_M_join_167 ?_
    obtain ⟨f1, hc, hf⟩ := bdp1 hf
    refine q_av (wr := [(o, .inr (12, mo q u0)), ((q 48), .inl (cy 1, 8, .inl u1)), ((q 49), .inl (cy 1, 8, .inl u2)), ((q 50), .inl (cy 1, 16, .inl u3)), ((q 51), .inl (cy 1, 8, .inl u4)), ((q 53), .inl (cy 1, 8, .inl u6)), ((q 54), .inl (cy 1, 8, .inl u7)), ((q 59), .inl (cy 1, 8, .inl u8)), ((q 66), .inl (cy 1, 8, .inl u10)), ((q 67), .inl (cy 1, 8, .inl u11)), (b1, .inl (cy 1, 8, .inl h1))]) (va_runS (As := [.ref (q 52), .ref b2, .ref (q 60)]) (rest := []) ⟨hx, hb, hml, hown, hts⟩ (c_M_minus l D cy ad fu (q 52) b2 (q 60) h2 u9 u5 _ hc H.size) ⟨q_cB hts gw_2026 gw_18 gw_2024 hdm_30 ⟨by decide, by decide⟩, hts _ gw_2025⟩ (q_pre (hP.sub [5, 13, 9] rfl) (hD.sub [5, 13, 9] (by decide) rfl) hK hSt hS (va_free hD hS hA [5, 13, 9] rfl) _) rfl rfl hl.1 rfl (lv_room (Nat.le_of_ble_eq_true rfl)) d_M_join_170 ⟨Nat.le_of_ble_eq_true rfl, Nat.le_of_ble_eq_true rfl⟩) hP hD hS hA [5, 13, 9] [0, 1, 2, 3, 4, 6, 7, 8, 10, 11, 12] rfl rfl (by decide) (by decide) (fun H locs hP hD hS => ?_)
    clear hc
    have hP : va_P D classes [(o, .inr (12, mo q u0)), ((q 48), .inl (cy 1, 8, .inl u1)), ((q 49), .inl (cy 1, 8, .inl u2)), ((q 50), .inl (cy 1, 16, .inl u3)), ((q 51), .inl (cy 1, 8, .inl u4)), ((q 53), .inl (cy 1, 8, .inl u6)), ((q 54), .inl (cy 1, 8, .inl u7)), ((q 59), .inl (cy 1, 8, .inl u8)), ((q 66), .inl (cy 1, 8, .inl u10)), ((q 67), .inl (cy 1, 8, .inl u11)), (b1, .inl (cy 1, 8, .inl h1)), ((q 52), .inl (cy 1, 8, .inl f1)), (b2, .inl (cy 1, 8, .inl h2)), ((q 60), .inl (cy 1, 8, .inl u9))] H := hP
    have hD : va_D A [(o, .inr (12, mo q u0)), ((q 48), .inl (cy 1, 8, .inl u1)), ((q 49), .inl (cy 1, 8, .inl u2)), ((q 50), .inl (cy 1, 16, .inl u3)), ((q 51), .inl (cy 1, 8, .inl u4)), ((q 53), .inl (cy 1, 8, .inl u6)), ((q 54), .inl (cy 1, 8, .inl u7)), ((q 59), .inl (cy 1, 8, .inl u8)), ((q 66), .inl (cy 1, 8, .inl u10)), ((q 67), .inl (cy 1, 8, .inl u11)), (b1, .inl (cy 1, 8, .inl h1)), ((q 52), .inl (cy 1, 8, .inl f1)), (b2, .inl (cy 1, 8, .inl h2)), ((q 60), .inl (cy 1, 8, .inl u9))] := hD
    refine lv_aload_n hx hb d_M_join_173 rfl (lv_at hl 0 rfl) ?_
    refine va_get (D := D) (ci := 12) (v := .ref (q 53)) (C := "CoinKeeperModel") (T := F_12) (N := 98) hx hb hts i_12 hown hK hP 0 rfl rfl 61 (by decide) (hts _ gw_1480) (fun _ h9 => h9) rfl d_M_join_174 ?_
    refine lv_aload_n hx hb d_M_join_177 rfl (lv_at hl 1 rfl) ?_
    refine lv_aload_n hx hb d_M_join_178 rfl (lv_at hl 0 rfl) ?_
    refine va_get (D := D) (ci := 12) (v := .ref (q 59)) (C := "CoinKeeperModel") (T := F_12) (N := 98) hx hb hts i_12 hown hK hP 0 rfl rfl 67 (by decide) (hts _ gw_1486) (fun _ h9 => h9) rfl d_M_join_179 ?_
    obtain ⟨f2, hc, hf⟩ := bdp1 hf
    refine q_av (wr := [(o, .inr (12, mo q u0)), ((q 48), .inl (cy 1, 8, .inl u1)), ((q 49), .inl (cy 1, 8, .inl u2)), ((q 50), .inl (cy 1, 16, .inl u3)), ((q 51), .inl (cy 1, 8, .inl u4)), ((q 54), .inl (cy 1, 8, .inl u7)), ((q 66), .inl (cy 1, 8, .inl u10)), ((q 67), .inl (cy 1, 8, .inl u11)), ((q 52), .inl (cy 1, 8, .inl f1)), (b2, .inl (cy 1, 8, .inl h2)), ((q 60), .inl (cy 1, 8, .inl u9))]) (va_runS (As := [.ref (q 53), .ref b1, .ref (q 59)]) (rest := []) ⟨hx, hb, hml, hown, hts⟩ (c_M_minus l D cy ad fu (q 53) b1 (q 59) h1 u8 u6 _ hc H.size) ⟨q_cB hts gw_2026 gw_18 gw_2024 hdm_30 ⟨by decide, by decide⟩, hts _ gw_2025⟩ (q_pre (hP.sub [5, 10, 7] rfl) (hD.sub [5, 10, 7] (by decide) rfl) hK hSt hS (va_free hD hS hA [5, 10, 7] rfl) _) rfl rfl hl.1 rfl (lv_room (Nat.le_of_ble_eq_true rfl)) d_M_join_182 ⟨Nat.le_of_ble_eq_true rfl, Nat.le_of_ble_eq_true rfl⟩) hP hD hS hA [5, 10, 7] [0, 1, 2, 3, 4, 6, 8, 9, 11, 12, 13] rfl rfl (by decide) (by decide) (fun H locs hP hD hS => ?_)
    clear hc
    have hP : va_P D classes [(o, .inr (12, mo q u0)), ((q 48), .inl (cy 1, 8, .inl u1)), ((q 49), .inl (cy 1, 8, .inl u2)), ((q 50), .inl (cy 1, 16, .inl u3)), ((q 51), .inl (cy 1, 8, .inl u4)), ((q 54), .inl (cy 1, 8, .inl u7)), ((q 66), .inl (cy 1, 8, .inl u10)), ((q 67), .inl (cy 1, 8, .inl u11)), ((q 52), .inl (cy 1, 8, .inl f1)), (b2, .inl (cy 1, 8, .inl h2)), ((q 60), .inl (cy 1, 8, .inl u9)), ((q 53), .inl (cy 1, 8, .inl f2)), (b1, .inl (cy 1, 8, .inl h1)), ((q 59), .inl (cy 1, 8, .inl u8))] H := hP
    have hD : va_D A [(o, .inr (12, mo q u0)), ((q 48), .inl (cy 1, 8, .inl u1)), ((q 49), .inl (cy 1, 8, .inl u2)), ((q 50), .inl (cy 1, 16, .inl u3)), ((q 51), .inl (cy 1, 8, .inl u4)), ((q 54), .inl (cy 1, 8, .inl u7)), ((q 66), .inl (cy 1, 8, .inl u10)), ((q 67), .inl (cy 1, 8, .inl u11)), ((q 52), .inl (cy 1, 8, .inl f1)), (b2, .inl (cy 1, 8, .inl h2)), ((q 60), .inl (cy 1, 8, .inl u9)), ((q 53), .inl (cy 1, 8, .inl f2)), (b1, .inl (cy 1, 8, .inl h1)), ((q 59), .inl (cy 1, 8, .inl u8))] := hD
    exact wb_M_join_185 (fu := fu) F _ _ _ _ _ _ _ _ _ _ _ _ _ _ hf _ _ _ (hP.sub (ws' := [(o, .inr (12, mo q u0)), ((q 48), .inl (cy 1, 8, .inl u1)), ((q 49), .inl (cy 1, 8, .inl u2)), ((q 50), .inl (cy 1, 16, .inl u3)), ((q 51), .inl (cy 1, 8, .inl u4)), ((q 52), .inl (cy 1, 8, .inl f1)), ((q 53), .inl (cy 1, 8, .inl f2)), ((q 54), .inl (cy 1, 8, .inl u7)), ((q 59), .inl (cy 1, 8, .inl u8)), ((q 60), .inl (cy 1, 8, .inl u9)), ((q 66), .inl (cy 1, 8, .inl u10)), ((q 67), .inl (cy 1, 8, .inl u11)), (b1, .inl (cy 1, 8, .inl h1)), (b2, .inl (cy 1, 8, .inl h2))]) [0, 1, 2, 3, 4, 8, 11, 5, 13, 10, 6, 7, 12, 9] rfl) (hD.sub (ws' := [(o, .inr (12, mo q u0)), ((q 48), .inl (cy 1, 8, .inl u1)), ((q 49), .inl (cy 1, 8, .inl u2)), ((q 50), .inl (cy 1, 16, .inl u3)), ((q 51), .inl (cy 1, 8, .inl u4)), ((q 52), .inl (cy 1, 8, .inl f1)), ((q 53), .inl (cy 1, 8, .inl f2)), ((q 54), .inl (cy 1, 8, .inl u7)), ((q 59), .inl (cy 1, 8, .inl u8)), ((q 60), .inl (cy 1, 8, .inl u9)), ((q 66), .inl (cy 1, 8, .inl u10)), ((q 67), .inl (cy 1, 8, .inl u11)), (b1, .inl (cy 1, 8, .inl h1)), (b2, .inl (cy 1, 8, .inl h2))]) [0, 1, 2, 3, 4, 8, 11, 5, 13, 10, 6, 7, 12, 9] (by decide) rfl) hS (lv_sub hl [0, 1, 3] rfl)
  · have hf := ifn cx hf
    refine lv_aload_n hx hb d_M_join_97 rfl (lv_at hl 0 rfl) ?_
    refine lv_aload_n hx hb d_M_join_98 rfl (lv_at hl 0 rfl) ?_
    refine va_get (D := D) (ci := 12) (v := .ref (q 52)) (C := "CoinKeeperModel") (T := F_12) (N := 98) hx hb hts i_12 hown hK hP 0 rfl rfl 60 (by decide) (hts _ gw_1479) (fun _ h9 => h9) rfl d_M_join_99 ?_
    refine lv_aload_n hx hb d_M_join_102 rfl (lv_at hl 0 rfl) ?_
    refine va_get (D := D) (ci := 12) (v := .ref (q 59)) (C := "CoinKeeperModel") (T := F_12) (N := 98) hx hb hts i_12 hown hK hP 0 rfl rfl 67 (by decide) (hts _ gw_1486) (fun _ h9 => h9) rfl d_M_join_103 ?_
    refine lv_aload_n hx hb d_M_join_106 rfl (lv_at hl 0 rfl) ?_
    refine va_get (D := D) (ci := 12) (v := .ref (q 59)) (C := "CoinKeeperModel") (T := F_12) (N := 98) hx hb hts i_12 hown hK hP 0 rfl rfl 67 (by decide) (hts _ gw_1486) (fun _ h9 => h9) rfl d_M_join_107 ?_
    obtain ⟨f3, f4, hc, hf⟩ := bdp2 hf
    refine q_av (wr := [((q 48), .inl (cy 1, 8, .inl u1)), ((q 49), .inl (cy 1, 8, .inl u2)), ((q 51), .inl (cy 1, 8, .inl u4)), ((q 53), .inl (cy 1, 8, .inl u6)), ((q 54), .inl (cy 1, 8, .inl u7)), ((q 60), .inl (cy 1, 8, .inl u9)), ((q 66), .inl (cy 1, 8, .inl u10)), ((q 67), .inl (cy 1, 8, .inl u11)), (b1, .inl (cy 1, 8, .inl h1)), (b2, .inl (cy 1, 8, .inl h2))]) (va_runV (C := "CoinKeeperModel") (As := [.ref (q 52), .ref (q 59), .ref (q 59)]) (rest := []) ⟨hx, hb, hml, hown, hts⟩ (c_M_times_e32 l D cy ad fu o q (q 52) (q 59) u0 u8 u3 u5 _ hc H.size) ⟨q_cB hts gw_1979 gw_18 gw_1976 hdm_20 ⟨by decide, by decide⟩, hts _ gw_1978, hts _ gs_112⟩ (q_preV (q_pre (hP.sub [0, 3, 5, 8] rfl) (hD.sub [0, 3, 5, 8] (by decide) rfl) hK hSt hS (va_free hD hS hA [0, 3, 5, 8] rfl) _) (va_recv hK (hP.sub [0, 3, 5, 8] rfl) (ci := 12) (q0 := 0) rfl rfl)) rfl rfl hl.1 rfl (lv_room (Nat.le_of_ble_eq_true rfl)) d_M_join_110 ⟨Nat.le_of_ble_eq_true rfl, Nat.le_of_ble_eq_true rfl⟩) hP hD hS hA [0, 3, 5, 8] [1, 2, 4, 6, 7, 9, 10, 11, 12, 13] rfl rfl (by decide) (by decide) (fun H locs hP hD hS => ?_)
    clear hc
    have hP : va_P D classes [((q 48), .inl (cy 1, 8, .inl u1)), ((q 49), .inl (cy 1, 8, .inl u2)), ((q 51), .inl (cy 1, 8, .inl u4)), ((q 53), .inl (cy 1, 8, .inl u6)), ((q 54), .inl (cy 1, 8, .inl u7)), ((q 60), .inl (cy 1, 8, .inl u9)), ((q 66), .inl (cy 1, 8, .inl u10)), ((q 67), .inl (cy 1, 8, .inl u11)), (b1, .inl (cy 1, 8, .inl h1)), (b2, .inl (cy 1, 8, .inl h2)), (o, .inr (12, mo q u0)), ((q 50), .inl (cy 1, 16, .inl f3)), ((q 52), .inl (cy 1, 8, .inl f4)), ((q 59), .inl (cy 1, 8, .inl u8))] H := hP
    have hD : va_D A [((q 48), .inl (cy 1, 8, .inl u1)), ((q 49), .inl (cy 1, 8, .inl u2)), ((q 51), .inl (cy 1, 8, .inl u4)), ((q 53), .inl (cy 1, 8, .inl u6)), ((q 54), .inl (cy 1, 8, .inl u7)), ((q 60), .inl (cy 1, 8, .inl u9)), ((q 66), .inl (cy 1, 8, .inl u10)), ((q 67), .inl (cy 1, 8, .inl u11)), (b1, .inl (cy 1, 8, .inl h1)), (b2, .inl (cy 1, 8, .inl h2)), (o, .inr (12, mo q u0)), ((q 50), .inl (cy 1, 16, .inl f3)), ((q 52), .inl (cy 1, 8, .inl f4)), ((q 59), .inl (cy 1, 8, .inl u8))] := hD
    refine lv_aload_n hx hb d_M_join_113 rfl (lv_at hl 0 rfl) ?_
    refine va_get (D := D) (ci := 12) (v := .ref (q 53)) (C := "CoinKeeperModel") (T := F_12) (N := 98) hx hb hts i_12 hown hK hP 10 rfl rfl 61 (by decide) (hts _ gw_1480) (fun _ h9 => h9) rfl d_M_join_114 ?_
    refine lv_aload_n hx hb d_M_join_117 rfl (lv_at hl 0 rfl) ?_
    refine va_get (D := D) (ci := 12) (v := .ref (q 52)) (C := "CoinKeeperModel") (T := F_12) (N := 98) hx hb hts i_12 hown hK hP 10 rfl rfl 60 (by decide) (hts _ gw_1479) (fun _ h9 => h9) rfl d_M_join_118 ?_
    refine lv_aload_n hx hb d_M_join_121 rfl (lv_at hl 0 rfl) ?_
    refine va_get (D := D) (ci := 12) (v := .ref (q 52)) (C := "CoinKeeperModel") (T := F_12) (N := 98) hx hb hts i_12 hown hK hP 10 rfl rfl 60 (by decide) (hts _ gw_1479) (fun _ h9 => h9) rfl d_M_join_122 ?_
    obtain ⟨f5, hc, hf⟩ := bdp1 hf
    refine q_av (wr := [((q 48), .inl (cy 1, 8, .inl u1)), ((q 49), .inl (cy 1, 8, .inl u2)), ((q 51), .inl (cy 1, 8, .inl u4)), ((q 54), .inl (cy 1, 8, .inl u7)), ((q 60), .inl (cy 1, 8, .inl u9)), ((q 66), .inl (cy 1, 8, .inl u10)), ((q 67), .inl (cy 1, 8, .inl u11)), (b1, .inl (cy 1, 8, .inl h1)), (b2, .inl (cy 1, 8, .inl h2)), (o, .inr (12, mo q u0)), ((q 50), .inl (cy 1, 16, .inl f3)), ((q 59), .inl (cy 1, 8, .inl u8))]) (va_runS (As := [.ref (q 53), .ref (q 52), .ref (q 52)]) (rest := []) ⟨hx, hb, hml, hown, hts⟩ (c_M_plus_e21 l D cy ad fu (q 53) (q 52) f4 u6 _ hc H.size) ⟨q_cB hts gw_1987 gw_18 gw_1985 hdm_22 ⟨by decide, by decide⟩, hts _ gw_1986⟩ (q_pre (hP.sub [3, 12] rfl) (hD.sub [3, 12] (by decide) rfl) hK hSt hS (va_free hD hS hA [3, 12] rfl) _) rfl rfl hl.1 rfl (lv_room (Nat.le_of_ble_eq_true rfl)) d_M_join_125 ⟨Nat.le_of_ble_eq_true rfl, Nat.le_of_ble_eq_true rfl⟩) hP hD hS hA [3, 12] [0, 1, 2, 4, 5, 6, 7, 8, 9, 10, 11, 13] rfl rfl (by decide) (by decide) (fun H locs hP hD hS => ?_)
    clear hc
    have hP : va_P D classes [((q 48), .inl (cy 1, 8, .inl u1)), ((q 49), .inl (cy 1, 8, .inl u2)), ((q 51), .inl (cy 1, 8, .inl u4)), ((q 54), .inl (cy 1, 8, .inl u7)), ((q 60), .inl (cy 1, 8, .inl u9)), ((q 66), .inl (cy 1, 8, .inl u10)), ((q 67), .inl (cy 1, 8, .inl u11)), (b1, .inl (cy 1, 8, .inl h1)), (b2, .inl (cy 1, 8, .inl h2)), (o, .inr (12, mo q u0)), ((q 50), .inl (cy 1, 16, .inl f3)), ((q 59), .inl (cy 1, 8, .inl u8)), ((q 53), .inl (cy 1, 8, .inl f5)), ((q 52), .inl (cy 1, 8, .inl f4))] H := hP
    have hD : va_D A [((q 48), .inl (cy 1, 8, .inl u1)), ((q 49), .inl (cy 1, 8, .inl u2)), ((q 51), .inl (cy 1, 8, .inl u4)), ((q 54), .inl (cy 1, 8, .inl u7)), ((q 60), .inl (cy 1, 8, .inl u9)), ((q 66), .inl (cy 1, 8, .inl u10)), ((q 67), .inl (cy 1, 8, .inl u11)), (b1, .inl (cy 1, 8, .inl h1)), (b2, .inl (cy 1, 8, .inl h2)), (o, .inr (12, mo q u0)), ((q 50), .inl (cy 1, 16, .inl f3)), ((q 59), .inl (cy 1, 8, .inl u8)), ((q 53), .inl (cy 1, 8, .inl f5)), ((q 52), .inl (cy 1, 8, .inl f4))] := hD
    refine lv_aload_n hx hb d_M_join_128 rfl (lv_at hl 0 rfl) ?_
    refine va_get (D := D) (ci := 12) (v := .ref (q 52)) (C := "CoinKeeperModel") (T := F_12) (N := 98) hx hb hts i_12 hown hK hP 9 rfl rfl 60 (by decide) (hts _ gw_1479) (fun _ h9 => h9) rfl d_M_join_129 ?_
    refine lv_aload_n hx hb d_M_join_132 rfl (lv_at hl 0 rfl) ?_
    refine va_get (D := D) (ci := 12) (v := .ref (q 52)) (C := "CoinKeeperModel") (T := F_12) (N := 98) hx hb hts i_12 hown hK hP 9 rfl rfl 60 (by decide) (hts _ gw_1479) (fun _ h9 => h9) rfl d_M_join_133 ?_
    refine lv_aload_n hx hb d_M_join_136 rfl (lv_at hl 0 rfl) ?_
    refine va_get (D := D) (ci := 12) (v := .ref (q 53)) (C := "CoinKeeperModel") (T := F_12) (N := 98) hx hb hts i_12 hown hK hP 9 rfl rfl 61 (by decide) (hts _ gw_1480) (fun _ h9 => h9) rfl d_M_join_137 ?_
    obtain ⟨f6, hc, hf⟩ := bdp1 hf
    refine q_av (wr := [((q 48), .inl (cy 1, 8, .inl u1)), ((q 49), .inl (cy 1, 8, .inl u2)), ((q 51), .inl (cy 1, 8, .inl u4)), ((q 54), .inl (cy 1, 8, .inl u7)), ((q 60), .inl (cy 1, 8, .inl u9)), ((q 66), .inl (cy 1, 8, .inl u10)), ((q 67), .inl (cy 1, 8, .inl u11)), (b1, .inl (cy 1, 8, .inl h1)), (b2, .inl (cy 1, 8, .inl h2)), (o, .inr (12, mo q u0)), ((q 50), .inl (cy 1, 16, .inl f3)), ((q 59), .inl (cy 1, 8, .inl u8))]) (va_runS (As := [.ref (q 52), .ref (q 52), .ref (q 53)]) (rest := []) ⟨hx, hb, hml, hown, hts⟩ (c_M_plus_e10 l D cy ad fu (q 52) (q 53) f5 f4 _ hc H.size) ⟨q_cB hts gw_1987 gw_18 gw_1985 hdm_22 ⟨by decide, by decide⟩, hts _ gw_1986⟩ (q_pre (hP.sub [13, 12] rfl) (hD.sub [13, 12] (by decide) rfl) hK hSt hS (va_free hD hS hA [13, 12] rfl) _) rfl rfl hl.1 rfl (lv_room (Nat.le_of_ble_eq_true rfl)) d_M_join_140 ⟨Nat.le_of_ble_eq_true rfl, Nat.le_of_ble_eq_true rfl⟩) hP hD hS hA [13, 12] [0, 1, 2, 3, 4, 5, 6, 7, 8, 9, 10, 11] rfl rfl (by decide) (by decide) (fun H locs hP hD hS => ?_)
    clear hc
    have hP : va_P D classes [((q 48), .inl (cy 1, 8, .inl u1)), ((q 49), .inl (cy 1, 8, .inl u2)), ((q 51), .inl (cy 1, 8, .inl u4)), ((q 54), .inl (cy 1, 8, .inl u7)), ((q 60), .inl (cy 1, 8, .inl u9)), ((q 66), .inl (cy 1, 8, .inl u10)), ((q 67), .inl (cy 1, 8, .inl u11)), (b1, .inl (cy 1, 8, .inl h1)), (b2, .inl (cy 1, 8, .inl h2)), (o, .inr (12, mo q u0)), ((q 50), .inl (cy 1, 16, .inl f3)), ((q 59), .inl (cy 1, 8, .inl u8)), ((q 52), .inl (cy 1, 8, .inl f6)), ((q 53), .inl (cy 1, 8, .inl f5))] H := hP
    have hD : va_D A [((q 48), .inl (cy 1, 8, .inl u1)), ((q 49), .inl (cy 1, 8, .inl u2)), ((q 51), .inl (cy 1, 8, .inl u4)), ((q 54), .inl (cy 1, 8, .inl u7)), ((q 60), .inl (cy 1, 8, .inl u9)), ((q 66), .inl (cy 1, 8, .inl u10)), ((q 67), .inl (cy 1, 8, .inl u11)), (b1, .inl (cy 1, 8, .inl h1)), (b2, .inl (cy 1, 8, .inl h2)), (o, .inr (12, mo q u0)), ((q 50), .inl (cy 1, 16, .inl f3)), ((q 59), .inl (cy 1, 8, .inl u8)), ((q 52), .inl (cy 1, 8, .inl f6)), ((q 53), .inl (cy 1, 8, .inl f5))] := hD
    refine lv_aload_n hx hb d_M_join_143 rfl (lv_at hl 0 rfl) ?_
    refine va_get (D := D) (ci := 12) (v := .ref (q 53)) (C := "CoinKeeperModel") (T := F_12) (N := 98) hx hb hts i_12 hown hK hP 9 rfl rfl 61 (by decide) (hts _ gw_1480) (fun _ h9 => h9) rfl d_M_join_144 ?_
    refine lv_aload_n hx hb d_M_join_147 rfl (lv_at hl 0 rfl) ?_
    refine va_get (D := D) (ci := 12) (v := .ref (q 60)) (C := "CoinKeeperModel") (T := F_12) (N := 98) hx hb hts i_12 hown hK hP 9 rfl rfl 68 (by decide) (hts _ gw_1487) (fun _ h9 => h9) rfl d_M_join_148 ?_
    refine lv_aload_n hx hb d_M_join_151 rfl (lv_at hl 0 rfl) ?_
    refine va_get (D := D) (ci := 12) (v := .ref (q 60)) (C := "CoinKeeperModel") (T := F_12) (N := 98) hx hb hts i_12 hown hK hP 9 rfl rfl 68 (by decide) (hts _ gw_1487) (fun _ h9 => h9) rfl d_M_join_152 ?_
    obtain ⟨f7, hc, hf⟩ := bdp1 hf
    refine q_av (wr := [((q 48), .inl (cy 1, 8, .inl u1)), ((q 49), .inl (cy 1, 8, .inl u2)), ((q 51), .inl (cy 1, 8, .inl u4)), ((q 54), .inl (cy 1, 8, .inl u7)), ((q 66), .inl (cy 1, 8, .inl u10)), ((q 67), .inl (cy 1, 8, .inl u11)), (b1, .inl (cy 1, 8, .inl h1)), (b2, .inl (cy 1, 8, .inl h2)), (o, .inr (12, mo q u0)), ((q 50), .inl (cy 1, 16, .inl f3)), ((q 59), .inl (cy 1, 8, .inl u8)), ((q 52), .inl (cy 1, 8, .inl f6))]) (va_runS (As := [.ref (q 53), .ref (q 60), .ref (q 60)]) (rest := []) ⟨hx, hb, hml, hown, hts⟩ (c_M_plus_e21 l D cy ad fu (q 53) (q 60) u9 f5 _ hc H.size) ⟨q_cB hts gw_1987 gw_18 gw_1985 hdm_22 ⟨by decide, by decide⟩, hts _ gw_1986⟩ (q_pre (hP.sub [13, 4] rfl) (hD.sub [13, 4] (by decide) rfl) hK hSt hS (va_free hD hS hA [13, 4] rfl) _) rfl rfl hl.1 rfl (lv_room (Nat.le_of_ble_eq_true rfl)) d_M_join_155 ⟨Nat.le_of_ble_eq_true rfl, Nat.le_of_ble_eq_true rfl⟩) hP hD hS hA [13, 4] [0, 1, 2, 3, 5, 6, 7, 8, 9, 10, 11, 12] rfl rfl (by decide) (by decide) (fun H locs hP hD hS => ?_)
    clear hc
    have hP : va_P D classes [((q 48), .inl (cy 1, 8, .inl u1)), ((q 49), .inl (cy 1, 8, .inl u2)), ((q 51), .inl (cy 1, 8, .inl u4)), ((q 54), .inl (cy 1, 8, .inl u7)), ((q 66), .inl (cy 1, 8, .inl u10)), ((q 67), .inl (cy 1, 8, .inl u11)), (b1, .inl (cy 1, 8, .inl h1)), (b2, .inl (cy 1, 8, .inl h2)), (o, .inr (12, mo q u0)), ((q 50), .inl (cy 1, 16, .inl f3)), ((q 59), .inl (cy 1, 8, .inl u8)), ((q 52), .inl (cy 1, 8, .inl f6)), ((q 53), .inl (cy 1, 8, .inl f7)), ((q 60), .inl (cy 1, 8, .inl u9))] H := hP
    have hD : va_D A [((q 48), .inl (cy 1, 8, .inl u1)), ((q 49), .inl (cy 1, 8, .inl u2)), ((q 51), .inl (cy 1, 8, .inl u4)), ((q 54), .inl (cy 1, 8, .inl u7)), ((q 66), .inl (cy 1, 8, .inl u10)), ((q 67), .inl (cy 1, 8, .inl u11)), (b1, .inl (cy 1, 8, .inl h1)), (b2, .inl (cy 1, 8, .inl h2)), (o, .inr (12, mo q u0)), ((q 50), .inl (cy 1, 16, .inl f3)), ((q 59), .inl (cy 1, 8, .inl u8)), ((q 52), .inl (cy 1, 8, .inl f6)), ((q 53), .inl (cy 1, 8, .inl f7)), ((q 60), .inl (cy 1, 8, .inl u9))] := hD
    refine lv_goto (tgt := 185) hx hb d_M_join_158 (by decide) ?_
    exact wb_M_join_185 (fu := fu) F _ _ _ _ _ _ _ _ _ _ _ _ _ _ hf _ _ _ (hP.sub (ws' := [(o, .inr (12, mo q u0)), ((q 48), .inl (cy 1, 8, .inl u1)), ((q 49), .inl (cy 1, 8, .inl u2)), ((q 50), .inl (cy 1, 16, .inl f3)), ((q 51), .inl (cy 1, 8, .inl u4)), ((q 52), .inl (cy 1, 8, .inl f6)), ((q 53), .inl (cy 1, 8, .inl f7)), ((q 54), .inl (cy 1, 8, .inl u7)), ((q 59), .inl (cy 1, 8, .inl u8)), ((q 60), .inl (cy 1, 8, .inl u9)), ((q 66), .inl (cy 1, 8, .inl u10)), ((q 67), .inl (cy 1, 8, .inl u11)), (b1, .inl (cy 1, 8, .inl h1)), (b2, .inl (cy 1, 8, .inl h2))]) [8, 0, 1, 9, 2, 11, 12, 3, 10, 13, 4, 5, 6, 7] rfl) (hD.sub (ws' := [(o, .inr (12, mo q u0)), ((q 48), .inl (cy 1, 8, .inl u1)), ((q 49), .inl (cy 1, 8, .inl u2)), ((q 50), .inl (cy 1, 16, .inl f3)), ((q 51), .inl (cy 1, 8, .inl u4)), ((q 52), .inl (cy 1, 8, .inl f6)), ((q 53), .inl (cy 1, 8, .inl f7)), ((q 54), .inl (cy 1, 8, .inl u7)), ((q 59), .inl (cy 1, 8, .inl u8)), ((q 60), .inl (cy 1, 8, .inl u9)), ((q 66), .inl (cy 1, 8, .inl u10)), ((q 67), .inl (cy 1, 8, .inl u11)), (b1, .inl (cy 1, 8, .inl h1)), (b2, .inl (cy 1, 8, .inl h2))]) [8, 0, 1, 9, 2, 11, 12, 3, 10, 13, 4, 5, 6, 7] (by decide) rfl) hS (lv_sub hl [0, 1, 3] rfl)
set_option maxHeartbeats 8000000 in
set_option maxRecDepth 100000 in
theorem wb_M_join_86 {p : Program} {l : Launch} {e : Env} {s : State} {m : MethodId} {args : Array Value} {below : List Frame} {meth : Method} {c : Code} {D : va_G} {cy : Nat → ClassId} {A : Nat → Prop} {ad : Nat → Nat} {o : Nat} {q : Nat → Nat} {b1 : Nat} {b2 : Nat} {h1 : Nat → Int32} {h2 : Nat → Int32} {fu : Nat} (F : Fx p s m args meth c b_M_join 5 "CoinKeeperModel" "join" none D cy ad A) : I_M_join_86 p l e s m args below meth c D cy A ad o q b1 b2 h1 h2 (xb_M_join_86 fu h1 h2) := by
  obtain ⟨hx, hb, hr, hml, hown, hts, hlocks, hK, hA, hSt, hnm, hex⟩ := id F
  intro u0 u1 u2 u3 u4 u5 u6 u7 u8 u9 u10 u11 res hf H locs ls hP hD hS hl
  unfold xb_M_join_86 at hf
  refine lv_aload_n hx hb d_M_join_86 rfl (lv_at hl 0 rfl) ?_
  refine lv_iconst (v := 1) hx hb d_M_join_87 (by decide) ?_
  refine va_put (D := D) (ci := 12) (v := .int (1 : Int32)) (ty := .boolean) (C := "CoinKeeperModel") (T := F_12) (N := 98) hx hb hts i_12 t_12 t_12_ok n_12 hown hK hP hD hS 0 rfl rfl 74 (by decide) (hts _ gw_1493) (fun _ h9 => h9) rfl (by decide +kernel) (isb_n (v := 1) (by decide)) (isb_f (v := 1) (by decide)) (Nat.le_of_ble_eq_true rfl) d_M_join_88 (fun H locs hP hD hS => ?_)
  obtain ⟨z1, ev, hf⟩ := bne hf
  have hP : va_P D classes [(o, .inr (12, mo q z1)), ((q 48), .inl (cy 1, 8, .inl u1)), ((q 49), .inl (cy 1, 8, .inl u2)), ((q 50), .inl (cy 1, 16, .inl u3)), ((q 51), .inl (cy 1, 8, .inl u4)), ((q 52), .inl (cy 1, 8, .inl u5)), ((q 53), .inl (cy 1, 8, .inl u6)), ((q 54), .inl (cy 1, 8, .inl u7)), ((q 59), .inl (cy 1, 8, .inl u8)), ((q 60), .inl (cy 1, 8, .inl u9)), ((q 66), .inl (cy 1, 8, .inl u10)), ((q 67), .inl (cy 1, 8, .inl u11)), (b1, .inl (cy 1, 8, .inl h1)), (b2, .inl (cy 1, 8, .inl h2))] H := by rw [ev]; exact hP
  have hD : va_D A [(o, .inr (12, mo q z1)), ((q 48), .inl (cy 1, 8, .inl u1)), ((q 49), .inl (cy 1, 8, .inl u2)), ((q 50), .inl (cy 1, 16, .inl u3)), ((q 51), .inl (cy 1, 8, .inl u4)), ((q 52), .inl (cy 1, 8, .inl u5)), ((q 53), .inl (cy 1, 8, .inl u6)), ((q 54), .inl (cy 1, 8, .inl u7)), ((q 59), .inl (cy 1, 8, .inl u8)), ((q 60), .inl (cy 1, 8, .inl u9)), ((q 66), .inl (cy 1, 8, .inl u10)), ((q 67), .inl (cy 1, 8, .inl u11)), (b1, .inl (cy 1, 8, .inl h1)), (b2, .inl (cy 1, 8, .inl h2))] := by rw [ev]; exact hD
  clear ev
  obtain rfl := Option.some.inj hf
  exact q_rv hx hb hr hlocks hK hP hD hS d_M_join_91
set_option maxHeartbeats 8000000 in
set_option maxRecDepth 100000 in
theorem wb_M_join_76 {p : Program} {l : Launch} {e : Env} {s : State} {m : MethodId} {args : Array Value} {below : List Frame} {meth : Method} {c : Code} {D : va_G} {cy : Nat → ClassId} {A : Nat → Prop} {ad : Nat → Nat} {o : Nat} {q : Nat → Nat} {b1 : Nat} {b2 : Nat} {h1 : Nat → Int32} {h2 : Nat → Int32} {fu : Nat} (F : Fx p s m args meth c b_M_join 5 "CoinKeeperModel" "join" none D cy ad A) : I_M_join_76 p l e s m args below meth c D cy A ad o q b1 b2 h1 h2 (xb_M_join_76 fu h1 h2) := by
  obtain ⟨hx, hb, hr, hml, hown, hts, hlocks, hK, hA, hSt, hnm, hex⟩ := id F
  intro x4 u0 u1 u2 u3 u4 u5 u6 u7 u8 u9 u10 u11 res hf H locs ls hP hD hS hl
  unfold xb_M_join_76 at hf
  refine lv_aload_n hx hb d_M_join_76 rfl (lv_at hl 0 rfl) ?_
  refine va_get (D := D) (ci := 12) (v := .ref (q 60)) (C := "CoinKeeperModel") (T := F_12) (N := 98) hx hb hts i_12 hown hK hP 0 rfl rfl 68 (by decide) (hts _ gw_1487) (fun _ h9 => h9) rfl d_M_join_77 ?_
  obtain ⟨v1, hc, hf⟩ := bdp1 hf
  refine q_ai (wr := [(o, .inr (12, mo q u0)), ((q 48), .inl (cy 1, 8, .inl u1)), ((q 49), .inl (cy 1, 8, .inl u2)), ((q 50), .inl (cy 1, 16, .inl u3)), ((q 51), .inl (cy 1, 8, .inl u4)), ((q 52), .inl (cy 1, 8, .inl u5)), ((q 53), .inl (cy 1, 8, .inl u6)), ((q 54), .inl (cy 1, 8, .inl u7)), ((q 59), .inl (cy 1, 8, .inl u8)), ((q 66), .inl (cy 1, 8, .inl u10)), ((q 67), .inl (cy 1, 8, .inl u11)), (b1, .inl (cy 1, 8, .inl h1)), (b2, .inl (cy 1, 8, .inl h2))]) (va_runS (As := [.ref (q 60)]) (rest := []) ⟨hx, hb, hml, hown, hts⟩ (c_M_isZero l D cy ad fu (q 60) u9 _ hc H.size) ⟨q_cB hts gw_1377 gw_18 gw_1375 hdm_6 ⟨by decide, by decide⟩, hts _ gw_1376⟩ (q_pre (hP.sub [9] rfl) (hD.sub [9] (by decide) rfl) hK hSt hS (va_free hD hS hA [9] rfl) _) rfl rfl hl.1 rfl (lv_room (Nat.le_of_ble_eq_true rfl)) d_M_join_80 ⟨Nat.le_of_ble_eq_true rfl, Nat.le_of_ble_eq_true rfl⟩) hP hD hS hA [9] [0, 1, 2, 3, 4, 5, 6, 7, 8, 10, 11, 12, 13] rfl rfl (by decide) (by decide) (fun H locs hP hD hS => ?_)
  clear hc
  have hP : va_P D classes [(o, .inr (12, mo q u0)), ((q 48), .inl (cy 1, 8, .inl u1)), ((q 49), .inl (cy 1, 8, .inl u2)), ((q 50), .inl (cy 1, 16, .inl u3)), ((q 51), .inl (cy 1, 8, .inl u4)), ((q 52), .inl (cy 1, 8, .inl u5)), ((q 53), .inl (cy 1, 8, .inl u6)), ((q 54), .inl (cy 1, 8, .inl u7)), ((q 59), .inl (cy 1, 8, .inl u8)), ((q 66), .inl (cy 1, 8, .inl u10)), ((q 67), .inl (cy 1, 8, .inl u11)), (b1, .inl (cy 1, 8, .inl h1)), (b2, .inl (cy 1, 8, .inl h2)), ((q 60), .inl (cy 1, 8, .inl u9))] H := hP
  have hD : va_D A [(o, .inr (12, mo q u0)), ((q 48), .inl (cy 1, 8, .inl u1)), ((q 49), .inl (cy 1, 8, .inl u2)), ((q 50), .inl (cy 1, 16, .inl u3)), ((q 51), .inl (cy 1, 8, .inl u4)), ((q 52), .inl (cy 1, 8, .inl u5)), ((q 53), .inl (cy 1, 8, .inl u6)), ((q 54), .inl (cy 1, 8, .inl u7)), ((q 59), .inl (cy 1, 8, .inl u8)), ((q 66), .inl (cy 1, 8, .inl u10)), ((q 67), .inl (cy 1, 8, .inl u11)), (b1, .inl (cy 1, 8, .inl h1)), (b2, .inl (cy 1, 8, .inl h2)), ((q 60), .inl (cy 1, 8, .inl u9))] := hD
  refine lv_if_eq (tgt := 92) hx hb d_M_join_83 (by decide) (fun cx => ?_) (fun cx => ?_)
  · have hf := ifp cx hf
    exact wb_M_join_92 (fu := fu) F _ _ _ _ _ _ _ _ _ _ _ _ _ _ hf _ _ _ (hP.sub (ws' := [(o, .inr (12, mo q u0)), ((q 48), .inl (cy 1, 8, .inl u1)), ((q 49), .inl (cy 1, 8, .inl u2)), ((q 50), .inl (cy 1, 16, .inl u3)), ((q 51), .inl (cy 1, 8, .inl u4)), ((q 52), .inl (cy 1, 8, .inl u5)), ((q 53), .inl (cy 1, 8, .inl u6)), ((q 54), .inl (cy 1, 8, .inl u7)), ((q 59), .inl (cy 1, 8, .inl u8)), ((q 60), .inl (cy 1, 8, .inl u9)), ((q 66), .inl (cy 1, 8, .inl u10)), ((q 67), .inl (cy 1, 8, .inl u11)), (b1, .inl (cy 1, 8, .inl h1)), (b2, .inl (cy 1, 8, .inl h2))]) [0, 1, 2, 3, 4, 5, 6, 7, 8, 13, 9, 10, 11, 12] rfl) (hD.sub (ws' := [(o, .inr (12, mo q u0)), ((q 48), .inl (cy 1, 8, .inl u1)), ((q 49), .inl (cy 1, 8, .inl u2)), ((q 50), .inl (cy 1, 16, .inl u3)), ((q 51), .inl (cy 1, 8, .inl u4)), ((q 52), .inl (cy 1, 8, .inl u5)), ((q 53), .inl (cy 1, 8, .inl u6)), ((q 54), .inl (cy 1, 8, .inl u7)), ((q 59), .inl (cy 1, 8, .inl u8)), ((q 60), .inl (cy 1, 8, .inl u9)), ((q 66), .inl (cy 1, 8, .inl u10)), ((q 67), .inl (cy 1, 8, .inl u11)), (b1, .inl (cy 1, 8, .inl h1)), (b2, .inl (cy 1, 8, .inl h2))]) [0, 1, 2, 3, 4, 5, 6, 7, 8, 13, 9, 10, 11, 12] (by decide) rfl) hS (lv_sub hl [0, 1, 2, 3] rfl)
  · have hf := ifn cx hf
    exact wb_M_join_86 (fu := fu) F _ _ _ _ _ _ _ _ _ _ _ _ _ hf _ _ _ (hP.sub (ws' := [(o, .inr (12, mo q u0)), ((q 48), .inl (cy 1, 8, .inl u1)), ((q 49), .inl (cy 1, 8, .inl u2)), ((q 50), .inl (cy 1, 16, .inl u3)), ((q 51), .inl (cy 1, 8, .inl u4)), ((q 52), .inl (cy 1, 8, .inl u5)), ((q 53), .inl (cy 1, 8, .inl u6)), ((q 54), .inl (cy 1, 8, .inl u7)), ((q 59), .inl (cy 1, 8, .inl u8)), ((q 60), .inl (cy 1, 8, .inl u9)), ((q 66), .inl (cy 1, 8, .inl u10)), ((q 67), .inl (cy 1, 8, .inl u11)), (b1, .inl (cy 1, 8, .inl h1)), (b2, .inl (cy 1, 8, .inl h2))]) [0, 1, 2, 3, 4, 5, 6, 7, 8, 13, 9, 10, 11, 12] rfl) (hD.sub (ws' := [(o, .inr (12, mo q u0)), ((q 48), .inl (cy 1, 8, .inl u1)), ((q 49), .inl (cy 1, 8, .inl u2)), ((q 50), .inl (cy 1, 16, .inl u3)), ((q 51), .inl (cy 1, 8, .inl u4)), ((q 52), .inl (cy 1, 8, .inl u5)), ((q 53), .inl (cy 1, 8, .inl u6)), ((q 54), .inl (cy 1, 8, .inl u7)), ((q 59), .inl (cy 1, 8, .inl u8)), ((q 60), .inl (cy 1, 8, .inl u9)), ((q 66), .inl (cy 1, 8, .inl u10)), ((q 67), .inl (cy 1, 8, .inl u11)), (b1, .inl (cy 1, 8, .inl h1)), (b2, .inl (cy 1, 8, .inl h2))]) [0, 1, 2, 3, 4, 5, 6, 7, 8, 13, 9, 10, 11, 12] (by decide) rfl) hS (lv_sub hl [0] rfl)
set_option maxHeartbeats 8000000 in
set_option maxRecDepth 100000 in
theorem wb_M_join_54 {p : Program} {l : Launch} {e : Env} {s : State} {m : MethodId} {args : Array Value} {below : List Frame} {meth : Method} {c : Code} {D : va_G} {cy : Nat → ClassId} {A : Nat → Prop} {ad : Nat → Nat} {o : Nat} {q : Nat → Nat} {b1 : Nat} {b2 : Nat} {h1 : Nat → Int32} {h2 : Nat → Int32} {fu : Nat} (F : Fx p s m args meth c b_M_join 5 "CoinKeeperModel" "join" none D cy ad A) : I_M_join_54 p l e s m args below meth c D cy A ad o q b1 b2 h1 h2 (xb_M_join_54 fu h1 h2) := by
  obtain ⟨hx, hb, hr, hml, hown, hts, hlocks, hK, hA, hSt, hnm, hex⟩ := id F
  intro x3 y0 u0 u1 u2 u3 u4 u5 u6 u7 u8 u9 u10 u11 res hf H locs ls hP hD hS hl
  unfold xb_M_join_54 at hf
  refine lv_istore (lv' := [(4, .int y0), (0, .ref o), (1, .ref b1), (2, .ref b2), (3, .int x3)]) hx hb d_M_join_54 hl (by decide) rfl (fun ls hl => ?_)
  refine lv_iload hx hb d_M_join_56 (lv_at hl 0 rfl) ?_
  refine lv_if_eq (tgt := 92) hx hb d_M_join_58 (by decide) (fun cx => ?_) (fun cx => ?_)
  · have hf := ifp cx hf
    exact wb_M_join_92 (fu := fu) F _ _ _ _ _ _ _ _ _ _ _ _ _ _ hf _ _ _ hP hD hS (lv_sub hl [1, 2, 3, 0] rfl)
  · have hf := ifn cx hf
    refine lv_iload_n hx hb d_M_join_61 rfl (lv_at hl 4 rfl) ?_
    refine lv_if_ne (tgt := 76) hx hb d_M_join_62 (by decide) (fun cx => ?_) (fun cx => ?_)
    · have hf := ifn cx hf
      exact wb_M_join_76 (fu := fu) F _ _ _ _ _ _ _ _ _ _ _ _ _ _ hf _ _ _ hP hD hS (lv_sub hl [1, 2, 3, 0] rfl)
    · have hf := ifp cx hf
      refine lv_aload_n hx hb d_M_join_65 rfl (lv_at hl 1 rfl) ?_
      refine va_get (D := D) (ci := 12) (v := .ref (q 60)) (C := "CoinKeeperModel") (T := F_12) (N := 98) hx hb hts i_12 hown hK hP 0 rfl rfl 68 (by decide) (hts _ gw_1487) (fun _ h9 => h9) rfl d_M_join_66 ?_
      refine lv_aload_n hx hb d_M_join_69 rfl (lv_at hl 3 rfl) ?_
      obtain ⟨v1, hc, hf⟩ := bdp1 hf
      refine q_ai (wr := [(o, .inr (12, mo q u0)), ((q 48), .inl (cy 1, 8, .inl u1)), ((q 49), .inl (cy 1, 8, .inl u2)), ((q 50), .inl (cy 1, 16, .inl u3)), ((q 51), .inl (cy 1, 8, .inl u4)), ((q 52), .inl (cy 1, 8, .inl u5)), ((q 53), .inl (cy 1, 8, .inl u6)), ((q 54), .inl (cy 1, 8, .inl u7)), ((q 59), .inl (cy 1, 8, .inl u8)), ((q 66), .inl (cy 1, 8, .inl u10)), ((q 67), .inl (cy 1, 8, .inl u11)), (b1, .inl (cy 1, 8, .inl h1))]) (va_runS (As := [.ref (q 60), .ref b2]) (rest := []) ⟨hx, hb, hml, hown, hts⟩ (c_M_compare l D cy ad fu (q 60) b2 u9 h2 _ hc H.size) ⟨q_cB hts gw_1404 gw_18 gw_1402 hdm_16 ⟨by decide, by decide⟩, hts _ gw_1403⟩ (q_pre (hP.sub [9, 13] rfl) (hD.sub [9, 13] (by decide) rfl) hK hSt hS (va_free hD hS hA [9, 13] rfl) _) rfl rfl hl.1 rfl (lv_room (Nat.le_of_ble_eq_true rfl)) d_M_join_70 ⟨Nat.le_of_ble_eq_true rfl, Nat.le_of_ble_eq_true rfl⟩) hP hD hS hA [9, 13] [0, 1, 2, 3, 4, 5, 6, 7, 8, 10, 11, 12] rfl rfl (by decide) (by decide) (fun H locs hP hD hS => ?_)
      clear hc
      have hP : va_P D classes [(o, .inr (12, mo q u0)), ((q 48), .inl (cy 1, 8, .inl u1)), ((q 49), .inl (cy 1, 8, .inl u2)), ((q 50), .inl (cy 1, 16, .inl u3)), ((q 51), .inl (cy 1, 8, .inl u4)), ((q 52), .inl (cy 1, 8, .inl u5)), ((q 53), .inl (cy 1, 8, .inl u6)), ((q 54), .inl (cy 1, 8, .inl u7)), ((q 59), .inl (cy 1, 8, .inl u8)), ((q 66), .inl (cy 1, 8, .inl u10)), ((q 67), .inl (cy 1, 8, .inl u11)), (b1, .inl (cy 1, 8, .inl h1)), ((q 60), .inl (cy 1, 8, .inl u9)), (b2, .inl (cy 1, 8, .inl h2))] H := hP
      have hD : va_D A [(o, .inr (12, mo q u0)), ((q 48), .inl (cy 1, 8, .inl u1)), ((q 49), .inl (cy 1, 8, .inl u2)), ((q 50), .inl (cy 1, 16, .inl u3)), ((q 51), .inl (cy 1, 8, .inl u4)), ((q 52), .inl (cy 1, 8, .inl u5)), ((q 53), .inl (cy 1, 8, .inl u6)), ((q 54), .inl (cy 1, 8, .inl u7)), ((q 59), .inl (cy 1, 8, .inl u8)), ((q 66), .inl (cy 1, 8, .inl u10)), ((q 67), .inl (cy 1, 8, .inl u11)), (b1, .inl (cy 1, 8, .inl h1)), ((q 60), .inl (cy 1, 8, .inl u9)), (b2, .inl (cy 1, 8, .inl h2))] := hD
      refine lv_if_ne (tgt := 86) hx hb d_M_join_73 (by decide) (fun cx => ?_) (fun cx => ?_)
      · have hf := ifn cx hf
        exact wb_M_join_86 (fu := fu) F _ _ _ _ _ _ _ _ _ _ _ _ _ hf _ _ _ (hP.sub (ws' := [(o, .inr (12, mo q u0)), ((q 48), .inl (cy 1, 8, .inl u1)), ((q 49), .inl (cy 1, 8, .inl u2)), ((q 50), .inl (cy 1, 16, .inl u3)), ((q 51), .inl (cy 1, 8, .inl u4)), ((q 52), .inl (cy 1, 8, .inl u5)), ((q 53), .inl (cy 1, 8, .inl u6)), ((q 54), .inl (cy 1, 8, .inl u7)), ((q 59), .inl (cy 1, 8, .inl u8)), ((q 60), .inl (cy 1, 8, .inl u9)), ((q 66), .inl (cy 1, 8, .inl u10)), ((q 67), .inl (cy 1, 8, .inl u11)), (b1, .inl (cy 1, 8, .inl h1)), (b2, .inl (cy 1, 8, .inl h2))]) [0, 1, 2, 3, 4, 5, 6, 7, 8, 12, 9, 10, 11, 13] rfl) (hD.sub (ws' := [(o, .inr (12, mo q u0)), ((q 48), .inl (cy 1, 8, .inl u1)), ((q 49), .inl (cy 1, 8, .inl u2)), ((q 50), .inl (cy 1, 16, .inl u3)), ((q 51), .inl (cy 1, 8, .inl u4)), ((q 52), .inl (cy 1, 8, .inl u5)), ((q 53), .inl (cy 1, 8, .inl u6)), ((q 54), .inl (cy 1, 8, .inl u7)), ((q 59), .inl (cy 1, 8, .inl u8)), ((q 60), .inl (cy 1, 8, .inl u9)), ((q 66), .inl (cy 1, 8, .inl u10)), ((q 67), .inl (cy 1, 8, .inl u11)), (b1, .inl (cy 1, 8, .inl h1)), (b2, .inl (cy 1, 8, .inl h2))]) [0, 1, 2, 3, 4, 5, 6, 7, 8, 12, 9, 10, 11, 13] (by decide) rfl) hS (lv_sub hl [1] rfl)
      · have hf := ifp cx hf
        exact wb_M_join_76 (fu := fu) F _ _ _ _ _ _ _ _ _ _ _ _ _ _ hf _ _ _ (hP.sub (ws' := [(o, .inr (12, mo q u0)), ((q 48), .inl (cy 1, 8, .inl u1)), ((q 49), .inl (cy 1, 8, .inl u2)), ((q 50), .inl (cy 1, 16, .inl u3)), ((q 51), .inl (cy 1, 8, .inl u4)), ((q 52), .inl (cy 1, 8, .inl u5)), ((q 53), .inl (cy 1, 8, .inl u6)), ((q 54), .inl (cy 1, 8, .inl u7)), ((q 59), .inl (cy 1, 8, .inl u8)), ((q 60), .inl (cy 1, 8, .inl u9)), ((q 66), .inl (cy 1, 8, .inl u10)), ((q 67), .inl (cy 1, 8, .inl u11)), (b1, .inl (cy 1, 8, .inl h1)), (b2, .inl (cy 1, 8, .inl h2))]) [0, 1, 2, 3, 4, 5, 6, 7, 8, 12, 9, 10, 11, 13] rfl) (hD.sub (ws' := [(o, .inr (12, mo q u0)), ((q 48), .inl (cy 1, 8, .inl u1)), ((q 49), .inl (cy 1, 8, .inl u2)), ((q 50), .inl (cy 1, 16, .inl u3)), ((q 51), .inl (cy 1, 8, .inl u4)), ((q 52), .inl (cy 1, 8, .inl u5)), ((q 53), .inl (cy 1, 8, .inl u6)), ((q 54), .inl (cy 1, 8, .inl u7)), ((q 59), .inl (cy 1, 8, .inl u8)), ((q 60), .inl (cy 1, 8, .inl u9)), ((q 66), .inl (cy 1, 8, .inl u10)), ((q 67), .inl (cy 1, 8, .inl u11)), (b1, .inl (cy 1, 8, .inl h1)), (b2, .inl (cy 1, 8, .inl h2))]) [0, 1, 2, 3, 4, 5, 6, 7, 8, 12, 9, 10, 11, 13] (by decide) rfl) hS (lv_sub hl [1, 2, 3, 0] rfl)
set_option maxHeartbeats 8000000 in
set_option maxRecDepth 100000 in
theorem wb_M_join_49 {p : Program} {l : Launch} {e : Env} {s : State} {m : MethodId} {args : Array Value} {below : List Frame} {meth : Method} {c : Code} {D : va_G} {cy : Nat → ClassId} {A : Nat → Prop} {ad : Nat → Nat} {o : Nat} {q : Nat → Nat} {b1 : Nat} {b2 : Nat} {h1 : Nat → Int32} {h2 : Nat → Int32} {fu : Nat} (F : Fx p s m args meth c b_M_join 5 "CoinKeeperModel" "join" none D cy ad A) : I_M_join_49 p l e s m args below meth c D cy A ad o q b1 b2 h1 h2 (xb_M_join_49 fu h1 h2) := by
  obtain ⟨hx, hb, hr, hml, hown, hts, hlocks, hK, hA, hSt, hnm, hex⟩ := id F
  intro x3 u0 u1 u2 u3 u4 u5 u6 u7 u8 u9 u10 u11 res hf H locs ls hP hD hS hl
  unfold xb_M_join_49 at hf
  refine lv_iconst (v := 1) hx hb d_M_join_49 (by decide) ?_
  refine lv_goto (tgt := 54) hx hb d_M_join_50 (by decide) ?_
  exact wb_M_join_54 (fu := fu) F _ _ _ _ _ _ _ _ _ _ _ _ _ _ _ hf _ _ _ hP hD hS (lv_sub hl [0, 1, 2, 3] rfl)
set_option maxHeartbeats 8000000 in
set_option maxRecDepth 100000 in
theorem we_M_join {p : Program} {l : Launch} {e : Env} {s : State} {m : MethodId} {args : Array Value} {below : List Frame} {meth : Method} {c : Code} {D : va_G} {cy : Nat → ClassId} {A : Nat → Prop} {ad : Nat → Nat} {o : Nat} {q : Nat → Nat} {b1 : Nat} {b2 : Nat} {h1 : Nat → Int32} {h2 : Nat → Int32} {fu : Nat} (F : Fx p s m args meth c b_M_join 5 "CoinKeeperModel" "join" none D cy ad A) : I_M_join_e p l e s m args below meth c D cy A ad o q b1 b2 h1 h2 (x_M_join fu h1 h2) := by
  obtain ⟨hx, hb, hr, hml, hown, hts, hlocks, hK, hA, hSt, hnm, hex⟩ := id F
  intro a3 u0 u1 u2 u3 u4 u5 u6 u7 u8 u9 u10 u11 res hf H locs ls hP hD hS hl
  unfold x_M_join at hf
  refine lv_aload_n hx hb d_M_join_0 rfl (lv_at hl 0 rfl) ?_
  refine va_get (D := D) (ci := 12) (v := .int (u0 8)) (C := "CoinKeeperModel") (T := F_12) (N := 98) hx hb hts i_12 hown hK hP 0 rfl rfl 74 (by decide) (hts _ gw_1493) (fun _ h9 => h9) rfl d_M_join_1 ?_
  refine lv_if_eq (tgt := 34) hx hb d_M_join_4 (by decide) (fun cx => ?_) (fun cx => ?_)
  · have hf := ifp cx hf
    refine lv_iload_n hx hb d_M_join_34 rfl (lv_at hl 3 rfl) ?_
    refine lv_if_ne (tgt := 49) hx hb d_M_join_35 (by decide) (fun cx => ?_) (fun cx => ?_)
    · have hf := ifn cx hf
      exact wb_M_join_49 (fu := fu) F _ _ _ _ _ _ _ _ _ _ _ _ _ _ hf _ _ _ hP hD hS (lv_sub hl [0, 1, 2, 3] rfl)
    · have hf := ifp cx hf
      refine lv_aload_n hx hb d_M_join_38 rfl (lv_at hl 0 rfl) ?_
      refine va_get (D := D) (ci := 12) (v := .ref (q 59)) (C := "CoinKeeperModel") (T := F_12) (N := 98) hx hb hts i_12 hown hK hP 0 rfl rfl 67 (by decide) (hts _ gw_1486) (fun _ h9 => h9) rfl d_M_join_39 ?_
      refine lv_aload_n hx hb d_M_join_42 rfl (lv_at hl 1 rfl) ?_
      obtain ⟨v1, hc, hf⟩ := bdp1 hf
      refine q_ai (wr := [(o, .inr (12, mo q u0)), ((q 48), .inl (cy 1, 8, .inl u1)), ((q 49), .inl (cy 1, 8, .inl u2)), ((q 50), .inl (cy 1, 16, .inl u3)), ((q 51), .inl (cy 1, 8, .inl u4)), ((q 52), .inl (cy 1, 8, .inl u5)), ((q 53), .inl (cy 1, 8, .inl u6)), ((q 54), .inl (cy 1, 8, .inl u7)), ((q 60), .inl (cy 1, 8, .inl u9)), ((q 66), .inl (cy 1, 8, .inl u10)), ((q 67), .inl (cy 1, 8, .inl u11)), (b2, .inl (cy 1, 8, .inl h2))]) (va_runS (As := [.ref (q 59), .ref b1]) (rest := []) ⟨hx, hb, hml, hown, hts⟩ (c_M_compare l D cy ad fu (q 59) b1 u8 h1 _ hc H.size) ⟨q_cB hts gw_1404 gw_18 gw_1402 hdm_16 ⟨by decide, by decide⟩, hts _ gw_1403⟩ (q_pre (hP.sub [8, 12] rfl) (hD.sub [8, 12] (by decide) rfl) hK hSt hS (va_free hD hS hA [8, 12] rfl) _) rfl rfl hl.1 rfl (lv_room (Nat.le_of_ble_eq_true rfl)) d_M_join_43 ⟨Nat.le_of_ble_eq_true rfl, Nat.le_of_ble_eq_true rfl⟩) hP hD hS hA [8, 12] [0, 1, 2, 3, 4, 5, 6, 7, 9, 10, 11, 13] rfl rfl (by decide) (by decide) (fun H locs hP hD hS => ?_)
      clear hc
      have hP : va_P D classes [(o, .inr (12, mo q u0)), ((q 48), .inl (cy 1, 8, .inl u1)), ((q 49), .inl (cy 1, 8, .inl u2)), ((q 50), .inl (cy 1, 16, .inl u3)), ((q 51), .inl (cy 1, 8, .inl u4)), ((q 52), .inl (cy 1, 8, .inl u5)), ((q 53), .inl (cy 1, 8, .inl u6)), ((q 54), .inl (cy 1, 8, .inl u7)), ((q 60), .inl (cy 1, 8, .inl u9)), ((q 66), .inl (cy 1, 8, .inl u10)), ((q 67), .inl (cy 1, 8, .inl u11)), (b2, .inl (cy 1, 8, .inl h2)), ((q 59), .inl (cy 1, 8, .inl u8)), (b1, .inl (cy 1, 8, .inl h1))] H := hP
      have hD : va_D A [(o, .inr (12, mo q u0)), ((q 48), .inl (cy 1, 8, .inl u1)), ((q 49), .inl (cy 1, 8, .inl u2)), ((q 50), .inl (cy 1, 16, .inl u3)), ((q 51), .inl (cy 1, 8, .inl u4)), ((q 52), .inl (cy 1, 8, .inl u5)), ((q 53), .inl (cy 1, 8, .inl u6)), ((q 54), .inl (cy 1, 8, .inl u7)), ((q 60), .inl (cy 1, 8, .inl u9)), ((q 66), .inl (cy 1, 8, .inl u10)), ((q 67), .inl (cy 1, 8, .inl u11)), (b2, .inl (cy 1, 8, .inl h2)), ((q 59), .inl (cy 1, 8, .inl u8)), (b1, .inl (cy 1, 8, .inl h1))] := hD
      refine lv_if_ne (tgt := 53) hx hb d_M_join_46 (by decide) (fun cx => ?_) (fun cx => ?_)
      · have hf := ifn cx hf
        refine lv_iconst (v := 0) hx hb d_M_join_53 (by decide) ?_
        exact wb_M_join_54 (fu := fu) F _ _ _ _ _ _ _ _ _ _ _ _ _ _ _ hf _ _ _ (hP.sub (ws' := [(o, .inr (12, mo q u0)), ((q 48), .inl (cy 1, 8, .inl u1)), ((q 49), .inl (cy 1, 8, .inl u2)), ((q 50), .inl (cy 1, 16, .inl u3)), ((q 51), .inl (cy 1, 8, .inl u4)), ((q 52), .inl (cy 1, 8, .inl u5)), ((q 53), .inl (cy 1, 8, .inl u6)), ((q 54), .inl (cy 1, 8, .inl u7)), ((q 59), .inl (cy 1, 8, .inl u8)), ((q 60), .inl (cy 1, 8, .inl u9)), ((q 66), .inl (cy 1, 8, .inl u10)), ((q 67), .inl (cy 1, 8, .inl u11)), (b1, .inl (cy 1, 8, .inl h1)), (b2, .inl (cy 1, 8, .inl h2))]) [0, 1, 2, 3, 4, 5, 6, 7, 12, 8, 9, 10, 13, 11] rfl) (hD.sub (ws' := [(o, .inr (12, mo q u0)), ((q 48), .inl (cy 1, 8, .inl u1)), ((q 49), .inl (cy 1, 8, .inl u2)), ((q 50), .inl (cy 1, 16, .inl u3)), ((q 51), .inl (cy 1, 8, .inl u4)), ((q 52), .inl (cy 1, 8, .inl u5)), ((q 53), .inl (cy 1, 8, .inl u6)), ((q 54), .inl (cy 1, 8, .inl u7)), ((q 59), .inl (cy 1, 8, .inl u8)), ((q 60), .inl (cy 1, 8, .inl u9)), ((q 66), .inl (cy 1, 8, .inl u10)), ((q 67), .inl (cy 1, 8, .inl u11)), (b1, .inl (cy 1, 8, .inl h1)), (b2, .inl (cy 1, 8, .inl h2))]) [0, 1, 2, 3, 4, 5, 6, 7, 12, 8, 9, 10, 13, 11] (by decide) rfl) hS (lv_sub hl [0, 1, 2, 3] rfl)
      · have hf := ifp cx hf
        exact wb_M_join_49 (fu := fu) F _ _ _ _ _ _ _ _ _ _ _ _ _ _ hf _ _ _ (hP.sub (ws' := [(o, .inr (12, mo q u0)), ((q 48), .inl (cy 1, 8, .inl u1)), ((q 49), .inl (cy 1, 8, .inl u2)), ((q 50), .inl (cy 1, 16, .inl u3)), ((q 51), .inl (cy 1, 8, .inl u4)), ((q 52), .inl (cy 1, 8, .inl u5)), ((q 53), .inl (cy 1, 8, .inl u6)), ((q 54), .inl (cy 1, 8, .inl u7)), ((q 59), .inl (cy 1, 8, .inl u8)), ((q 60), .inl (cy 1, 8, .inl u9)), ((q 66), .inl (cy 1, 8, .inl u10)), ((q 67), .inl (cy 1, 8, .inl u11)), (b1, .inl (cy 1, 8, .inl h1)), (b2, .inl (cy 1, 8, .inl h2))]) [0, 1, 2, 3, 4, 5, 6, 7, 12, 8, 9, 10, 13, 11] rfl) (hD.sub (ws' := [(o, .inr (12, mo q u0)), ((q 48), .inl (cy 1, 8, .inl u1)), ((q 49), .inl (cy 1, 8, .inl u2)), ((q 50), .inl (cy 1, 16, .inl u3)), ((q 51), .inl (cy 1, 8, .inl u4)), ((q 52), .inl (cy 1, 8, .inl u5)), ((q 53), .inl (cy 1, 8, .inl u6)), ((q 54), .inl (cy 1, 8, .inl u7)), ((q 59), .inl (cy 1, 8, .inl u8)), ((q 60), .inl (cy 1, 8, .inl u9)), ((q 66), .inl (cy 1, 8, .inl u10)), ((q 67), .inl (cy 1, 8, .inl u11)), (b1, .inl (cy 1, 8, .inl h1)), (b2, .inl (cy 1, 8, .inl h2))]) [0, 1, 2, 3, 4, 5, 6, 7, 12, 8, 9, 10, 13, 11] (by decide) rfl) hS (lv_sub hl [0, 1, 2, 3] rfl)
  · have hf := ifn cx hf
    refine lv_iload_n hx hb d_M_join_7 rfl (lv_at hl 3 rfl) ?_
    refine lv_if_eq (tgt := 12) hx hb d_M_join_8 (by decide) (fun cx => ?_) (fun cx => ?_)
    · have hf := ifp cx hf
      refine lv_aload_n hx hb d_M_join_12 rfl (lv_at hl 0 rfl) ?_
      refine va_get (D := D) (ci := 12) (v := .ref (q 59)) (C := "CoinKeeperModel") (T := F_12) (N := 98) hx hb hts i_12 hown hK hP 0 rfl rfl 67 (by decide) (hts _ gw_1486) (fun _ h9 => h9) rfl d_M_join_13 ?_
      refine lv_aload_n hx hb d_M_join_16 rfl (lv_at hl 1 rfl) ?_
      obtain ⟨f2, hc, hf⟩ := bdp1 hf
      refine q_av (wr := [(o, .inr (12, mo q u0)), ((q 48), .inl (cy 1, 8, .inl u1)), ((q 49), .inl (cy 1, 8, .inl u2)), ((q 50), .inl (cy 1, 16, .inl u3)), ((q 51), .inl (cy 1, 8, .inl u4)), ((q 52), .inl (cy 1, 8, .inl u5)), ((q 53), .inl (cy 1, 8, .inl u6)), ((q 54), .inl (cy 1, 8, .inl u7)), ((q 60), .inl (cy 1, 8, .inl u9)), ((q 66), .inl (cy 1, 8, .inl u10)), ((q 67), .inl (cy 1, 8, .inl u11)), (b2, .inl (cy 1, 8, .inl h2))]) (va_runS (As := [.ref (q 59), .ref b1]) (rest := []) ⟨hx, hb, hml, hown, hts⟩ (c_M_copy l D cy ad fu (q 59) b1 h1 u8 _ hc H.size) ⟨q_cB hts gw_1397 gw_18 gw_1395 hdm_24 ⟨by decide, by decide⟩, hts _ gw_1396⟩ (q_pre (hP.sub [8, 12] rfl) (hD.sub [8, 12] (by decide) rfl) hK hSt hS (va_free hD hS hA [8, 12] rfl) _) rfl rfl hl.1 rfl (lv_room (Nat.le_of_ble_eq_true rfl)) d_M_join_17 ⟨Nat.le_of_ble_eq_true rfl, Nat.le_of_ble_eq_true rfl⟩) hP hD hS hA [8, 12] [0, 1, 2, 3, 4, 5, 6, 7, 9, 10, 11, 13] rfl rfl (by decide) (by decide) (fun H locs hP hD hS => ?_)
      clear hc
      have hP : va_P D classes [(o, .inr (12, mo q u0)), ((q 48), .inl (cy 1, 8, .inl u1)), ((q 49), .inl (cy 1, 8, .inl u2)), ((q 50), .inl (cy 1, 16, .inl u3)), ((q 51), .inl (cy 1, 8, .inl u4)), ((q 52), .inl (cy 1, 8, .inl u5)), ((q 53), .inl (cy 1, 8, .inl u6)), ((q 54), .inl (cy 1, 8, .inl u7)), ((q 60), .inl (cy 1, 8, .inl u9)), ((q 66), .inl (cy 1, 8, .inl u10)), ((q 67), .inl (cy 1, 8, .inl u11)), (b2, .inl (cy 1, 8, .inl h2)), ((q 59), .inl (cy 1, 8, .inl f2)), (b1, .inl (cy 1, 8, .inl h1))] H := hP
      have hD : va_D A [(o, .inr (12, mo q u0)), ((q 48), .inl (cy 1, 8, .inl u1)), ((q 49), .inl (cy 1, 8, .inl u2)), ((q 50), .inl (cy 1, 16, .inl u3)), ((q 51), .inl (cy 1, 8, .inl u4)), ((q 52), .inl (cy 1, 8, .inl u5)), ((q 53), .inl (cy 1, 8, .inl u6)), ((q 54), .inl (cy 1, 8, .inl u7)), ((q 60), .inl (cy 1, 8, .inl u9)), ((q 66), .inl (cy 1, 8, .inl u10)), ((q 67), .inl (cy 1, 8, .inl u11)), (b2, .inl (cy 1, 8, .inl h2)), ((q 59), .inl (cy 1, 8, .inl f2)), (b1, .inl (cy 1, 8, .inl h1))] := hD
      refine lv_aload_n hx hb d_M_join_20 rfl (lv_at hl 0 rfl) ?_
      refine va_get (D := D) (ci := 12) (v := .ref (q 60)) (C := "CoinKeeperModel") (T := F_12) (N := 98) hx hb hts i_12 hown hK hP 0 rfl rfl 68 (by decide) (hts _ gw_1487) (fun _ h9 => h9) rfl d_M_join_21 ?_
      refine lv_aload_n hx hb d_M_join_24 rfl (lv_at hl 2 rfl) ?_
      obtain ⟨f3, hc, hf⟩ := bdp1 hf
      refine q_av (wr := [(o, .inr (12, mo q u0)), ((q 48), .inl (cy 1, 8, .inl u1)), ((q 49), .inl (cy 1, 8, .inl u2)), ((q 50), .inl (cy 1, 16, .inl u3)), ((q 51), .inl (cy 1, 8, .inl u4)), ((q 52), .inl (cy 1, 8, .inl u5)), ((q 53), .inl (cy 1, 8, .inl u6)), ((q 54), .inl (cy 1, 8, .inl u7)), ((q 66), .inl (cy 1, 8, .inl u10)), ((q 67), .inl (cy 1, 8, .inl u11)), ((q 59), .inl (cy 1, 8, .inl f2)), (b1, .inl (cy 1, 8, .inl h1))]) (va_runS (As := [.ref (q 60), .ref b2]) (rest := []) ⟨hx, hb, hml, hown, hts⟩ (c_M_copy l D cy ad fu (q 60) b2 h2 u9 _ hc H.size) ⟨q_cB hts gw_1397 gw_18 gw_1395 hdm_24 ⟨by decide, by decide⟩, hts _ gw_1396⟩ (q_pre (hP.sub [8, 11] rfl) (hD.sub [8, 11] (by decide) rfl) hK hSt hS (va_free hD hS hA [8, 11] rfl) _) rfl rfl hl.1 rfl (lv_room (Nat.le_of_ble_eq_true rfl)) d_M_join_25 ⟨Nat.le_of_ble_eq_true rfl, Nat.le_of_ble_eq_true rfl⟩) hP hD hS hA [8, 11] [0, 1, 2, 3, 4, 5, 6, 7, 9, 10, 12, 13] rfl rfl (by decide) (by decide) (fun H locs hP hD hS => ?_)
      clear hc
      have hP : va_P D classes [(o, .inr (12, mo q u0)), ((q 48), .inl (cy 1, 8, .inl u1)), ((q 49), .inl (cy 1, 8, .inl u2)), ((q 50), .inl (cy 1, 16, .inl u3)), ((q 51), .inl (cy 1, 8, .inl u4)), ((q 52), .inl (cy 1, 8, .inl u5)), ((q 53), .inl (cy 1, 8, .inl u6)), ((q 54), .inl (cy 1, 8, .inl u7)), ((q 66), .inl (cy 1, 8, .inl u10)), ((q 67), .inl (cy 1, 8, .inl u11)), ((q 59), .inl (cy 1, 8, .inl f2)), (b1, .inl (cy 1, 8, .inl h1)), ((q 60), .inl (cy 1, 8, .inl f3)), (b2, .inl (cy 1, 8, .inl h2))] H := hP
      have hD : va_D A [(o, .inr (12, mo q u0)), ((q 48), .inl (cy 1, 8, .inl u1)), ((q 49), .inl (cy 1, 8, .inl u2)), ((q 50), .inl (cy 1, 16, .inl u3)), ((q 51), .inl (cy 1, 8, .inl u4)), ((q 52), .inl (cy 1, 8, .inl u5)), ((q 53), .inl (cy 1, 8, .inl u6)), ((q 54), .inl (cy 1, 8, .inl u7)), ((q 66), .inl (cy 1, 8, .inl u10)), ((q 67), .inl (cy 1, 8, .inl u11)), ((q 59), .inl (cy 1, 8, .inl f2)), (b1, .inl (cy 1, 8, .inl h1)), ((q 60), .inl (cy 1, 8, .inl f3)), (b2, .inl (cy 1, 8, .inl h2))] := hD
      refine lv_aload_n hx hb d_M_join_28 rfl (lv_at hl 0 rfl) ?_
      refine lv_iconst (v := 0) hx hb d_M_join_29 (by decide) ?_
      refine va_put (D := D) (ci := 12) (v := .int (0 : Int32)) (ty := .boolean) (C := "CoinKeeperModel") (T := F_12) (N := 98) hx hb hts i_12 t_12 t_12_ok n_12 hown hK hP hD hS 0 rfl rfl 74 (by decide) (hts _ gw_1493) (fun _ h9 => h9) rfl (by decide +kernel) (isb_n (v := 0) (by decide)) (isb_f (v := 0) (by decide)) (Nat.le_of_ble_eq_true rfl) d_M_join_30 (fun H locs hP hD hS => ?_)
      obtain ⟨z4, ev, hf⟩ := bne hf
      have hP : va_P D classes [(o, .inr (12, mo q z4)), ((q 48), .inl (cy 1, 8, .inl u1)), ((q 49), .inl (cy 1, 8, .inl u2)), ((q 50), .inl (cy 1, 16, .inl u3)), ((q 51), .inl (cy 1, 8, .inl u4)), ((q 52), .inl (cy 1, 8, .inl u5)), ((q 53), .inl (cy 1, 8, .inl u6)), ((q 54), .inl (cy 1, 8, .inl u7)), ((q 66), .inl (cy 1, 8, .inl u10)), ((q 67), .inl (cy 1, 8, .inl u11)), ((q 59), .inl (cy 1, 8, .inl f2)), (b1, .inl (cy 1, 8, .inl h1)), ((q 60), .inl (cy 1, 8, .inl f3)), (b2, .inl (cy 1, 8, .inl h2))] H := by rw [ev]; exact hP
      have hD : va_D A [(o, .inr (12, mo q z4)), ((q 48), .inl (cy 1, 8, .inl u1)), ((q 49), .inl (cy 1, 8, .inl u2)), ((q 50), .inl (cy 1, 16, .inl u3)), ((q 51), .inl (cy 1, 8, .inl u4)), ((q 52), .inl (cy 1, 8, .inl u5)), ((q 53), .inl (cy 1, 8, .inl u6)), ((q 54), .inl (cy 1, 8, .inl u7)), ((q 66), .inl (cy 1, 8, .inl u10)), ((q 67), .inl (cy 1, 8, .inl u11)), ((q 59), .inl (cy 1, 8, .inl f2)), (b1, .inl (cy 1, 8, .inl h1)), ((q 60), .inl (cy 1, 8, .inl f3)), (b2, .inl (cy 1, 8, .inl h2))] := by rw [ev]; exact hD
      clear ev
      obtain rfl := Option.some.inj hf
      exact q_rv hx hb hr hlocks hK (hP.sub [0, 1, 2, 3, 4, 5, 6, 7, 10, 12, 8, 9, 11, 13] rfl) (hD.sub [0, 1, 2, 3, 4, 5, 6, 7, 10, 12, 8, 9, 11, 13] (by decide) rfl) hS d_M_join_33
    · have hf := ifn cx hf
      obtain rfl := Option.some.inj hf
      exact q_rv hx hb hr hlocks hK hP hD hS d_M_join_11
theorem c_M_join (l : Launch) (D : va_G) (cy : Nat → ClassId) (ad : Nat → Nat) (fu : Nat) (o : Nat) (q : Nat → Nat) (b1 : Nat) (b2 : Nat) (h1 : Nat → Int32) (h2 : Nat → Int32) (a3 : Int32) (u0 : Nat → Int32) (u1 : Nat → Int32) (u2 : Nat → Int32) (u3 : Nat → Int32) (u4 : Nat → Int32) (u5 : Nat → Int32) (u6 : Nat → Int32) (u7 : Nat → Int32) (u8 : Nat → Int32) (u9 : Nat → Int32) (u10 : Nat → Int32) (u11 : Nat → Int32) (res : (Nat → Int32) × (Nat → Int32) × (Nat → Int32) × (Nat → Int32) × (Nat → Int32) × (Nat → Int32) × (Nat → Int32) × (Nat → Int32) × (Nat → Int32) × (Nat → Int32) × (Nat → Int32) × (Nat → Int32)) (hf : x_M_join fu h1 h2 a3 u0 u1 u2 u3 u4 u5 u6 u7 u8 u9 u10 u11 = some res) (sz : Nat) : Met l ({ cls := "CoinKeeperModel", name := "join", desc := "([I[IZ)V" } : Jvm.MethodName) (.code ({ cls := "CoinKeeperModel", name := "join", desc := "([I[IZ)V" } : Jvm.MethodName) b_M_join 5 none :: gw) rm_M_join (va_Pc [.ref o, .ref b1, .ref b2, .int a3] (Pr D cy ad [(o, .inr (12, mo q u0)), ((q 48), .inl (cy 1, 8, .inl u1)), ((q 49), .inl (cy 1, 8, .inl u2)), ((q 50), .inl (cy 1, 16, .inl u3)), ((q 51), .inl (cy 1, 8, .inl u4)), ((q 52), .inl (cy 1, 8, .inl u5)), ((q 53), .inl (cy 1, 8, .inl u6)), ((q 54), .inl (cy 1, 8, .inl u7)), ((q 59), .inl (cy 1, 8, .inl u8)), ((q 60), .inl (cy 1, 8, .inl u9)), ((q 66), .inl (cy 1, 8, .inl u10)), ((q 67), .inl (cy 1, 8, .inl u11)), (b1, .inl (cy 1, 8, .inl h1)), (b2, .inl (cy 1, 8, .inl h2))] sz)) (q_M_join D cy (va_A [(o, .inr (12, mo q u0)), ((q 48), .inl (cy 1, 8, .inl u1)), ((q 49), .inl (cy 1, 8, .inl u2)), ((q 50), .inl (cy 1, 16, .inl u3)), ((q 51), .inl (cy 1, 8, .inl u4)), ((q 52), .inl (cy 1, 8, .inl u5)), ((q 53), .inl (cy 1, 8, .inl u6)), ((q 54), .inl (cy 1, 8, .inl u7)), ((q 59), .inl (cy 1, 8, .inl u8)), ((q 60), .inl (cy 1, 8, .inl u9)), ((q 66), .inl (cy 1, 8, .inl u10)), ((q 67), .inl (cy 1, 8, .inl u11)), (b1, .inl (cy 1, 8, .inl h1)), (b2, .inl (cy 1, 8, .inl h2))] sz) o q b1 b2 h1 h2 res) 0 0 (va_A [(o, .inr (12, mo q u0)), ((q 48), .inl (cy 1, 8, .inl u1)), ((q 49), .inl (cy 1, 8, .inl u2)), ((q 50), .inl (cy 1, 16, .inl u3)), ((q 51), .inl (cy 1, 8, .inl u4)), ((q 52), .inl (cy 1, 8, .inl u5)), ((q 53), .inl (cy 1, 8, .inl u6)), ((q 54), .inl (cy 1, 8, .inl u7)), ((q 59), .inl (cy 1, 8, .inl u8)), ((q 60), .inl (cy 1, 8, .inl u9)), ((q 66), .inl (cy 1, 8, .inl u10)), ((q 67), .inl (cy 1, 8, .inl u11)), (b1, .inl (cy 1, 8, .inl h1)), (b2, .inl (cy 1, 8, .inl h2))] sz) :=
  q_met (Qc := fun A => q_M_join D cy A o q b1 b2 h1 h2 res) (by decide) rfl rfl (Nat.le_of_ble_eq_true rfl) (fun p e s m below meth c ls F hP hD hS hl => we_M_join (fu := fu) F a3 u0 u1 u2 u3 u4 u5 u6 u7 u8 u9 u10 u11 res hf _ _ _ hP hD hS hl) sz
abbrev rm_M_compare_e10 : Room := { frames := 2, cells := 0, slots := 0, locals := 42 }
abbrev q_M_compare_e10 (D : va_G) (cy : Nat → ClassId) (A : Nat → Prop) (b0 : Nat) (h0 : Nat → Int32) (res : Int32) : Array Value → State → Outcome → State → Prop := va_Qi (fun r' (_ : Unit) => r' = res) (fun _ t => Po D cy A [(b0, .inl (cy 1, 8, .inl h0))] t) A
def I_M_compare_e10_3 (p : Program) (l : Launch) (e : Env) (s : State) (m : MethodId) (args : Array Value) (below : List Frame) (meth : Method) (c : Code) (D : va_G) (cy : Nat → ClassId) (A : Nat → Prop) (ad : Nat → Nat) (b0 : Nat) (h0 : Nat → Int32) (k : Int32 → Option (Int32)) : Prop :=
  ∀ (x2 : Int32) (res : Int32), k x2 = some res → ∀ (H : Heap) (locs : List Loc) (ls : Array Slot), va_P D classes [(b0, .inl (cy 1, 8, .inl h0))] H → va_D A [(b0, .inl (cy 1, 8, .inl h0))] → va_S A s.heap H locs → lv_has ls 3 [(0, .ref b0), (1, .ref b0), (2, .int x2)] → W p l e rm_M_compare_e10 s m args below meth c H locs 0 0 (MQ below (q_M_compare_e10 D cy A b0 h0 res) args s 0 0 A) (F0 m 3 ls [])
def I_M_compare_e10_e (p : Program) (l : Launch) (e : Env) (s : State) (m : MethodId) (args : Array Value) (below : List Frame) (meth : Method) (c : Code) (D : va_G) (cy : Nat → ClassId) (A : Nat → Prop) (ad : Nat → Nat) (b0 : Nat) (h0 : Nat → Int32) (k : Option (Int32)) : Prop :=
  ∀ (res : Int32), k  = some res → ∀ (H : Heap) (locs : List Loc) (ls : Array Slot), va_P D classes [(b0, .inl (cy 1, 8, .inl h0))] H → va_D A [(b0, .inl (cy 1, 8, .inl h0))] → va_S A s.heap H locs → lv_has ls 3 [(0, .ref b0), (1, .ref b0)] → W p l e rm_M_compare_e10 s m args below meth c H locs 0 0 (MQ below (q_M_compare_e10 D cy A b0 h0 res) args s 0 0 A) (F0 m 0 ls [])
set_option maxHeartbeats 8000000 in
set_option maxRecDepth 100000 in
theorem wb_M_compare_e10_3 {p : Program} {l : Launch} {e : Env} {s : State} {m : MethodId} {args : Array Value} {below : List Frame} {meth : Method} {c : Code} {D : va_G} {cy : Nat → ClassId} {A : Nat → Prop} {ad : Nat → Nat} {b0 : Nat} {h0 : Nat → Int32} {fu : Nat} {k_3 : Int32 → Option (Int32)} (F : Fx p s m args meth c b_M_compare 3 "CoinKeeperModel" "compare" (some .int) D cy ad A) (hk_3 : I_M_compare_e10_3 p l e s m args below meth c D cy A ad b0 h0 k_3) : I_M_compare_e10_3 p l e s m args below meth c D cy A ad b0 h0 (xb_M_compare_e10_3 fu h0 k_3) := by
  obtain ⟨hx, hb, hr, hml, hown, hts, hlocks, hK, hA, hSt, hnm, hex⟩ := id F
  intro x2 res hf H locs ls hP hD hS hl
  unfold xb_M_compare_e10_3 at hf
  refine lv_iload_n hx hb d_M_compare_3 rfl (lv_at hl 2 rfl) ?_
  refine lv_if_lt (tgt := 32) hx hb d_M_compare_4 (by decide) (fun cx => ?_) (fun cx => ?_)
  · have hf := ifp cx hf
    refine lv_iconst (v := 0) hx hb d_M_compare_32 (by decide) ?_
    obtain rfl := Option.some.inj hf
    exact q_ri hx hb hr hlocks hK hP hD hS d_M_compare_33
  · have hf := ifn cx hf
    refine lv_aload_n hx hb d_M_compare_7 rfl (lv_at hl 0 rfl) ?_
    refine lv_iload_n hx hb d_M_compare_8 rfl (lv_at hl 2 rfl) ?_
    obtain ⟨hg, hf⟩ := gdp hf
    refine va_iald hx hb hK hP 0 1 rfl rfl (inb_in hg) d_M_compare_9 ?_
    refine lv_topi (fun v1 ev => ?_)
    have hf := bn ev hf
    clear ev
    refine lv_aload_n hx hb d_M_compare_10 rfl (lv_at hl 1 rfl) ?_
    refine lv_iload_n hx hb d_M_compare_11 rfl (lv_at hl 2 rfl) ?_
    obtain ⟨hg, hf⟩ := gdp hf
    refine va_iald hx hb hK hP 0 1 rfl rfl (inb_in hg) d_M_compare_12 ?_
    refine lv_topi (fun v2 ev => ?_)
    have hf := bn ev hf
    clear ev
    refine lv_icmp_eq (tgt := 26) hx hb d_M_compare_13 (by decide) (fun cx => ?_) (fun cx => ?_)
    · have hf := ifp cx hf
      obtain ⟨v3, ev, hf⟩ := bne hf
      refine lv_iinc (v := v3) (lv' := [(2, .int v3), (0, .ref b0), (1, .ref b0)]) hx hb d_M_compare_26 hl (k := 2) rfl (by rw [ev]; rfl) (by decide) rfl (fun ls hl => ?_)
      clear ev
      refine lv_goto (tgt := 3) hx hb d_M_compare_29 (by decide) ?_
      exact hk_3 _ _ hf _ _ _ hP hD hS (lv_sub hl [1, 2, 0] rfl)
    · have hf := ifn cx hf
      refine lv_aload_n hx hb d_M_compare_16 rfl (lv_at hl 0 rfl) ?_
      refine lv_iload_n hx hb d_M_compare_17 rfl (lv_at hl 2 rfl) ?_
      obtain ⟨hg, hf⟩ := gdp hf
      refine va_iald hx hb hK hP 0 1 rfl rfl (inb_in hg) d_M_compare_18 ?_
      refine lv_topi (fun v4 ev => ?_)
      have hf := bn ev hf
      clear ev
      refine lv_aload_n hx hb d_M_compare_19 rfl (lv_at hl 1 rfl) ?_
      refine lv_iload_n hx hb d_M_compare_20 rfl (lv_at hl 2 rfl) ?_
      obtain ⟨hg, hf⟩ := gdp hf
      refine va_iald hx hb hK hP 0 1 rfl rfl (inb_in hg) d_M_compare_21 ?_
      refine lv_topi (fun v5 ev => ?_)
      have hf := bn ev hf
      clear ev
      obtain ⟨v6, hc, hf⟩ := bdp1 hf
      refine q_ai (wr := [(b0, .inl (cy 1, 8, .inl h0))]) (va_runS (As := [.int v4, .int v5]) (rest := []) ⟨hx, hb, hml, hown, hts⟩ (c_Ig_compareUnsigned l D cy ad fu v4 v5 _ hc H.size) ⟨q_cB hts gw_1407 gw_19 gw_1405 hdm_15 ⟨by decide, by decide⟩, hts _ gw_1406⟩ (q_pre (hP.sub [] rfl) (hD.sub [] (by decide) rfl) hK hSt hS (va_free hD hS hA [] rfl) _) rfl rfl hl.1 rfl (lv_room (Nat.le_of_ble_eq_true rfl)) d_M_compare_22 ⟨Nat.le_of_ble_eq_true rfl, Nat.le_of_ble_eq_true rfl⟩) hP hD hS hA [] [0] rfl rfl (by decide) (by decide) (fun H locs hP hD hS => ?_)
      clear hc
      have hP : va_P D classes [(b0, .inl (cy 1, 8, .inl h0))] H := hP
      have hD : va_D A [(b0, .inl (cy 1, 8, .inl h0))] := hD
      obtain rfl := Option.some.inj hf
      exact q_ri hx hb hr hlocks hK hP hD hS d_M_compare_25
theorem w_M_compare_e10_3 {p : Program} {l : Launch} {e : Env} {s : State} {m : MethodId} {args : Array Value} {below : List Frame} {meth : Method} {c : Code} {D : va_G} {cy : Nat → ClassId} {A : Nat → Prop} {ad : Nat → Nat} {b0 : Nat} {h0 : Nat → Int32} {fu : Nat} (F : Fx p s m args meth c b_M_compare 3 "CoinKeeperModel" "compare" (some .int) D cy ad A) : ∀ n : Nat, I_M_compare_e10_3 p l e s m args below meth c D cy A ad b0 h0 (x_M_compare_e10_3 fu h0 n)
  | 0 => fun _ _ hf => nomatch (show (none : Option (Int32)) = some _ from hf)
  | n + 1 => wb_M_compare_e10_3 F (w_M_compare_e10_3 F n)
set_option maxHeartbeats 8000000 in
set_option maxRecDepth 100000 in
theorem we_M_compare_e10 {p : Program} {l : Launch} {e : Env} {s : State} {m : MethodId} {args : Array Value} {below : List Frame} {meth : Method} {c : Code} {D : va_G} {cy : Nat → ClassId} {A : Nat → Prop} {ad : Nat → Nat} {b0 : Nat} {h0 : Nat → Int32} {fu : Nat} (F : Fx p s m args meth c b_M_compare 3 "CoinKeeperModel" "compare" (some .int) D cy ad A) : I_M_compare_e10_e p l e s m args below meth c D cy A ad b0 h0 (x_M_compare_e10 fu h0) := by
  obtain ⟨hx, hb, hr, hml, hown, hts, hlocks, hK, hA, hSt, hnm, hex⟩ := id F
  intro  res hf H locs ls hP hD hS hl
  unfold x_M_compare_e10 at hf
  refine lv_bipush (v := 7) hx hb d_M_compare_0 (by decide) ?_
  refine lv_istore_n (lv' := [(2, .int (7 : Int32)), (0, .ref b0), (1, .ref b0)]) hx hb d_M_compare_2 rfl hl (by decide) rfl (fun ls hl => ?_)
  exact w_M_compare_e10_3 F fu _ _ hf _ _ _ hP hD hS (lv_sub hl [1, 2, 0] rfl)
theorem c_M_compare_e10 (l : Launch) (D : va_G) (cy : Nat → ClassId) (ad : Nat → Nat) (fu : Nat) (b0 : Nat) (h0 : Nat → Int32) (res : Int32) (hf : x_M_compare_e10 fu h0 = some res) (sz : Nat) : Met l ({ cls := "CoinKeeperModel", name := "compare", desc := "([I[I)I" } : Jvm.MethodName) (.code ({ cls := "CoinKeeperModel", name := "compare", desc := "([I[I)I" } : Jvm.MethodName) b_M_compare 3 (some .int) :: gw) rm_M_compare_e10 (va_Pc [.ref b0, .ref b0] (Pr D cy ad [(b0, .inl (cy 1, 8, .inl h0))] sz)) (q_M_compare_e10 D cy (va_A [(b0, .inl (cy 1, 8, .inl h0))] sz) b0 h0 res) 0 0 (va_A [(b0, .inl (cy 1, 8, .inl h0))] sz) :=
  q_met (Qc := fun A => q_M_compare_e10 D cy A b0 h0 res) (by decide) rfl rfl (Nat.le_of_ble_eq_true rfl) (fun p e s m below meth c ls F hP hD hS hl => we_M_compare_e10 (fu := fu) F  res hf _ _ _ hP hD hS hl) sz
abbrev rm_M_copy_e10 : Room := { frames := 1, cells := 0, slots := 0, locals := 26 }
abbrev q_M_copy_e10 (D : va_G) (cy : Nat → ClassId) (A : Nat → Prop) (b0 : Nat) (res : (Nat → Int32)) : Array Value → State → Outcome → State → Prop := va_Qv (fun (_ : Unit) => True) (fun _ t => Po D cy A [(b0, .inl (cy 1, 8, .inl res))] t) A
def I_M_copy_e10_e (p : Program) (l : Launch) (e : Env) (s : State) (m : MethodId) (args : Array Value) (below : List Frame) (meth : Method) (c : Code) (D : va_G) (cy : Nat → ClassId) (A : Nat → Prop) (ad : Nat → Nat) (b0 : Nat) (k : (Nat → Int32) → Option ((Nat → Int32))) : Prop :=
  ∀ (u0 : Nat → Int32) (res : (Nat → Int32)), k u0 = some res → ∀ (H : Heap) (locs : List Loc) (ls : Array Slot), va_P D classes [(b0, .inl (cy 1, 8, .inl u0))] H → va_D A [(b0, .inl (cy 1, 8, .inl u0))] → va_S A s.heap H locs → lv_has ls 2 [(0, .ref b0), (1, .ref b0)] → W p l e rm_M_copy_e10 s m args below meth c H locs 0 0 (MQ below (q_M_copy_e10 D cy A b0 res) args s 0 0 A) (F0 m 0 ls [])
set_option maxHeartbeats 8000000 in
set_option maxRecDepth 100000 in
theorem we_M_copy_e10 {p : Program} {l : Launch} {e : Env} {s : State} {m : MethodId} {args : Array Value} {below : List Frame} {meth : Method} {c : Code} {D : va_G} {cy : Nat → ClassId} {A : Nat → Prop} {ad : Nat → Nat} {b0 : Nat} {fu : Nat} (F : Fx p s m args meth c b_M_copy 2 "CoinKeeperModel" "copy" none D cy ad A) : I_M_copy_e10_e p l e s m args below meth c D cy A ad b0 (x_M_copy_e10 fu) := by
  obtain ⟨hx, hb, hr, hml, hown, hts, hlocks, hK, hA, hSt, hnm, hex⟩ := id F
  intro u0 res hf H locs ls hP hD hS hl
  unfold x_M_copy_e10 at hf
  refine lv_aload_n hx hb d_M_copy_0 rfl (lv_at hl 1 rfl) ?_
  refine lv_iconst (v := 0) hx hb d_M_copy_1 (by decide) ?_
  refine lv_aload_n hx hb d_M_copy_2 rfl (lv_at hl 0 rfl) ?_
  refine lv_iconst (v := 0) hx hb d_M_copy_3 (by decide) ?_
  refine lv_bipush (v := 8) hx hb d_M_copy_4 (by decide) ?_
  obtain ⟨hg, hf⟩ := gdp hf
  refine va_copyi (rest := []) hx hb (hml.trans hl.1.symm) hown (hts _ gw_1398) (hts _ gw_497) (hts _ gw_496) (hts _ gw_17) hK hP hD hS 0 0 1 1 rfl rfl rfl rfl rfl (cpk_p hg).1 (cpk_p hg).2.1 (cpk_p hg).2.2.1 (cpk_p hg).2.2.2.1 (cpk_p hg).2.2.2.2 (fun _ _ => rfl) (by decide) (by decide) d_M_copy_6 (fun H locs hP hD hS => ?_)
  obtain ⟨f1, ev, hf⟩ := bne hf
  have hP : va_P D classes [(b0, .inl (cy 1, 8, .inl f1))] H := by rw [ev]; exact hP
  have hD : va_D A [(b0, .inl (cy 1, 8, .inl f1))] := by rw [ev]; exact hD
  clear ev
  obtain rfl := Option.some.inj hf
  exact q_rv hx hb hr hlocks hK hP hD hS d_M_copy_9
theorem c_M_copy_e10 (l : Launch) (D : va_G) (cy : Nat → ClassId) (ad : Nat → Nat) (fu : Nat) (b0 : Nat) (u0 : Nat → Int32) (res : (Nat → Int32)) (hf : x_M_copy_e10 fu u0 = some res) (sz : Nat) : Met l ({ cls := "CoinKeeperModel", name := "copy", desc := "([I[I)V" } : Jvm.MethodName) (.code ({ cls := "CoinKeeperModel", name := "copy", desc := "([I[I)V" } : Jvm.MethodName) b_M_copy 2 none :: gw) rm_M_copy_e10 (va_Pc [.ref b0, .ref b0] (Pr D cy ad [(b0, .inl (cy 1, 8, .inl u0))] sz)) (q_M_copy_e10 D cy (va_A [(b0, .inl (cy 1, 8, .inl u0))] sz) b0 res) 0 0 (va_A [(b0, .inl (cy 1, 8, .inl u0))] sz) :=
  q_met (Qc := fun A => q_M_copy_e10 D cy A b0 res) (by decide) rfl rfl (Nat.le_of_ble_eq_true rfl) (fun p e s m below meth c ls F hP hD hS hl => we_M_copy_e10 (fu := fu) F u0 res hf _ _ _ hP hD hS hl) sz
abbrev rm_M_sub_e21 : Room := { frames := 0, cells := 0, slots := 0, locals := 0 }
abbrev q_M_sub_e21 (D : va_G) (cy : Nat → ClassId) (A : Nat → Prop) (b0 : Nat) (b1 : Nat) (h1 : Nat → Int32) (res : Int32 × (Nat → Int32)) : Array Value → State → Outcome → State → Prop := va_Qi (fun r' (_ : Unit) => r' = res.1) (fun _ t => Po D cy A [(b0, .inl (cy 1, 8, .inl res.2)), (b1, .inl (cy 1, 8, .inl h1))] t) A
def I_M_sub_e21_5 (p : Program) (l : Launch) (e : Env) (s : State) (m : MethodId) (args : Array Value) (below : List Frame) (meth : Method) (c : Code) (D : va_G) (cy : Nat → ClassId) (A : Nat → Prop) (ad : Nat → Nat) (b0 : Nat) (b1 : Nat) (h1 : Nat → Int32) (k : Int64 → Int32 → (Nat → Int32) → Option (Int32 × (Nat → Int32))) : Prop :=
  ∀ (x3 : Int64) (x5 : Int32) (u0 : Nat → Int32) (res : Int32 × (Nat → Int32)), k x3 x5 u0 = some res → ∀ (H : Heap) (locs : List Loc) (ls : Array Slot), va_P D classes [(b0, .inl (cy 1, 8, .inl u0)), (b1, .inl (cy 1, 8, .inl h1))] H → va_D A [(b0, .inl (cy 1, 8, .inl u0)), (b1, .inl (cy 1, 8, .inl h1))] → va_S A s.heap H locs → lv_has ls 6 [(0, .ref b0), (1, .ref b1), (2, .ref b1), (3, .long x3), (5, .int x5)] → W p l e rm_M_sub_e21 s m args below meth c H locs 0 0 (MQ below (q_M_sub_e21 D cy A b0 b1 h1 res) args s 0 0 A) (F0 m 5 ls [])
def I_M_sub_e21_e (p : Program) (l : Launch) (e : Env) (s : State) (m : MethodId) (args : Array Value) (below : List Frame) (meth : Method) (c : Code) (D : va_G) (cy : Nat → ClassId) (A : Nat → Prop) (ad : Nat → Nat) (b0 : Nat) (b1 : Nat) (h1 : Nat → Int32) (k : (Nat → Int32) → Option (Int32 × (Nat → Int32))) : Prop :=
  ∀ (u0 : Nat → Int32) (res : Int32 × (Nat → Int32)), k u0 = some res → ∀ (H : Heap) (locs : List Loc) (ls : Array Slot), va_P D classes [(b0, .inl (cy 1, 8, .inl u0)), (b1, .inl (cy 1, 8, .inl h1))] H → va_D A [(b0, .inl (cy 1, 8, .inl u0)), (b1, .inl (cy 1, 8, .inl h1))] → va_S A s.heap H locs → lv_has ls 6 [(0, .ref b0), (1, .ref b1), (2, .ref b1)] → W p l e rm_M_sub_e21 s m args below meth c H locs 0 0 (MQ below (q_M_sub_e21 D cy A b0 b1 h1 res) args s 0 0 A) (F0 m 0 ls [])
set_option maxHeartbeats 8000000 in
set_option maxRecDepth 100000 in
theorem wb_M_sub_e21_5 {p : Program} {l : Launch} {e : Env} {s : State} {m : MethodId} {args : Array Value} {below : List Frame} {meth : Method} {c : Code} {D : va_G} {cy : Nat → ClassId} {A : Nat → Prop} {ad : Nat → Nat} {b0 : Nat} {b1 : Nat} {h1 : Nat → Int32} {fu : Nat} {k_5 : Int64 → Int32 → (Nat → Int32) → Option (Int32 × (Nat → Int32))} (F : Fx p s m args meth c b_M_sub 6 "CoinKeeperModel" "sub" (some .int) D cy ad A) (hk_5 : I_M_sub_e21_5 p l e s m args below meth c D cy A ad b0 b1 h1 k_5) : I_M_sub_e21_5 p l e s m args below meth c D cy A ad b0 b1 h1 (xb_M_sub_e21_5 fu h1 k_5) := by
  obtain ⟨hx, hb, hr, hml, hown, hts, hlocks, hK, hA, hSt, hnm, hex⟩ := id F
  intro x3 x5 u0 res hf H locs ls hP hD hS hl
  unfold xb_M_sub_e21_5 at hf
  refine lv_iload hx hb d_M_sub_5 (lv_at hl 4 rfl) ?_
  refine lv_bipush (v := 8) hx hb d_M_sub_7 (by decide) ?_
  refine lv_icmp_ge (tgt := 51) hx hb d_M_sub_9 (by decide) (fun cx => ?_) (fun cx => ?_)
  · have hf := ifp cx hf
    refine lv_lload_n hx hb d_M_sub_51 rfl (lv_at hl 3 rfl) ?_
    refine lv_l2i hx hb d_M_sub_52 rfl ?_
    refine lv_topi (fun v1 ev => ?_)
    have hf := bn ev hf
    clear ev
    obtain rfl := Option.some.inj hf
    exact q_ri hx hb hr hlocks hK hP hD hS d_M_sub_53
  · have hf := ifn cx hf
    refine lv_aload_n hx hb d_M_sub_12 rfl (lv_at hl 1 rfl) ?_
    refine lv_iload hx hb d_M_sub_13 (lv_at hl 4 rfl) ?_
    obtain ⟨hg, hf⟩ := gdp hf
    refine va_iald hx hb hK hP 1 1 rfl rfl (inb_in hg) d_M_sub_15 ?_
    refine lv_topi (fun v2 ev => ?_)
    have hf := bn ev hf
    clear ev
    refine lv_i2l hx hb d_M_sub_16 rfl ?_
    refine lv_topl (fun v3 ev => ?_)
    have hf := bn ev hf
    clear ev
    refine lv_ldc2 (v := 4294967295) hx hb hown (hts _ gw_1390) d_M_sub_17 ?_
    refine lv_land hx hb d_M_sub_20 ?_
    refine lv_topl (fun v4 ev => ?_)
    have hf := bn ev hf
    clear ev
    refine lv_aload_n hx hb d_M_sub_21 rfl (lv_at hl 2 rfl) ?_
    refine lv_iload hx hb d_M_sub_22 (lv_at hl 4 rfl) ?_
    obtain ⟨hg, hf⟩ := gdp hf
    refine va_iald hx hb hK hP 1 1 rfl rfl (inb_in hg) d_M_sub_24 ?_
    refine lv_topi (fun v5 ev => ?_)
    have hf := bn ev hf
    clear ev
    refine lv_i2l hx hb d_M_sub_25 rfl ?_
    refine lv_topl (fun v6 ev => ?_)
    have hf := bn ev hf
    clear ev
    refine lv_ldc2 (v := 4294967295) hx hb hown (hts _ gw_1390) d_M_sub_26 ?_
    refine lv_land hx hb d_M_sub_29 ?_
    refine lv_lsub hx hb d_M_sub_30 ?_
    refine lv_topl (fun v7 ev => ?_)
    have hf := bn ev hf
    clear ev
    refine lv_lload_n hx hb d_M_sub_31 rfl (lv_at hl 3 rfl) ?_
    refine lv_ladd hx hb d_M_sub_32 ?_
    refine lv_topl (fun v8 ev => ?_)
    have hf := bn ev hf
    clear ev
    refine lv_lstore_n (lv' := [(3, .long v8), (0, .ref b0), (1, .ref b1), (2, .ref b1), (5, .int x5)]) hx hb d_M_sub_33 rfl hl (by decide) rfl (fun ls hl => ?_)
    refine lv_aload_n hx hb d_M_sub_34 rfl (lv_at hl 1 rfl) ?_
    refine lv_iload hx hb d_M_sub_35 (lv_at hl 4 rfl) ?_
    refine lv_lload_n hx hb d_M_sub_37 rfl (lv_at hl 0 rfl) ?_
    refine lv_l2i hx hb d_M_sub_38 rfl ?_
    refine lv_topi (fun v9 ev => ?_)
    have hf := bn ev hf
    clear ev
    obtain ⟨hg, hf⟩ := gdp hf
    refine va_iast hx hb hK hP hD hS 0 1 rfl rfl (inb_in hg) d_M_sub_39 (fun H locs hP hD hS => ?_)
    obtain ⟨f10, ev, hf⟩ := bne hf
    have hP : va_P D classes [(b0, .inl (cy 1, 8, .inl f10)), (b1, .inl (cy 1, 8, .inl h1))] H := by rw [ev]; exact hP
    have hD : va_D A [(b0, .inl (cy 1, 8, .inl f10)), (b1, .inl (cy 1, 8, .inl h1))] := by rw [ev]; exact hD
    clear ev
    refine lv_lload_n hx hb d_M_sub_40 rfl (lv_at hl 0 rfl) ?_
    refine lv_bipush (v := 32) hx hb d_M_sub_41 (by decide) ?_
    refine lv_lshr hx hb d_M_sub_43 rfl ?_
    refine lv_topl (fun v11 ev => ?_)
    have hf := bn ev hf
    clear ev
    refine lv_lstore_n (lv' := [(3, .long v11), (0, .ref b0), (1, .ref b1), (2, .ref b1), (5, .int x5)]) hx hb d_M_sub_44 rfl hl (by decide) rfl (fun ls hl => ?_)
    obtain ⟨v12, ev, hf⟩ := bne hf
    refine lv_iinc (v := v12) (lv' := [(5, .int v12), (3, .long v11), (0, .ref b0), (1, .ref b1), (2, .ref b1)]) hx hb d_M_sub_45 hl (k := 4) rfl (by rw [ev]; rfl) (by decide) rfl (fun ls hl => ?_)
    clear ev
    refine lv_goto (tgt := 5) hx hb d_M_sub_48 (by decide) ?_
    exact hk_5 _ _ _ _ hf _ _ _ hP hD hS (lv_sub hl [2, 3, 4, 1, 0] rfl)
theorem w_M_sub_e21_5 {p : Program} {l : Launch} {e : Env} {s : State} {m : MethodId} {args : Array Value} {below : List Frame} {meth : Method} {c : Code} {D : va_G} {cy : Nat → ClassId} {A : Nat → Prop} {ad : Nat → Nat} {b0 : Nat} {b1 : Nat} {h1 : Nat → Int32} {fu : Nat} (F : Fx p s m args meth c b_M_sub 6 "CoinKeeperModel" "sub" (some .int) D cy ad A) : ∀ n : Nat, I_M_sub_e21_5 p l e s m args below meth c D cy A ad b0 b1 h1 (x_M_sub_e21_5 fu h1 n)
  | 0 => fun _ _ _ _ hf => nomatch (show (none : Option (Int32 × (Nat → Int32))) = some _ from hf)
  | n + 1 => wb_M_sub_e21_5 F (w_M_sub_e21_5 F n)
set_option maxHeartbeats 8000000 in
set_option maxRecDepth 100000 in
theorem we_M_sub_e21 {p : Program} {l : Launch} {e : Env} {s : State} {m : MethodId} {args : Array Value} {below : List Frame} {meth : Method} {c : Code} {D : va_G} {cy : Nat → ClassId} {A : Nat → Prop} {ad : Nat → Nat} {b0 : Nat} {b1 : Nat} {h1 : Nat → Int32} {fu : Nat} (F : Fx p s m args meth c b_M_sub 6 "CoinKeeperModel" "sub" (some .int) D cy ad A) : I_M_sub_e21_e p l e s m args below meth c D cy A ad b0 b1 h1 (x_M_sub_e21 fu h1) := by
  obtain ⟨hx, hb, hr, hml, hown, hts, hlocks, hK, hA, hSt, hnm, hex⟩ := id F
  intro u0 res hf H locs ls hP hD hS hl
  unfold x_M_sub_e21 at hf
  refine lv_lconst (v := 0) hx hb d_M_sub_0 (by decide) ?_
  refine lv_lstore_n (lv' := [(3, .long (0 : Int64)), (0, .ref b0), (1, .ref b1), (2, .ref b1)]) hx hb d_M_sub_1 rfl hl (by decide) rfl (fun ls hl => ?_)
  refine lv_iconst (v := 0) hx hb d_M_sub_2 (by decide) ?_
  refine lv_istore (lv' := [(5, .int (0 : Int32)), (3, .long (0 : Int64)), (0, .ref b0), (1, .ref b1), (2, .ref b1)]) hx hb d_M_sub_3 hl (by decide) rfl (fun ls hl => ?_)
  exact w_M_sub_e21_5 F fu _ _ _ _ hf _ _ _ hP hD hS (lv_sub hl [2, 3, 4, 1, 0] rfl)
theorem c_M_sub_e21 (l : Launch) (D : va_G) (cy : Nat → ClassId) (ad : Nat → Nat) (fu : Nat) (b0 : Nat) (b1 : Nat) (h1 : Nat → Int32) (u0 : Nat → Int32) (res : Int32 × (Nat → Int32)) (hf : x_M_sub_e21 fu h1 u0 = some res) (sz : Nat) : Met l ({ cls := "CoinKeeperModel", name := "sub", desc := "([I[I[I)I" } : Jvm.MethodName) (.code ({ cls := "CoinKeeperModel", name := "sub", desc := "([I[I[I)I" } : Jvm.MethodName) b_M_sub 6 (some .int) :: gw) rm_M_sub_e21 (va_Pc [.ref b0, .ref b1, .ref b1] (Pr D cy ad [(b0, .inl (cy 1, 8, .inl u0)), (b1, .inl (cy 1, 8, .inl h1))] sz)) (q_M_sub_e21 D cy (va_A [(b0, .inl (cy 1, 8, .inl u0)), (b1, .inl (cy 1, 8, .inl h1))] sz) b0 b1 h1 res) 0 0 (va_A [(b0, .inl (cy 1, 8, .inl u0)), (b1, .inl (cy 1, 8, .inl h1))] sz) :=
  q_met (Qc := fun A => q_M_sub_e21 D cy A b0 b1 h1 res) (by decide) rfl rfl (Nat.le_of_ble_eq_true rfl) (fun p e s m below meth c ls F hP hD hS hl => we_M_sub_e21 (fu := fu) F u0 res hf _ _ _ hP hD hS hl) sz
abbrev rm_M_minus_e21 : Room := { frames := 1, cells := 0, slots := 0, locals := 25 }
abbrev q_M_minus_e21 (D : va_G) (cy : Nat → ClassId) (A : Nat → Prop) (b0 : Nat) (b1 : Nat) (h1 : Nat → Int32) (res : (Nat → Int32)) : Array Value → State → Outcome → State → Prop := va_Qv (fun (_ : Unit) => True) (fun _ t => Po D cy A [(b0, .inl (cy 1, 8, .inl res)), (b1, .inl (cy 1, 8, .inl h1))] t) A
def I_M_minus_e21_e (p : Program) (l : Launch) (e : Env) (s : State) (m : MethodId) (args : Array Value) (below : List Frame) (meth : Method) (c : Code) (D : va_G) (cy : Nat → ClassId) (A : Nat → Prop) (ad : Nat → Nat) (b0 : Nat) (b1 : Nat) (h1 : Nat → Int32) (k : (Nat → Int32) → Option ((Nat → Int32))) : Prop :=
  ∀ (u0 : Nat → Int32) (res : (Nat → Int32)), k u0 = some res → ∀ (H : Heap) (locs : List Loc) (ls : Array Slot), va_P D classes [(b0, .inl (cy 1, 8, .inl u0)), (b1, .inl (cy 1, 8, .inl h1))] H → va_D A [(b0, .inl (cy 1, 8, .inl u0)), (b1, .inl (cy 1, 8, .inl h1))] → va_S A s.heap H locs → lv_has ls 3 [(0, .ref b0), (1, .ref b1), (2, .ref b1)] → W p l e rm_M_minus_e21 s m args below meth c H locs 0 0 (MQ below (q_M_minus_e21 D cy A b0 b1 h1 res) args s 0 0 A) (F0 m 0 ls [])
set_option maxHeartbeats 8000000 in
set_option maxRecDepth 100000 in
theorem we_M_minus_e21 {p : Program} {l : Launch} {e : Env} {s : State} {m : MethodId} {args : Array Value} {below : List Frame} {meth : Method} {c : Code} {D : va_G} {cy : Nat → ClassId} {A : Nat → Prop} {ad : Nat → Nat} {b0 : Nat} {b1 : Nat} {h1 : Nat → Int32} {fu : Nat} (F : Fx p s m args meth c b_M_minus 3 "CoinKeeperModel" "minus" none D cy ad A) : I_M_minus_e21_e p l e s m args below meth c D cy A ad b0 b1 h1 (x_M_minus_e21 fu h1) := by
  obtain ⟨hx, hb, hr, hml, hown, hts, hlocks, hK, hA, hSt, hnm, hex⟩ := id F
  intro u0 res hf H locs ls hP hD hS hl
  unfold x_M_minus_e21 at hf
  refine lv_aload_n hx hb d_M_minus_0 rfl (lv_at hl 0 rfl) ?_
  refine lv_aload_n hx hb d_M_minus_1 rfl (lv_at hl 1 rfl) ?_
  refine lv_aload_n hx hb d_M_minus_2 rfl (lv_at hl 2 rfl) ?_
  obtain ⟨v1, f2, hc, hf⟩ := bdp2 hf
  refine q_ai (wr := []) (va_runS (As := [.ref b0, .ref b1, .ref b1]) (rest := []) ⟨hx, hb, hml, hown, hts⟩ (c_M_sub_e21 l D cy ad fu b0 b1 h1 u0 _ hc H.size) ⟨q_cB hts gw_1414 gw_18 gw_1412 hdm_17 ⟨by decide, by decide⟩, hts _ gw_1413⟩ (q_pre (hP.sub [0, 1] rfl) (hD.sub [0, 1] (by decide) rfl) hK hSt hS (va_free hD hS hA [0, 1] rfl) _) rfl rfl hl.1 rfl (lv_room (Nat.le_of_ble_eq_true rfl)) d_M_minus_3 ⟨Nat.le_of_ble_eq_true rfl, Nat.le_of_ble_eq_true rfl⟩) hP hD hS hA [0, 1] [] rfl rfl (by decide) (by decide) (fun H locs hP hD hS => ?_)
  clear hc
  have hP : va_P D classes [(b0, .inl (cy 1, 8, .inl f2)), (b1, .inl (cy 1, 8, .inl h1))] H := hP
  have hD : va_D A [(b0, .inl (cy 1, 8, .inl f2)), (b1, .inl (cy 1, 8, .inl h1))] := hD
  refine lv_if_eq (tgt := 18) hx hb d_M_minus_6 (by decide) (fun cx => ?_) (fun cx => ?_)
  · have hf := ifp cx hf
    obtain rfl := Option.some.inj hf
    exact q_rv hx hb hr hlocks hK hP hD hS d_M_minus_18
  · have hf := ifn cx hf
    refine lv_aload_n hx hb d_M_minus_9 rfl (lv_at hl 0 rfl) ?_
    refine lv_aload_n hx hb d_M_minus_10 rfl (lv_at hl 0 rfl) ?_
    refine va_gets hx hb (hSt.1 22 _ rfl).1 hS hown (hts _ gw_1974) (fun _ h9 => h9) d_M_minus_11 ?_
    obtain ⟨v3, f4, hc, hf⟩ := bdp2 hf
    refine q_ai (wr := [(b1, .inl (cy 1, 8, .inl h1))]) (va_runS (As := [.ref b0, .ref b0, .ref (ad 22)]) (rest := []) ⟨hx, hb, hml, hown, hts⟩ (c_M_add_e10s2x22 l D cy ad fu b0 f2 _ hc H.size) ⟨q_cB hts gw_1389 gw_18 gw_1387 hdm_19 ⟨by decide, by decide⟩, hts _ gw_1388⟩ (q_pre (hP.sub [0] rfl) (hD.sub [0] (by decide) rfl) hK hSt hS (va_free hD hS hA [0] rfl) _) rfl rfl hl.1 rfl (lv_room (Nat.le_of_ble_eq_true rfl)) d_M_minus_14 ⟨Nat.le_of_ble_eq_true rfl, Nat.le_of_ble_eq_true rfl⟩) hP hD hS hA [0] [1] rfl rfl (by decide) (by decide) (fun H locs hP hD hS => ?_)
    clear hc
    have hP : va_P D classes [(b1, .inl (cy 1, 8, .inl h1)), (b0, .inl (cy 1, 8, .inl f4))] H := hP
    have hD : va_D A [(b1, .inl (cy 1, 8, .inl h1)), (b0, .inl (cy 1, 8, .inl f4))] := hD
    refine lv_pop hx hb d_M_minus_17 rfl ?_
    obtain rfl := Option.some.inj hf
    exact q_rv hx hb hr hlocks hK (hP.sub [1, 0] rfl) (hD.sub [1, 0] (by decide) rfl) hS d_M_minus_18
theorem c_M_minus_e21 (l : Launch) (D : va_G) (cy : Nat → ClassId) (ad : Nat → Nat) (fu : Nat) (b0 : Nat) (b1 : Nat) (h1 : Nat → Int32) (u0 : Nat → Int32) (res : (Nat → Int32)) (hf : x_M_minus_e21 fu h1 u0 = some res) (sz : Nat) : Met l ({ cls := "CoinKeeperModel", name := "minus", desc := "([I[I[I)V" } : Jvm.MethodName) (.code ({ cls := "CoinKeeperModel", name := "minus", desc := "([I[I[I)V" } : Jvm.MethodName) b_M_minus 3 none :: gw) rm_M_minus_e21 (va_Pc [.ref b0, .ref b1, .ref b1] (Pr D cy ad [(b0, .inl (cy 1, 8, .inl u0)), (b1, .inl (cy 1, 8, .inl h1))] sz)) (q_M_minus_e21 D cy (va_A [(b0, .inl (cy 1, 8, .inl u0)), (b1, .inl (cy 1, 8, .inl h1))] sz) b0 b1 h1 res) 0 0 (va_A [(b0, .inl (cy 1, 8, .inl u0)), (b1, .inl (cy 1, 8, .inl h1))] sz) :=
  q_met (Qc := fun A => q_M_minus_e21 D cy A b0 b1 h1 res) (by decide) rfl rfl (Nat.le_of_ble_eq_true rfl) (fun p e s m below meth c ls F hP hD hS hl => we_M_minus_e21 (fu := fu) F u0 res hf _ _ _ hP hD hS hl) sz
