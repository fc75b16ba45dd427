abbrev b_Ma_arrange : ByteArray := prog_7_method_19_code
theorem d_Ma_arrange_0 : decode b_Ma_arrange 0 = .ok (.aload_n 0, 1) := by decide +kernel
theorem d_Ma_arrange_1 : decode b_Ma_arrange 1 = .ok (.getfield 73, 3) := by decide +kernel
theorem d_Ma_arrange_4 : decode b_Ma_arrange 4 = .ok (.iload_n 1, 1) := by decide +kernel
theorem d_Ma_arrange_5 : decode b_Ma_arrange 5 = .ok (.invokestatic 157, 3) := by decide +kernel
theorem d_Ma_arrange_8 : decode b_Ma_arrange 8 = .ok (.if_icmp .ge 5, 3) := by decide +kernel
theorem d_Ma_arrange_11 : decode b_Ma_arrange 11 = .ok (.iconst 0, 1) := by decide +kernel
theorem d_Ma_arrange_12 : decode b_Ma_arrange 12 = .ok (.ireturn, 1) := by decide +kernel
theorem d_Ma_arrange_13 : decode b_Ma_arrange 13 = .ok (.aload_n 0, 1) := by decide +kernel
theorem d_Ma_arrange_14 : decode b_Ma_arrange 14 = .ok (.getfield 73, 3) := by decide +kernel
theorem d_Ma_arrange_17 : decode b_Ma_arrange 17 = .ok (.ifCond .le 17, 3) := by decide +kernel
theorem d_Ma_arrange_20 : decode b_Ma_arrange 20 = .ok (.aload_n 0, 1) := by decide +kernel
theorem d_Ma_arrange_21 : decode b_Ma_arrange 21 = .ok (.getfield 26, 3) := by decide +kernel
theorem d_Ma_arrange_24 : decode b_Ma_arrange 24 = .ok (.aload_n 0, 1) := by decide +kernel
theorem d_Ma_arrange_25 : decode b_Ma_arrange 25 = .ok (.getfield 73, 3) := by decide +kernel
theorem d_Ma_arrange_28 : decode b_Ma_arrange 28 = .ok (.iconst 1, 1) := by decide +kernel
theorem d_Ma_arrange_29 : decode b_Ma_arrange 29 = .ok (.isub, 1) := by decide +kernel
theorem d_Ma_arrange_30 : decode b_Ma_arrange 30 = .ok (.iaload, 1) := by decide +kernel
theorem d_Ma_arrange_31 : decode b_Ma_arrange 31 = .ok (.goto 4, 3) := by decide +kernel
theorem d_Ma_arrange_34 : decode b_Ma_arrange 34 = .ok (.iconst 0, 1) := by decide +kernel
theorem d_Ma_arrange_35 : decode b_Ma_arrange 35 = .ok (.istore_n 2, 1) := by decide +kernel
theorem d_Ma_arrange_36 : decode b_Ma_arrange 36 = .ok (.aload_n 0, 1) := by decide +kernel
theorem d_Ma_arrange_37 : decode b_Ma_arrange 37 = .ok (.getfield 73, 3) := by decide +kernel
theorem d_Ma_arrange_40 : decode b_Ma_arrange 40 = .ok (.iconst 1, 1) := by decide +kernel
theorem d_Ma_arrange_41 : decode b_Ma_arrange 41 = .ok (.if_icmp .le 17, 3) := by decide +kernel
theorem d_Ma_arrange_44 : decode b_Ma_arrange 44 = .ok (.aload_n 0, 1) := by decide +kernel
theorem d_Ma_arrange_45 : decode b_Ma_arrange 45 = .ok (.getfield 26, 3) := by decide +kernel
theorem d_Ma_arrange_48 : decode b_Ma_arrange 48 = .ok (.aload_n 0, 1) := by decide +kernel
theorem d_Ma_arrange_49 : decode b_Ma_arrange 49 = .ok (.getfield 73, 3) := by decide +kernel
theorem d_Ma_arrange_52 : decode b_Ma_arrange 52 = .ok (.iconst 2, 1) := by decide +kernel
theorem d_Ma_arrange_53 : decode b_Ma_arrange 53 = .ok (.isub, 1) := by decide +kernel
theorem d_Ma_arrange_54 : decode b_Ma_arrange 54 = .ok (.iaload, 1) := by decide +kernel
theorem d_Ma_arrange_55 : decode b_Ma_arrange 55 = .ok (.goto 4, 3) := by decide +kernel
theorem d_Ma_arrange_58 : decode b_Ma_arrange 58 = .ok (.iconst 0, 1) := by decide +kernel
theorem d_Ma_arrange_59 : decode b_Ma_arrange 59 = .ok (.istore_n 3, 1) := by decide +kernel
theorem d_Ma_arrange_60 : decode b_Ma_arrange 60 = .ok (.iload_n 1, 1) := by decide +kernel
theorem d_Ma_arrange_61 : decode b_Ma_arrange 61 = .ok (.tableswitch 305 109 130 #[103, 115, 305, 305, 305, 305, 127, 142, 153, 165, 172, 196, 203, 203, 209, 257, 257, 305, 305, 305, 305, 294], 103) := by decide +kernel
theorem d_Ma_arrange_164 : decode b_Ma_arrange 164 = .ok (.aload_n 0, 1) := by decide +kernel
theorem d_Ma_arrange_165 : decode b_Ma_arrange 165 = .ok (.dup, 1) := by decide +kernel
theorem d_Ma_arrange_166 : decode b_Ma_arrange 166 = .ok (.getfield 73, 3) := by decide +kernel
theorem d_Ma_arrange_169 : decode b_Ma_arrange 169 = .ok (.iconst 2, 1) := by decide +kernel
theorem d_Ma_arrange_170 : decode b_Ma_arrange 170 = .ok (.isub, 1) := by decide +kernel
theorem d_Ma_arrange_171 : decode b_Ma_arrange 171 = .ok (.putfield 73, 3) := by decide +kernel
theorem d_Ma_arrange_174 : decode b_Ma_arrange 174 = .ok (.iconst 1, 1) := by decide +kernel
theorem d_Ma_arrange_175 : decode b_Ma_arrange 175 = .ok (.ireturn, 1) := by decide +kernel
theorem d_Ma_arrange_176 : decode b_Ma_arrange 176 = .ok (.aload_n 0, 1) := by decide +kernel
theorem d_Ma_arrange_177 : decode b_Ma_arrange 177 = .ok (.iload_n 3, 1) := by decide +kernel
theorem d_Ma_arrange_178 : decode b_Ma_arrange 178 = .ok (.invokevirtual 95, 3) := by decide +kernel
theorem d_Ma_arrange_181 : decode b_Ma_arrange 181 = .ok (.aload_n 0, 1) := by decide +kernel
theorem d_Ma_arrange_182 : decode b_Ma_arrange 182 = .ok (.iload_n 2, 1) := by decide +kernel
theorem d_Ma_arrange_183 : decode b_Ma_arrange 183 = .ok (.invokevirtual 95, 3) := by decide +kernel
theorem d_Ma_arrange_186 : decode b_Ma_arrange 186 = .ok (.iconst 1, 1) := by decide +kernel
theorem d_Ma_arrange_187 : decode b_Ma_arrange 187 = .ok (.ireturn, 1) := by decide +kernel
theorem d_Ma_arrange_188 : decode b_Ma_arrange 188 = .ok (.aload_n 0, 1) := by decide +kernel
theorem d_Ma_arrange_189 : decode b_Ma_arrange 189 = .ok (.iload_n 2, 1) := by decide +kernel
theorem d_Ma_arrange_190 : decode b_Ma_arrange 190 = .ok (.invokevirtual 79, 3) := by decide +kernel
theorem d_Ma_arrange_193 : decode b_Ma_arrange 193 = .ok (.ifCond .eq 8, 3) := by decide +kernel
theorem d_Ma_arrange_196 : decode b_Ma_arrange 196 = .ok (.aload_n 0, 1) := by decide +kernel
theorem d_Ma_arrange_197 : decode b_Ma_arrange 197 = .ok (.iload_n 2, 1) := by decide +kernel
theorem d_Ma_arrange_198 : decode b_Ma_arrange 198 = .ok (.invokevirtual 95, 3) := by decide +kernel
theorem d_Ma_arrange_201 : decode b_Ma_arrange 201 = .ok (.iconst 1, 1) := by decide +kernel
theorem d_Ma_arrange_202 : decode b_Ma_arrange 202 = .ok (.ireturn, 1) := by decide +kernel
theorem d_Ma_arrange_203 : decode b_Ma_arrange 203 = .ok (.aload_n 0, 1) := by decide +kernel
theorem d_Ma_arrange_204 : decode b_Ma_arrange 204 = .ok (.aload_n 0, 1) := by decide +kernel
theorem d_Ma_arrange_205 : decode b_Ma_arrange 205 = .ok (.getfield 73, 3) := by decide +kernel
theorem d_Ma_arrange_208 : decode b_Ma_arrange 208 = .ok (.i2l, 1) := by decide +kernel
theorem d_Ma_arrange_209 : decode b_Ma_arrange 209 = .ok (.invokevirtual 160, 3) := by decide +kernel
theorem d_Ma_arrange_212 : decode b_Ma_arrange 212 = .ok (.iconst 1, 1) := by decide +kernel
theorem d_Ma_arrange_213 : decode b_Ma_arrange 213 = .ok (.ireturn, 1) := by decide +kernel
theorem d_Ma_arrange_214 : decode b_Ma_arrange 214 = .ok (.aload_n 0, 1) := by decide +kernel
theorem d_Ma_arrange_215 : decode b_Ma_arrange 215 = .ok (.dup, 1) := by decide +kernel
theorem d_Ma_arrange_216 : decode b_Ma_arrange 216 = .ok (.getfield 73, 3) := by decide +kernel
theorem d_Ma_arrange_219 : decode b_Ma_arrange 219 = .ok (.iconst 1, 1) := by decide +kernel
theorem d_Ma_arrange_220 : decode b_Ma_arrange 220 = .ok (.isub, 1) := by decide +kernel
theorem d_Ma_arrange_221 : decode b_Ma_arrange 221 = .ok (.putfield 73, 3) := by decide +kernel
theorem d_Ma_arrange_224 : decode b_Ma_arrange 224 = .ok (.iconst 1, 1) := by decide +kernel
theorem d_Ma_arrange_225 : decode b_Ma_arrange 225 = .ok (.ireturn, 1) := by decide +kernel
theorem d_Ma_arrange_226 : decode b_Ma_arrange 226 = .ok (.aload_n 0, 1) := by decide +kernel
theorem d_Ma_arrange_227 : decode b_Ma_arrange 227 = .ok (.iload_n 2, 1) := by decide +kernel
theorem d_Ma_arrange_228 : decode b_Ma_arrange 228 = .ok (.invokevirtual 95, 3) := by decide +kernel
theorem d_Ma_arrange_231 : decode b_Ma_arrange 231 = .ok (.iconst 1, 1) := by decide +kernel
theorem d_Ma_arrange_232 : decode b_Ma_arrange 232 = .ok (.ireturn, 1) := by decide +kernel
theorem d_Ma_arrange_233 : decode b_Ma_arrange 233 = .ok (.aload_n 0, 1) := by decide +kernel
theorem d_Ma_arrange_234 : decode b_Ma_arrange 234 = .ok (.dup, 1) := by decide +kernel
theorem d_Ma_arrange_235 : decode b_Ma_arrange 235 = .ok (.getfield 73, 3) := by decide +kernel
theorem d_Ma_arrange_238 : decode b_Ma_arrange 238 = .ok (.iconst 1, 1) := by decide +kernel
theorem d_Ma_arrange_239 : decode b_Ma_arrange 239 = .ok (.isub, 1) := by decide +kernel
theorem d_Ma_arrange_240 : decode b_Ma_arrange 240 = .ok (.putfield 73, 3) := by decide +kernel
theorem d_Ma_arrange_243 : decode b_Ma_arrange 243 = .ok (.aload_n 0, 1) := by decide +kernel
theorem d_Ma_arrange_244 : decode b_Ma_arrange 244 = .ok (.getfield 26, 3) := by decide +kernel
theorem d_Ma_arrange_247 : decode b_Ma_arrange 247 = .ok (.aload_n 0, 1) := by decide +kernel
theorem d_Ma_arrange_248 : decode b_Ma_arrange 248 = .ok (.getfield 73, 3) := by decide +kernel
theorem d_Ma_arrange_251 : decode b_Ma_arrange 251 = .ok (.iconst 1, 1) := by decide +kernel
theorem d_Ma_arrange_252 : decode b_Ma_arrange 252 = .ok (.isub, 1) := by decide +kernel
theorem d_Ma_arrange_253 : decode b_Ma_arrange 253 = .ok (.iload_n 2, 1) := by decide +kernel
theorem d_Ma_arrange_254 : decode b_Ma_arrange 254 = .ok (.iastore, 1) := by decide +kernel
theorem d_Ma_arrange_255 : decode b_Ma_arrange 255 = .ok (.iconst 1, 1) := by decide +kernel
theorem d_Ma_arrange_256 : decode b_Ma_arrange 256 = .ok (.ireturn, 1) := by decide +kernel
theorem d_Ma_arrange_257 : decode b_Ma_arrange 257 = .ok (.aload_n 0, 1) := by decide +kernel
theorem d_Ma_arrange_258 : decode b_Ma_arrange 258 = .ok (.iload_n 3, 1) := by decide +kernel
theorem d_Ma_arrange_259 : decode b_Ma_arrange 259 = .ok (.invokevirtual 95, 3) := by decide +kernel
theorem d_Ma_arrange_262 : decode b_Ma_arrange 262 = .ok (.iconst 1, 1) := by decide +kernel
theorem d_Ma_arrange_263 : decode b_Ma_arrange 263 = .ok (.ireturn, 1) := by decide +kernel
theorem d_Ma_arrange_264 : decode b_Ma_arrange 264 = .ok (.aload_n 0, 1) := by decide +kernel
theorem d_Ma_arrange_265 : decode b_Ma_arrange 265 = .ok (.iload_n 1, 1) := by decide +kernel
theorem d_Ma_arrange_266 : decode b_Ma_arrange 266 = .ok (.invokevirtual 164, 3) := by decide +kernel
theorem d_Ma_arrange_269 : decode b_Ma_arrange 269 = .ok (.ireturn, 1) := by decide +kernel
theorem d_Ma_arrange_270 : decode b_Ma_arrange 270 = .ok (.aload_n 0, 1) := by decide +kernel
theorem d_Ma_arrange_271 : decode b_Ma_arrange 271 = .ok (.getfield 26, 3) := by decide +kernel
theorem d_Ma_arrange_274 : decode b_Ma_arrange 274 = .ok (.aload_n 0, 1) := by decide +kernel
theorem d_Ma_arrange_275 : decode b_Ma_arrange 275 = .ok (.getfield 73, 3) := by decide +kernel
theorem d_Ma_arrange_278 : decode b_Ma_arrange 278 = .ok (.iconst 1, 1) := by decide +kernel
theorem d_Ma_arrange_279 : decode b_Ma_arrange 279 = .ok (.isub, 1) := by decide +kernel
theorem d_Ma_arrange_280 : decode b_Ma_arrange 280 = .ok (.aload_n 0, 1) := by decide +kernel
theorem d_Ma_arrange_281 : decode b_Ma_arrange 281 = .ok (.getfield 26, 3) := by decide +kernel
theorem d_Ma_arrange_284 : decode b_Ma_arrange 284 = .ok (.aload_n 0, 1) := by decide +kernel
theorem d_Ma_arrange_285 : decode b_Ma_arrange 285 = .ok (.getfield 73, 3) := by decide +kernel
theorem d_Ma_arrange_288 : decode b_Ma_arrange 288 = .ok (.iconst 3, 1) := by decide +kernel
theorem d_Ma_arrange_289 : decode b_Ma_arrange 289 = .ok (.isub, 1) := by decide +kernel
theorem d_Ma_arrange_290 : decode b_Ma_arrange 290 = .ok (.iaload, 1) := by decide +kernel
theorem d_Ma_arrange_291 : decode b_Ma_arrange 291 = .ok (.iastore, 1) := by decide +kernel
theorem d_Ma_arrange_292 : decode b_Ma_arrange 292 = .ok (.aload_n 0, 1) := by decide +kernel
theorem d_Ma_arrange_293 : decode b_Ma_arrange 293 = .ok (.getfield 26, 3) := by decide +kernel
theorem d_Ma_arrange_296 : decode b_Ma_arrange 296 = .ok (.aload_n 0, 1) := by decide +kernel
theorem d_Ma_arrange_297 : decode b_Ma_arrange 297 = .ok (.getfield 73, 3) := by decide +kernel
theorem d_Ma_arrange_300 : decode b_Ma_arrange 300 = .ok (.iconst 3, 1) := by decide +kernel
theorem d_Ma_arrange_301 : decode b_Ma_arrange 301 = .ok (.isub, 1) := by decide +kernel
theorem d_Ma_arrange_302 : decode b_Ma_arrange 302 = .ok (.iload_n 3, 1) := by decide +kernel
theorem d_Ma_arrange_303 : decode b_Ma_arrange 303 = .ok (.iastore, 1) := by decide +kernel
theorem d_Ma_arrange_304 : decode b_Ma_arrange 304 = .ok (.aload_n 0, 1) := by decide +kernel
theorem d_Ma_arrange_305 : decode b_Ma_arrange 305 = .ok (.getfield 26, 3) := by decide +kernel
theorem d_Ma_arrange_308 : decode b_Ma_arrange 308 = .ok (.aload_n 0, 1) := by decide +kernel
theorem d_Ma_arrange_309 : decode b_Ma_arrange 309 = .ok (.getfield 73, 3) := by decide +kernel
theorem d_Ma_arrange_312 : decode b_Ma_arrange 312 = .ok (.iconst 2, 1) := by decide +kernel
theorem d_Ma_arrange_313 : decode b_Ma_arrange 313 = .ok (.isub, 1) := by decide +kernel
theorem d_Ma_arrange_314 : decode b_Ma_arrange 314 = .ok (.iload_n 2, 1) := by decide +kernel
theorem d_Ma_arrange_315 : decode b_Ma_arrange 315 = .ok (.iastore, 1) := by decide +kernel
theorem d_Ma_arrange_316 : decode b_Ma_arrange 316 = .ok (.iconst 1, 1) := by decide +kernel
theorem d_Ma_arrange_317 : decode b_Ma_arrange 317 = .ok (.ireturn, 1) := by decide +kernel
theorem d_Ma_arrange_318 : decode b_Ma_arrange 318 = .ok (.aload_n 0, 1) := by decide +kernel
theorem d_Ma_arrange_319 : decode b_Ma_arrange 319 = .ok (.getfield 26, 3) := by decide +kernel
theorem d_Ma_arrange_322 : decode b_Ma_arrange 322 = .ok (.aload_n 0, 1) := by decide +kernel
theorem d_Ma_arrange_323 : decode b_Ma_arrange 323 = .ok (.getfield 73, 3) := by decide +kernel
theorem d_Ma_arrange_326 : decode b_Ma_arrange 326 = .ok (.iconst 1, 1) := by decide +kernel
theorem d_Ma_arrange_327 : decode b_Ma_arrange 327 = .ok (.isub, 1) := by decide +kernel
theorem d_Ma_arrange_328 : decode b_Ma_arrange 328 = .ok (.iload_n 3, 1) := by decide +kernel
theorem d_Ma_arrange_329 : decode b_Ma_arrange 329 = .ok (.iastore, 1) := by decide +kernel
theorem d_Ma_arrange_330 : decode b_Ma_arrange 330 = .ok (.aload_n 0, 1) := by decide +kernel
theorem d_Ma_arrange_331 : decode b_Ma_arrange 331 = .ok (.getfield 26, 3) := by decide +kernel
theorem d_Ma_arrange_334 : decode b_Ma_arrange 334 = .ok (.aload_n 0, 1) := by decide +kernel
theorem d_Ma_arrange_335 : decode b_Ma_arrange 335 = .ok (.getfield 73, 3) := by decide +kernel
theorem d_Ma_arrange_338 : decode b_Ma_arrange 338 = .ok (.iconst 2, 1) := by decide +kernel
theorem d_Ma_arrange_339 : decode b_Ma_arrange 339 = .ok (.isub, 1) := by decide +kernel
theorem d_Ma_arrange_340 : decode b_Ma_arrange 340 = .ok (.iload_n 2, 1) := by decide +kernel
theorem d_Ma_arrange_341 : decode b_Ma_arrange 341 = .ok (.iastore, 1) := by decide +kernel
theorem d_Ma_arrange_342 : decode b_Ma_arrange 342 = .ok (.iload_n 1, 1) := by decide +kernel
theorem d_Ma_arrange_343 : decode b_Ma_arrange 343 = .ok (.bipush 125, 2) := by decide +kernel
theorem d_Ma_arrange_345 : decode b_Ma_arrange 345 = .ok (.if_icmp .ne 8, 3) := by decide +kernel
theorem d_Ma_arrange_348 : decode b_Ma_arrange 348 = .ok (.aload_n 0, 1) := by decide +kernel
theorem d_Ma_arrange_349 : decode b_Ma_arrange 349 = .ok (.iload_n 2, 1) := by decide +kernel
theorem d_Ma_arrange_350 : decode b_Ma_arrange 350 = .ok (.invokevirtual 95, 3) := by decide +kernel
theorem d_Ma_arrange_353 : decode b_Ma_arrange 353 = .ok (.iconst 1, 1) := by decide +kernel
theorem d_Ma_arrange_354 : decode b_Ma_arrange 354 = .ok (.ireturn, 1) := by decide +kernel
theorem d_Ma_arrange_355 : decode b_Ma_arrange 355 = .ok (.aload_n 0, 1) := by decide +kernel
theorem d_Ma_arrange_356 : decode b_Ma_arrange 356 = .ok (.iload_n 2, 1) := by decide +kernel
theorem d_Ma_arrange_357 : decode b_Ma_arrange 357 = .ok (.invokestatic 121, 3) := by decide +kernel
theorem d_Ma_arrange_360 : decode b_Ma_arrange 360 = .ok (.i2l, 1) := by decide +kernel
theorem d_Ma_arrange_361 : decode b_Ma_arrange 361 = .ok (.invokevirtual 160, 3) := by decide +kernel
theorem d_Ma_arrange_364 : decode b_Ma_arrange 364 = .ok (.iconst 1, 1) := by decide +kernel
theorem d_Ma_arrange_365 : decode b_Ma_arrange 365 = .ok (.ireturn, 1) := by decide +kernel
theorem d_Ma_arrange_366 : decode b_Ma_arrange 366 = .ok (.iconst 0, 1) := by decide +kernel
theorem d_Ma_arrange_367 : decode b_Ma_arrange 367 = .ok (.ireturn, 1) := by decide +kernel
abbrev rm_Ma_arrange : Room := { frames := 3, cells := 0, slots := 0, locals := 70 }
abbrev q_Ma_arrange (D : va_G) (cy : Nat → ClassId) (A : Nat → Prop) (o : Nat) (v_o_sha : Value) (r_signatures : Value) (v_o_ripemd : Value) (v_a_scriptEnd : Value) (v_a_other : Value) (v_a_taken : Value) (r_layout : Value) (r_coin : Value) (a_data : Nat) (a_main : Nat) (i_otherHeight : Int32) (i_ops : Int32) (i_ifs : Int32) (i_ifsNotTaken : Int32) (i_tx : Int32) (i_in : Int32) (i_messageIsThere : Int32) (res : Int32 × Int32 × Int32 × (Nat → Int32) × (Nat → Int32)) : Array Value → State → Outcome → State → Prop := va_Qi (fun r' (_ : Unit) => r' = res.1) (fun _ t => Po D cy A [(o, .inr (6, [v_o_sha, r_signatures, v_o_ripemd, .ref a_data, v_a_scriptEnd, .ref a_main, v_a_other, v_a_taken, .int res.2.1, .int i_otherHeight, .int i_ops, .int i_ifs, .int i_ifsNotTaken, .int res.2.2.1, r_layout, .int i_tx, .int i_in, r_coin, .int i_messageIsThere])), (a_data, .inl (cy 0, 14928, .inl res.2.2.2.1)), (a_main, .inl (cy 1, 204, .inl res.2.2.2.2))] t) A
def I_Ma_arrange_264 (p : Program) (l : Launch) (e : Env) (s : State) (m : MethodId) (args : Array Value) (below : List Frame) (meth : Method) (c : Code) (D : va_G) (cy : Nat → ClassId) (A : Nat → Prop) (ad : Nat → Nat) (o : Nat) (v_o_sha : Value) (r_signatures : Value) (v_o_ripemd : Value) (v_a_scriptEnd : Value) (v_a_other : Value) (v_a_taken : Value) (r_layout : Value) (r_coin : Value) (a_data : Nat) (a_main : Nat) (i_otherHeight : Int32) (i_ops : Int32) (i_ifs : Int32) (i_ifsNotTaken : Int32) (i_tx : Int32) (i_in : Int32) (i_messageIsThere : Int32) (k : Int32 → Int32 → Int32 → (Nat → Int32) → (Nat → Int32) → Option (Int32 × Int32 × Int32 × (Nat → Int32) × (Nat → Int32))) : Prop :=
  ∀ (x1 : Int32) (u0 : Int32) (u1 : Int32) (u2 : Nat → Int32) (u3 : Nat → Int32) (res : Int32 × Int32 × Int32 × (Nat → Int32) × (Nat → Int32)), k x1 u0 u1 u2 u3 = some res → ∀ (H : Heap) (locs : List Loc) (ls : Array Slot), va_P D classes [(o, .inr (6, [v_o_sha, r_signatures, v_o_ripemd, .ref a_data, v_a_scriptEnd, .ref a_main, v_a_other, v_a_taken, .int u0, .int i_otherHeight, .int i_ops, .int i_ifs, .int i_ifsNotTaken, .int u1, r_layout, .int i_tx, .int i_in, r_coin, .int i_messageIsThere])), (a_data, .inl (cy 0, 14928, .inl u2)), (a_main, .inl (cy 1, 204, .inl u3))] H → va_D A [(o, .inr (6, [v_o_sha, r_signatures, v_o_ripemd, .ref a_data, v_a_scriptEnd, .ref a_main, v_a_other, v_a_taken, .int u0, .int i_otherHeight, .int i_ops, .int i_ifs, .int i_ifsNotTaken, .int u1, r_layout, .int i_tx, .int i_in, r_coin, .int i_messageIsThere])), (a_data, .inl (cy 0, 14928, .inl u2)), (a_main, .inl (cy 1, 204, .inl u3))] → va_S A s.heap H locs → lv_has ls 4 [(0, .ref o), (1, .int x1)] → W p l e rm_Ma_arrange s m args below meth c H locs 0 0 (MQ below (q_Ma_arrange D cy A o v_o_sha r_signatures v_o_ripemd v_a_scriptEnd v_a_other v_a_taken r_layout r_coin a_data a_main i_otherHeight i_ops i_ifs i_ifsNotTaken i_tx i_in i_messageIsThere res) args s 0 0 A) (F0 m 264 ls [])
def I_Ma_arrange_318 (p : Program) (l : Launch) (e : Env) (s : State) (m : MethodId) (args : Array Value) (below : List Frame) (meth : Method) (c : Code) (D : va_G) (cy : Nat → ClassId) (A : Nat → Prop) (ad : Nat → Nat) (o : Nat) (v_o_sha : Value) (r_signatures : Value) (v_o_ripemd : Value) (v_a_scriptEnd : Value) (v_a_other : Value) (v_a_taken : Value) (r_layout : Value) (r_coin : Value) (a_data : Nat) (a_main : Nat) (i_otherHeight : Int32) (i_ops : Int32) (i_ifs : Int32) (i_ifsNotTaken : Int32) (i_tx : Int32) (i_in : Int32) (i_messageIsThere : Int32) (k : Int32 → Int32 → Int32 → Int32 → Int32 → (Nat → Int32) → (Nat → Int32) → Option (Int32 × Int32 × Int32 × (Nat → Int32) × (Nat → Int32))) : Prop :=
  ∀ (x1 : Int32) (x2 : Int32) (x3 : Int32) (u0 : Int32) (u1 : Int32) (u2 : Nat → Int32) (u3 : Nat → Int32) (res : Int32 × Int32 × Int32 × (Nat → Int32) × (Nat → Int32)), k x1 x2 x3 u0 u1 u2 u3 = some res → ∀ (H : Heap) (locs : List Loc) (ls : Array Slot), va_P D classes [(o, .inr (6, [v_o_sha, r_signatures, v_o_ripemd, .ref a_data, v_a_scriptEnd, .ref a_main, v_a_other, v_a_taken, .int u0, .int i_otherHeight, .int i_ops, .int i_ifs, .int i_ifsNotTaken, .int u1, r_layout, .int i_tx, .int i_in, r_coin, .int i_messageIsThere])), (a_data, .inl (cy 0, 14928, .inl u2)), (a_main, .inl (cy 1, 204, .inl u3))] H → va_D A [(o, .inr (6, [v_o_sha, r_signatures, v_o_ripemd, .ref a_data, v_a_scriptEnd, .ref a_main, v_a_other, v_a_taken, .int u0, .int i_otherHeight, .int i_ops, .int i_ifs, .int i_ifsNotTaken, .int u1, r_layout, .int i_tx, .int i_in, r_coin, .int i_messageIsThere])), (a_data, .inl (cy 0, 14928, .inl u2)), (a_main, .inl (cy 1, 204, .inl u3))] → va_S A s.heap H locs → lv_has ls 4 [(0, .ref o), (1, .int x1), (2, .int x2), (3, .int x3)] → W p l e rm_Ma_arrange s m args below meth c H locs 0 0 (MQ below (q_Ma_arrange D cy A o v_o_sha r_signatures v_o_ripemd v_a_scriptEnd v_a_other v_a_taken r_layout r_coin a_data a_main i_otherHeight i_ops i_ifs i_ifsNotTaken i_tx i_in i_messageIsThere res) args s 0 0 A) (F0 m 318 ls [])
def I_Ma_arrange_59 (p : Program) (l : Launch) (e : Env) (s : State) (m : MethodId) (args : Array Value) (below : List Frame) (meth : Method) (c : Code) (D : va_G) (cy : Nat → ClassId) (A : Nat → Prop) (ad : Nat → Nat) (o : Nat) (v_o_sha : Value) (r_signatures : Value) (v_o_ripemd : Value) (v_a_scriptEnd : Value) (v_a_other : Value) (v_a_taken : Value) (r_layout : Value) (r_coin : Value) (a_data : Nat) (a_main : Nat) (i_otherHeight : Int32) (i_ops : Int32) (i_ifs : Int32) (i_ifsNotTaken : Int32) (i_tx : Int32) (i_in : Int32) (i_messageIsThere : Int32) (k : Int32 → Int32 → Int32 → Int32 → Int32 → (Nat → Int32) → (Nat → Int32) → Option (Int32 × Int32 × Int32 × (Nat → Int32) × (Nat → Int32))) : Prop :=
  ∀ (x1 : Int32) (x2 : Int32) (y0 : Int32) (u0 : Int32) (u1 : Int32) (u2 : Nat → Int32) (u3 : Nat → Int32) (res : Int32 × Int32 × Int32 × (Nat → Int32) × (Nat → Int32)), k x1 x2 y0 u0 u1 u2 u3 = some res → ∀ (H : Heap) (locs : List Loc) (ls : Array Slot), va_P D classes [(o, .inr (6, [v_o_sha, r_signatures, v_o_ripemd, .ref a_data, v_a_scriptEnd, .ref a_main, v_a_other, v_a_taken, .int u0, .int i_otherHeight, .int i_ops, .int i_ifs, .int i_ifsNotTaken, .int u1, r_layout, .int i_tx, .int i_in, r_coin, .int i_messageIsThere])), (a_data, .inl (cy 0, 14928, .inl u2)), (a_main, .inl (cy 1, 204, .inl u3))] H → va_D A [(o, .inr (6, [v_o_sha, r_signatures, v_o_ripemd, .ref a_data, v_a_scriptEnd, .ref a_main, v_a_other, v_a_taken, .int u0, .int i_otherHeight, .int i_ops, .int i_ifs, .int i_ifsNotTaken, .int u1, r_layout, .int i_tx, .int i_in, r_coin, .int i_messageIsThere])), (a_data, .inl (cy 0, 14928, .inl u2)), (a_main, .inl (cy 1, 204, .inl u3))] → va_S A s.heap H locs → lv_has ls 4 [(0, .ref o), (1, .int x1), (2, .int x2)] → W p l e rm_Ma_arrange s m args below meth c H locs 0 0 (MQ below (q_Ma_arrange D cy A o v_o_sha r_signatures v_o_ripemd v_a_scriptEnd v_a_other v_a_taken r_layout r_coin a_data a_main i_otherHeight i_ops i_ifs i_ifsNotTaken i_tx i_in i_messageIsThere res) args s 0 0 A) (F0 m 59 ls [.int y0])
def I_Ma_arrange_35 (p : Program) (l : Launch) (e : Env) (s : State) (m : MethodId) (args : Array Value) (below : List Frame) (meth : Method) (c : Code) (D : va_G) (cy : Nat → ClassId) (A : Nat → Prop) (ad : Nat → Nat) (o : Nat) (v_o_sha : Value) (r_signatures : Value) (v_o_ripemd : Value) (v_a_scriptEnd : Value) (v_a_other : Value) (v_a_taken : Value) (r_layout : Value) (r_coin : Value) (a_data : Nat) (a_main : Nat) (i_otherHeight : Int32) (i_ops : Int32) (i_ifs : Int32) (i_ifsNotTaken : Int32) (i_tx : Int32) (i_in : Int32) (i_messageIsThere : Int32) (k : Int32 → Int32 → Int32 → Int32 → (Nat → Int32) → (Nat → Int32) → Option (Int32 × Int32 × Int32 × (Nat → Int32) × (Nat → Int32))) : Prop :=
  ∀ (x1 : Int32) (y0 : Int32) (u0 : Int32) (u1 : Int32) (u2 : Nat → Int32) (u3 : Nat → Int32) (res : Int32 × Int32 × Int32 × (Nat → Int32) × (Nat → Int32)), k x1 y0 u0 u1 u2 u3 = some res → ∀ (H : Heap) (locs : List Loc) (ls : Array Slot), va_P D classes [(o, .inr (6, [v_o_sha, r_signatures, v_o_ripemd, .ref a_data, v_a_scriptEnd, .ref a_main, v_a_other, v_a_taken, .int u0, .int i_otherHeight, .int i_ops, .int i_ifs, .int i_ifsNotTaken, .int u1, r_layout, .int i_tx, .int i_in, r_coin, .int i_messageIsThere])), (a_data, .inl (cy 0, 14928, .inl u2)), (a_main, .inl (cy 1, 204, .inl u3))] H → va_D A [(o, .inr (6, [v_o_sha, r_signatures, v_o_ripemd, .ref a_data, v_a_scriptEnd, .ref a_main, v_a_other, v_a_taken, .int u0, .int i_otherHeight, .int i_ops, .int i_ifs, .int i_ifsNotTaken, .int u1, r_layout, .int i_tx, .int i_in, r_coin, .int i_messageIsThere])), (a_data, .inl (cy 0, 14928, .inl u2)), (a_main, .inl (cy 1, 204, .inl u3))] → va_S A s.heap H locs → lv_has ls 4 [(0, .ref o), (1, .int x1)] → W p l e rm_Ma_arrange s m args below meth c H locs 0 0 (MQ below (q_Ma_arrange D cy A o v_o_sha r_signatures v_o_ripemd v_a_scriptEnd v_a_other v_a_taken r_layout r_coin a_data a_main i_otherHeight i_ops i_ifs i_ifsNotTaken i_tx i_in i_messageIsThere res) args s 0 0 A) (F0 m 35 ls [.int y0])
def I_Ma_arrange_e (p : Program) (l : Launch) (e : Env) (s : State) (m : MethodId) (args : Array Value) (below : List Frame) (meth : Method) (c : Code) (D : va_G) (cy : Nat → ClassId) (A : Nat → Prop) (ad : Nat → Nat) (o : Nat) (v_o_sha : Value) (r_signatures : Value) (v_o_ripemd : Value) (v_a_scriptEnd : Value) (v_a_other : Value) (v_a_taken : Value) (r_layout : Value) (r_coin : Value) (a_data : Nat) (a_main : Nat) (i_otherHeight : Int32) (i_ops : Int32) (i_ifs : Int32) (i_ifsNotTaken : Int32) (i_tx : Int32) (i_in : Int32) (i_messageIsThere : Int32) (k : Int32 → Int32 → Int32 → (Nat → Int32) → (Nat → Int32) → Option (Int32 × Int32 × Int32 × (Nat → Int32) × (Nat → Int32))) : Prop :=
  ∀ (a1 : Int32) (u0 : Int32) (u1 : Int32) (u2 : Nat → Int32) (u3 : Nat → Int32) (res : Int32 × Int32 × Int32 × (Nat → Int32) × (Nat → Int32)), k a1 u0 u1 u2 u3 = some res → ∀ (H : Heap) (locs : List Loc) (ls : Array Slot), va_P D classes [(o, .inr (6, [v_o_sha, r_signatures, v_o_ripemd, .ref a_data, v_a_scriptEnd, .ref a_main, v_a_other, v_a_taken, .int u0, .int i_otherHeight, .int i_ops, .int i_ifs, .int i_ifsNotTaken, .int u1, r_layout, .int i_tx, .int i_in, r_coin, .int i_messageIsThere])), (a_data, .inl (cy 0, 14928, .inl u2)), (a_main, .inl (cy 1, 204, .inl u3))] H → va_D A [(o, .inr (6, [v_o_sha, r_signatures, v_o_ripemd, .ref a_data, v_a_scriptEnd, .ref a_main, v_a_other, v_a_taken, .int u0, .int i_otherHeight, .int i_ops, .int i_ifs, .int i_ifsNotTaken, .int u1, r_layout, .int i_tx, .int i_in, r_coin, .int i_messageIsThere])), (a_data, .inl (cy 0, 14928, .inl u2)), (a_main, .inl (cy 1, 204, .inl u3))] → va_S A s.heap H locs → lv_has ls 4 [(0, .ref o), (1, .int a1)] → W p l e rm_Ma_arrange s m args below meth c H locs 0 0 (MQ below (q_Ma_arrange D cy A o v_o_sha r_signatures v_o_ripemd v_a_scriptEnd v_a_other v_a_taken r_layout r_coin a_data a_main i_otherHeight i_ops i_ifs i_ifsNotTaken i_tx i_in i_messageIsThere res) args s 0 0 A) (F0 m 0 ls [])
theorem hdc_49 : ({ cls := "CoinKeeper$Machine", name := "fetch", desc := "(I)Z" } : Jvm.MethodName).cls ≠ "java/lang/invoke/MethodHandle" ∧ ({ cls := "CoinKeeper$Machine", name := "fetch", desc := "(I)Z" } : Jvm.MethodName).cls ≠ "java/lang/invoke/VarHandle" ∧ (parseMethodDescriptor ({ cls := "CoinKeeper$Machine", name := "fetch", desc := "(I)Z" } : Jvm.MethodName).desc).map (fun d => d.parameters.length) = some 1 := by decide +kernel
set_option maxHeartbeats 8000000 in
set_option maxRecDepth 100000 in
theorem wb_Ma_arrange_264 {p : Program} {l : Launch} {e : Env} {s : State} {m : MethodId} {args : Array Value} {below : List Frame} {meth : Method} {c : Code} {D : va_G} {cy : Nat → ClassId} {A : Nat → Prop} {ad : Nat → Nat} {o : Nat} {v_o_sha : Value} {r_signatures : Value} {v_o_ripemd : Value} {v_a_scriptEnd : Value} {v_a_other : Value} {v_a_taken : Value} {r_layout : Value} {r_coin : Value} {a_data : Nat} {a_main : Nat} {i_otherHeight : Int32} {i_ops : Int32} {i_ifs : Int32} {i_ifsNotTaken : Int32} {i_tx : Int32} {i_in : Int32} {i_messageIsThere : Int32} {fu : Nat} (F : Fx p s m args meth c b_Ma_arrange 4 "CoinKeeper$Machine" "arrange" (some .boolean) D cy ad A) : I_Ma_arrange_264 p l e s m args below meth c D cy A ad o v_o_sha r_signatures v_o_ripemd v_a_scriptEnd v_a_other v_a_taken r_layout r_coin a_data a_main i_otherHeight i_ops i_ifs i_ifsNotTaken i_tx i_in i_messageIsThere (xb_Ma_arrange_264 fu i_otherHeight i_ops i_ifs i_ifsNotTaken i_tx i_in i_messageIsThere) := by
  obtain ⟨hx, hb, hr, hml, hown, hts, hlocks, hK, hA, hSt, hnm, hex⟩ := id F
  intro x1 u0 u1 u2 u3 res hf H locs ls hP hD hS hl
  unfold xb_Ma_arrange_264 at hf
  refine lv_aload_n hx hb d_Ma_arrange_264 rfl (lv_at hl 0 rfl) ?_
  refine lv_iload_n hx hb d_Ma_arrange_265 rfl (lv_at hl 1 rfl) ?_
  obtain ⟨v1, e2, f3, hc, hf⟩ := bdp3 hf
  refine q_ai (wr := []) (va_runV (C := "CoinKeeper$Machine") (As := [.int x1]) (rest := []) ⟨hx, hb, hml, hown, hts⟩ (c_Ma_fetch l D cy ad fu o v_o_sha r_signatures v_o_ripemd v_a_scriptEnd v_a_other v_a_taken r_layout r_coin a_data a_main i_otherHeight i_ops i_ifs i_ifsNotTaken u1 i_tx i_in i_messageIsThere u2 x1 u0 u3 _ hc H.size) ⟨q_cB hts gw_1209 gw_6 gw_1206 hdc_49 ⟨by decide, by decide⟩, hts _ gw_1208, hts _ gs_50⟩ (q_preV (q_pre (hP.sub [0, 1, 2] rfl) (hD.sub [0, 1, 2] (by decide) rfl) hK hSt hS (va_free hD hS hA [0, 1, 2] rfl) _) (va_recv hK (hP.sub [0, 1, 2] rfl) (ci := 6) (q0 := 0) rfl rfl)) rfl rfl hl.1 rfl (lv_room (Nat.le_of_ble_eq_true rfl)) d_Ma_arrange_266 ⟨Nat.le_of_ble_eq_true rfl, Nat.le_of_ble_eq_true rfl⟩) hP hD hS hA [0, 1, 2] [] rfl rfl (by decide) (by decide) (fun H locs hP hD hS => ?_)
  clear hc
  have hP : va_P D classes [(o, .inr (6, [v_o_sha, r_signatures, v_o_ripemd, .ref a_data, v_a_scriptEnd, .ref a_main, v_a_other, v_a_taken, .int e2, .int i_otherHeight, .int i_ops, .int i_ifs, .int i_ifsNotTaken, .int u1, r_layout, .int i_tx, .int i_in, r_coin, .int i_messageIsThere])), (a_data, .inl (cy 0, 14928, .inl u2)), (a_main, .inl (cy 1, 204, .inl f3))] H := hP
  have hD : va_D A [(o, .inr (6, [v_o_sha, r_signatures, v_o_ripemd, .ref a_data, v_a_scriptEnd, .ref a_main, v_a_other, v_a_taken, .int e2, .int i_otherHeight, .int i_ops, .int i_ifs, .int i_ifsNotTaken, .int u1, r_layout, .int i_tx, .int i_in, r_coin, .int i_messageIsThere])), (a_data, .inl (cy 0, 14928, .inl u2)), (a_main, .inl (cy 1, 204, .inl f3))] := hD
  obtain ⟨hg, hf⟩ := gdp hf
  obtain rfl := Option.some.inj hf
  exact q_rz hx hb hr hlocks hK hP hD hS (isb_n hg) d_Ma_arrange_269
set_option maxHeartbeats 8000000 in
set_option maxRecDepth 100000 in
theorem wb_Ma_arrange_318 {p : Program} {l : Launch} {e : Env} {s : State} {m : MethodId} {args : Array Value} {below : List Frame} {meth : Method} {c : Code} {D : va_G} {cy : Nat → ClassId} {A : Nat → Prop} {ad : Nat → Nat} {o : Nat} {v_o_sha : Value} {r_signatures : Value} {v_o_ripemd : Value} {v_a_scriptEnd : Value} {v_a_other : Value} {v_a_taken : Value} {r_layout : Value} {r_coin : Value} {a_data : Nat} {a_main : Nat} {i_otherHeight : Int32} {i_ops : Int32} {i_ifs : Int32} {i_ifsNotTaken : Int32} {i_tx : Int32} {i_in : Int32} {i_messageIsThere : Int32} {fu : Nat} (F : Fx p s m args meth c b_Ma_arrange 4 "CoinKeeper$Machine" "arrange" (some .boolean) D cy ad A) : I_Ma_arrange_318 p l e s m args below meth c D cy A ad o v_o_sha r_signatures v_o_ripemd v_a_scriptEnd v_a_other v_a_taken r_layout r_coin a_data a_main i_otherHeight i_ops i_ifs i_ifsNotTaken i_tx i_in i_messageIsThere (xb_Ma_arrange_318 fu i_otherHeight i_ops i_ifs i_ifsNotTaken i_tx i_in i_messageIsThere) := by
  obtain ⟨hx, hb, hr, hml, hown, hts, hlocks, hK, hA, hSt, hnm, hex⟩ := id F
  intro x1 x2 x3 u0 u1 u2 u3 res hf H locs ls hP hD hS hl
  unfold xb_Ma_arrange_318 at hf
  refine lv_aload_n hx hb d_Ma_arrange_318 rfl (lv_at hl 0 rfl) ?_
  refine va_get (D := D) (ci := 6) (v := .ref a_main) (C := "CoinKeeper$Machine") (T := F_6) (N := 19) hx hb hts i_6 hown hK hP 0 rfl rfl 5 (by decide) (hts _ gw_209) (fun _ h9 => h9) rfl d_Ma_arrange_319 ?_
  refine lv_aload_n hx hb d_Ma_arrange_322 rfl (lv_at hl 0 rfl) ?_
  refine va_get (D := D) (ci := 6) (v := .int u0) (C := "CoinKeeper$Machine") (T := F_6) (N := 19) hx hb hts i_6 hown hK hP 0 rfl rfl 8 (by decide) (hts _ gw_212) (fun _ h9 => h9) rfl d_Ma_arrange_323 ?_
  refine lv_iconst (v := 1) hx hb d_Ma_arrange_326 (by decide) ?_
  refine lv_isub hx hb d_Ma_arrange_327 ?_
  refine lv_topi (fun v1 ev => ?_)
  have hf := bn ev hf
  clear ev
  refine lv_iload_n hx hb d_Ma_arrange_328 rfl (lv_at hl 3 rfl) ?_
  obtain ⟨hg, hf⟩ := gdp hf
  refine va_iast hx hb hK hP hD hS 2 1 rfl rfl (inb_in hg) d_Ma_arrange_329 (fun H locs hP hD hS => ?_)
  obtain ⟨f2, ev, hf⟩ := bne hf
  have hP : va_P D classes [(o, .inr (6, [v_o_sha, r_signatures, v_o_ripemd, .ref a_data, v_a_scriptEnd, .ref a_main, v_a_other, v_a_taken, .int u0, .int i_otherHeight, .int i_ops, .int i_ifs, .int i_ifsNotTaken, .int u1, r_layout, .int i_tx, .int i_in, r_coin, .int i_messageIsThere])), (a_data, .inl (cy 0, 14928, .inl u2)), (a_main, .inl (cy 1, 204, .inl f2))] H := by rw [ev]; exact hP
  have hD : va_D A [(o, .inr (6, [v_o_sha, r_signatures, v_o_ripemd, .ref a_data, v_a_scriptEnd, .ref a_main, v_a_other, v_a_taken, .int u0, .int i_otherHeight, .int i_ops, .int i_ifs, .int i_ifsNotTaken, .int u1, r_layout, .int i_tx, .int i_in, r_coin, .int i_messageIsThere])), (a_data, .inl (cy 0, 14928, .inl u2)), (a_main, .inl (cy 1, 204, .inl f2))] := by rw [ev]; exact hD
  clear ev
  refine lv_aload_n hx hb d_Ma_arrange_330 rfl (lv_at hl 0 rfl) ?_
  refine va_get (D := D) (ci := 6) (v := .ref a_main) (C := "CoinKeeper$Machine") (T := F_6) (N := 19) hx hb hts i_6 hown hK hP 0 rfl rfl 5 (by decide) (hts _ gw_209) (fun _ h9 => h9) rfl d_Ma_arrange_331 ?_
  refine lv_aload_n hx hb d_Ma_arrange_334 rfl (lv_at hl 0 rfl) ?_
  refine va_get (D := D) (ci := 6) (v := .int u0) (C := "CoinKeeper$Machine") (T := F_6) (N := 19) hx hb hts i_6 hown hK hP 0 rfl rfl 8 (by decide) (hts _ gw_212) (fun _ h9 => h9) rfl d_Ma_arrange_335 ?_
  refine lv_iconst (v := 2) hx hb d_Ma_arrange_338 (by decide) ?_
  refine lv_isub hx hb d_Ma_arrange_339 ?_
  refine lv_topi (fun v3 ev => ?_)
  have hf := bn ev hf
  clear ev
  refine lv_iload_n hx hb d_Ma_arrange_340 rfl (lv_at hl 2 rfl) ?_
  obtain ⟨hg, hf⟩ := gdp hf
  refine va_iast hx hb hK hP hD hS 2 1 rfl rfl (inb_in hg) d_Ma_arrange_341 (fun H locs hP hD hS => ?_)
  obtain ⟨f4, ev, hf⟩ := bne hf
  have hP : va_P D classes [(o, .inr (6, [v_o_sha, r_signatures, v_o_ripemd, .ref a_data, v_a_scriptEnd, .ref a_main, v_a_other, v_a_taken, .int u0, .int i_otherHeight, .int i_ops, .int i_ifs, .int i_ifsNotTaken, .int u1, r_layout, .int i_tx, .int i_in, r_coin, .int i_messageIsThere])), (a_data, .inl (cy 0, 14928, .inl u2)), (a_main, .inl (cy 1, 204, .inl f4))] H := by rw [ev]; exact hP
  have hD : va_D A [(o, .inr (6, [v_o_sha, r_signatures, v_o_ripemd, .ref a_data, v_a_scriptEnd, .ref a_main, v_a_other, v_a_taken, .int u0, .int i_otherHeight, .int i_ops, .int i_ifs, .int i_ifsNotTaken, .int u1, r_layout, .int i_tx, .int i_in, r_coin, .int i_messageIsThere])), (a_data, .inl (cy 0, 14928, .inl u2)), (a_main, .inl (cy 1, 204, .inl f4))] := by rw [ev]; exact hD
  clear ev
  refine lv_iload_n hx hb d_Ma_arrange_342 rfl (lv_at hl 1 rfl) ?_
  refine lv_bipush (v := 125) hx hb d_Ma_arrange_343 (by decide) ?_
  refine lv_icmp_ne (tgt := 353) hx hb d_Ma_arrange_345 (by decide) (fun cx => ?_) (fun cx => ?_)
  · have hf := ifn cx hf
    refine lv_iconst (v := 1) hx hb d_Ma_arrange_353 (by decide) ?_
    obtain rfl := Option.some.inj hf
    exact q_rz hx hb hr hlocks hK hP hD hS (isb_n (v := 1) (by decide)) d_Ma_arrange_354
  · have hf := ifp cx hf
    refine lv_aload_n hx hb d_Ma_arrange_348 rfl (lv_at hl 0 rfl) ?_
    refine lv_iload_n hx hb d_Ma_arrange_349 rfl (lv_at hl 2 rfl) ?_
    obtain ⟨e5, f6, hc, hf⟩ := bdp2 hf
    refine q_av (wr := [(a_data, .inl (cy 0, 14928, .inl u2))]) (va_runV (C := "CoinKeeper$Machine") (As := [.int x2]) (rest := []) ⟨hx, hb, hml, hown, hts⟩ (c_Ma_push l D cy ad fu o v_o_sha r_signatures v_o_ripemd (.ref a_data) v_a_scriptEnd v_a_other v_a_taken r_layout r_coin a_main i_otherHeight i_ops i_ifs i_ifsNotTaken u1 i_tx i_in i_messageIsThere x2 u0 f4 _ hc H.size) ⟨q_cB hts gw_988 gw_6 gw_985 hdc_42 ⟨by decide, by decide⟩, hts _ gw_987, hts _ gs_28⟩ (q_preV (q_pre (hP.sub [0, 2] rfl) (hD.sub [0, 2] (by decide) rfl) hK hSt hS (va_free hD hS hA [0, 2] rfl) _) (va_recv hK (hP.sub [0, 2] rfl) (ci := 6) (q0 := 0) rfl rfl)) rfl rfl hl.1 rfl (lv_room (Nat.le_of_ble_eq_true rfl)) d_Ma_arrange_350 ⟨Nat.le_of_ble_eq_true rfl, Nat.le_of_ble_eq_true rfl⟩) hP hD hS hA [0, 2] [1] rfl rfl (by decide) (by decide) (fun H locs hP hD hS => ?_)
    clear hc
    have hP : va_P D classes [(a_data, .inl (cy 0, 14928, .inl u2)), (o, .inr (6, [v_o_sha, r_signatures, v_o_ripemd, .ref a_data, v_a_scriptEnd, .ref a_main, v_a_other, v_a_taken, .int e5, .int i_otherHeight, .int i_ops, .int i_ifs, .int i_ifsNotTaken, .int u1, r_layout, .int i_tx, .int i_in, r_coin, .int i_messageIsThere])), (a_main, .inl (cy 1, 204, .inl f6))] H := hP
    have hD : va_D A [(a_data, .inl (cy 0, 14928, .inl u2)), (o, .inr (6, [v_o_sha, r_signatures, v_o_ripemd, .ref a_data, v_a_scriptEnd, .ref a_main, v_a_other, v_a_taken, .int e5, .int i_otherHeight, .int i_ops, .int i_ifs, .int i_ifsNotTaken, .int u1, r_layout, .int i_tx, .int i_in, r_coin, .int i_messageIsThere])), (a_main, .inl (cy 1, 204, .inl f6))] := hD
    refine lv_iconst (v := 1) hx hb d_Ma_arrange_353 (by decide) ?_
    obtain rfl := Option.some.inj hf
    exact q_rz hx hb hr hlocks hK (hP.sub [1, 0, 2] rfl) (hD.sub [1, 0, 2] (by decide) rfl) hS (isb_n (v := 1) (by decide)) d_Ma_arrange_354
set_option maxHeartbeats 8000000 in
set_option maxRecDepth 100000 in
theorem wb_Ma_arrange_59 {p : Program} {l : Launch} {e : Env} {s : State} {m : MethodId} {args : Array Value} {below : List Frame} {meth : Method} {c : Code} {D : va_G} {cy : Nat → ClassId} {A : Nat → Prop} {ad : Nat → Nat} {o : Nat} {v_o_sha : Value} {r_signatures : Value} {v_o_ripemd : Value} {v_a_scriptEnd : Value} {v_a_other : Value} {v_a_taken : Value} {r_layout : Value} {r_coin : Value} {a_data : Nat} {a_main : Nat} {i_otherHeight : Int32} {i_ops : Int32} {i_ifs : Int32} {i_ifsNotTaken : Int32} {i_tx : Int32} {i_in : Int32} {i_messageIsThere : Int32} {fu : Nat} (F : Fx p s m args meth c b_Ma_arrange 4 "CoinKeeper$Machine" "arrange" (some .boolean) D cy ad A) : I_Ma_arrange_59 p l e s m args below meth c D cy A ad o v_o_sha r_signatures v_o_ripemd v_a_scriptEnd v_a_other v_a_taken r_layout r_coin a_data a_main i_otherHeight i_ops i_ifs i_ifsNotTaken i_tx i_in i_messageIsThere (xb_Ma_arrange_59 fu i_otherHeight i_ops i_ifs i_ifsNotTaken i_tx i_in i_messageIsThere) := by
  obtain ⟨hx, hb, hr, hml, hown, hts, hlocks, hK, hA, hSt, hnm, hex⟩ := id F
  intro x1 x2 y0 u0 u1 u2 u3 res hf H locs ls hP hD hS hl
  unfold xb_Ma_arrange_59 at hf
  refine lv_istore_n (lv' := [(3, .int y0), (0, .ref o), (1, .int x1), (2, .int x2)]) hx hb d_Ma_arrange_59 rfl hl (by decide) rfl (fun ls hl => ?_)
  refine lv_iload_n hx hb d_Ma_arrange_60 rfl (lv_at hl 2 rfl) ?_
  by_cases cx : x1 = 109
  · have hf := ifp cx hf
    refine lv_tableIn (tgt := 164) (off := 103) hx hb d_Ma_arrange_61 (by rw [cx]; decide) (by rw [cx]; decide) (by rw [cx]; decide +kernel) (by decide) ?_
    refine lv_aload_n hx hb d_Ma_arrange_164 rfl (lv_at hl 1 rfl) ?_
    refine lv_dup hx hb d_Ma_arrange_165 rfl ?_
    refine va_get (D := D) (ci := 6) (v := .int u0) (C := "CoinKeeper$Machine") (T := F_6) (N := 19) hx hb hts i_6 hown hK hP 0 rfl rfl 8 (by decide) (hts _ gw_212) (fun _ h9 => h9) rfl d_Ma_arrange_166 ?_
    refine lv_iconst (v := 2) hx hb d_Ma_arrange_169 (by decide) ?_
    refine lv_isub hx hb d_Ma_arrange_170 ?_
    refine lv_topi (fun v1 ev => ?_)
    have hf := bn ev hf
    clear ev
    refine va_put (D := D) (ci := 6) (v := .int v1) (ty := .int) (C := "CoinKeeper$Machine") (T := F_6) (N := 19) hx hb hts i_6 t_6 t_6_ok n_6 hown hK hP hD hS 0 rfl rfl 8 (by decide) (hts _ gw_212) (fun _ h9 => h9) rfl (by decide +kernel) rfl rfl (Nat.le_of_ble_eq_true rfl) d_Ma_arrange_171 (fun H locs hP hD hS => ?_)
    have hP : va_P D classes [(o, .inr (6, [v_o_sha, r_signatures, v_o_ripemd, .ref a_data, v_a_scriptEnd, .ref a_main, v_a_other, v_a_taken, .int v1, .int i_otherHeight, .int i_ops, .int i_ifs, .int i_ifsNotTaken, .int u1, r_layout, .int i_tx, .int i_in, r_coin, .int i_messageIsThere])), (a_data, .inl (cy 0, 14928, .inl u2)), (a_main, .inl (cy 1, 204, .inl u3))] H := hP
    have hD : va_D A [(o, .inr (6, [v_o_sha, r_signatures, v_o_ripemd, .ref a_data, v_a_scriptEnd, .ref a_main, v_a_other, v_a_taken, .int v1, .int i_otherHeight, .int i_ops, .int i_ifs, .int i_ifsNotTaken, .int u1, r_layout, .int i_tx, .int i_in, r_coin, .int i_messageIsThere])), (a_data, .inl (cy 0, 14928, .inl u2)), (a_main, .inl (cy 1, 204, .inl u3))] := hD
    refine lv_iconst (v := 1) hx hb d_Ma_arrange_174 (by decide) ?_
    obtain rfl := Option.some.inj hf
    exact q_rz hx hb hr hlocks hK hP hD hS (isb_n (v := 1) (by decide)) d_Ma_arrange_175
  · have hf := ifn cx hf
    have cn_0 := lv_neT (a := 109) cx (by decide)
    clear cx
    by_cases cx : x1 = 110
    · have hf := ifp cx hf
      refine lv_tableIn (tgt := 176) (off := 115) hx hb d_Ma_arrange_61 (by rw [cx]; decide) (by rw [cx]; decide) (by rw [cx]; decide +kernel) (by decide) ?_
      refine lv_aload_n hx hb d_Ma_arrange_176 rfl (lv_at hl 1 rfl) ?_
      refine lv_iload_n hx hb d_Ma_arrange_177 rfl (lv_at hl 0 rfl) ?_
      obtain ⟨e2, f3, hc, hf⟩ := bdp2 hf
      refine q_av (wr := [(a_data, .inl (cy 0, 14928, .inl u2))]) (va_runV (C := "CoinKeeper$Machine") (As := [.int y0]) (rest := []) ⟨hx, hb, hml, hown, hts⟩ (c_Ma_push l D cy ad fu o v_o_sha r_signatures v_o_ripemd (.ref a_data) v_a_scriptEnd v_a_other v_a_taken r_layout r_coin a_main i_otherHeight i_ops i_ifs i_ifsNotTaken u1 i_tx i_in i_messageIsThere y0 u0 u3 _ hc H.size) ⟨q_cB hts gw_988 gw_6 gw_985 hdc_42 ⟨by decide, by decide⟩, hts _ gw_987, hts _ gs_28⟩ (q_preV (q_pre (hP.sub [0, 2] rfl) (hD.sub [0, 2] (by decide) rfl) hK hSt hS (va_free hD hS hA [0, 2] rfl) _) (va_recv hK (hP.sub [0, 2] rfl) (ci := 6) (q0 := 0) rfl rfl)) rfl rfl hl.1 rfl (lv_room (Nat.le_of_ble_eq_true rfl)) d_Ma_arrange_178 ⟨Nat.le_of_ble_eq_true rfl, Nat.le_of_ble_eq_true rfl⟩) hP hD hS hA [0, 2] [1] rfl rfl (by decide) (by decide) (fun H locs hP hD hS => ?_)
      clear hc
      have hP : va_P D classes [(a_data, .inl (cy 0, 14928, .inl u2)), (o, .inr (6, [v_o_sha, r_signatures, v_o_ripemd, .ref a_data, v_a_scriptEnd, .ref a_main, v_a_other, v_a_taken, .int e2, .int i_otherHeight, .int i_ops, .int i_ifs, .int i_ifsNotTaken, .int u1, r_layout, .int i_tx, .int i_in, r_coin, .int i_messageIsThere])), (a_main, .inl (cy 1, 204, .inl f3))] H := hP
      have hD : va_D A [(a_data, .inl (cy 0, 14928, .inl u2)), (o, .inr (6, [v_o_sha, r_signatures, v_o_ripemd, .ref a_data, v_a_scriptEnd, .ref a_main, v_a_other, v_a_taken, .int e2, .int i_otherHeight, .int i_ops, .int i_ifs, .int i_ifsNotTaken, .int u1, r_layout, .int i_tx, .int i_in, r_coin, .int i_messageIsThere])), (a_main, .inl (cy 1, 204, .inl f3))] := hD
      refine lv_aload_n hx hb d_Ma_arrange_181 rfl (lv_at hl 1 rfl) ?_
      refine lv_iload_n hx hb d_Ma_arrange_182 rfl (lv_at hl 3 rfl) ?_
      obtain ⟨e4, f5, hc, hf⟩ := bdp2 hf
      refine q_av (wr := [(a_data, .inl (cy 0, 14928, .inl u2))]) (va_runV (C := "CoinKeeper$Machine") (As := [.int x2]) (rest := []) ⟨hx, hb, hml, hown, hts⟩ (c_Ma_push l D cy ad fu o v_o_sha r_signatures v_o_ripemd (.ref a_data) v_a_scriptEnd v_a_other v_a_taken r_layout r_coin a_main i_otherHeight i_ops i_ifs i_ifsNotTaken u1 i_tx i_in i_messageIsThere x2 e2 f3 _ hc H.size) ⟨q_cB hts gw_988 gw_6 gw_985 hdc_42 ⟨by decide, by decide⟩, hts _ gw_987, hts _ gs_28⟩ (q_preV (q_pre (hP.sub [1, 2] rfl) (hD.sub [1, 2] (by decide) rfl) hK hSt hS (va_free hD hS hA [1, 2] rfl) _) (va_recv hK (hP.sub [1, 2] rfl) (ci := 6) (q0 := 0) rfl rfl)) rfl rfl hl.1 rfl (lv_room (Nat.le_of_ble_eq_true rfl)) d_Ma_arrange_183 ⟨Nat.le_of_ble_eq_true rfl, Nat.le_of_ble_eq_true rfl⟩) hP hD hS hA [1, 2] [0] rfl rfl (by decide) (by decide) (fun H locs hP hD hS => ?_)
      clear hc
      have hP : va_P D classes [(a_data, .inl (cy 0, 14928, .inl u2)), (o, .inr (6, [v_o_sha, r_signatures, v_o_ripemd, .ref a_data, v_a_scriptEnd, .ref a_main, v_a_other, v_a_taken, .int e4, .int i_otherHeight, .int i_ops, .int i_ifs, .int i_ifsNotTaken, .int u1, r_layout, .int i_tx, .int i_in, r_coin, .int i_messageIsThere])), (a_main, .inl (cy 1, 204, .inl f5))] H := hP
      have hD : va_D A [(a_data, .inl (cy 0, 14928, .inl u2)), (o, .inr (6, [v_o_sha, r_signatures, v_o_ripemd, .ref a_data, v_a_scriptEnd, .ref a_main, v_a_other, v_a_taken, .int e4, .int i_otherHeight, .int i_ops, .int i_ifs, .int i_ifsNotTaken, .int u1, r_layout, .int i_tx, .int i_in, r_coin, .int i_messageIsThere])), (a_main, .inl (cy 1, 204, .inl f5))] := hD
      refine lv_iconst (v := 1) hx hb d_Ma_arrange_186 (by decide) ?_
      obtain rfl := Option.some.inj hf
      exact q_rz hx hb hr hlocks hK (hP.sub [1, 0, 2] rfl) (hD.sub [1, 0, 2] (by decide) rfl) hS (isb_n (v := 1) (by decide)) d_Ma_arrange_187
    · have hf := ifn cx hf
      have cn_1 := lv_neT (a := 110) cx (by decide)
      clear cx
      by_cases cx : x1 = 111
      · have hf := ifp cx hf
        refine lv_tableIn (tgt := 366) (off := 305) hx hb d_Ma_arrange_61 (by rw [cx]; decide) (by rw [cx]; decide) (by rw [cx]; decide +kernel) (by decide) ?_
        refine lv_iconst (v := 0) hx hb d_Ma_arrange_366 (by decide) ?_
        obtain rfl := Option.some.inj hf
        exact q_rz hx hb hr hlocks hK hP hD hS (isb_n (v := 0) (by decide)) d_Ma_arrange_367
      · have hf := ifn cx hf
        have cn_2 := lv_neT (a := 111) cx (by decide)
        clear cx
        by_cases cx : x1 = 112
        · have hf := ifp cx hf
          refine lv_tableIn (tgt := 366) (off := 305) hx hb d_Ma_arrange_61 (by rw [cx]; decide) (by rw [cx]; decide) (by rw [cx]; decide +kernel) (by decide) ?_
          refine lv_iconst (v := 0) hx hb d_Ma_arrange_366 (by decide) ?_
          obtain rfl := Option.some.inj hf
          exact q_rz hx hb hr hlocks hK hP hD hS (isb_n (v := 0) (by decide)) d_Ma_arrange_367
        · have hf := ifn cx hf
          have cn_3 := lv_neT (a := 112) cx (by decide)
          clear cx
          by_cases cx : x1 = 113
          · have hf := ifp cx hf
            refine lv_tableIn (tgt := 366) (off := 305) hx hb d_Ma_arrange_61 (by rw [cx]; decide) (by rw [cx]; decide) (by rw [cx]; decide +kernel) (by decide) ?_
            refine lv_iconst (v := 0) hx hb d_Ma_arrange_366 (by decide) ?_
            obtain rfl := Option.some.inj hf
            exact q_rz hx hb hr hlocks hK hP hD hS (isb_n (v := 0) (by decide)) d_Ma_arrange_367
          · have hf := ifn cx hf
            have cn_4 := lv_neT (a := 113) cx (by decide)
            clear cx
            by_cases cx : x1 = 114
            · have hf := ifp cx hf
              refine lv_tableIn (tgt := 366) (off := 305) hx hb d_Ma_arrange_61 (by rw [cx]; decide) (by rw [cx]; decide) (by rw [cx]; decide +kernel) (by decide) ?_
              refine lv_iconst (v := 0) hx hb d_Ma_arrange_366 (by decide) ?_
              obtain rfl := Option.some.inj hf
              exact q_rz hx hb hr hlocks hK hP hD hS (isb_n (v := 0) (by decide)) d_Ma_arrange_367
            · have hf := ifn cx hf
              have cn_5 := lv_neT (a := 114) cx (by decide)
              clear cx
              by_cases cx : x1 = 115
              · have hf := ifp cx hf
                refine lv_tableIn (tgt := 188) (off := 127) hx hb d_Ma_arrange_61 (by rw [cx]; decide) (by rw [cx]; decide) (by rw [cx]; decide +kernel) (by decide) ?_
                refine lv_aload_n hx hb d_Ma_arrange_188 rfl (lv_at hl 1 rfl) ?_
                refine lv_iload_n hx hb d_Ma_arrange_189 rfl (lv_at hl 3 rfl) ?_
                obtain ⟨v6, hc, hf⟩ := bdp1 hf
                refine q_ai (wr := [(a_main, .inl (cy 1, 204, .inl u3))]) (va_runV (C := "CoinKeeper$Machine") (As := [.int x2]) (rest := []) ⟨hx, hb, hml, hown, hts⟩ (c_Ma_isTrue l D cy ad fu o v_o_sha r_signatures v_o_ripemd v_a_scriptEnd (.ref a_main) v_a_other v_a_taken r_layout r_coin a_data u0 i_otherHeight i_ops i_ifs i_ifsNotTaken u1 i_tx i_in i_messageIsThere u2 x2 _ hc H.size) ⟨q_cB hts gw_996 gw_6 gw_993 hdc_41 ⟨by decide, by decide⟩, hts _ gw_995, hts _ gs_30⟩ (q_preV (q_pre (hP.sub [0, 1] rfl) (hD.sub [0, 1] (by decide) rfl) hK hSt hS (va_free hD hS hA [0, 1] rfl) _) (va_recv hK (hP.sub [0, 1] rfl) (ci := 6) (q0 := 0) rfl rfl)) rfl rfl hl.1 rfl (lv_room (Nat.le_of_ble_eq_true rfl)) d_Ma_arrange_190 ⟨Nat.le_of_ble_eq_true rfl, Nat.le_of_ble_eq_true rfl⟩) hP hD hS hA [0, 1] [2] rfl rfl (by decide) (by decide) (fun H locs hP hD hS => ?_)
                clear hc
                have hP : va_P D classes [(a_main, .inl (cy 1, 204, .inl u3)), (o, .inr (6, [v_o_sha, r_signatures, v_o_ripemd, .ref a_data, v_a_scriptEnd, .ref a_main, v_a_other, v_a_taken, .int u0, .int i_otherHeight, .int i_ops, .int i_ifs, .int i_ifsNotTaken, .int u1, r_layout, .int i_tx, .int i_in, r_coin, .int i_messageIsThere])), (a_data, .inl (cy 0, 14928, .inl u2))] H := hP
                have hD : va_D A [(a_main, .inl (cy 1, 204, .inl u3)), (o, .inr (6, [v_o_sha, r_signatures, v_o_ripemd, .ref a_data, v_a_scriptEnd, .ref a_main, v_a_other, v_a_taken, .int u0, .int i_otherHeight, .int i_ops, .int i_ifs, .int i_ifsNotTaken, .int u1, r_layout, .int i_tx, .int i_in, r_coin, .int i_messageIsThere])), (a_data, .inl (cy 0, 14928, .inl u2))] := hD
                refine lv_if_eq (tgt := 201) hx hb d_Ma_arrange_193 (by decide) (fun cx => ?_) (fun cx => ?_)
                · have hf := ifp cx hf
                  refine lv_iconst (v := 1) hx hb d_Ma_arrange_201 (by decide) ?_
                  obtain rfl := Option.some.inj hf
                  exact q_rz hx hb hr hlocks hK (hP.sub [1, 2, 0] rfl) (hD.sub [1, 2, 0] (by decide) rfl) hS (isb_n (v := 1) (by decide)) d_Ma_arrange_202
                · have hf := ifn cx hf
                  refine lv_aload_n hx hb d_Ma_arrange_196 rfl (lv_at hl 1 rfl) ?_
                  refine lv_iload_n hx hb d_Ma_arrange_197 rfl (lv_at hl 3 rfl) ?_
                  obtain ⟨e7, f8, hc, hf⟩ := bdp2 hf
                  refine q_av (wr := [(a_data, .inl (cy 0, 14928, .inl u2))]) (va_runV (C := "CoinKeeper$Machine") (As := [.int x2]) (rest := []) ⟨hx, hb, hml, hown, hts⟩ (c_Ma_push l D cy ad fu o v_o_sha r_signatures v_o_ripemd (.ref a_data) v_a_scriptEnd v_a_other v_a_taken r_layout r_coin a_main i_otherHeight i_ops i_ifs i_ifsNotTaken u1 i_tx i_in i_messageIsThere x2 u0 u3 _ hc H.size) ⟨q_cB hts gw_988 gw_6 gw_985 hdc_42 ⟨by decide, by decide⟩, hts _ gw_987, hts _ gs_28⟩ (q_preV (q_pre (hP.sub [1, 0] rfl) (hD.sub [1, 0] (by decide) rfl) hK hSt hS (va_free hD hS hA [1, 0] rfl) _) (va_recv hK (hP.sub [1, 0] rfl) (ci := 6) (q0 := 0) rfl rfl)) rfl rfl hl.1 rfl (lv_room (Nat.le_of_ble_eq_true rfl)) d_Ma_arrange_198 ⟨Nat.le_of_ble_eq_true rfl, Nat.le_of_ble_eq_true rfl⟩) hP hD hS hA [1, 0] [2] rfl rfl (by decide) (by decide) (fun H locs hP hD hS => ?_)
                  clear hc
                  have hP : va_P D classes [(a_data, .inl (cy 0, 14928, .inl u2)), (o, .inr (6, [v_o_sha, r_signatures, v_o_ripemd, .ref a_data, v_a_scriptEnd, .ref a_main, v_a_other, v_a_taken, .int e7, .int i_otherHeight, .int i_ops, .int i_ifs, .int i_ifsNotTaken, .int u1, r_layout, .int i_tx, .int i_in, r_coin, .int i_messageIsThere])), (a_main, .inl (cy 1, 204, .inl f8))] H := hP
                  have hD : va_D A [(a_data, .inl (cy 0, 14928, .inl u2)), (o, .inr (6, [v_o_sha, r_signatures, v_o_ripemd, .ref a_data, v_a_scriptEnd, .ref a_main, v_a_other, v_a_taken, .int e7, .int i_otherHeight, .int i_ops, .int i_ifs, .int i_ifsNotTaken, .int u1, r_layout, .int i_tx, .int i_in, r_coin, .int i_messageIsThere])), (a_main, .inl (cy 1, 204, .inl f8))] := hD
                  refine lv_iconst (v := 1) hx hb d_Ma_arrange_201 (by decide) ?_
                  obtain rfl := Option.some.inj hf
                  exact q_rz hx hb hr hlocks hK (hP.sub [1, 0, 2] rfl) (hD.sub [1, 0, 2] (by decide) rfl) hS (isb_n (v := 1) (by decide)) d_Ma_arrange_202
              · have hf := ifn cx hf
                have cn_6 := lv_neT (a := 115) cx (by decide)
                clear cx
                by_cases cx : x1 = 116
                · have hf := ifp cx hf
                  refine lv_tableIn (tgt := 203) (off := 142) hx hb d_Ma_arrange_61 (by rw [cx]; decide) (by rw [cx]; decide) (by rw [cx]; decide +kernel) (by decide) ?_
                  refine lv_aload_n hx hb d_Ma_arrange_203 rfl (lv_at hl 1 rfl) ?_
                  refine lv_aload_n hx hb d_Ma_arrange_204 rfl (lv_at hl 1 rfl) ?_
                  refine va_get (D := D) (ci := 6) (v := .int u0) (C := "CoinKeeper$Machine") (T := F_6) (N := 19) hx hb hts i_6 hown hK hP 0 rfl rfl 8 (by decide) (hts _ gw_212) (fun _ h9 => h9) rfl d_Ma_arrange_205 ?_
                  refine lv_i2l hx hb d_Ma_arrange_208 rfl ?_
                  refine lv_topl (fun v9 ev => ?_)
                  have hf := bn ev hf
                  clear ev
                  obtain ⟨e10, e11, f12, f13, hc, hf⟩ := bdp4 hf
                  refine q_av (wr := []) (va_runV (C := "CoinKeeper$Machine") (As := [.long v9]) (rest := []) ⟨hx, hb, hml, hown, hts⟩ (c_Ma_pushNumber l D cy ad fu o v_o_sha r_signatures v_o_ripemd v_a_scriptEnd v_a_other v_a_taken r_layout r_coin a_data a_main i_otherHeight i_ops i_ifs i_ifsNotTaken i_tx i_in i_messageIsThere v9 u0 u1 u2 u3 _ hc H.size) ⟨q_cB hts gw_1202 gw_6 gw_1199 hdc_47 ⟨by decide, by decide⟩, hts _ gw_1201, hts _ gs_49⟩ (q_preV (q_pre (hP.sub [0, 1, 2] rfl) (hD.sub [0, 1, 2] (by decide) rfl) hK hSt hS (va_free hD hS hA [0, 1, 2] rfl) _) (va_recv hK (hP.sub [0, 1, 2] rfl) (ci := 6) (q0 := 0) rfl rfl)) rfl rfl hl.1 rfl (lv_room (Nat.le_of_ble_eq_true rfl)) d_Ma_arrange_209 ⟨Nat.le_of_ble_eq_true rfl, Nat.le_of_ble_eq_true rfl⟩) hP hD hS hA [0, 1, 2] [] rfl rfl (by decide) (by decide) (fun H locs hP hD hS => ?_)
                  clear hc
                  have hP : va_P D classes [(o, .inr (6, [v_o_sha, r_signatures, v_o_ripemd, .ref a_data, v_a_scriptEnd, .ref a_main, v_a_other, v_a_taken, .int e10, .int i_otherHeight, .int i_ops, .int i_ifs, .int i_ifsNotTaken, .int e11, r_layout, .int i_tx, .int i_in, r_coin, .int i_messageIsThere])), (a_data, .inl (cy 0, 14928, .inl f12)), (a_main, .inl (cy 1, 204, .inl f13))] H := hP
                  have hD : va_D A [(o, .inr (6, [v_o_sha, r_signatures, v_o_ripemd, .ref a_data, v_a_scriptEnd, .ref a_main, v_a_other, v_a_taken, .int e10, .int i_otherHeight, .int i_ops, .int i_ifs, .int i_ifsNotTaken, .int e11, r_layout, .int i_tx, .int i_in, r_coin, .int i_messageIsThere])), (a_data, .inl (cy 0, 14928, .inl f12)), (a_main, .inl (cy 1, 204, .inl f13))] := hD
                  refine lv_iconst (v := 1) hx hb d_Ma_arrange_212 (by decide) ?_
                  obtain rfl := Option.some.inj hf
                  exact q_rz hx hb hr hlocks hK hP hD hS (isb_n (v := 1) (by decide)) d_Ma_arrange_213
                · have hf := ifn cx hf
                  have cn_7 := lv_neT (a := 116) cx (by decide)
                  clear cx
                  by_cases cx : x1 = 117
                  · have hf := ifp cx hf
                    refine lv_tableIn (tgt := 214) (off := 153) hx hb d_Ma_arrange_61 (by rw [cx]; decide) (by rw [cx]; decide) (by rw [cx]; decide +kernel) (by decide) ?_
                    refine lv_aload_n hx hb d_Ma_arrange_214 rfl (lv_at hl 1 rfl) ?_
                    refine lv_dup hx hb d_Ma_arrange_215 rfl ?_
                    refine va_get (D := D) (ci := 6) (v := .int u0) (C := "CoinKeeper$Machine") (T := F_6) (N := 19) hx hb hts i_6 hown hK hP 0 rfl rfl 8 (by decide) (hts _ gw_212) (fun _ h9 => h9) rfl d_Ma_arrange_216 ?_
                    refine lv_iconst (v := 1) hx hb d_Ma_arrange_219 (by decide) ?_
                    refine lv_isub hx hb d_Ma_arrange_220 ?_
                    refine lv_topi (fun v14 ev => ?_)
                    have hf := bn ev hf
                    clear ev
                    refine va_put (D := D) (ci := 6) (v := .int v14) (ty := .int) (C := "CoinKeeper$Machine") (T := F_6) (N := 19) hx hb hts i_6 t_6 t_6_ok n_6 hown hK hP hD hS 0 rfl rfl 8 (by decide) (hts _ gw_212) (fun _ h9 => h9) rfl (by decide +kernel) rfl rfl (Nat.le_of_ble_eq_true rfl) d_Ma_arrange_221 (fun H locs hP hD hS => ?_)
                    have hP : va_P D classes [(o, .inr (6, [v_o_sha, r_signatures, v_o_ripemd, .ref a_data, v_a_scriptEnd, .ref a_main, v_a_other, v_a_taken, .int v14, .int i_otherHeight, .int i_ops, .int i_ifs, .int i_ifsNotTaken, .int u1, r_layout, .int i_tx, .int i_in, r_coin, .int i_messageIsThere])), (a_data, .inl (cy 0, 14928, .inl u2)), (a_main, .inl (cy 1, 204, .inl u3))] H := hP
                    have hD : va_D A [(o, .inr (6, [v_o_sha, r_signatures, v_o_ripemd, .ref a_data, v_a_scriptEnd, .ref a_main, v_a_other, v_a_taken, .int v14, .int i_otherHeight, .int i_ops, .int i_ifs, .int i_ifsNotTaken, .int u1, r_layout, .int i_tx, .int i_in, r_coin, .int i_messageIsThere])), (a_data, .inl (cy 0, 14928, .inl u2)), (a_main, .inl (cy 1, 204, .inl u3))] := hD
                    refine lv_iconst (v := 1) hx hb d_Ma_arrange_224 (by decide) ?_
                    obtain rfl := Option.some.inj hf
                    exact q_rz hx hb hr hlocks hK hP hD hS (isb_n (v := 1) (by decide)) d_Ma_arrange_225
                  · have hf := ifn cx hf
                    have cn_8 := lv_neT (a := 117) cx (by decide)
                    clear cx
                    by_cases cx : x1 = 118
                    · have hf := ifp cx hf
                      refine lv_tableIn (tgt := 226) (off := 165) hx hb d_Ma_arrange_61 (by rw [cx]; decide) (by rw [cx]; decide) (by rw [cx]; decide +kernel) (by decide) ?_
                      refine lv_aload_n hx hb d_Ma_arrange_226 rfl (lv_at hl 1 rfl) ?_
                      refine lv_iload_n hx hb d_Ma_arrange_227 rfl (lv_at hl 3 rfl) ?_
                      obtain ⟨e15, f16, hc, hf⟩ := bdp2 hf
                      refine q_av (wr := [(a_data, .inl (cy 0, 14928, .inl u2))]) (va_runV (C := "CoinKeeper$Machine") (As := [.int x2]) (rest := []) ⟨hx, hb, hml, hown, hts⟩ (c_Ma_push l D cy ad fu o v_o_sha r_signatures v_o_ripemd (.ref a_data) v_a_scriptEnd v_a_other v_a_taken r_layout r_coin a_main i_otherHeight i_ops i_ifs i_ifsNotTaken u1 i_tx i_in i_messageIsThere x2 u0 u3 _ hc H.size) ⟨q_cB hts gw_988 gw_6 gw_985 hdc_42 ⟨by decide, by decide⟩, hts _ gw_987, hts _ gs_28⟩ (q_preV (q_pre (hP.sub [0, 2] rfl) (hD.sub [0, 2] (by decide) rfl) hK hSt hS (va_free hD hS hA [0, 2] rfl) _) (va_recv hK (hP.sub [0, 2] rfl) (ci := 6) (q0 := 0) rfl rfl)) rfl rfl hl.1 rfl (lv_room (Nat.le_of_ble_eq_true rfl)) d_Ma_arrange_228 ⟨Nat.le_of_ble_eq_true rfl, Nat.le_of_ble_eq_true rfl⟩) hP hD hS hA [0, 2] [1] rfl rfl (by decide) (by decide) (fun H locs hP hD hS => ?_)
                      clear hc
                      have hP : va_P D classes [(a_data, .inl (cy 0, 14928, .inl u2)), (o, .inr (6, [v_o_sha, r_signatures, v_o_ripemd, .ref a_data, v_a_scriptEnd, .ref a_main, v_a_other, v_a_taken, .int e15, .int i_otherHeight, .int i_ops, .int i_ifs, .int i_ifsNotTaken, .int u1, r_layout, .int i_tx, .int i_in, r_coin, .int i_messageIsThere])), (a_main, .inl (cy 1, 204, .inl f16))] H := hP
                      have hD : va_D A [(a_data, .inl (cy 0, 14928, .inl u2)), (o, .inr (6, [v_o_sha, r_signatures, v_o_ripemd, .ref a_data, v_a_scriptEnd, .ref a_main, v_a_other, v_a_taken, .int e15, .int i_otherHeight, .int i_ops, .int i_ifs, .int i_ifsNotTaken, .int u1, r_layout, .int i_tx, .int i_in, r_coin, .int i_messageIsThere])), (a_main, .inl (cy 1, 204, .inl f16))] := hD
                      refine lv_iconst (v := 1) hx hb d_Ma_arrange_231 (by decide) ?_
                      obtain rfl := Option.some.inj hf
                      exact q_rz hx hb hr hlocks hK (hP.sub [1, 0, 2] rfl) (hD.sub [1, 0, 2] (by decide) rfl) hS (isb_n (v := 1) (by decide)) d_Ma_arrange_232
                    · have hf := ifn cx hf
                      have cn_9 := lv_neT (a := 118) cx (by decide)
                      clear cx
                      by_cases cx : x1 = 119
                      · have hf := ifp cx hf
                        refine lv_tableIn (tgt := 233) (off := 172) hx hb d_Ma_arrange_61 (by rw [cx]; decide) (by rw [cx]; decide) (by rw [cx]; decide +kernel) (by decide) ?_
                        refine lv_aload_n hx hb d_Ma_arrange_233 rfl (lv_at hl 1 rfl) ?_
                        refine lv_dup hx hb d_Ma_arrange_234 rfl ?_
                        refine va_get (D := D) (ci := 6) (v := .int u0) (C := "CoinKeeper$Machine") (T := F_6) (N := 19) hx hb hts i_6 hown hK hP 0 rfl rfl 8 (by decide) (hts _ gw_212) (fun _ h9 => h9) rfl d_Ma_arrange_235 ?_
                        refine lv_iconst (v := 1) hx hb d_Ma_arrange_238 (by decide) ?_
                        refine lv_isub hx hb d_Ma_arrange_239 ?_
                        refine lv_topi (fun v17 ev => ?_)
                        have hf := bn ev hf
                        clear ev
                        refine va_put (D := D) (ci := 6) (v := .int v17) (ty := .int) (C := "CoinKeeper$Machine") (T := F_6) (N := 19) hx hb hts i_6 t_6 t_6_ok n_6 hown hK hP hD hS 0 rfl rfl 8 (by decide) (hts _ gw_212) (fun _ h9 => h9) rfl (by decide +kernel) rfl rfl (Nat.le_of_ble_eq_true rfl) d_Ma_arrange_240 (fun H locs hP hD hS => ?_)
                        have hP : va_P D classes [(o, .inr (6, [v_o_sha, r_signatures, v_o_ripemd, .ref a_data, v_a_scriptEnd, .ref a_main, v_a_other, v_a_taken, .int v17, .int i_otherHeight, .int i_ops, .int i_ifs, .int i_ifsNotTaken, .int u1, r_layout, .int i_tx, .int i_in, r_coin, .int i_messageIsThere])), (a_data, .inl (cy 0, 14928, .inl u2)), (a_main, .inl (cy 1, 204, .inl u3))] H := hP
                        have hD : va_D A [(o, .inr (6, [v_o_sha, r_signatures, v_o_ripemd, .ref a_data, v_a_scriptEnd, .ref a_main, v_a_other, v_a_taken, .int v17, .int i_otherHeight, .int i_ops, .int i_ifs, .int i_ifsNotTaken, .int u1, r_layout, .int i_tx, .int i_in, r_coin, .int i_messageIsThere])), (a_data, .inl (cy 0, 14928, .inl u2)), (a_main, .inl (cy 1, 204, .inl u3))] := hD
                        refine lv_aload_n hx hb d_Ma_arrange_243 rfl (lv_at hl 1 rfl) ?_
                        refine va_get (D := D) (ci := 6) (v := .ref a_main) (C := "CoinKeeper$Machine") (T := F_6) (N := 19) hx hb hts i_6 hown hK hP 0 rfl rfl 5 (by decide) (hts _ gw_209) (fun _ h9 => h9) rfl d_Ma_arrange_244 ?_
                        refine lv_aload_n hx hb d_Ma_arrange_247 rfl (lv_at hl 1 rfl) ?_
                        refine va_get (D := D) (ci := 6) (v := .int v17) (C := "CoinKeeper$Machine") (T := F_6) (N := 19) hx hb hts i_6 hown hK hP 0 rfl rfl 8 (by decide) (hts _ gw_212) (fun _ h9 => h9) rfl d_Ma_arrange_248 ?_
                        refine lv_iconst (v := 1) hx hb d_Ma_arrange_251 (by decide) ?_
                        refine lv_isub hx hb d_Ma_arrange_252 ?_
                        refine lv_topi (fun v18 ev => ?_)
                        have hf := bn ev hf
                        clear ev
                        refine lv_iload_n hx hb d_Ma_arrange_253 rfl (lv_at hl 3 rfl) ?_
                        obtain ⟨hg, hf⟩ := gdp hf
                        refine va_iast hx hb hK hP hD hS 2 1 rfl rfl (inb_in hg) d_Ma_arrange_254 (fun H locs hP hD hS => ?_)
                        obtain ⟨f19, ev, hf⟩ := bne hf
                        have hP : va_P D classes [(o, .inr (6, [v_o_sha, r_signatures, v_o_ripemd, .ref a_data, v_a_scriptEnd, .ref a_main, v_a_other, v_a_taken, .int v17, .int i_otherHeight, .int i_ops, .int i_ifs, .int i_ifsNotTaken, .int u1, r_layout, .int i_tx, .int i_in, r_coin, .int i_messageIsThere])), (a_data, .inl (cy 0, 14928, .inl u2)), (a_main, .inl (cy 1, 204, .inl f19))] H := by rw [ev]; exact hP
                        have hD : va_D A [(o, .inr (6, [v_o_sha, r_signatures, v_o_ripemd, .ref a_data, v_a_scriptEnd, .ref a_main, v_a_other, v_a_taken, .int v17, .int i_otherHeight, .int i_ops, .int i_ifs, .int i_ifsNotTaken, .int u1, r_layout, .int i_tx, .int i_in, r_coin, .int i_messageIsThere])), (a_data, .inl (cy 0, 14928, .inl u2)), (a_main, .inl (cy 1, 204, .inl f19))] := by rw [ev]; exact hD
                        clear ev
                        refine lv_iconst (v := 1) hx hb d_Ma_arrange_255 (by decide) ?_
                        obtain rfl := Option.some.inj hf
                        exact q_rz hx hb hr hlocks hK hP hD hS (isb_n (v := 1) (by decide)) d_Ma_arrange_256
                      · have hf := ifn cx hf
                        have cn_10 := lv_neT (a := 119) cx (by decide)
                        clear cx
                        by_cases cx : x1 = 120
                        · have hf := ifp cx hf
                          refine lv_tableIn (tgt := 257) (off := 196) hx hb d_Ma_arrange_61 (by rw [cx]; decide) (by rw [cx]; decide) (by rw [cx]; decide +kernel) (by decide) ?_
                          refine lv_aload_n hx hb d_Ma_arrange_257 rfl (lv_at hl 1 rfl) ?_
                          refine lv_iload_n hx hb d_Ma_arrange_258 rfl (lv_at hl 0 rfl) ?_
                          obtain ⟨e20, f21, hc, hf⟩ := bdp2 hf
                          refine q_av (wr := [(a_data, .inl (cy 0, 14928, .inl u2))]) (va_runV (C := "CoinKeeper$Machine") (As := [.int y0]) (rest := []) ⟨hx, hb, hml, hown, hts⟩ (c_Ma_push l D cy ad fu o v_o_sha r_signatures v_o_ripemd (.ref a_data) v_a_scriptEnd v_a_other v_a_taken r_layout r_coin a_main i_otherHeight i_ops i_ifs i_ifsNotTaken u1 i_tx i_in i_messageIsThere y0 u0 u3 _ hc H.size) ⟨q_cB hts gw_988 gw_6 gw_985 hdc_42 ⟨by decide, by decide⟩, hts _ gw_987, hts _ gs_28⟩ (q_preV (q_pre (hP.sub [0, 2] rfl) (hD.sub [0, 2] (by decide) rfl) hK hSt hS (va_free hD hS hA [0, 2] rfl) _) (va_recv hK (hP.sub [0, 2] rfl) (ci := 6) (q0 := 0) rfl rfl)) rfl rfl hl.1 rfl (lv_room (Nat.le_of_ble_eq_true rfl)) d_Ma_arrange_259 ⟨Nat.le_of_ble_eq_true rfl, Nat.le_of_ble_eq_true rfl⟩) hP hD hS hA [0, 2] [1] rfl rfl (by decide) (by decide) (fun H locs hP hD hS => ?_)
                          clear hc
                          have hP : va_P D classes [(a_data, .inl (cy 0, 14928, .inl u2)), (o, .inr (6, [v_o_sha, r_signatures, v_o_ripemd, .ref a_data, v_a_scriptEnd, .ref a_main, v_a_other, v_a_taken, .int e20, .int i_otherHeight, .int i_ops, .int i_ifs, .int i_ifsNotTaken, .int u1, r_layout, .int i_tx, .int i_in, r_coin, .int i_messageIsThere])), (a_main, .inl (cy 1, 204, .inl f21))] H := hP
                          have hD : va_D A [(a_data, .inl (cy 0, 14928, .inl u2)), (o, .inr (6, [v_o_sha, r_signatures, v_o_ripemd, .ref a_data, v_a_scriptEnd, .ref a_main, v_a_other, v_a_taken, .int e20, .int i_otherHeight, .int i_ops, .int i_ifs, .int i_ifsNotTaken, .int u1, r_layout, .int i_tx, .int i_in, r_coin, .int i_messageIsThere])), (a_main, .inl (cy 1, 204, .inl f21))] := hD
                          refine lv_iconst (v := 1) hx hb d_Ma_arrange_262 (by decide) ?_
                          obtain rfl := Option.some.inj hf
                          exact q_rz hx hb hr hlocks hK (hP.sub [1, 0, 2] rfl) (hD.sub [1, 0, 2] (by decide) rfl) hS (isb_n (v := 1) (by decide)) d_Ma_arrange_263
                        · have hf := ifn cx hf
                          have cn_11 := lv_neT (a := 120) cx (by decide)
                          clear cx
                          by_cases cx : x1 = 121
                          · have hf := ifp cx hf
                            refine lv_tableIn (tgt := 264) (off := 203) hx hb d_Ma_arrange_61 (by rw [cx]; decide) (by rw [cx]; decide) (by rw [cx]; decide +kernel) (by decide) ?_
                            exact wb_Ma_arrange_264 (fu := fu) F _ _ _ _ _ _ hf _ _ _ hP hD hS (lv_sub hl [1, 2] rfl)
                          · have hf := ifn cx hf
                            have cn_12 := lv_neT (a := 121) cx (by decide)
                            clear cx
                            by_cases cx : x1 = 122
                            · have hf := ifp cx hf
                              refine lv_tableIn (tgt := 264) (off := 203) hx hb d_Ma_arrange_61 (by rw [cx]; decide) (by rw [cx]; decide) (by rw [cx]; decide +kernel) (by decide) ?_
                              exact wb_Ma_arrange_264 (fu := fu) F _ _ _ _ _ _ hf _ _ _ hP hD hS (lv_sub hl [1, 2] rfl)
                            · have hf := ifn cx hf
                              have cn_13 := lv_neT (a := 122) cx (by decide)
                              clear cx
                              by_cases cx : x1 = 123
                              · have hf := ifp cx hf
                                refine lv_tableIn (tgt := 270) (off := 209) hx hb d_Ma_arrange_61 (by rw [cx]; decide) (by rw [cx]; decide) (by rw [cx]; decide +kernel) (by decide) ?_
                                refine lv_aload_n hx hb d_Ma_arrange_270 rfl (lv_at hl 1 rfl) ?_
                                refine va_get (D := D) (ci := 6) (v := .ref a_main) (C := "CoinKeeper$Machine") (T := F_6) (N := 19) hx hb hts i_6 hown hK hP 0 rfl rfl 5 (by decide) (hts _ gw_209) (fun _ h9 => h9) rfl d_Ma_arrange_271 ?_
                                refine lv_aload_n hx hb d_Ma_arrange_274 rfl (lv_at hl 1 rfl) ?_
                                refine va_get (D := D) (ci := 6) (v := .int u0) (C := "CoinKeeper$Machine") (T := F_6) (N := 19) hx hb hts i_6 hown hK hP 0 rfl rfl 8 (by decide) (hts _ gw_212) (fun _ h9 => h9) rfl d_Ma_arrange_275 ?_
                                refine lv_iconst (v := 1) hx hb d_Ma_arrange_278 (by decide) ?_
                                refine lv_isub hx hb d_Ma_arrange_279 ?_
                                refine lv_topi (fun v22 ev => ?_)
                                have hf := bn ev hf
                                clear ev
                                refine lv_aload_n hx hb d_Ma_arrange_280 rfl (lv_at hl 1 rfl) ?_
                                refine va_get (D := D) (ci := 6) (v := .ref a_main) (C := "CoinKeeper$Machine") (T := F_6) (N := 19) hx hb hts i_6 hown hK hP 0 rfl rfl 5 (by decide) (hts _ gw_209) (fun _ h9 => h9) rfl d_Ma_arrange_281 ?_
                                refine lv_aload_n hx hb d_Ma_arrange_284 rfl (lv_at hl 1 rfl) ?_
                                refine va_get (D := D) (ci := 6) (v := .int u0) (C := "CoinKeeper$Machine") (T := F_6) (N := 19) hx hb hts i_6 hown hK hP 0 rfl rfl 8 (by decide) (hts _ gw_212) (fun _ h9 => h9) rfl d_Ma_arrange_285 ?_
                                refine lv_iconst (v := 3) hx hb d_Ma_arrange_288 (by decide) ?_
                                refine lv_isub hx hb d_Ma_arrange_289 ?_
                                refine lv_topi (fun v23 ev => ?_)
                                have hf := bn ev hf
                                clear ev
                                obtain ⟨hg, hf⟩ := gdp hf
                                refine va_iald hx hb hK hP 2 1 rfl rfl (inb_in hg) d_Ma_arrange_290 ?_
                                refine lv_topi (fun v24 ev => ?_)
                                have hf := bn ev hf
                                clear ev
                                obtain ⟨hg, hf⟩ := gdp hf
                                refine va_iast hx hb hK hP hD hS 2 1 rfl rfl (inb_in hg) d_Ma_arrange_291 (fun H locs hP hD hS => ?_)
                                obtain ⟨f25, ev, hf⟩ := bne hf
                                have hP : va_P D classes [(o, .inr (6, [v_o_sha, r_signatures, v_o_ripemd, .ref a_data, v_a_scriptEnd, .ref a_main, v_a_other, v_a_taken, .int u0, .int i_otherHeight, .int i_ops, .int i_ifs, .int i_ifsNotTaken, .int u1, r_layout, .int i_tx, .int i_in, r_coin, .int i_messageIsThere])), (a_data, .inl (cy 0, 14928, .inl u2)), (a_main, .inl (cy 1, 204, .inl f25))] H := by rw [ev]; exact hP
                                have hD : va_D A [(o, .inr (6, [v_o_sha, r_signatures, v_o_ripemd, .ref a_data, v_a_scriptEnd, .ref a_main, v_a_other, v_a_taken, .int u0, .int i_otherHeight, .int i_ops, .int i_ifs, .int i_ifsNotTaken, .int u1, r_layout, .int i_tx, .int i_in, r_coin, .int i_messageIsThere])), (a_data, .inl (cy 0, 14928, .inl u2)), (a_main, .inl (cy 1, 204, .inl f25))] := by rw [ev]; exact hD
                                clear ev
                                refine lv_aload_n hx hb d_Ma_arrange_292 rfl (lv_at hl 1 rfl) ?_
                                refine va_get (D := D) (ci := 6) (v := .ref a_main) (C := "CoinKeeper$Machine") (T := F_6) (N := 19) hx hb hts i_6 hown hK hP 0 rfl rfl 5 (by decide) (hts _ gw_209) (fun _ h9 => h9) rfl d_Ma_arrange_293 ?_
                                refine lv_aload_n hx hb d_Ma_arrange_296 rfl (lv_at hl 1 rfl) ?_
                                refine va_get (D := D) (ci := 6) (v := .int u0) (C := "CoinKeeper$Machine") (T := F_6) (N := 19) hx hb hts i_6 hown hK hP 0 rfl rfl 8 (by decide) (hts _ gw_212) (fun _ h9 => h9) rfl d_Ma_arrange_297 ?_
                                refine lv_iconst (v := 3) hx hb d_Ma_arrange_300 (by decide) ?_
                                refine lv_isub hx hb d_Ma_arrange_301 ?_
                                refine lv_topi (fun v26 ev => ?_)
                                have hf := bn ev hf
                                clear ev
                                refine lv_iload_n hx hb d_Ma_arrange_302 rfl (lv_at hl 0 rfl) ?_
                                obtain ⟨hg, hf⟩ := gdp hf
                                refine va_iast hx hb hK hP hD hS 2 1 rfl rfl (inb_in hg) d_Ma_arrange_303 (fun H locs hP hD hS => ?_)
                                obtain ⟨f27, ev, hf⟩ := bne hf
                                have hP : va_P D classes [(o, .inr (6, [v_o_sha, r_signatures, v_o_ripemd, .ref a_data, v_a_scriptEnd, .ref a_main, v_a_other, v_a_taken, .int u0, .int i_otherHeight, .int i_ops, .int i_ifs, .int i_ifsNotTaken, .int u1, r_layout, .int i_tx, .int i_in, r_coin, .int i_messageIsThere])), (a_data, .inl (cy 0, 14928, .inl u2)), (a_main, .inl (cy 1, 204, .inl f27))] H := by rw [ev]; exact hP
                                have hD : va_D A [(o, .inr (6, [v_o_sha, r_signatures, v_o_ripemd, .ref a_data, v_a_scriptEnd, .ref a_main, v_a_other, v_a_taken, .int u0, .int i_otherHeight, .int i_ops, .int i_ifs, .int i_ifsNotTaken, .int u1, r_layout, .int i_tx, .int i_in, r_coin, .int i_messageIsThere])), (a_data, .inl (cy 0, 14928, .inl u2)), (a_main, .inl (cy 1, 204, .inl f27))] := by rw [ev]; exact hD
                                clear ev
                                refine lv_aload_n hx hb d_Ma_arrange_304 rfl (lv_at hl 1 rfl) ?_
                                refine va_get (D := D) (ci := 6) (v := .ref a_main) (C := "CoinKeeper$Machine") (T := F_6) (N := 19) hx hb hts i_6 hown hK hP 0 rfl rfl 5 (by decide) (hts _ gw_209) (fun _ h9 => h9) rfl d_Ma_arrange_305 ?_
                                refine lv_aload_n hx hb d_Ma_arrange_308 rfl (lv_at hl 1 rfl) ?_
                                refine va_get (D := D) (ci := 6) (v := .int u0) (C := "CoinKeeper$Machine") (T := F_6) (N := 19) hx hb hts i_6 hown hK hP 0 rfl rfl 8 (by decide) (hts _ gw_212) (fun _ h9 => h9) rfl d_Ma_arrange_309 ?_
                                refine lv_iconst (v := 2) hx hb d_Ma_arrange_312 (by decide) ?_
                                refine lv_isub hx hb d_Ma_arrange_313 ?_
                                refine lv_topi (fun v28 ev => ?_)
                                have hf := bn ev hf
                                clear ev
                                refine lv_iload_n hx hb d_Ma_arrange_314 rfl (lv_at hl 3 rfl) ?_
                                obtain ⟨hg, hf⟩ := gdp hf
                                refine va_iast hx hb hK hP hD hS 2 1 rfl rfl (inb_in hg) d_Ma_arrange_315 (fun H locs hP hD hS => ?_)
                                obtain ⟨f29, ev, hf⟩ := bne hf
                                have hP : va_P D classes [(o, .inr (6, [v_o_sha, r_signatures, v_o_ripemd, .ref a_data, v_a_scriptEnd, .ref a_main, v_a_other, v_a_taken, .int u0, .int i_otherHeight, .int i_ops, .int i_ifs, .int i_ifsNotTaken, .int u1, r_layout, .int i_tx, .int i_in, r_coin, .int i_messageIsThere])), (a_data, .inl (cy 0, 14928, .inl u2)), (a_main, .inl (cy 1, 204, .inl f29))] H := by rw [ev]; exact hP
                                have hD : va_D A [(o, .inr (6, [v_o_sha, r_signatures, v_o_ripemd, .ref a_data, v_a_scriptEnd, .ref a_main, v_a_other, v_a_taken, .int u0, .int i_otherHeight, .int i_ops, .int i_ifs, .int i_ifsNotTaken, .int u1, r_layout, .int i_tx, .int i_in, r_coin, .int i_messageIsThere])), (a_data, .inl (cy 0, 14928, .inl u2)), (a_main, .inl (cy 1, 204, .inl f29))] := by rw [ev]; exact hD
                                clear ev
                                refine lv_iconst (v := 1) hx hb d_Ma_arrange_316 (by decide) ?_
                                obtain rfl := Option.some.inj hf
                                exact q_rz hx hb hr hlocks hK hP hD hS (isb_n (v := 1) (by decide)) d_Ma_arrange_317
                              · have hf := ifn cx hf
                                have cn_14 := lv_neT (a := 123) cx (by decide)
                                clear cx
                                by_cases cx : x1 = 124
                                · have hf := ifp cx hf
                                  refine lv_tableIn (tgt := 318) (off := 257) hx hb d_Ma_arrange_61 (by rw [cx]; decide) (by rw [cx]; decide) (by rw [cx]; decide +kernel) (by decide) ?_
                                  exact wb_Ma_arrange_318 (fu := fu) F _ _ _ _ _ _ _ _ hf _ _ _ hP hD hS (lv_sub hl [1, 2, 3, 0] rfl)
                                · have hf := ifn cx hf
                                  have cn_15 := lv_neT (a := 124) cx (by decide)
                                  clear cx
                                  by_cases cx : x1 = 125
                                  · have hf := ifp cx hf
                                    refine lv_tableIn (tgt := 318) (off := 257) hx hb d_Ma_arrange_61 (by rw [cx]; decide) (by rw [cx]; decide) (by rw [cx]; decide +kernel) (by decide) ?_
                                    exact wb_Ma_arrange_318 (fu := fu) F _ _ _ _ _ _ _ _ hf _ _ _ hP hD hS (lv_sub hl [1, 2, 3, 0] rfl)
                                  · have hf := ifn cx hf
                                    have cn_16 := lv_neT (a := 125) cx (by decide)
                                    clear cx
                                    by_cases cx : x1 = 126
                                    · have hf := ifp cx hf
                                      refine lv_tableIn (tgt := 366) (off := 305) hx hb d_Ma_arrange_61 (by rw [cx]; decide) (by rw [cx]; decide) (by rw [cx]; decide +kernel) (by decide) ?_
                                      refine lv_iconst (v := 0) hx hb d_Ma_arrange_366 (by decide) ?_
                                      obtain rfl := Option.some.inj hf
                                      exact q_rz hx hb hr hlocks hK hP hD hS (isb_n (v := 0) (by decide)) d_Ma_arrange_367
                                    · have hf := ifn cx hf
                                      have cn_17 := lv_neT (a := 126) cx (by decide)
                                      clear cx
                                      by_cases cx : x1 = 127
                                      · have hf := ifp cx hf
                                        refine lv_tableIn (tgt := 366) (off := 305) hx hb d_Ma_arrange_61 (by rw [cx]; decide) (by rw [cx]; decide) (by rw [cx]; decide +kernel) (by decide) ?_
                                        refine lv_iconst (v := 0) hx hb d_Ma_arrange_366 (by decide) ?_
                                        obtain rfl := Option.some.inj hf
                                        exact q_rz hx hb hr hlocks hK hP hD hS (isb_n (v := 0) (by decide)) d_Ma_arrange_367
                                      · have hf := ifn cx hf
                                        have cn_18 := lv_neT (a := 127) cx (by decide)
                                        clear cx
                                        by_cases cx : x1 = 128
                                        · have hf := ifp cx hf
                                          refine lv_tableIn (tgt := 366) (off := 305) hx hb d_Ma_arrange_61 (by rw [cx]; decide) (by rw [cx]; decide) (by rw [cx]; decide +kernel) (by decide) ?_
                                          refine lv_iconst (v := 0) hx hb d_Ma_arrange_366 (by decide) ?_
                                          obtain rfl := Option.some.inj hf
                                          exact q_rz hx hb hr hlocks hK hP hD hS (isb_n (v := 0) (by decide)) d_Ma_arrange_367
                                        · have hf := ifn cx hf
                                          have cn_19 := lv_neT (a := 128) cx (by decide)
                                          clear cx
                                          by_cases cx : x1 = 129
                                          · have hf := ifp cx hf
                                            refine lv_tableIn (tgt := 366) (off := 305) hx hb d_Ma_arrange_61 (by rw [cx]; decide) (by rw [cx]; decide) (by rw [cx]; decide +kernel) (by decide) ?_
                                            refine lv_iconst (v := 0) hx hb d_Ma_arrange_366 (by decide) ?_
                                            obtain rfl := Option.some.inj hf
                                            exact q_rz hx hb hr hlocks hK hP hD hS (isb_n (v := 0) (by decide)) d_Ma_arrange_367
                                          · have hf := ifn cx hf
                                            have cn_20 := lv_neT (a := 129) cx (by decide)
                                            clear cx
                                            by_cases cx : x1 = 130
                                            · have hf := ifp cx hf
                                              refine lv_tableIn (tgt := 355) (off := 294) hx hb d_Ma_arrange_61 (by rw [cx]; decide) (by rw [cx]; decide) (by rw [cx]; decide +kernel) (by decide) ?_
                                              refine lv_aload_n hx hb d_Ma_arrange_355 rfl (lv_at hl 1 rfl) ?_
                                              refine lv_iload_n hx hb d_Ma_arrange_356 rfl (lv_at hl 3 rfl) ?_
                                              obtain ⟨v30, hc, hf⟩ := bdp1 hf
                                              refine q_ai (wr := [(o, .inr (6, [v_o_sha, r_signatures, v_o_ripemd, .ref a_data, v_a_scriptEnd, .ref a_main, v_a_other, v_a_taken, .int u0, .int i_otherHeight, .int i_ops, .int i_ifs, .int i_ifsNotTaken, .int u1, r_layout, .int i_tx, .int i_in, r_coin, .int i_messageIsThere])), (a_data, .inl (cy 0, 14928, .inl u2)), (a_main, .inl (cy 1, 204, .inl u3))]) (va_runS (As := [.int x2]) (rest := [.ref o]) ⟨hx, hb, hml, hown, hts⟩ (c_Ma_lengthOf l D cy ad fu x2 _ hc H.size) ⟨q_cB hts gw_1002 gw_6 gw_1000 hdc_40 ⟨by decide, by decide⟩, hts _ gw_1001⟩ (q_pre (hP.sub [] rfl) (hD.sub [] (by decide) rfl) hK hSt hS (va_free hD hS hA [] rfl) _) rfl rfl hl.1 rfl (lv_room (Nat.le_of_ble_eq_true rfl)) d_Ma_arrange_357 ⟨Nat.le_of_ble_eq_true rfl, Nat.le_of_ble_eq_true rfl⟩) hP hD hS hA [] [0, 1, 2] rfl rfl (by decide) (by decide) (fun H locs hP hD hS => ?_)
                                              clear hc
                                              have hP : va_P D classes [(o, .inr (6, [v_o_sha, r_signatures, v_o_ripemd, .ref a_data, v_a_scriptEnd, .ref a_main, v_a_other, v_a_taken, .int u0, .int i_otherHeight, .int i_ops, .int i_ifs, .int i_ifsNotTaken, .int u1, r_layout, .int i_tx, .int i_in, r_coin, .int i_messageIsThere])), (a_data, .inl (cy 0, 14928, .inl u2)), (a_main, .inl (cy 1, 204, .inl u3))] H := hP
                                              have hD : va_D A [(o, .inr (6, [v_o_sha, r_signatures, v_o_ripemd, .ref a_data, v_a_scriptEnd, .ref a_main, v_a_other, v_a_taken, .int u0, .int i_otherHeight, .int i_ops, .int i_ifs, .int i_ifsNotTaken, .int u1, r_layout, .int i_tx, .int i_in, r_coin, .int i_messageIsThere])), (a_data, .inl (cy 0, 14928, .inl u2)), (a_main, .inl (cy 1, 204, .inl u3))] := hD
                                              refine lv_i2l hx hb d_Ma_arrange_360 rfl ?_
                                              refine lv_topl (fun v31 ev => ?_)
                                              have hf := bn ev hf
                                              clear ev
                                              obtain ⟨e32, e33, f34, f35, hc, hf⟩ := bdp4 hf
                                              refine q_av (wr := []) (va_runV (C := "CoinKeeper$Machine") (As := [.long v31]) (rest := []) ⟨hx, hb, hml, hown, hts⟩ (c_Ma_pushNumber l D cy ad fu o v_o_sha r_signatures v_o_ripemd v_a_scriptEnd v_a_other v_a_taken r_layout r_coin a_data a_main i_otherHeight i_ops i_ifs i_ifsNotTaken i_tx i_in i_messageIsThere v31 u0 u1 u2 u3 _ hc H.size) ⟨q_cB hts gw_1202 gw_6 gw_1199 hdc_47 ⟨by decide, by decide⟩, hts _ gw_1201, hts _ gs_49⟩ (q_preV (q_pre (hP.sub [0, 1, 2] rfl) (hD.sub [0, 1, 2] (by decide) rfl) hK hSt hS (va_free hD hS hA [0, 1, 2] rfl) _) (va_recv hK (hP.sub [0, 1, 2] rfl) (ci := 6) (q0 := 0) rfl rfl)) rfl rfl hl.1 rfl (lv_room (Nat.le_of_ble_eq_true rfl)) d_Ma_arrange_361 ⟨Nat.le_of_ble_eq_true rfl, Nat.le_of_ble_eq_true rfl⟩) hP hD hS hA [0, 1, 2] [] rfl rfl (by decide) (by decide) (fun H locs hP hD hS => ?_)
                                              clear hc
                                              have hP : va_P D classes [(o, .inr (6, [v_o_sha, r_signatures, v_o_ripemd, .ref a_data, v_a_scriptEnd, .ref a_main, v_a_other, v_a_taken, .int e32, .int i_otherHeight, .int i_ops, .int i_ifs, .int i_ifsNotTaken, .int e33, r_layout, .int i_tx, .int i_in, r_coin, .int i_messageIsThere])), (a_data, .inl (cy 0, 14928, .inl f34)), (a_main, .inl (cy 1, 204, .inl f35))] H := hP
                                              have hD : va_D A [(o, .inr (6, [v_o_sha, r_signatures, v_o_ripemd, .ref a_data, v_a_scriptEnd, .ref a_main, v_a_other, v_a_taken, .int e32, .int i_otherHeight, .int i_ops, .int i_ifs, .int i_ifsNotTaken, .int e33, r_layout, .int i_tx, .int i_in, r_coin, .int i_messageIsThere])), (a_data, .inl (cy 0, 14928, .inl f34)), (a_main, .inl (cy 1, 204, .inl f35))] := hD
                                              refine lv_iconst (v := 1) hx hb d_Ma_arrange_364 (by decide) ?_
                                              obtain rfl := Option.some.inj hf
                                              exact q_rz hx hb hr hlocks hK hP hD hS (isb_n (v := 1) (by decide)) d_Ma_arrange_365
                                            · have hf := ifn cx hf
                                              have cn_21 := lv_neT (a := 130) cx (by decide)
                                              clear cx
                                              refine lv_tableOut (tgt := 366) hx hb d_Ma_arrange_61 (by omega) (by decide) ?_
                                              clear cn_0 cn_1 cn_2 cn_3 cn_4 cn_5 cn_6 cn_7 cn_8 cn_9 cn_10 cn_11 cn_12 cn_13 cn_14 cn_15 cn_16 cn_17 cn_18 cn_19 cn_20 cn_21
                                              refine lv_iconst (v := 0) hx hb d_Ma_arrange_366 (by decide) ?_
                                              obtain rfl := Option.some.inj hf
                                              exact q_rz hx hb hr hlocks hK hP hD hS (isb_n (v := 0) (by decide)) d_Ma_arrange_367
set_option maxHeartbeats 8000000 in
set_option maxRecDepth 100000 in
theorem wb_Ma_arrange_35 {p : Program} {l : Launch} {e : Env} {s : State} {m : MethodId} {args : Array Value} {below : List Frame} {meth : Method} {c : Code} {D : va_G} {cy : Nat → ClassId} {A : Nat → Prop} {ad : Nat → Nat} {o : Nat} {v_o_sha : Value} {r_signatures : Value} {v_o_ripemd : Value} {v_a_scriptEnd : Value} {v_a_other : Value} {v_a_taken : Value} {r_layout : Value} {r_coin : Value} {a_data : Nat} {a_main : Nat} {i_otherHeight : Int32} {i_ops : Int32} {i_ifs : Int32} {i_ifsNotTaken : Int32} {i_tx : Int32} {i_in : Int32} {i_messageIsThere : Int32} {fu : Nat} (F : Fx p s m args meth c b_Ma_arrange 4 "CoinKeeper$Machine" "arrange" (some .boolean) D cy ad A) : I_Ma_arrange_35 p l e s m args below meth c D cy A ad o v_o_sha r_signatures v_o_ripemd v_a_scriptEnd v_a_other v_a_taken r_layout r_coin a_data a_main i_otherHeight i_ops i_ifs i_ifsNotTaken i_tx i_in i_messageIsThere (xb_Ma_arrange_35 fu i_otherHeight i_ops i_ifs i_ifsNotTaken i_tx i_in i_messageIsThere) := by
  obtain ⟨hx, hb, hr, hml, hown, hts, hlocks, hK, hA, hSt, hnm, hex⟩ := id F
  intro x1 y0 u0 u1 u2 u3 res hf H locs ls hP hD hS hl
  unfold xb_Ma_arrange_35 at hf
  refine lv_istore_n (lv' := [(2, .int y0), (0, .ref o), (1, .int x1)]) hx hb d_Ma_arrange_35 rfl hl (by decide) rfl (fun ls hl => ?_)
  refine lv_aload_n hx hb d_Ma_arrange_36 rfl (lv_at hl 1 rfl) ?_
  refine va_get (D := D) (ci := 6) (v := .int u0) (C := "CoinKeeper$Machine") (T := F_6) (N := 19) hx hb hts i_6 hown hK hP 0 rfl rfl 8 (by decide) (hts _ gw_212) (fun _ h9 => h9) rfl d_Ma_arrange_37 ?_
  refine lv_iconst (v := 1) hx hb d_Ma_arrange_40 (by decide) ?_
  refine lv_icmp_le (tgt := 58) hx hb d_Ma_arrange_41 (by decide) (fun cx => ?_) (fun cx => ?_)
  · have hf := ifp cx hf
    refine lv_iconst (v := 0) hx hb d_Ma_arrange_58 (by decide) ?_
    exact wb_Ma_arrange_59 (fu := fu) F _ _ _ _ _ _ _ _ hf _ _ _ hP hD hS (lv_sub hl [1, 2, 0] rfl)
  · have hf := ifn cx hf
    refine lv_aload_n hx hb d_Ma_arrange_44 rfl (lv_at hl 1 rfl) ?_
    refine va_get (D := D) (ci := 6) (v := .ref a_main) (C := "CoinKeeper$Machine") (T := F_6) (N := 19) hx hb hts i_6 hown hK hP 0 rfl rfl 5 (by decide) (hts _ gw_209) (fun _ h9 => h9) rfl d_Ma_arrange_45 ?_
    refine lv_aload_n hx hb d_Ma_arrange_48 rfl (lv_at hl 1 rfl) ?_
    refine va_get (D := D) (ci := 6) (v := .int u0) (C := "CoinKeeper$Machine") (T := F_6) (N := 19) hx hb hts i_6 hown hK hP 0 rfl rfl 8 (by decide) (hts _ gw_212) (fun _ h9 => h9) rfl d_Ma_arrange_49 ?_
    refine lv_iconst (v := 2) hx hb d_Ma_arrange_52 (by decide) ?_
    refine lv_isub hx hb d_Ma_arrange_53 ?_
    refine lv_topi (fun v1 ev => ?_)
    have hf := bn ev hf
    clear ev
    obtain ⟨hg, hf⟩ := gdp hf
    refine va_iald hx hb hK hP 2 1 rfl rfl (inb_in hg) d_Ma_arrange_54 ?_
    refine lv_topi (fun v2 ev => ?_)
    have hf := bn ev hf
    clear ev
    refine lv_goto (tgt := 59) hx hb d_Ma_arrange_55 (by decide) ?_
    exact wb_Ma_arrange_59 (fu := fu) F _ _ _ _ _ _ _ _ hf _ _ _ hP hD hS (lv_sub hl [1, 2, 0] rfl)
theorem hdc_50 : ({ cls := "CoinKeeper$Machine", name := "neededBy", desc := "(I)I" } : Jvm.MethodName).cls ≠ "java/lang/invoke/MethodHandle" ∧ ({ cls := "CoinKeeper$Machine", name := "neededBy", desc := "(I)I" } : Jvm.MethodName).cls ≠ "java/lang/invoke/VarHandle" ∧ (parseMethodDescriptor ({ cls := "CoinKeeper$Machine", name := "neededBy", desc := "(I)I" } : Jvm.MethodName).desc).map (fun d => d.parameters.length) = some 1 := by decide +kernel
set_option maxHeartbeats 8000000 in
set_option maxRecDepth 100000 in
theorem we_Ma_arrange {p : Program} {l : Launch} {e : Env} {s : State} {m : MethodId} {args : Array Value} {below : List Frame} {meth : Method} {c : Code} {D : va_G} {cy : Nat → ClassId} {A : Nat → Prop} {ad : Nat → Nat} {o : Nat} {v_o_sha : Value} {r_signatures : Value} {v_o_ripemd : Value} {v_a_scriptEnd : Value} {v_a_other : Value} {v_a_taken : Value} {r_layout : Value} {r_coin : Value} {a_data : Nat} {a_main : Nat} {i_otherHeight : Int32} {i_ops : Int32} {i_ifs : Int32} {i_ifsNotTaken : Int32} {i_tx : Int32} {i_in : Int32} {i_messageIsThere : Int32} {fu : Nat} (F : Fx p s m args meth c b_Ma_arrange 4 "CoinKeeper$Machine" "arrange" (some .boolean) D cy ad A) : I_Ma_arrange_e p l e s m args below meth c D cy A ad o v_o_sha r_signatures v_o_ripemd v_a_scriptEnd v_a_other v_a_taken r_layout r_coin a_data a_main i_otherHeight i_ops i_ifs i_ifsNotTaken i_tx i_in i_messageIsThere (x_Ma_arrange fu i_otherHeight i_ops i_ifs i_ifsNotTaken i_tx i_in i_messageIsThere) := by
  obtain ⟨hx, hb, hr, hml, hown, hts, hlocks, hK, hA, hSt, hnm, hex⟩ := id F
  intro a1 u0 u1 u2 u3 res hf H locs ls hP hD hS hl
  unfold x_Ma_arrange at hf
  refine lv_aload_n hx hb d_Ma_arrange_0 rfl (lv_at hl 0 rfl) ?_
  refine va_get (D := D) (ci := 6) (v := .int u0) (C := "CoinKeeper$Machine") (T := F_6) (N := 19) hx hb hts i_6 hown hK hP 0 rfl rfl 8 (by decide) (hts _ gw_212) (fun _ h9 => h9) rfl d_Ma_arrange_1 ?_
  refine lv_iload_n hx hb d_Ma_arrange_4 rfl (lv_at hl 1 rfl) ?_
  obtain ⟨v1, hc, hf⟩ := bdp1 hf
  refine q_ai (wr := [(o, .inr (6, [v_o_sha, r_signatures, v_o_ripemd, .ref a_data, v_a_scriptEnd, .ref a_main, v_a_other, v_a_taken, .int u0, .int i_otherHeight, .int i_ops, .int i_ifs, .int i_ifsNotTaken, .int u1, r_layout, .int i_tx, .int i_in, r_coin, .int i_messageIsThere])), (a_data, .inl (cy 0, 14928, .inl u2)), (a_main, .inl (cy 1, 204, .inl u3))]) (va_runS (As := [.int a1]) (rest := [.int u0]) ⟨hx, hb, hml, hown, hts⟩ (c_Ma_neededBy l D cy ad fu a1 _ hc H.size) ⟨q_cB hts gw_1198 gw_6 gw_1196 hdc_50 ⟨by decide, by decide⟩, hts _ gw_1197⟩ (q_pre (hP.sub [] rfl) (hD.sub [] (by decide) rfl) hK hSt hS (va_free hD hS hA [] rfl) _) rfl rfl hl.1 rfl (lv_room (Nat.le_of_ble_eq_true rfl)) d_Ma_arrange_5 ⟨Nat.le_of_ble_eq_true rfl, Nat.le_of_ble_eq_true rfl⟩) hP hD hS hA [] [0, 1, 2] rfl rfl (by decide) (by decide) (fun H locs hP hD hS => ?_)
  clear hc
  have hP : va_P D classes [(o, .inr (6, [v_o_sha, r_signatures, v_o_ripemd, .ref a_data, v_a_scriptEnd, .ref a_main, v_a_other, v_a_taken, .int u0, .int i_otherHeight, .int i_ops, .int i_ifs, .int i_ifsNotTaken, .int u1, r_layout, .int i_tx, .int i_in, r_coin, .int i_messageIsThere])), (a_data, .inl (cy 0, 14928, .inl u2)), (a_main, .inl (cy 1, 204, .inl u3))] H := hP
  have hD : va_D A [(o, .inr (6, [v_o_sha, r_signatures, v_o_ripemd, .ref a_data, v_a_scriptEnd, .ref a_main, v_a_other, v_a_taken, .int u0, .int i_otherHeight, .int i_ops, .int i_ifs, .int i_ifsNotTaken, .int u1, r_layout, .int i_tx, .int i_in, r_coin, .int i_messageIsThere])), (a_data, .inl (cy 0, 14928, .inl u2)), (a_main, .inl (cy 1, 204, .inl u3))] := hD
  refine lv_icmp_ge (tgt := 13) hx hb d_Ma_arrange_8 (by decide) (fun cx => ?_) (fun cx => ?_)
  · have hf := ifp cx hf
    refine lv_aload_n hx hb d_Ma_arrange_13 rfl (lv_at hl 0 rfl) ?_
    refine va_get (D := D) (ci := 6) (v := .int u0) (C := "CoinKeeper$Machine") (T := F_6) (N := 19) hx hb hts i_6 hown hK hP 0 rfl rfl 8 (by decide) (hts _ gw_212) (fun _ h9 => h9) rfl d_Ma_arrange_14 ?_
    refine lv_if_le (tgt := 34) hx hb d_Ma_arrange_17 (by decide) (fun cx => ?_) (fun cx => ?_)
    · have hf := ifp cx hf
      refine lv_iconst (v := 0) hx hb d_Ma_arrange_34 (by decide) ?_
      exact wb_Ma_arrange_35 (fu := fu) F _ _ _ _ _ _ _ hf _ _ _ hP hD hS (lv_sub hl [0, 1] rfl)
    · have hf := ifn cx hf
      refine lv_aload_n hx hb d_Ma_arrange_20 rfl (lv_at hl 0 rfl) ?_
      refine va_get (D := D) (ci := 6) (v := .ref a_main) (C := "CoinKeeper$Machine") (T := F_6) (N := 19) hx hb hts i_6 hown hK hP 0 rfl rfl 5 (by decide) (hts _ gw_209) (fun _ h9 => h9) rfl d_Ma_arrange_21 ?_
      refine lv_aload_n hx hb d_Ma_arrange_24 rfl (lv_at hl 0 rfl) ?_
      refine va_get (D := D) (ci := 6) (v := .int u0) (C := "CoinKeeper$Machine") (T := F_6) (N := 19) hx hb hts i_6 hown hK hP 0 rfl rfl 8 (by decide) (hts _ gw_212) (fun _ h9 => h9) rfl d_Ma_arrange_25 ?_
      refine lv_iconst (v := 1) hx hb d_Ma_arrange_28 (by decide) ?_
      refine lv_isub hx hb d_Ma_arrange_29 ?_
      refine lv_topi (fun v2 ev => ?_)
      have hf := bn ev hf
      clear ev
      obtain ⟨hg, hf⟩ := gdp hf
      refine va_iald hx hb hK hP 2 1 rfl rfl (inb_in hg) d_Ma_arrange_30 ?_
      refine lv_topi (fun v3 ev => ?_)
      have hf := bn ev hf
      clear ev
      refine lv_goto (tgt := 35) hx hb d_Ma_arrange_31 (by decide) ?_
      exact wb_Ma_arrange_35 (fu := fu) F _ _ _ _ _ _ _ hf _ _ _ hP hD hS (lv_sub hl [0, 1] rfl)
  · have hf := ifn cx hf
    refine lv_iconst (v := 0) hx hb d_Ma_arrange_11 (by decide) ?_
    obtain rfl := Option.some.inj hf
    exact q_rz hx hb hr hlocks hK hP hD hS (isb_n (v := 0) (by decide)) d_Ma_arrange_12
theorem c_Ma_arrange (l : Launch) (D : va_G) (cy : Nat → ClassId) (ad : Nat → Nat) (fu : Nat) (o : Nat) (v_o_sha : Value) (r_signatures : Value) (v_o_ripemd : Value) (v_a_scriptEnd : Value) (v_a_other : Value) (v_a_taken : Value) (r_layout : Value) (r_coin : Value) (a_data : Nat) (a_main : Nat) (i_otherHeight : Int32) (i_ops : Int32) (i_ifs : Int32) (i_ifsNotTaken : Int32) (i_tx : Int32) (i_in : Int32) (i_messageIsThere : Int32) (a1 : Int32) (u0 : Int32) (u1 : Int32) (u2 : Nat → Int32) (u3 : Nat → Int32) (res : Int32 × Int32 × Int32 × (Nat → Int32) × (Nat → Int32)) (hf : x_Ma_arrange fu i_otherHeight i_ops i_ifs i_ifsNotTaken i_tx i_in i_messageIsThere a1 u0 u1 u2 u3 = some res) (sz : Nat) : Met l ({ cls := "CoinKeeper$Machine", name := "arrange", desc := "(I)Z" } : Jvm.MethodName) (.code ({ cls := "CoinKeeper$Machine", name := "arrange", desc := "(I)Z" } : Jvm.MethodName) b_Ma_arrange 4 (some .boolean) :: gw) rm_Ma_arrange (va_Pc [.ref o, .int a1] (Pr D cy ad [(o, .inr (6, [v_o_sha, r_signatures, v_o_ripemd, .ref a_data, v_a_scriptEnd, .ref a_main, v_a_other, v_a_taken, .int u0, .int i_otherHeight, .int i_ops, .int i_ifs, .int i_ifsNotTaken, .int u1, r_layout, .int i_tx, .int i_in, r_coin, .int i_messageIsThere])), (a_data, .inl (cy 0, 14928, .inl u2)), (a_main, .inl (cy 1, 204, .inl u3))] sz)) (q_Ma_arrange D cy (va_A [(o, .inr (6, [v_o_sha, r_signatures, v_o_ripemd, .ref a_data, v_a_scriptEnd, .ref a_main, v_a_other, v_a_taken, .int u0, .int i_otherHeight, .int i_ops, .int i_ifs, .int i_ifsNotTaken, .int u1, r_layout, .int i_tx, .int i_in, r_coin, .int i_messageIsThere])), (a_data, .inl (cy 0, 14928, .inl u2)), (a_main, .inl (cy 1, 204, .inl u3))] sz) o v_o_sha r_signatures v_o_ripemd v_a_scriptEnd v_a_other v_a_taken r_layout r_coin a_data a_main i_otherHeight i_ops i_ifs i_ifsNotTaken i_tx i_in i_messageIsThere res) 0 0 (va_A [(o, .inr (6, [v_o_sha, r_signatures, v_o_ripemd, .ref a_data, v_a_scriptEnd, .ref a_main, v_a_other, v_a_taken, .int u0, .int i_otherHeight, .int i_ops, .int i_ifs, .int i_ifsNotTaken, .int u1, r_layout, .int i_tx, .int i_in, r_coin, .int i_messageIsThere])), (a_data, .inl (cy 0, 14928, .inl u2)), (a_main, .inl (cy 1, 204, .inl u3))] sz) :=
  q_met (Qc := fun A => q_Ma_arrange D cy A o v_o_sha r_signatures v_o_ripemd v_a_scriptEnd v_a_other v_a_taken r_layout r_coin a_data a_main i_otherHeight i_ops i_ifs i_ifsNotTaken i_tx i_in i_messageIsThere res) (by decide) rfl rfl (Nat.le_of_ble_eq_true rfl) (fun p e s m below meth c ls F hP hD hS hl => we_Ma_arrange (fu := fu) F a1 u0 u1 u2 u3 res hf _ _ _ hP hD hS hl) sz
abbrev b_Ma_pushSmall : ByteArray := prog_7_method_16_code
theorem d_Ma_pushSmall_0 : decode b_Ma_pushSmall 0 = .ok (.iload_n 1, 1) := by decide +kernel
theorem d_Ma_pushSmall_1 : decode b_Ma_pushSmall 1 = .ok (.bipush 79, 2) := by decide +kernel
theorem d_Ma_pushSmall_3 : decode b_Ma_pushSmall 3 = .ok (.if_icmp .eq 11, 3) := by decide +kernel
theorem d_Ma_pushSmall_6 : decode b_Ma_pushSmall 6 = .ok (.iload_n 1, 1) := by decide +kernel
theorem d_Ma_pushSmall_7 : decode b_Ma_pushSmall 7 = .ok (.bipush 81, 2) := by decide +kernel
theorem d_Ma_pushSmall_9 : decode b_Ma_pushSmall 9 = .ok (.if_icmp .ge 5, 3) := by decide +kernel
theorem d_Ma_pushSmall_12 : decode b_Ma_pushSmall 12 = .ok (.iconst 0, 1) := by decide +kernel
theorem d_Ma_pushSmall_13 : decode b_Ma_pushSmall 13 = .ok (.ireturn, 1) := by decide +kernel
theorem d_Ma_pushSmall_14 : decode b_Ma_pushSmall 14 = .ok (.aload_n 0, 1) := by decide +kernel
theorem d_Ma_pushSmall_15 : decode b_Ma_pushSmall 15 = .ok (.bipush 32, 2) := by decide +kernel
theorem d_Ma_pushSmall_17 : decode b_Ma_pushSmall 17 = .ok (.iload_n 1, 1) := by decide +kernel
theorem d_Ma_pushSmall_18 : decode b_Ma_pushSmall 18 = .ok (.bipush 79, 2) := by decide +kernel
theorem d_Ma_pushSmall_20 : decode b_Ma_pushSmall 20 = .ok (.if_icmp .ne 7, 3) := by decide +kernel
theorem d_Ma_pushSmall_23 : decode b_Ma_pushSmall 23 = .ok (.iconst 0, 1) := by decide +kernel
theorem d_Ma_pushSmall_24 : decode b_Ma_pushSmall 24 = .ok (.goto 7, 3) := by decide +kernel
theorem d_Ma_pushSmall_27 : decode b_Ma_pushSmall 27 = .ok (.iload_n 1, 1) := by decide +kernel
theorem d_Ma_pushSmall_28 : decode b_Ma_pushSmall 28 = .ok (.bipush 80, 2) := by decide +kernel
theorem d_Ma_pushSmall_30 : decode b_Ma_pushSmall 30 = .ok (.isub, 1) := by decide +kernel
theorem d_Ma_pushSmall_31 : decode b_Ma_pushSmall 31 = .ok (.iadd, 1) := by decide +kernel
theorem d_Ma_pushSmall_32 : decode b_Ma_pushSmall 32 = .ok (.bipush 8, 2) := by decide +kernel
theorem d_Ma_pushSmall_34 : decode b_Ma_pushSmall 34 = .ok (.ishl, 1) := by decide +kernel
theorem d_Ma_pushSmall_35 : decode b_Ma_pushSmall 35 = .ok (.iconst 1, 1) := by decide +kernel
theorem d_Ma_pushSmall_36 : decode b_Ma_pushSmall 36 = .ok (.ior, 1) := by decide +kernel
theorem d_Ma_pushSmall_37 : decode b_Ma_pushSmall 37 = .ok (.invokevirtual 95, 3) := by decide +kernel
theorem d_Ma_pushSmall_40 : decode b_Ma_pushSmall 40 = .ok (.iconst 1, 1) := by decide +kernel
theorem d_Ma_pushSmall_41 : decode b_Ma_pushSmall 41 = .ok (.ireturn, 1) := by decide +kernel
abbrev rm_Ma_pushSmall : Room := { frames := 1, cells := 0, slots := 0, locals := 21 }
abbrev q_Ma_pushSmall (D : va_G) (cy : Nat → ClassId) (A : Nat → Prop) (o : Nat) (v_o_sha : Value) (r_signatures : Value) (v_o_ripemd : Value) (v_a_data : Value) (v_a_scriptEnd : Value) (v_a_other : Value) (v_a_taken : Value) (r_layout : Value) (r_coin : Value) (a_main : Nat) (i_otherHeight : Int32) (i_ops : Int32) (i_ifs : Int32) (i_ifsNotTaken : Int32) (i_free : Int32) (i_tx : Int32) (i_in : Int32) (i_messageIsThere : Int32) (res : Int32 × Int32 × (Nat → Int32)) : Array Value → State → Outcome → State → Prop := va_Qi (fun r' (_ : Unit) => r' = res.1) (fun _ t => Po D cy A [(o, .inr (6, [v_o_sha, r_signatures, v_o_ripemd, v_a_data, v_a_scriptEnd, .ref a_main, v_a_other, v_a_taken, .int res.2.1, .int i_otherHeight, .int i_ops, .int i_ifs, .int i_ifsNotTaken, .int i_free, r_layout, .int i_tx, .int i_in, r_coin, .int i_messageIsThere])), (a_main, .inl (cy 1, 204, .inl res.2.2))] t) A
def I_Ma_pushSmall_31 (p : Program) (l : Launch) (e : Env) (s : State) (m : MethodId) (args : Array Value) (below : List Frame) (meth : Method) (c : Code) (D : va_G) (cy : Nat → ClassId) (A : Nat → Prop) (ad : Nat → Nat) (o : Nat) (v_o_sha : Value) (r_signatures : Value) (v_o_ripemd : Value) (v_a_data : Value) (v_a_scriptEnd : Value) (v_a_other : Value) (v_a_taken : Value) (r_layout : Value) (r_coin : Value) (a_main : Nat) (i_otherHeight : Int32) (i_ops : Int32) (i_ifs : Int32) (i_ifsNotTaken : Int32) (i_free : Int32) (i_tx : Int32) (i_in : Int32) (i_messageIsThere : Int32) (k : Int32 → Int32 → Int32 → (Nat → Int32) → Option (Int32 × Int32 × (Nat → Int32))) : Prop :=
  ∀ (y0 : Int32) (y1 : Int32) (u0 : Int32) (u1 : Nat → Int32) (res : Int32 × Int32 × (Nat → Int32)), k y0 y1 u0 u1 = some res → ∀ (H : Heap) (locs : List Loc) (ls : Array Slot), va_P D classes [(o, .inr (6, [v_o_sha, r_signatures, v_o_ripemd, v_a_data, v_a_scriptEnd, .ref a_main, v_a_other, v_a_taken, .int u0, .int i_otherHeight, .int i_ops, .int i_ifs, .int i_ifsNotTaken, .int i_free, r_layout, .int i_tx, .int i_in, r_coin, .int i_messageIsThere])), (a_main, .inl (cy 1, 204, .inl u1))] H → va_D A [(o, .inr (6, [v_o_sha, r_signatures, v_o_ripemd, v_a_data, v_a_scriptEnd, .ref a_main, v_a_other, v_a_taken, .int u0, .int i_otherHeight, .int i_ops, .int i_ifs, .int i_ifsNotTaken, .int i_free, r_layout, .int i_tx, .int i_in, r_coin, .int i_messageIsThere])), (a_main, .inl (cy 1, 204, .inl u1))] → va_S A s.heap H locs → lv_has ls 2 [] → W p l e rm_Ma_pushSmall s m args below meth c H locs 0 0 (MQ below (q_Ma_pushSmall D cy A o v_o_sha r_signatures v_o_ripemd v_a_data v_a_scriptEnd v_a_other v_a_taken r_layout r_coin a_main i_otherHeight i_ops i_ifs i_ifsNotTaken i_free i_tx i_in i_messageIsThere res) args s 0 0 A) (F0 m 31 ls [.int y0, .int y1, .ref o])
def I_Ma_pushSmall_14 (p : Program) (l : Launch) (e : Env) (s : State) (m : MethodId) (args : Array Value) (below : List Frame) (meth : Method) (c : Code) (D : va_G) (cy : Nat → ClassId) (A : Nat → Prop) (ad : Nat → Nat) (o : Nat) (v_o_sha : Value) (r_signatures : Value) (v_o_ripemd : Value) (v_a_data : Value) (v_a_scriptEnd : Value) (v_a_other : Value) (v_a_taken : Value) (r_layout : Value) (r_coin : Value) (a_main : Nat) (i_otherHeight : Int32) (i_ops : Int32) (i_ifs : Int32) (i_ifsNotTaken : Int32) (i_free : Int32) (i_tx : Int32) (i_in : Int32) (i_messageIsThere : Int32) (k : Int32 → Int32 → (Nat → Int32) → Option (Int32 × Int32 × (Nat → Int32))) : Prop :=
  ∀ (x1 : Int32) (u0 : Int32) (u1 : Nat → Int32) (res : Int32 × Int32 × (Nat → Int32)), k x1 u0 u1 = some res → ∀ (H : Heap) (locs : List Loc) (ls : Array Slot), va_P D classes [(o, .inr (6, [v_o_sha, r_signatures, v_o_ripemd, v_a_data, v_a_scriptEnd, .ref a_main, v_a_other, v_a_taken, .int u0, .int i_otherHeight, .int i_ops, .int i_ifs, .int i_ifsNotTaken, .int i_free, r_layout, .int i_tx, .int i_in, r_coin, .int i_messageIsThere])), (a_main, .inl (cy 1, 204, .inl u1))] H → va_D A [(o, .inr (6, [v_o_sha, r_signatures, v_o_ripemd, v_a_data, v_a_scriptEnd, .ref a_main, v_a_other, v_a_taken, .int u0, .int i_otherHeight, .int i_ops, .int i_ifs, .int i_ifsNotTaken, .int i_free, r_layout, .int i_tx, .int i_in, r_coin, .int i_messageIsThere])), (a_main, .inl (cy 1, 204, .inl u1))] → va_S A s.heap H locs → lv_has ls 2 [(0, .ref o), (1, .int x1)] → W p l e rm_Ma_pushSmall s m args below meth c H locs 0 0 (MQ below (q_Ma_pushSmall D cy A o v_o_sha r_signatures v_o_ripemd v_a_data v_a_scriptEnd v_a_other v_a_taken r_layout r_coin a_main i_otherHeight i_ops i_ifs i_ifsNotTaken i_free i_tx i_in i_messageIsThere res) args s 0 0 A) (F0 m 14 ls [])
def I_Ma_pushSmall_e (p : Program) (l : Launch) (e : Env) (s : State) (m : MethodId) (args : Array Value) (below : List Frame) (meth : Method) (c : Code) (D : va_G) (cy : Nat → ClassId) (A : Nat → Prop) (ad : Nat → Nat) (o : Nat) (v_o_sha : Value) (r_signatures : Value) (v_o_ripemd : Value) (v_a_data : Value) (v_a_scriptEnd : Value) (v_a_other : Value) (v_a_taken : Value) (r_layout : Value) (r_coin : Value) (a_main : Nat) (i_otherHeight : Int32) (i_ops : Int32) (i_ifs : Int32) (i_ifsNotTaken : Int32) (i_free : Int32) (i_tx : Int32) (i_in : Int32) (i_messageIsThere : Int32) (k : Int32 → Int32 → (Nat → Int32) → Option (Int32 × Int32 × (Nat → Int32))) : Prop :=
  ∀ (a1 : Int32) (u0 : Int32) (u1 : Nat → Int32) (res : Int32 × Int32 × (Nat → Int32)), k a1 u0 u1 = some res → ∀ (H : Heap) (locs : List Loc) (ls : Array Slot), va_P D classes [(o, .inr (6, [v_o_sha, r_signatures, v_o_ripemd, v_a_data, v_a_scriptEnd, .ref a_main, v_a_other, v_a_taken, .int u0, .int i_otherHeight, .int i_ops, .int i_ifs, .int i_ifsNotTaken, .int i_free, r_layout, .int i_tx, .int i_in, r_coin, .int i_messageIsThere])), (a_main, .inl (cy 1, 204, .inl u1))] H → va_D A [(o, .inr (6, [v_o_sha, r_signatures, v_o_ripemd, v_a_data, v_a_scriptEnd, .ref a_main, v_a_other, v_a_taken, .int u0, .int i_otherHeight, .int i_ops, .int i_ifs, .int i_ifsNotTaken, .int i_free, r_layout, .int i_tx, .int i_in, r_coin, .int i_messageIsThere])), (a_main, .inl (cy 1, 204, .inl u1))] → va_S A s.heap H locs → lv_has ls 2 [(0, .ref o), (1, .int a1)] → W p l e rm_Ma_pushSmall s m args below meth c H locs 0 0 (MQ below (q_Ma_pushSmall D cy A o v_o_sha r_signatures v_o_ripemd v_a_data v_a_scriptEnd v_a_other v_a_taken r_layout r_coin a_main i_otherHeight i_ops i_ifs i_ifsNotTaken i_free i_tx i_in i_messageIsThere res) args s 0 0 A) (F0 m 0 ls [])
set_option maxHeartbeats 8000000 in
set_option maxRecDepth 100000 in
theorem wb_Ma_pushSmall_31 {p : Program} {l : Launch} {e : Env} {s : State} {m : MethodId} {args : Array Value} {below : List Frame} {meth : Method} {c : Code} {D : va_G} {cy : Nat → ClassId} {A : Nat → Prop} {ad : Nat → Nat} {o : Nat} {v_o_sha : Value} {r_signatures : Value} {v_o_ripemd : Value} {v_a_data : Value} {v_a_scriptEnd : Value} {v_a_other : Value} {v_a_taken : Value} {r_layout : Value} {r_coin : Value} {a_main : Nat} {i_otherHeight : Int32} {i_ops : Int32} {i_ifs : Int32} {i_ifsNotTaken : Int32} {i_free : Int32} {i_tx : Int32} {i_in : Int32} {i_messageIsThere : Int32} {fu : Nat} (F : Fx p s m args meth c b_Ma_pushSmall 2 "CoinKeeper$Machine" "pushSmall" (some .boolean) D cy ad A) : I_Ma_pushSmall_31 p l e s m args below meth c D cy A ad o v_o_sha r_signatures v_o_ripemd v_a_data v_a_scriptEnd v_a_other v_a_taken r_layout r_coin a_main i_otherHeight i_ops i_ifs i_ifsNotTaken i_free i_tx i_in i_messageIsThere (xb_Ma_pushSmall_31 fu i_otherHeight i_ops i_ifs i_ifsNotTaken i_free i_tx i_in i_messageIsThere) := by
  obtain ⟨hx, hb, hr, hml, hown, hts, hlocks, hK, hA, hSt, hnm, hex⟩ := id F
  intro y0 y1 u0 u1 res hf H locs ls hP hD hS hl
  unfold xb_Ma_pushSmall_31 at hf
  refine lv_iadd hx hb d_Ma_pushSmall_31 ?_
  refine lv_topi (fun v1 ev => ?_)
  have hf := bn ev hf
  clear ev
  refine lv_bipush (v := 8) hx hb d_Ma_pushSmall_32 (by decide) ?_
  refine lv_ishl hx hb d_Ma_pushSmall_34 ?_
  refine lv_topi (fun v2 ev => ?_)
  have hf := bn ev hf
  clear ev
  refine lv_iconst (v := 1) hx hb d_Ma_pushSmall_35 (by decide) ?_
  refine lv_ior hx hb d_Ma_pushSmall_36 ?_
  refine lv_topi (fun v3 ev => ?_)
  have hf := bn ev hf
  clear ev
  obtain ⟨e4, f5, hc, hf⟩ := bdp2 hf
  refine q_av (wr := []) (va_runV (C := "CoinKeeper$Machine") (As := [.int v3]) (rest := []) ⟨hx, hb, hml, hown, hts⟩ (c_Ma_push l D cy ad fu o v_o_sha r_signatures v_o_ripemd v_a_data v_a_scriptEnd v_a_other v_a_taken r_layout r_coin a_main i_otherHeight i_ops i_ifs i_ifsNotTaken i_free i_tx i_in i_messageIsThere v3 u0 u1 _ hc H.size) ⟨q_cB hts gw_988 gw_6 gw_985 hdc_42 ⟨by decide, by decide⟩, hts _ gw_987, hts _ gs_28⟩ (q_preV (q_pre (hP.sub [0, 1] rfl) (hD.sub [0, 1] (by decide) rfl) hK hSt hS (va_free hD hS hA [0, 1] rfl) _) (va_recv hK (hP.sub [0, 1] rfl) (ci := 6) (q0 := 0) rfl rfl)) rfl rfl hl.1 rfl (lv_room (Nat.le_of_ble_eq_true rfl)) d_Ma_pushSmall_37 ⟨Nat.le_of_ble_eq_true rfl, Nat.le_of_ble_eq_true rfl⟩) hP hD hS hA [0, 1] [] rfl rfl (by decide) (by decide) (fun H locs hP hD hS => ?_)
  clear hc
  have hP : va_P D classes [(o, .inr (6, [v_o_sha, r_signatures, v_o_ripemd, v_a_data, v_a_scriptEnd, .ref a_main, v_a_other, v_a_taken, .int e4, .int i_otherHeight, .int i_ops, .int i_ifs, .int i_ifsNotTaken, .int i_free, r_layout, .int i_tx, .int i_in, r_coin, .int i_messageIsThere])), (a_main, .inl (cy 1, 204, .inl f5))] H := hP
  have hD : va_D A [(o, .inr (6, [v_o_sha, r_signatures, v_o_ripemd, v_a_data, v_a_scriptEnd, .ref a_main, v_a_other, v_a_taken, .int e4, .int i_otherHeight, .int i_ops, .int i_ifs, .int i_ifsNotTaken, .int i_free, r_layout, .int i_tx, .int i_in, r_coin, .int i_messageIsThere])), (a_main, .inl (cy 1, 204, .inl f5))] := hD
  refine lv_iconst (v := 1) hx hb d_Ma_pushSmall_40 (by decide) ?_
  obtain rfl := Option.some.inj hf
  exact q_rz hx hb hr hlocks hK hP hD hS (isb_n (v := 1) (by decide)) d_Ma_pushSmall_41
set_option maxHeartbeats 8000000 in
set_option maxRecDepth 100000 in
theorem wb_Ma_pushSmall_14 {p : Program} {l : Launch} {e : Env} {s : State} {m : MethodId} {args : Array Value} {below : List Frame} {meth : Method} {c : Code} {D : va_G} {cy : Nat → ClassId} {A : Nat → Prop} {ad : Nat → Nat} {o : Nat} {v_o_sha : Value} {r_signatures : Value} {v_o_ripemd : Value} {v_a_data : Value} {v_a_scriptEnd : Value} {v_a_other : Value} {v_a_taken : Value} {r_layout : Value} {r_coin : Value} {a_main : Nat} {i_otherHeight : Int32} {i_ops : Int32} {i_ifs : Int32} {i_ifsNotTaken : Int32} {i_free : Int32} {i_tx : Int32} {i_in : Int32} {i_messageIsThere : Int32} {fu : Nat} (F : Fx p s m args meth c b_Ma_pushSmall 2 "CoinKeeper$Machine" "pushSmall" (some .boolean) D cy ad A) : I_Ma_pushSmall_14 p l e s m args below meth c D cy A ad o v_o_sha r_signatures v_o_ripemd v_a_data v_a_scriptEnd v_a_other v_a_taken r_layout r_coin a_main i_otherHeight i_ops i_ifs i_ifsNotTaken i_free i_tx i_in i_messageIsThere (xb_Ma_pushSmall_14 fu i_otherHeight i_ops i_ifs i_ifsNotTaken i_free i_tx i_in i_messageIsThere) := by
  obtain ⟨hx, hb, hr, hml, hown, hts, hlocks, hK, hA, hSt, hnm, hex⟩ := id F
  intro x1 u0 u1 res hf H locs ls hP hD hS hl
  unfold xb_Ma_pushSmall_14 at hf
  refine lv_aload_n hx hb d_Ma_pushSmall_14 rfl (lv_at hl 0 rfl) ?_
  refine lv_bipush (v := 32) hx hb d_Ma_pushSmall_15 (by decide) ?_
  refine lv_iload_n hx hb d_Ma_pushSmall_17 rfl (lv_at hl 1 rfl) ?_
  refine lv_bipush (v := 79) hx hb d_Ma_pushSmall_18 (by decide) ?_
  refine lv_icmp_ne (tgt := 27) hx hb d_Ma_pushSmall_20 (by decide) (fun cx => ?_) (fun cx => ?_)
  · have hf := ifn cx hf
    refine lv_iload_n hx hb d_Ma_pushSmall_27 rfl (lv_at hl 1 rfl) ?_
    refine lv_bipush (v := 80) hx hb d_Ma_pushSmall_28 (by decide) ?_
    refine lv_isub hx hb d_Ma_pushSmall_30 ?_
    exact wb_Ma_pushSmall_31 (fu := fu) F _ _ _ _ _ hf _ _ _ hP hD hS (lv_sub hl [] rfl)
  · have hf := ifp cx hf
    refine lv_iconst (v := 0) hx hb d_Ma_pushSmall_23 (by decide) ?_
    refine lv_goto (tgt := 31) hx hb d_Ma_pushSmall_24 (by decide) ?_
    exact wb_Ma_pushSmall_31 (fu := fu) F _ _ _ _ _ hf _ _ _ hP hD hS (lv_sub hl [] rfl)
set_option maxHeartbeats 8000000 in
set_option maxRecDepth 100000 in
theorem we_Ma_pushSmall {p : Program} {l : Launch} {e : Env} {s : State} {m : MethodId} {args : Array Value} {below : List Frame} {meth : Method} {c : Code} {D : va_G} {cy : Nat → ClassId} {A : Nat → Prop} {ad : Nat → Nat} {o : Nat} {v_o_sha : Value} {r_signatures : Value} {v_o_ripemd : Value} {v_a_data : Value} {v_a_scriptEnd : Value} {v_a_other : Value} {v_a_taken : Value} {r_layout : Value} {r_coin : Value} {a_main : Nat} {i_otherHeight : Int32} {i_ops : Int32} {i_ifs : Int32} {i_ifsNotTaken : Int32} {i_free : Int32} {i_tx : Int32} {i_in : Int32} {i_messageIsThere : Int32} {fu : Nat} (F : Fx p s m args meth c b_Ma_pushSmall 2 "CoinKeeper$Machine" "pushSmall" (some .boolean) D cy ad A) : I_Ma_pushSmall_e p l e s m args below meth c D cy A ad o v_o_sha r_signatures v_o_ripemd v_a_data v_a_scriptEnd v_a_other v_a_taken r_layout r_coin a_main i_otherHeight i_ops i_ifs i_ifsNotTaken i_free i_tx i_in i_messageIsThere (x_Ma_pushSmall fu i_otherHeight i_ops i_ifs i_ifsNotTaken i_free i_tx i_in i_messageIsThere) := by
  obtain ⟨hx, hb, hr, hml, hown, hts, hlocks, hK, hA, hSt, hnm, hex⟩ := id F
  intro a1 u0 u1 res hf H locs ls hP hD hS hl
  unfold x_Ma_pushSmall at hf
  refine lv_iload_n hx hb d_Ma_pushSmall_0 rfl (lv_at hl 1 rfl) ?_
  refine lv_bipush (v := 79) hx hb d_Ma_pushSmall_1 (by decide) ?_
  refine lv_icmp_eq (tgt := 14) hx hb d_Ma_pushSmall_3 (by decide) (fun cx => ?_) (fun cx => ?_)
  · have hf := ifp cx hf
    exact wb_Ma_pushSmall_14 (fu := fu) F _ _ _ _ hf _ _ _ hP hD hS (lv_sub hl [0, 1] rfl)
  · have hf := ifn cx hf
    refine lv_iload_n hx hb d_Ma_pushSmall_6 rfl (lv_at hl 1 rfl) ?_
    refine lv_bipush (v := 81) hx hb d_Ma_pushSmall_7 (by decide) ?_
    refine lv_icmp_ge (tgt := 14) hx hb d_Ma_pushSmall_9 (by decide) (fun cx => ?_) (fun cx => ?_)
    · have hf := ifp cx hf
      exact wb_Ma_pushSmall_14 (fu := fu) F _ _ _ _ hf _ _ _ hP hD hS (lv_sub hl [0, 1] rfl)
    · have hf := ifn cx hf
      refine lv_iconst (v := 0) hx hb d_Ma_pushSmall_12 (by decide) ?_
      obtain rfl := Option.some.inj hf
      exact q_rz hx hb hr hlocks hK hP hD hS (isb_n (v := 0) (by decide)) d_Ma_pushSmall_13
theorem c_Ma_pushSmall (l : Launch) (D : va_G) (cy : Nat → ClassId) (ad : Nat → Nat) (fu : Nat) (o : Nat) (v_o_sha : Value) (r_signatures : Value) (v_o_ripemd : Value) (v_a_data : Value) (v_a_scriptEnd : Value) (v_a_other : Value) (v_a_taken : Value) (r_layout : Value) (r_coin : Value) (a_main : Nat) (i_otherHeight : Int32) (i_ops : Int32) (i_ifs : Int32) (i_ifsNotTaken : Int32) (i_free : Int32) (i_tx : Int32) (i_in : Int32) (i_messageIsThere : Int32) (a1 : Int32) (u0 : Int32) (u1 : Nat → Int32) (res : Int32 × Int32 × (Nat → Int32)) (hf : x_Ma_pushSmall fu i_otherHeight i_ops i_ifs i_ifsNotTaken i_free i_tx i_in i_messageIsThere a1 u0 u1 = some res) (sz : Nat) : Met l ({ cls := "CoinKeeper$Machine", name := "pushSmall", desc := "(I)Z" } : Jvm.MethodName) (.code ({ cls := "CoinKeeper$Machine", name := "pushSmall", desc := "(I)Z" } : Jvm.MethodName) b_Ma_pushSmall 2 (some .boolean) :: gw) rm_Ma_pushSmall (va_Pc [.ref o, .int a1] (Pr D cy ad [(o, .inr (6, [v_o_sha, r_signatures, v_o_ripemd, v_a_data, v_a_scriptEnd, .ref a_main, v_a_other, v_a_taken, .int u0, .int i_otherHeight, .int i_ops, .int i_ifs, .int i_ifsNotTaken, .int i_free, r_layout, .int i_tx, .int i_in, r_coin, .int i_messageIsThere])), (a_main, .inl (cy 1, 204, .inl u1))] sz)) (q_Ma_pushSmall D cy (va_A [(o, .inr (6, [v_o_sha, r_signatures, v_o_ripemd, v_a_data, v_a_scriptEnd, .ref a_main, v_a_other, v_a_taken, .int u0, .int i_otherHeight, .int i_ops, .int i_ifs, .int i_ifsNotTaken, .int i_free, r_layout, .int i_tx, .int i_in, r_coin, .int i_messageIsThere])), (a_main, .inl (cy 1, 204, .inl u1))] sz) o v_o_sha r_signatures v_o_ripemd v_a_data v_a_scriptEnd v_a_other v_a_taken r_layout r_coin a_main i_otherHeight i_ops i_ifs i_ifsNotTaken i_free i_tx i_in i_messageIsThere res) 0 0 (va_A [(o, .inr (6, [v_o_sha, r_signatures, v_o_ripemd, v_a_data, v_a_scriptEnd, .ref a_main, v_a_other, v_a_taken, .int u0, .int i_otherHeight, .int i_ops, .int i_ifs, .int i_ifsNotTaken, .int i_free, r_layout, .int i_tx, .int i_in, r_coin, .int i_messageIsThere])), (a_main, .inl (cy 1, 204, .inl u1))] sz) :=
  q_met (Qc := fun A => q_Ma_pushSmall D cy A o v_o_sha r_signatures v_o_ripemd v_a_data v_a_scriptEnd v_a_other v_a_taken r_layout r_coin a_main i_otherHeight i_ops i_ifs i_ifsNotTaken i_free i_tx i_in i_messageIsThere res) (by decide) rfl rfl (Nat.le_of_ble_eq_true rfl) (fun p e s m below meth c ls F hP hD hS hl => we_Ma_pushSmall (fu := fu) F a1 u0 u1 res hf _ _ _ hP hD hS hl) sz
abbrev b_Ma_compareTop : ByteArray := prog_7_method_23_code
theorem d_Ma_compareTop_0 : decode b_Ma_compareTop 0 = .ok (.aload_n 0, 1) := by decide +kernel
theorem d_Ma_compareTop_1 : decode b_Ma_compareTop 1 = .ok (.getfield 73, 3) := by decide +kernel
theorem d_Ma_compareTop_4 : decode b_Ma_compareTop 4 = .ok (.iconst 2, 1) := by decide +kernel
theorem d_Ma_compareTop_5 : decode b_Ma_compareTop 5 = .ok (.if_icmp .ge 5, 3) := by decide +kernel
theorem d_Ma_compareTop_8 : decode b_Ma_compareTop 8 = .ok (.iconst 0, 1) := by decide +kernel
theorem d_Ma_compareTop_9 : decode b_Ma_compareTop 9 = .ok (.ireturn, 1) := by decide +kernel
theorem d_Ma_compareTop_10 : decode b_Ma_compareTop 10 = .ok (.aload_n 0, 1) := by decide +kernel
theorem d_Ma_compareTop_11 : decode b_Ma_compareTop 11 = .ok (.getfield 26, 3) := by decide +kernel
theorem d_Ma_compareTop_14 : decode b_Ma_compareTop 14 = .ok (.aload_n 0, 1) := by decide +kernel
theorem d_Ma_compareTop_15 : decode b_Ma_compareTop 15 = .ok (.getfield 73, 3) := by decide +kernel
theorem d_Ma_compareTop_18 : decode b_Ma_compareTop 18 = .ok (.iconst 2, 1) := by decide +kernel
theorem d_Ma_compareTop_19 : decode b_Ma_compareTop 19 = .ok (.isub, 1) := by decide +kernel
theorem d_Ma_compareTop_20 : decode b_Ma_compareTop 20 = .ok (.iaload, 1) := by decide +kernel
theorem d_Ma_compareTop_21 : decode b_Ma_compareTop 21 = .ok (.istore_n 2, 1) := by decide +kernel
theorem d_Ma_compareTop_22 : decode b_Ma_compareTop 22 = .ok (.aload_n 0, 1) := by decide +kernel
theorem d_Ma_compareTop_23 : decode b_Ma_compareTop 23 = .ok (.getfield 26, 3) := by decide +kernel
theorem d_Ma_compareTop_26 : decode b_Ma_compareTop 26 = .ok (.aload_n 0, 1) := by decide +kernel
theorem d_Ma_compareTop_27 : decode b_Ma_compareTop 27 = .ok (.getfield 73, 3) := by decide +kernel
theorem d_Ma_compareTop_30 : decode b_Ma_compareTop 30 = .ok (.iconst 1, 1) := by decide +kernel
theorem d_Ma_compareTop_31 : decode b_Ma_compareTop 31 = .ok (.isub, 1) := by decide +kernel
theorem d_Ma_compareTop_32 : decode b_Ma_compareTop 32 = .ok (.iaload, 1) := by decide +kernel
theorem d_Ma_compareTop_33 : decode b_Ma_compareTop 33 = .ok (.istore_n 3, 1) := by decide +kernel
theorem d_Ma_compareTop_34 : decode b_Ma_compareTop 34 = .ok (.aload_n 0, 1) := by decide +kernel
theorem d_Ma_compareTop_35 : decode b_Ma_compareTop 35 = .ok (.dup, 1) := by decide +kernel
theorem d_Ma_compareTop_36 : decode b_Ma_compareTop 36 = .ok (.getfield 73, 3) := by decide +kernel
theorem d_Ma_compareTop_39 : decode b_Ma_compareTop 39 = .ok (.iconst 2, 1) := by decide +kernel
theorem d_Ma_compareTop_40 : decode b_Ma_compareTop 40 = .ok (.isub, 1) := by decide +kernel
theorem d_Ma_compareTop_41 : decode b_Ma_compareTop 41 = .ok (.putfield 73, 3) := by decide +kernel
theorem d_Ma_compareTop_44 : decode b_Ma_compareTop 44 = .ok (.aload_n 0, 1) := by decide +kernel
theorem d_Ma_compareTop_45 : decode b_Ma_compareTop 45 = .ok (.iload_n 2, 1) := by decide +kernel
theorem d_Ma_compareTop_46 : decode b_Ma_compareTop 46 = .ok (.invokestatic 121, 3) := by decide +kernel
theorem d_Ma_compareTop_49 : decode b_Ma_compareTop 49 = .ok (.iload_n 3, 1) := by decide +kernel
theorem d_Ma_compareTop_50 : decode b_Ma_compareTop 50 = .ok (.invokestatic 121, 3) := by decide +kernel
theorem d_Ma_compareTop_53 : decode b_Ma_compareTop 53 = .ok (.if_icmp .ne 35, 3) := by decide +kernel
theorem d_Ma_compareTop_56 : decode b_Ma_compareTop 56 = .ok (.aload_n 0, 1) := by decide +kernel
theorem d_Ma_compareTop_57 : decode b_Ma_compareTop 57 = .ok (.getfield 18, 3) := by decide +kernel
theorem d_Ma_compareTop_60 : decode b_Ma_compareTop 60 = .ok (.iload_n 2, 1) := by decide +kernel
theorem d_Ma_compareTop_61 : decode b_Ma_compareTop 61 = .ok (.invokestatic 117, 3) := by decide +kernel
theorem d_Ma_compareTop_64 : decode b_Ma_compareTop 64 = .ok (.aload_n 0, 1) := by decide +kernel
theorem d_Ma_compareTop_65 : decode b_Ma_compareTop 65 = .ok (.getfield 18, 3) := by decide +kernel
theorem d_Ma_compareTop_68 : decode b_Ma_compareTop 68 = .ok (.iload_n 3, 1) := by decide +kernel
theorem d_Ma_compareTop_69 : decode b_Ma_compareTop 69 = .ok (.invokestatic 117, 3) := by decide +kernel
theorem d_Ma_compareTop_72 : decode b_Ma_compareTop 72 = .ok (.iload_n 2, 1) := by decide +kernel
theorem d_Ma_compareTop_73 : decode b_Ma_compareTop 73 = .ok (.invokestatic 121, 3) := by decide +kernel
theorem d_Ma_compareTop_76 : decode b_Ma_compareTop 76 = .ok (.invokestatic 174, 3) := by decide +kernel
theorem d_Ma_compareTop_79 : decode b_Ma_compareTop 79 = .ok (.ifCond .eq 9, 3) := by decide +kernel
theorem d_Ma_compareTop_82 : decode b_Ma_compareTop 82 = .ok (.sipush 8449, 3) := by decide +kernel
theorem d_Ma_compareTop_85 : decode b_Ma_compareTop 85 = .ok (.goto 4, 3) := by decide +kernel
theorem d_Ma_compareTop_88 : decode b_Ma_compareTop 88 = .ok (.iconst 0, 1) := by decide +kernel
theorem d_Ma_compareTop_89 : decode b_Ma_compareTop 89 = .ok (.invokevirtual 95, 3) := by decide +kernel
theorem d_Ma_compareTop_92 : decode b_Ma_compareTop 92 = .ok (.iload_n 1, 1) := by decide +kernel
theorem d_Ma_compareTop_93 : decode b_Ma_compareTop 93 = .ok (.sipush 135, 3) := by decide +kernel
theorem d_Ma_compareTop_96 : decode b_Ma_compareTop 96 = .ok (.if_icmp .eq 10, 3) := by decide +kernel
theorem d_Ma_compareTop_99 : decode b_Ma_compareTop 99 = .ok (.aload_n 0, 1) := by decide +kernel
theorem d_Ma_compareTop_100 : decode b_Ma_compareTop 100 = .ok (.invokevirtual 129, 3) := by decide +kernel
theorem d_Ma_compareTop_103 : decode b_Ma_compareTop 103 = .ok (.ifCond .eq 7, 3) := by decide +kernel
theorem d_Ma_compareTop_106 : decode b_Ma_compareTop 106 = .ok (.iconst 1, 1) := by decide +kernel
theorem d_Ma_compareTop_107 : decode b_Ma_compareTop 107 = .ok (.goto 4, 3) := by decide +kernel
theorem d_Ma_compareTop_110 : decode b_Ma_compareTop 110 = .ok (.iconst 0, 1) := by decide +kernel
theorem d_Ma_compareTop_111 : decode b_Ma_compareTop 111 = .ok (.ireturn, 1) := by decide +kernel
abbrev rm_Ma_compareTop : Room := { frames := 3, cells := 0, slots := 0, locals := 63 }
abbrev q_Ma_compareTop (D : va_G) (cy : Nat → ClassId) (A : Nat → Prop) (o : Nat) (v_o_sha : Value) (r_signatures : Value) (v_o_ripemd : Value) (v_a_scriptEnd : Value) (v_a_other : Value) (v_a_taken : Value) (r_layout : Value) (r_coin : Value) (a_data : Nat) (a_main : Nat) (i_otherHeight : Int32) (i_ops : Int32) (i_ifs : Int32) (i_ifsNotTaken : Int32) (i_free : Int32) (i_tx : Int32) (i_in : Int32) (i_messageIsThere : Int32) (g_data : Nat → Int32) (res : Int32 × Int32 × (Nat → Int32)) : Array Value → State → Outcome → State → Prop := va_Qi (fun r' (_ : Unit) => r' = res.1) (fun _ t => Po D cy A [(o, .inr (6, [v_o_sha, r_signatures, v_o_ripemd, .ref a_data, v_a_scriptEnd, .ref a_main, v_a_other, v_a_taken, .int res.2.1, .int i_otherHeight, .int i_ops, .int i_ifs, .int i_ifsNotTaken, .int i_free, r_layout, .int i_tx, .int i_in, r_coin, .int i_messageIsThere])), (a_data, .inl (cy 0, 14928, .inl g_data)), (a_main, .inl (cy 1, 204, .inl res.2.2))] t) A
def I_Ma_compareTop_106 (p : Program) (l : Launch) (e : Env) (s : State) (m : MethodId) (args : Array Value) (below : List Frame) (meth : Method) (c : Code) (D : va_G) (cy : Nat → ClassId) (A : Nat → Prop) (ad : Nat → Nat) (o : Nat) (v_o_sha : Value) (r_signatures : Value) (v_o_ripemd : Value) (v_a_scriptEnd : Value) (v_a_other : Value) (v_a_taken : Value) (r_layout : Value) (r_coin : Value) (a_data : Nat) (a_main : Nat) (i_otherHeight : Int32) (i_ops : Int32) (i_ifs : Int32) (i_ifsNotTaken : Int32) (i_free : Int32) (i_tx : Int32) (i_in : Int32) (i_messageIsThere : Int32) (g_data : Nat → Int32) (k : Int32 → (Nat → Int32) → Option (Int32 × Int32 × (Nat → Int32))) : Prop :=
  ∀ (u0 : Int32) (u1 : Nat → Int32) (res : Int32 × Int32 × (Nat → Int32)), k u0 u1 = some res → ∀ (H : Heap) (locs : List Loc) (ls : Array Slot), va_P D classes [(o, .inr (6, [v_o_sha, r_signatures, v_o_ripemd, .ref a_data, v_a_scriptEnd, .ref a_main, v_a_other, v_a_taken, .int u0, .int i_otherHeight, .int i_ops, .int i_ifs, .int i_ifsNotTaken, .int i_free, r_layout, .int i_tx, .int i_in, r_coin, .int i_messageIsThere])), (a_data, .inl (cy 0, 14928, .inl g_data)), (a_main, .inl (cy 1, 204, .inl u1))] H → va_D A [(o, .inr (6, [v_o_sha, r_signatures, v_o_ripemd, .ref a_data, v_a_scriptEnd, .ref a_main, v_a_other, v_a_taken, .int u0, .int i_otherHeight, .int i_ops, .int i_ifs, .int i_ifsNotTaken, .int i_free, r_layout, .int i_tx, .int i_in, r_coin, .int i_messageIsThere])), (a_data, .inl (cy 0, 14928, .inl g_data)), (a_main, .inl (cy 1, 204, .inl u1))] → va_S A s.heap H locs → lv_has ls 4 [] → W p l e rm_Ma_compareTop s m args below meth c H locs 0 0 (MQ below (q_Ma_compareTop D cy A o v_o_sha r_signatures v_o_ripemd v_a_scriptEnd v_a_other v_a_taken r_layout r_coin a_data a_main i_otherHeight i_ops i_ifs i_ifsNotTaken i_free i_tx i_in i_messageIsThere g_data res) args s 0 0 A) (F0 m 106 ls [])
def I_Ma_compareTop_89 (p : Program) (l : Launch) (e : Env) (s : State) (m : MethodId) (args : Array Value) (below : List Frame) (meth : Method) (c : Code) (D : va_G) (cy : Nat → ClassId) (A : Nat → Prop) (ad : Nat → Nat) (o : Nat) (v_o_sha : Value) (r_signatures : Value) (v_o_ripemd : Value) (v_a_scriptEnd : Value) (v_a_other : Value) (v_a_taken : Value) (r_layout : Value) (r_coin : Value) (a_data : Nat) (a_main : Nat) (i_otherHeight : Int32) (i_ops : Int32) (i_ifs : Int32) (i_ifsNotTaken : Int32) (i_free : Int32) (i_tx : Int32) (i_in : Int32) (i_messageIsThere : Int32) (g_data : Nat → Int32) (k : Int32 → Int32 → Int32 → (Nat → Int32) → Option (Int32 × Int32 × (Nat → Int32))) : Prop :=
  ∀ (x1 : Int32) (y0 : Int32) (u0 : Int32) (u1 : Nat → Int32) (res : Int32 × Int32 × (Nat → Int32)), k x1 y0 u0 u1 = some res → ∀ (H : Heap) (locs : List Loc) (ls : Array Slot), va_P D classes [(o, .inr (6, [v_o_sha, r_signatures, v_o_ripemd, .ref a_data, v_a_scriptEnd, .ref a_main, v_a_other, v_a_taken, .int u0, .int i_otherHeight, .int i_ops, .int i_ifs, .int i_ifsNotTaken, .int i_free, r_layout, .int i_tx, .int i_in, r_coin, .int i_messageIsThere])), (a_data, .inl (cy 0, 14928, .inl g_data)), (a_main, .inl (cy 1, 204, .inl u1))] H → va_D A [(o, .inr (6, [v_o_sha, r_signatures, v_o_ripemd, .ref a_data, v_a_scriptEnd, .ref a_main, v_a_other, v_a_taken, .int u0, .int i_otherHeight, .int i_ops, .int i_ifs, .int i_ifsNotTaken, .int i_free, r_layout, .int i_tx, .int i_in, r_coin, .int i_messageIsThere])), (a_data, .inl (cy 0, 14928, .inl g_data)), (a_main, .inl (cy 1, 204, .inl u1))] → va_S A s.heap H locs → lv_has ls 4 [(0, .ref o), (1, .int x1)] → W p l e rm_Ma_compareTop s m args below meth c H locs 0 0 (MQ below (q_Ma_compareTop D cy A o v_o_sha r_signatures v_o_ripemd v_a_scriptEnd v_a_other v_a_taken r_layout r_coin a_data a_main i_otherHeight i_ops i_ifs i_ifsNotTaken i_free i_tx i_in i_messageIsThere g_data res) args s 0 0 A) (F0 m 89 ls [.int y0, .ref o])
def I_Ma_compareTop_88 (p : Program) (l : Launch) (e : Env) (s : State) (m : MethodId) (args : Array Value) (below : List Frame) (meth : Method) (c : Code) (D : va_G) (cy : Nat → ClassId) (A : Nat → Prop) (ad : Nat → Nat) (o : Nat) (v_o_sha : Value) (r_signatures : Value) (v_o_ripemd : Value) (v_a_scriptEnd : Value) (v_a_other : Value) (v_a_taken : Value) (r_layout : Value) (r_coin : Value) (a_data : Nat) (a_main : Nat) (i_otherHeight : Int32) (i_ops : Int32) (i_ifs : Int32) (i_ifsNotTaken : Int32) (i_free : Int32) (i_tx : Int32) (i_in : Int32) (i_messageIsThere : Int32) (g_data : Nat → Int32) (k : Int32 → Int32 → (Nat → Int32) → Option (Int32 × Int32 × (Nat → Int32))) : Prop :=
  ∀ (x1 : Int32) (u0 : Int32) (u1 : Nat → Int32) (res : Int32 × Int32 × (Nat → Int32)), k x1 u0 u1 = some res → ∀ (H : Heap) (locs : List Loc) (ls : Array Slot), va_P D classes [(o, .inr (6, [v_o_sha, r_signatures, v_o_ripemd, .ref a_data, v_a_scriptEnd, .ref a_main, v_a_other, v_a_taken, .int u0, .int i_otherHeight, .int i_ops, .int i_ifs, .int i_ifsNotTaken, .int i_free, r_layout, .int i_tx, .int i_in, r_coin, .int i_messageIsThere])), (a_data, .inl (cy 0, 14928, .inl g_data)), (a_main, .inl (cy 1, 204, .inl u1))] H → va_D A [(o, .inr (6, [v_o_sha, r_signatures, v_o_ripemd, .ref a_data, v_a_scriptEnd, .ref a_main, v_a_other, v_a_taken, .int u0, .int i_otherHeight, .int i_ops, .int i_ifs, .int i_ifsNotTaken, .int i_free, r_layout, .int i_tx, .int i_in, r_coin, .int i_messageIsThere])), (a_data, .inl (cy 0, 14928, .inl g_data)), (a_main, .inl (cy 1, 204, .inl u1))] → va_S A s.heap H locs → lv_has ls 4 [(0, .ref o), (1, .int x1)] → W p l e rm_Ma_compareTop s m args below meth c H locs 0 0 (MQ below (q_Ma_compareTop D cy A o v_o_sha r_signatures v_o_ripemd v_a_scriptEnd v_a_other v_a_taken r_layout r_coin a_data a_main i_otherHeight i_ops i_ifs i_ifsNotTaken i_free i_tx i_in i_messageIsThere g_data res) args s 0 0 A) (F0 m 88 ls [.ref o])
def I_Ma_compareTop_e (p : Program) (l : Launch) (e : Env) (s : State) (m : MethodId) (args : Array Value) (below : List Frame) (meth : Method) (c : Code) (D : va_G) (cy : Nat → ClassId) (A : Nat → Prop) (ad : Nat → Nat) (o : Nat) (v_o_sha : Value) (r_signatures : Value) (v_o_ripemd : Value) (v_a_scriptEnd : Value) (v_a_other : Value) (v_a_taken : Value) (r_layout : Value) (r_coin : Value) (a_data : Nat) (a_main : Nat) (i_otherHeight : Int32) (i_ops : Int32) (i_ifs : Int32) (i_ifsNotTaken : Int32) (i_free : Int32) (i_tx : Int32) (i_in : Int32) (i_messageIsThere : Int32) (g_data : Nat → Int32) (k : Int32 → Int32 → (Nat → Int32) → Option (Int32 × Int32 × (Nat → Int32))) : Prop :=
  ∀ (a1 : Int32) (u0 : Int32) (u1 : Nat → Int32) (res : Int32 × Int32 × (Nat → Int32)), k a1 u0 u1 = some res → ∀ (H : Heap) (locs : List Loc) (ls : Array Slot), va_P D classes [(o, .inr (6, [v_o_sha, r_signatures, v_o_ripemd, .ref a_data, v_a_scriptEnd, .ref a_main, v_a_other, v_a_taken, .int u0, .int i_otherHeight, .int i_ops, .int i_ifs, .int i_ifsNotTaken, .int i_free, r_layout, .int i_tx, .int i_in, r_coin, .int i_messageIsThere])), (a_data, .inl (cy 0, 14928, .inl g_data)), (a_main, .inl (cy 1, 204, .inl u1))] H → va_D A [(o, .inr (6, [v_o_sha, r_signatures, v_o_ripemd, .ref a_data, v_a_scriptEnd, .ref a_main, v_a_other, v_a_taken, .int u0, .int i_otherHeight, .int i_ops, .int i_ifs, .int i_ifsNotTaken, .int i_free, r_layout, .int i_tx, .int i_in, r_coin, .int i_messageIsThere])), (a_data, .inl (cy 0, 14928, .inl g_data)), (a_main, .inl (cy 1, 204, .inl u1))] → va_S A s.heap H locs → lv_has ls 4 [(0, .ref o), (1, .int a1)] → W p l e rm_Ma_compareTop s m args below meth c H locs 0 0 (MQ below (q_Ma_compareTop D cy A o v_o_sha r_signatures v_o_ripemd v_a_scriptEnd v_a_other v_a_taken r_layout r_coin a_data a_main i_otherHeight i_ops i_ifs i_ifsNotTaken i_free i_tx i_in i_messageIsThere g_data res) args s 0 0 A) (F0 m 0 ls [])
set_option maxHeartbeats 8000000 in
set_option maxRecDepth 100000 in
theorem wb_Ma_compareTop_106 {p : Program} {l : Launch} {e : Env} {s : State} {m : MethodId} {args : Array Value} {below : List Frame} {meth : Method} {c : Code} {D : va_G} {cy : Nat → ClassId} {A : Nat → Prop} {ad : Nat → Nat} {o : Nat} {v_o_sha : Value} {r_signatures : Value} {v_o_ripemd : Value} {v_a_scriptEnd : Value} {v_a_other : Value} {v_a_taken : Value} {r_layout : Value} {r_coin : Value} {a_data : Nat} {a_main : Nat} {i_otherHeight : Int32} {i_ops : Int32} {i_ifs : Int32} {i_ifsNotTaken : Int32} {i_free : Int32} {i_tx : Int32} {i_in : Int32} {i_messageIsThere : Int32} {g_data : Nat → Int32} {fu : Nat} (F : Fx p s m args meth c b_Ma_compareTop 4 "CoinKeeper$Machine" "compareTop" (some .boolean) D cy ad A) : I_Ma_compareTop_106 p l e s m args below meth c D cy A ad o v_o_sha r_signatures v_o_ripemd v_a_scriptEnd v_a_other v_a_taken r_layout r_coin a_data a_main i_otherHeight i_ops i_ifs i_ifsNotTaken i_free i_tx i_in i_messageIsThere g_data (xb_Ma_compareTop_106 fu i_otherHeight i_ops i_ifs i_ifsNotTaken i_free i_tx i_in i_messageIsThere g_data) := by
  obtain ⟨hx, hb, hr, hml, hown, hts, hlocks, hK, hA, hSt, hnm, hex⟩ := id F
  intro u0 u1 res hf H locs ls hP hD hS hl
  unfold xb_Ma_compareTop_106 at hf
  refine lv_iconst (v := 1) hx hb d_Ma_compareTop_106 (by decide) ?_
  refine lv_goto (tgt := 111) hx hb d_Ma_compareTop_107 (by decide) ?_
  obtain rfl := Option.some.inj hf
  exact q_rz hx hb hr hlocks hK hP hD hS (isb_n (v := 1) (by decide)) d_Ma_compareTop_111
set_option maxHeartbeats 8000000 in
set_option maxRecDepth 100000 in
theorem wb_Ma_compareTop_89 {p : Program} {l : Launch} {e : Env} {s : State} {m : MethodId} {args : Array Value} {below : List Frame} {meth : Method} {c : Code} {D : va_G} {cy : Nat → ClassId} {A : Nat → Prop} {ad : Nat → Nat} {o : Nat} {v_o_sha : Value} {r_signatures : Value} {v_o_ripemd : Value} {v_a_scriptEnd : Value} {v_a_other : Value} {v_a_taken : Value} {r_layout : Value} {r_coin : Value} {a_data : Nat} {a_main : Nat} {i_otherHeight : Int32} {i_ops : Int32} {i_ifs : Int32} {i_ifsNotTaken : Int32} {i_free : Int32} {i_tx : Int32} {i_in : Int32} {i_messageIsThere : Int32} {g_data : Nat → Int32} {fu : Nat} (F : Fx p s m args meth c b_Ma_compareTop 4 "CoinKeeper$Machine" "compareTop" (some .boolean) D cy ad A) : I_Ma_compareTop_89 p l e s m args below meth c D cy A ad o v_o_sha r_signatures v_o_ripemd v_a_scriptEnd v_a_other v_a_taken r_layout r_coin a_data a_main i_otherHeight i_ops i_ifs i_ifsNotTaken i_free i_tx i_in i_messageIsThere g_data (xb_Ma_compareTop_89 fu i_otherHeight i_ops i_ifs i_ifsNotTaken i_free i_tx i_in i_messageIsThere g_data) := by
  obtain ⟨hx, hb, hr, hml, hown, hts, hlocks, hK, hA, hSt, hnm, hex⟩ := id F
  intro x1 y0 u0 u1 res hf H locs ls hP hD hS hl
  unfold xb_Ma_compareTop_89 at hf
  obtain ⟨e1, f2, hc, hf⟩ := bdp2 hf
  refine q_av (wr := [(a_data, .inl (cy 0, 14928, .inl g_data))]) (va_runV (C := "CoinKeeper$Machine") (As := [.int y0]) (rest := []) ⟨hx, hb, hml, hown, hts⟩ (c_Ma_push l D cy ad fu o v_o_sha r_signatures v_o_ripemd (.ref a_data) v_a_scriptEnd v_a_other v_a_taken r_layout r_coin a_main i_otherHeight i_ops i_ifs i_ifsNotTaken i_free i_tx i_in i_messageIsThere y0 u0 u1 _ hc H.size) ⟨q_cB hts gw_988 gw_6 gw_985 hdc_42 ⟨by decide, by decide⟩, hts _ gw_987, hts _ gs_28⟩ (q_preV (q_pre (hP.sub [0, 2] rfl) (hD.sub [0, 2] (by decide) rfl) hK hSt hS (va_free hD hS hA [0, 2] rfl) _) (va_recv hK (hP.sub [0, 2] rfl) (ci := 6) (q0 := 0) rfl rfl)) rfl rfl hl.1 rfl (lv_room (Nat.le_of_ble_eq_true rfl)) d_Ma_compareTop_89 ⟨Nat.le_of_ble_eq_true rfl, Nat.le_of_ble_eq_true rfl⟩) hP hD hS hA [0, 2] [1] rfl rfl (by decide) (by decide) (fun H locs hP hD hS => ?_)
  clear hc
  have hP : va_P D classes [(a_data, .inl (cy 0, 14928, .inl g_data)), (o, .inr (6, [v_o_sha, r_signatures, v_o_ripemd, .ref a_data, v_a_scriptEnd, .ref a_main, v_a_other, v_a_taken, .int e1, .int i_otherHeight, .int i_ops, .int i_ifs, .int i_ifsNotTaken, .int i_free, r_layout, .int i_tx, .int i_in, r_coin, .int i_messageIsThere])), (a_main, .inl (cy 1, 204, .inl f2))] H := hP
  have hD : va_D A [(a_data, .inl (cy 0, 14928, .inl g_data)), (o, .inr (6, [v_o_sha, r_signatures, v_o_ripemd, .ref a_data, v_a_scriptEnd, .ref a_main, v_a_other, v_a_taken, .int e1, .int i_otherHeight, .int i_ops, .int i_ifs, .int i_ifsNotTaken, .int i_free, r_layout, .int i_tx, .int i_in, r_coin, .int i_messageIsThere])), (a_main, .inl (cy 1, 204, .inl f2))] := hD
  refine lv_iload_n hx hb d_Ma_compareTop_92 rfl (lv_at hl 1 rfl) ?_
  refine lv_sipush (v := 135) hx hb d_Ma_compareTop_93 (by decide) ?_
  refine lv_icmp_eq (tgt := 106) hx hb d_Ma_compareTop_96 (by decide) (fun cx => ?_) (fun cx => ?_)
  · have hf := ifp cx hf
    exact wb_Ma_compareTop_106 (fu := fu) F _ _ _ hf _ _ _ (hP.sub (ws' := [(o, .inr (6, [v_o_sha, r_signatures, v_o_ripemd, .ref a_data, v_a_scriptEnd, .ref a_main, v_a_other, v_a_taken, .int e1, .int i_otherHeight, .int i_ops, .int i_ifs, .int i_ifsNotTaken, .int i_free, r_layout, .int i_tx, .int i_in, r_coin, .int i_messageIsThere])), (a_data, .inl (cy 0, 14928, .inl g_data)), (a_main, .inl (cy 1, 204, .inl f2))]) [1, 0, 2] rfl) (hD.sub (ws' := [(o, .inr (6, [v_o_sha, r_signatures, v_o_ripemd, .ref a_data, v_a_scriptEnd, .ref a_main, v_a_other, v_a_taken, .int e1, .int i_otherHeight, .int i_ops, .int i_ifs, .int i_ifsNotTaken, .int i_free, r_layout, .int i_tx, .int i_in, r_coin, .int i_messageIsThere])), (a_data, .inl (cy 0, 14928, .inl g_data)), (a_main, .inl (cy 1, 204, .inl f2))]) [1, 0, 2] (by decide) rfl) hS (lv_sub hl [] rfl)
  · have hf := ifn cx hf
    refine lv_aload_n hx hb d_Ma_compareTop_99 rfl (lv_at hl 0 rfl) ?_
    obtain ⟨v3, e4, hc, hf⟩ := bdp2 hf
    refine q_ai (wr := []) (va_runV (C := "CoinKeeper$Machine") (As := []) (rest := []) ⟨hx, hb, hml, hown, hts⟩ (c_Ma_verifyTop l D cy ad fu o v_o_sha r_signatures v_o_ripemd v_a_scriptEnd v_a_other v_a_taken r_layout r_coin a_data a_main i_otherHeight i_ops i_ifs i_ifsNotTaken i_free i_tx i_in i_messageIsThere g_data f2 e1 _ hc H.size) ⟨q_cB hts gw_1171 gw_6 gw_1168 hdc_46 ⟨by decide, by decide⟩, hts _ gw_1170, hts _ gs_42⟩ (q_preV (q_pre (hP.sub [1, 0, 2] rfl) (hD.sub [1, 0, 2] (by decide) rfl) hK hSt hS (va_free hD hS hA [1, 0, 2] rfl) _) (va_recv hK (hP.sub [1, 0, 2] rfl) (ci := 6) (q0 := 0) rfl rfl)) rfl rfl hl.1 rfl (lv_room (Nat.le_of_ble_eq_true rfl)) d_Ma_compareTop_100 ⟨Nat.le_of_ble_eq_true rfl, Nat.le_of_ble_eq_true rfl⟩) hP hD hS hA [1, 0, 2] [] rfl rfl (by decide) (by decide) (fun H locs hP hD hS => ?_)
    clear hc
    have hP : va_P D classes [(o, .inr (6, [v_o_sha, r_signatures, v_o_ripemd, .ref a_data, v_a_scriptEnd, .ref a_main, v_a_other, v_a_taken, .int e4, .int i_otherHeight, .int i_ops, .int i_ifs, .int i_ifsNotTaken, .int i_free, r_layout, .int i_tx, .int i_in, r_coin, .int i_messageIsThere])), (a_data, .inl (cy 0, 14928, .inl g_data)), (a_main, .inl (cy 1, 204, .inl f2))] H := hP
    have hD : va_D A [(o, .inr (6, [v_o_sha, r_signatures, v_o_ripemd, .ref a_data, v_a_scriptEnd, .ref a_main, v_a_other, v_a_taken, .int e4, .int i_otherHeight, .int i_ops, .int i_ifs, .int i_ifsNotTaken, .int i_free, r_layout, .int i_tx, .int i_in, r_coin, .int i_messageIsThere])), (a_data, .inl (cy 0, 14928, .inl g_data)), (a_main, .inl (cy 1, 204, .inl f2))] := hD
    refine lv_if_eq (tgt := 110) hx hb d_Ma_compareTop_103 (by decide) (fun cx => ?_) (fun cx => ?_)
    · have hf := ifp cx hf
      refine lv_iconst (v := 0) hx hb d_Ma_compareTop_110 (by decide) ?_
      obtain rfl := Option.some.inj hf
      exact q_rz hx hb hr hlocks hK hP hD hS (isb_n (v := 0) (by decide)) d_Ma_compareTop_111
    · have hf := ifn cx hf
      exact wb_Ma_compareTop_106 (fu := fu) F _ _ _ hf _ _ _ hP hD hS (lv_sub hl [] rfl)
set_option maxHeartbeats 8000000 in
set_option maxRecDepth 100000 in
theorem wb_Ma_compareTop_88 {p : Program} {l : Launch} {e : Env} {s : State} {m : MethodId} {args : Array Value} {below : List Frame} {meth : Method} {c : Code} {D : va_G} {cy : Nat → ClassId} {A : Nat → Prop} {ad : Nat → Nat} {o : Nat} {v_o_sha : Value} {r_signatures : Value} {v_o_ripemd : Value} {v_a_scriptEnd : Value} {v_a_other : Value} {v_a_taken : Value} {r_layout : Value} {r_coin : Value} {a_data : Nat} {a_main : Nat} {i_otherHeight : Int32} {i_ops : Int32} {i_ifs : Int32} {i_ifsNotTaken : Int32} {i_free : Int32} {i_tx : Int32} {i_in : Int32} {i_messageIsThere : Int32} {g_data : Nat → Int32} {fu : Nat} (F : Fx p s m args meth c b_Ma_compareTop 4 "CoinKeeper$Machine" "compareTop" (some .boolean) D cy ad A) : I_Ma_compareTop_88 p l e s m args below meth c D cy A ad o v_o_sha r_signatures v_o_ripemd v_a_scriptEnd v_a_other v_a_taken r_layout r_coin a_data a_main i_otherHeight i_ops i_ifs i_ifsNotTaken i_free i_tx i_in i_messageIsThere g_data (xb_Ma_compareTop_88 fu i_otherHeight i_ops i_ifs i_ifsNotTaken i_free i_tx i_in i_messageIsThere g_data) := by
  obtain ⟨hx, hb, hr, hml, hown, hts, hlocks, hK, hA, hSt, hnm, hex⟩ := id F
  intro x1 u0 u1 res hf H locs ls hP hD hS hl
  unfold xb_Ma_compareTop_88 at hf
  refine lv_iconst (v := 0) hx hb d_Ma_compareTop_88 (by decide) ?_
  exact wb_Ma_compareTop_89 (fu := fu) F _ _ _ _ _ hf _ _ _ hP hD hS (lv_sub hl [0, 1] rfl)
set_option maxHeartbeats 8000000 in
set_option maxRecDepth 100000 in
theorem we_Ma_compareTop {p : Program} {l : Launch} {e : Env} {s : State} {m : MethodId} {args : Array Value} {below : List Frame} {meth : Method} {c : Code} {D : va_G} {cy : Nat → ClassId} {A : Nat → Prop} {ad : Nat → Nat} {o : Nat} {v_o_sha : Value} {r_signatures : Value} {v_o_ripemd : Value} {v_a_scriptEnd : Value} {v_a_other : Value} {v_a_taken : Value} {r_layout : Value} {r_coin : Value} {a_data : Nat} {a_main : Nat} {i_otherHeight : Int32} {i_ops : Int32} {i_ifs : Int32} {i_ifsNotTaken : Int32} {i_free : Int32} {i_tx : Int32} {i_in : Int32} {i_messageIsThere : Int32} {g_data : Nat → Int32} {fu : Nat} (F : Fx p s m args meth c b_Ma_compareTop 4 "CoinKeeper$Machine" "compareTop" (some .boolean) D cy ad A) : I_Ma_compareTop_e p l e s m args below meth c D cy A ad o v_o_sha r_signatures v_o_ripemd v_a_scriptEnd v_a_other v_a_taken r_layout r_coin a_data a_main i_otherHeight i_ops i_ifs i_ifsNotTaken i_free i_tx i_in i_messageIsThere g_data (x_Ma_compareTop fu i_otherHeight i_ops i_ifs i_ifsNotTaken i_free i_tx i_in i_messageIsThere g_data) := by
  obtain ⟨hx, hb, hr, hml, hown, hts, hlocks, hK, hA, hSt, hnm, hex⟩ := id F
  intro a1 u0 u1 res hf H locs ls hP hD hS hl
  unfold x_Ma_compareTop at hf
  refine lv_aload_n hx hb d_Ma_compareTop_0 rfl (lv_at hl 0 rfl) ?_
  refine va_get (D := D) (ci := 6) (v := .int u0) (C := "CoinKeeper$Machine") (T := F_6) (N := 19) hx hb hts i_6 hown hK hP 0 rfl rfl 8 (by decide) (hts _ gw_212) (fun _ h9 => h9) rfl d_Ma_compareTop_1 ?_
  refine lv_iconst (v := 2) hx hb d_Ma_compareTop_4 (by decide) ?_
  refine lv_icmp_ge (tgt := 10) hx hb d_Ma_compareTop_5 (by decide) (fun cx => ?_) (fun cx => ?_)
  · have hf := ifp cx hf
    refine lv_aload_n hx hb d_Ma_compareTop_10 rfl (lv_at hl 0 rfl) ?_
    refine va_get (D := D) (ci := 6) (v := .ref a_main) (C := "CoinKeeper$Machine") (T := F_6) (N := 19) hx hb hts i_6 hown hK hP 0 rfl rfl 5 (by decide) (hts _ gw_209) (fun _ h9 => h9) rfl d_Ma_compareTop_11 ?_
    refine lv_aload_n hx hb d_Ma_compareTop_14 rfl (lv_at hl 0 rfl) ?_
    refine va_get (D := D) (ci := 6) (v := .int u0) (C := "CoinKeeper$Machine") (T := F_6) (N := 19) hx hb hts i_6 hown hK hP 0 rfl rfl 8 (by decide) (hts _ gw_212) (fun _ h9 => h9) rfl d_Ma_compareTop_15 ?_
    refine lv_iconst (v := 2) hx hb d_Ma_compareTop_18 (by decide) ?_
    refine lv_isub hx hb d_Ma_compareTop_19 ?_
    refine lv_topi (fun v1 ev => ?_)
    have hf := bn ev hf
    clear ev
    obtain ⟨hg, hf⟩ := gdp hf
    refine va_iald hx hb hK hP 2 1 rfl rfl (inb_in hg) d_Ma_compareTop_20 ?_
    refine lv_topi (fun v2 ev => ?_)
    have hf := bn ev hf
    clear ev
    refine lv_istore_n (lv' := [(2, .int v2), (0, .ref o), (1, .int a1)]) hx hb d_Ma_compareTop_21 rfl hl (by decide) rfl (fun ls hl => ?_)
    refine lv_aload_n hx hb d_Ma_compareTop_22 rfl (lv_at hl 1 rfl) ?_
    refine va_get (D := D) (ci := 6) (v := .ref a_main) (C := "CoinKeeper$Machine") (T := F_6) (N := 19) hx hb hts i_6 hown hK hP 0 rfl rfl 5 (by decide) (hts _ gw_209) (fun _ h9 => h9) rfl d_Ma_compareTop_23 ?_
    refine lv_aload_n hx hb d_Ma_compareTop_26 rfl (lv_at hl 1 rfl) ?_
    refine va_get (D := D) (ci := 6) (v := .int u0) (C := "CoinKeeper$Machine") (T := F_6) (N := 19) hx hb hts i_6 hown hK hP 0 rfl rfl 8 (by decide) (hts _ gw_212) (fun _ h9 => h9) rfl d_Ma_compareTop_27 ?_
    refine lv_iconst (v := 1) hx hb d_Ma_compareTop_30 (by decide) ?_
    refine lv_isub hx hb d_Ma_compareTop_31 ?_
    refine lv_topi (fun v3 ev => ?_)
    have hf := bn ev hf
    clear ev
    obtain ⟨hg, hf⟩ := gdp hf
    refine va_iald hx hb hK hP 2 1 rfl rfl (inb_in hg) d_Ma_compareTop_32 ?_
    refine lv_topi (fun v4 ev => ?_)
    have hf := bn ev hf
    clear ev
    refine lv_istore_n (lv' := [(3, .int v4), (2, .int v2), (0, .ref o), (1, .int a1)]) hx hb d_Ma_compareTop_33 rfl hl (by decide) rfl (fun ls hl => ?_)
    refine lv_aload_n hx hb d_Ma_compareTop_34 rfl (lv_at hl 2 rfl) ?_
    refine lv_dup hx hb d_Ma_compareTop_35 rfl ?_
    refine va_get (D := D) (ci := 6) (v := .int u0) (C := "CoinKeeper$Machine") (T := F_6) (N := 19) hx hb hts i_6 hown hK hP 0 rfl rfl 8 (by decide) (hts _ gw_212) (fun _ h9 => h9) rfl d_Ma_compareTop_36 ?_
    refine lv_iconst (v := 2) hx hb d_Ma_compareTop_39 (by decide) ?_
    refine lv_isub hx hb d_Ma_compareTop_40 ?_
    refine lv_topi (fun v5 ev => ?_)
    have hf := bn ev hf
    clear ev
    refine va_put (D := D) (ci := 6) (v := .int v5) (ty := .int) (C := "CoinKeeper$Machine") (T := F_6) (N := 19) hx hb hts i_6 t_6 t_6_ok n_6 hown hK hP hD hS 0 rfl rfl 8 (by decide) (hts _ gw_212) (fun _ h9 => h9) rfl (by decide +kernel) rfl rfl (Nat.le_of_ble_eq_true rfl) d_Ma_compareTop_41 (fun H locs hP hD hS => ?_)
    have hP : va_P D classes [(o, .inr (6, [v_o_sha, r_signatures, v_o_ripemd, .ref a_data, v_a_scriptEnd, .ref a_main, v_a_other, v_a_taken, .int v5, .int i_otherHeight, .int i_ops, .int i_ifs, .int i_ifsNotTaken, .int i_free, r_layout, .int i_tx, .int i_in, r_coin, .int i_messageIsThere])), (a_data, .inl (cy 0, 14928, .inl g_data)), (a_main, .inl (cy 1, 204, .inl u1))] H := hP
    have hD : va_D A [(o, .inr (6, [v_o_sha, r_signatures, v_o_ripemd, .ref a_data, v_a_scriptEnd, .ref a_main, v_a_other, v_a_taken, .int v5, .int i_otherHeight, .int i_ops, .int i_ifs, .int i_ifsNotTaken, .int i_free, r_layout, .int i_tx, .int i_in, r_coin, .int i_messageIsThere])), (a_data, .inl (cy 0, 14928, .inl g_data)), (a_main, .inl (cy 1, 204, .inl u1))] := hD
    refine lv_aload_n hx hb d_Ma_compareTop_44 rfl (lv_at hl 2 rfl) ?_
    refine lv_iload_n hx hb d_Ma_compareTop_45 rfl (lv_at hl 1 rfl) ?_
    obtain ⟨v6, hc, hf⟩ := bdp1 hf
    refine q_ai (wr := [(o, .inr (6, [v_o_sha, r_signatures, v_o_ripemd, .ref a_data, v_a_scriptEnd, .ref a_main, v_a_other, v_a_taken, .int v5, .int i_otherHeight, .int i_ops, .int i_ifs, .int i_ifsNotTaken, .int i_free, r_layout, .int i_tx, .int i_in, r_coin, .int i_messageIsThere])), (a_data, .inl (cy 0, 14928, .inl g_data)), (a_main, .inl (cy 1, 204, .inl u1))]) (va_runS (As := [.int v2]) (rest := [.ref o]) ⟨hx, hb, hml, hown, hts⟩ (c_Ma_lengthOf l D cy ad fu v2 _ hc H.size) ⟨q_cB hts gw_1002 gw_6 gw_1000 hdc_40 ⟨by decide, by decide⟩, hts _ gw_1001⟩ (q_pre (hP.sub [] rfl) (hD.sub [] (by decide) rfl) hK hSt hS (va_free hD hS hA [] rfl) _) rfl rfl hl.1 rfl (lv_room (Nat.le_of_ble_eq_true rfl)) d_Ma_compareTop_46 ⟨Nat.le_of_ble_eq_true rfl, Nat.le_of_ble_eq_true rfl⟩) hP hD hS hA [] [0, 1, 2] rfl rfl (by decide) (by decide) (fun H locs hP hD hS => ?_)
    clear hc
    have hP : va_P D classes [(o, .inr (6, [v_o_sha, r_signatures, v_o_ripemd, .ref a_data, v_a_scriptEnd, .ref a_main, v_a_other, v_a_taken, .int v5, .int i_otherHeight, .int i_ops, .int i_ifs, .int i_ifsNotTaken, .int i_free, r_layout, .int i_tx, .int i_in, r_coin, .int i_messageIsThere])), (a_data, .inl (cy 0, 14928, .inl g_data)), (a_main, .inl (cy 1, 204, .inl u1))] H := hP
    have hD : va_D A [(o, .inr (6, [v_o_sha, r_signatures, v_o_ripemd, .ref a_data, v_a_scriptEnd, .ref a_main, v_a_other, v_a_taken, .int v5, .int i_otherHeight, .int i_ops, .int i_ifs, .int i_ifsNotTaken, .int i_free, r_layout, .int i_tx, .int i_in, r_coin, .int i_messageIsThere])), (a_data, .inl (cy 0, 14928, .inl g_data)), (a_main, .inl (cy 1, 204, .inl u1))] := hD
    refine lv_iload_n hx hb d_Ma_compareTop_49 rfl (lv_at hl 0 rfl) ?_
    obtain ⟨v7, hc, hf⟩ := bdp1 hf
    refine q_ai (wr := [(o, .inr (6, [v_o_sha, r_signatures, v_o_ripemd, .ref a_data, v_a_scriptEnd, .ref a_main, v_a_other, v_a_taken, .int v5, .int i_otherHeight, .int i_ops, .int i_ifs, .int i_ifsNotTaken, .int i_free, r_layout, .int i_tx, .int i_in, r_coin, .int i_messageIsThere])), (a_data, .inl (cy 0, 14928, .inl g_data)), (a_main, .inl (cy 1, 204, .inl u1))]) (va_runS (As := [.int v4]) (rest := [.int v6, .ref o]) ⟨hx, hb, hml, hown, hts⟩ (c_Ma_lengthOf l D cy ad fu v4 _ hc H.size) ⟨q_cB hts gw_1002 gw_6 gw_1000 hdc_40 ⟨by decide, by decide⟩, hts _ gw_1001⟩ (q_pre (hP.sub [] rfl) (hD.sub [] (by decide) rfl) hK hSt hS (va_free hD hS hA [] rfl) _) rfl rfl hl.1 rfl (lv_room (Nat.le_of_ble_eq_true rfl)) d_Ma_compareTop_50 ⟨Nat.le_of_ble_eq_true rfl, Nat.le_of_ble_eq_true rfl⟩) hP hD hS hA [] [0, 1, 2] rfl rfl (by decide) (by decide) (fun H locs hP hD hS => ?_)
    clear hc
    have hP : va_P D classes [(o, .inr (6, [v_o_sha, r_signatures, v_o_ripemd, .ref a_data, v_a_scriptEnd, .ref a_main, v_a_other, v_a_taken, .int v5, .int i_otherHeight, .int i_ops, .int i_ifs, .int i_ifsNotTaken, .int i_free, r_layout, .int i_tx, .int i_in, r_coin, .int i_messageIsThere])), (a_data, .inl (cy 0, 14928, .inl g_data)), (a_main, .inl (cy 1, 204, .inl u1))] H := hP
    have hD : va_D A [(o, .inr (6, [v_o_sha, r_signatures, v_o_ripemd, .ref a_data, v_a_scriptEnd, .ref a_main, v_a_other, v_a_taken, .int v5, .int i_otherHeight, .int i_ops, .int i_ifs, .int i_ifsNotTaken, .int i_free, r_layout, .int i_tx, .int i_in, r_coin, .int i_messageIsThere])), (a_data, .inl (cy 0, 14928, .inl g_data)), (a_main, .inl (cy 1, 204, .inl u1))] := hD
    refine lv_icmp_ne (tgt := 88) hx hb d_Ma_compareTop_53 (by decide) (fun cx => ?_) (fun cx => ?_)
    · have hf := ifn cx hf
      exact wb_Ma_compareTop_88 (fu := fu) F _ _ _ _ hf _ _ _ hP hD hS (lv_sub hl [2, 3] rfl)
    · have hf := ifp cx hf
      refine lv_aload_n hx hb d_Ma_compareTop_56 rfl (lv_at hl 2 rfl) ?_
      refine va_get (D := D) (ci := 6) (v := .ref a_data) (C := "CoinKeeper$Machine") (T := F_6) (N := 19) hx hb hts i_6 hown hK hP 0 rfl rfl 3 (by decide) (hts _ gw_207) (fun _ h9 => h9) rfl d_Ma_compareTop_57 ?_
      refine lv_iload_n hx hb d_Ma_compareTop_60 rfl (lv_at hl 1 rfl) ?_
      obtain ⟨v8, hc, hf⟩ := bdp1 hf
      refine q_ai (wr := [(o, .inr (6, [v_o_sha, r_signatures, v_o_ripemd, .ref a_data, v_a_scriptEnd, .ref a_main, v_a_other, v_a_taken, .int v5, .int i_otherHeight, .int i_ops, .int i_ifs, .int i_ifsNotTaken, .int i_free, r_layout, .int i_tx, .int i_in, r_coin, .int i_messageIsThere])), (a_data, .inl (cy 0, 14928, .inl g_data)), (a_main, .inl (cy 1, 204, .inl u1))]) (va_runS (As := [.int v2]) (rest := [.ref a_data, .ref o]) ⟨hx, hb, hml, hown, hts⟩ (c_Ma_placeOf l D cy ad fu v2 _ hc H.size) ⟨q_cB hts gw_999 gw_6 gw_997 hdc_39 ⟨by decide, by decide⟩, hts _ gw_998⟩ (q_pre (hP.sub [] rfl) (hD.sub [] (by decide) rfl) hK hSt hS (va_free hD hS hA [] rfl) _) rfl rfl hl.1 rfl (lv_room (Nat.le_of_ble_eq_true rfl)) d_Ma_compareTop_61 ⟨Nat.le_of_ble_eq_true rfl, Nat.le_of_ble_eq_true rfl⟩) hP hD hS hA [] [0, 1, 2] rfl rfl (by decide) (by decide) (fun H locs hP hD hS => ?_)
      clear hc
      have hP : va_P D classes [(o, .inr (6, [v_o_sha, r_signatures, v_o_ripemd, .ref a_data, v_a_scriptEnd, .ref a_main, v_a_other, v_a_taken, .int v5, .int i_otherHeight, .int i_ops, .int i_ifs, .int i_ifsNotTaken, .int i_free, r_layout, .int i_tx, .int i_in, r_coin, .int i_messageIsThere])), (a_data, .inl (cy 0, 14928, .inl g_data)), (a_main, .inl (cy 1, 204, .inl u1))] H := hP
      have hD : va_D A [(o, .inr (6, [v_o_sha, r_signatures, v_o_ripemd, .ref a_data, v_a_scriptEnd, .ref a_main, v_a_other, v_a_taken, .int v5, .int i_otherHeight, .int i_ops, .int i_ifs, .int i_ifsNotTaken, .int i_free, r_layout, .int i_tx, .int i_in, r_coin, .int i_messageIsThere])), (a_data, .inl (cy 0, 14928, .inl g_data)), (a_main, .inl (cy 1, 204, .inl u1))] := hD
      refine lv_aload_n hx hb d_Ma_compareTop_64 rfl (lv_at hl 2 rfl) ?_
      refine va_get (D := D) (ci := 6) (v := .ref a_data) (C := "CoinKeeper$Machine") (T := F_6) (N := 19) hx hb hts i_6 hown hK hP 0 rfl rfl 3 (by decide) (hts _ gw_207) (fun _ h9 => h9) rfl d_Ma_compareTop_65 ?_
      refine lv_iload_n hx hb d_Ma_compareTop_68 rfl (lv_at hl 0 rfl) ?_
      obtain ⟨v9, hc, hf⟩ := bdp1 hf
      refine q_ai (wr := [(o, .inr (6, [v_o_sha, r_signatures, v_o_ripemd, .ref a_data, v_a_scriptEnd, .ref a_main, v_a_other, v_a_taken, .int v5, .int i_otherHeight, .int i_ops, .int i_ifs, .int i_ifsNotTaken, .int i_free, r_layout, .int i_tx, .int i_in, r_coin, .int i_messageIsThere])), (a_data, .inl (cy 0, 14928, .inl g_data)), (a_main, .inl (cy 1, 204, .inl u1))]) (va_runS (As := [.int v4]) (rest := [.ref a_data, .int v8, .ref a_data, .ref o]) ⟨hx, hb, hml, hown, hts⟩ (c_Ma_placeOf l D cy ad fu v4 _ hc H.size) ⟨q_cB hts gw_999 gw_6 gw_997 hdc_39 ⟨by decide, by decide⟩, hts _ gw_998⟩ (q_pre (hP.sub [] rfl) (hD.sub [] (by decide) rfl) hK hSt hS (va_free hD hS hA [] rfl) _) rfl rfl hl.1 rfl (lv_room (Nat.le_of_ble_eq_true rfl)) d_Ma_compareTop_69 ⟨Nat.le_of_ble_eq_true rfl, Nat.le_of_ble_eq_true rfl⟩) hP hD hS hA [] [0, 1, 2] rfl rfl (by decide) (by decide) (fun H locs hP hD hS => ?_)
      clear hc
      have hP : va_P D classes [(o, .inr (6, [v_o_sha, r_signatures, v_o_ripemd, .ref a_data, v_a_scriptEnd, .ref a_main, v_a_other, v_a_taken, .int v5, .int i_otherHeight, .int i_ops, .int i_ifs, .int i_ifsNotTaken, .int i_free, r_layout, .int i_tx, .int i_in, r_coin, .int i_messageIsThere])), (a_data, .inl (cy 0, 14928, .inl g_data)), (a_main, .inl (cy 1, 204, .inl u1))] H := hP
      have hD : va_D A [(o, .inr (6, [v_o_sha, r_signatures, v_o_ripemd, .ref a_data, v_a_scriptEnd, .ref a_main, v_a_other, v_a_taken, .int v5, .int i_otherHeight, .int i_ops, .int i_ifs, .int i_ifsNotTaken, .int i_free, r_layout, .int i_tx, .int i_in, r_coin, .int i_messageIsThere])), (a_data, .inl (cy 0, 14928, .inl g_data)), (a_main, .inl (cy 1, 204, .inl u1))] := hD
      refine lv_iload_n hx hb d_Ma_compareTop_72 rfl (lv_at hl 1 rfl) ?_
      obtain ⟨v10, hc, hf⟩ := bdp1 hf
      refine q_ai (wr := [(o, .inr (6, [v_o_sha, r_signatures, v_o_ripemd, .ref a_data, v_a_scriptEnd, .ref a_main, v_a_other, v_a_taken, .int v5, .int i_otherHeight, .int i_ops, .int i_ifs, .int i_ifsNotTaken, .int i_free, r_layout, .int i_tx, .int i_in, r_coin, .int i_messageIsThere])), (a_data, .inl (cy 0, 14928, .inl g_data)), (a_main, .inl (cy 1, 204, .inl u1))]) (va_runS (As := [.int v2]) (rest := [.int v9, .ref a_data, .int v8, .ref a_data, .ref o]) ⟨hx, hb, hml, hown, hts⟩ (c_Ma_lengthOf l D cy ad fu v2 _ hc H.size) ⟨q_cB hts gw_1002 gw_6 gw_1000 hdc_40 ⟨by decide, by decide⟩, hts _ gw_1001⟩ (q_pre (hP.sub [] rfl) (hD.sub [] (by decide) rfl) hK hSt hS (va_free hD hS hA [] rfl) _) rfl rfl hl.1 rfl (lv_room (Nat.le_of_ble_eq_true rfl)) d_Ma_compareTop_73 ⟨Nat.le_of_ble_eq_true rfl, Nat.le_of_ble_eq_true rfl⟩) hP hD hS hA [] [0, 1, 2] rfl rfl (by decide) (by decide) (fun H locs hP hD hS => ?_)
      clear hc
      have hP : va_P D classes [(o, .inr (6, [v_o_sha, r_signatures, v_o_ripemd, .ref a_data, v_a_scriptEnd, .ref a_main, v_a_other, v_a_taken, .int v5, .int i_otherHeight, .int i_ops, .int i_ifs, .int i_ifsNotTaken, .int i_free, r_layout, .int i_tx, .int i_in, r_coin, .int i_messageIsThere])), (a_data, .inl (cy 0, 14928, .inl g_data)), (a_main, .inl (cy 1, 204, .inl u1))] H := hP
      have hD : va_D A [(o, .inr (6, [v_o_sha, r_signatures, v_o_ripemd, .ref a_data, v_a_scriptEnd, .ref a_main, v_a_other, v_a_taken, .int v5, .int i_otherHeight, .int i_ops, .int i_ifs, .int i_ifsNotTaken, .int i_free, r_layout, .int i_tx, .int i_in, r_coin, .int i_messageIsThere])), (a_data, .inl (cy 0, 14928, .inl g_data)), (a_main, .inl (cy 1, 204, .inl u1))] := hD
      obtain ⟨v11, hc, hf⟩ := bdp1 hf
      refine q_ai (wr := [(o, .inr (6, [v_o_sha, r_signatures, v_o_ripemd, .ref a_data, v_a_scriptEnd, .ref a_main, v_a_other, v_a_taken, .int v5, .int i_otherHeight, .int i_ops, .int i_ifs, .int i_ifsNotTaken, .int i_free, r_layout, .int i_tx, .int i_in, r_coin, .int i_messageIsThere])), (a_main, .inl (cy 1, 204, .inl u1))]) (va_runSN (As := [.ref a_data, .int v8, .ref a_data, .int v9, .int v10]) (rest := [.ref o]) ⟨hx, hb, hml, hown, hts⟩ (c_K_same_e20 l D cy ad fu a_data 14928 g_data v8 v9 v10 _ hc H.size) ⟨q_cN hts hSt.2.1 gw_746 gw_1 (List.mem_of_getElem? (i := 21) rfl) hdc_31 ⟨by decide, by decide⟩, hts _ gw_745, trivial⟩ (q_pre (hP.sub [1] rfl) (hD.sub [1] (by decide) rfl) hK hSt hS (va_free hD hS hA [1] rfl) _) rfl rfl hl.1 rfl (lv_room (Nat.le_of_ble_eq_true rfl)) d_Ma_compareTop_76 ⟨Nat.le_of_ble_eq_true rfl, Nat.le_of_ble_eq_true rfl⟩) hP hD hS hA [1] [0, 2] rfl rfl (by decide) (by decide) (fun H locs hP hD hS => ?_)
      clear hc
      have hP : va_P D classes [(o, .inr (6, [v_o_sha, r_signatures, v_o_ripemd, .ref a_data, v_a_scriptEnd, .ref a_main, v_a_other, v_a_taken, .int v5, .int i_otherHeight, .int i_ops, .int i_ifs, .int i_ifsNotTaken, .int i_free, r_layout, .int i_tx, .int i_in, r_coin, .int i_messageIsThere])), (a_main, .inl (cy 1, 204, .inl u1)), (a_data, .inl (cy 0, 14928, .inl g_data))] H := hP
      have hD : va_D A [(o, .inr (6, [v_o_sha, r_signatures, v_o_ripemd, .ref a_data, v_a_scriptEnd, .ref a_main, v_a_other, v_a_taken, .int v5, .int i_otherHeight, .int i_ops, .int i_ifs, .int i_ifsNotTaken, .int i_free, r_layout, .int i_tx, .int i_in, r_coin, .int i_messageIsThere])), (a_main, .inl (cy 1, 204, .inl u1)), (a_data, .inl (cy 0, 14928, .inl g_data))] := hD
      refine lv_if_eq (tgt := 88) hx hb d_Ma_compareTop_79 (by decide) (fun cx => ?_) (fun cx => ?_)
      · have hf := ifp cx hf
        exact wb_Ma_compareTop_88 (fu := fu) F _ _ _ _ hf _ _ _ (hP.sub (ws' := [(o, .inr (6, [v_o_sha, r_signatures, v_o_ripemd, .ref a_data, v_a_scriptEnd, .ref a_main, v_a_other, v_a_taken, .int v5, .int i_otherHeight, .int i_ops, .int i_ifs, .int i_ifsNotTaken, .int i_free, r_layout, .int i_tx, .int i_in, r_coin, .int i_messageIsThere])), (a_data, .inl (cy 0, 14928, .inl g_data)), (a_main, .inl (cy 1, 204, .inl u1))]) [0, 2, 1] rfl) (hD.sub (ws' := [(o, .inr (6, [v_o_sha, r_signatures, v_o_ripemd, .ref a_data, v_a_scriptEnd, .ref a_main, v_a_other, v_a_taken, .int v5, .int i_otherHeight, .int i_ops, .int i_ifs, .int i_ifsNotTaken, .int i_free, r_layout, .int i_tx, .int i_in, r_coin, .int i_messageIsThere])), (a_data, .inl (cy 0, 14928, .inl g_data)), (a_main, .inl (cy 1, 204, .inl u1))]) [0, 2, 1] (by decide) rfl) hS (lv_sub hl [2, 3] rfl)
      · have hf := ifn cx hf
        refine lv_sipush (v := 8449) hx hb d_Ma_compareTop_82 (by decide) ?_
        refine lv_goto (tgt := 89) hx hb d_Ma_compareTop_85 (by decide) ?_
        exact wb_Ma_compareTop_89 (fu := fu) F _ _ _ _ _ hf _ _ _ (hP.sub (ws' := [(o, .inr (6, [v_o_sha, r_signatures, v_o_ripemd, .ref a_data, v_a_scriptEnd, .ref a_main, v_a_other, v_a_taken, .int v5, .int i_otherHeight, .int i_ops, .int i_ifs, .int i_ifsNotTaken, .int i_free, r_layout, .int i_tx, .int i_in, r_coin, .int i_messageIsThere])), (a_data, .inl (cy 0, 14928, .inl g_data)), (a_main, .inl (cy 1, 204, .inl u1))]) [0, 2, 1] rfl) (hD.sub (ws' := [(o, .inr (6, [v_o_sha, r_signatures, v_o_ripemd, .ref a_data, v_a_scriptEnd, .ref a_main, v_a_other, v_a_taken, .int v5, .int i_otherHeight, .int i_ops, .int i_ifs, .int i_ifsNotTaken, .int i_free, r_layout, .int i_tx, .int i_in, r_coin, .int i_messageIsThere])), (a_data, .inl (cy 0, 14928, .inl g_data)), (a_main, .inl (cy 1, 204, .inl u1))]) [0, 2, 1] (by decide) rfl) hS (lv_sub hl [2, 3] rfl)
  · have hf := ifn cx hf
    refine lv_iconst (v := 0) hx hb d_Ma_compareTop_8 (by decide) ?_
    obtain rfl := Option.some.inj hf
    exact q_rz hx hb hr hlocks hK hP hD hS (isb_n (v := 0) (by decide)) d_Ma_compareTop_9
theorem c_Ma_compareTop (l : Launch) (D : va_G) (cy : Nat → ClassId) (ad : Nat → Nat) (fu : Nat) (o : Nat) (v_o_sha : Value) (r_signatures : Value) (v_o_ripemd : Value) (v_a_scriptEnd : Value) (v_a_other : Value) (v_a_taken : Value) (r_layout : Value) (r_coin : Value) (a_data : Nat) (a_main : Nat) (i_otherHeight : Int32) (i_ops : Int32) (i_ifs : Int32) (i_ifsNotTaken : Int32) (i_free : Int32) (i_tx : Int32) (i_in : Int32) (i_messageIsThere : Int32) (g_data : Nat → Int32) (a1 : Int32) (u0 : Int32) (u1 : Nat → Int32) (res : Int32 × Int32 × (Nat → Int32)) (hf : x_Ma_compareTop fu i_otherHeight i_ops i_ifs i_ifsNotTaken i_free i_tx i_in i_messageIsThere g_data a1 u0 u1 = some res) (sz : Nat) : Met l ({ cls := "CoinKeeper$Machine", name := "compareTop", desc := "(I)Z" } : Jvm.MethodName) (.code ({ cls := "CoinKeeper$Machine", name := "compareTop", desc := "(I)Z" } : Jvm.MethodName) b_Ma_compareTop 4 (some .boolean) :: gw) rm_Ma_compareTop (va_Pc [.ref o, .int a1] (Pr D cy ad [(o, .inr (6, [v_o_sha, r_signatures, v_o_ripemd, .ref a_data, v_a_scriptEnd, .ref a_main, v_a_other, v_a_taken, .int u0, .int i_otherHeight, .int i_ops, .int i_ifs, .int i_ifsNotTaken, .int i_free, r_layout, .int i_tx, .int i_in, r_coin, .int i_messageIsThere])), (a_data, .inl (cy 0, 14928, .inl g_data)), (a_main, .inl (cy 1, 204, .inl u1))] sz)) (q_Ma_compareTop D cy (va_A [(o, .inr (6, [v_o_sha, r_signatures, v_o_ripemd, .ref a_data, v_a_scriptEnd, .ref a_main, v_a_other, v_a_taken, .int u0, .int i_otherHeight, .int i_ops, .int i_ifs, .int i_ifsNotTaken, .int i_free, r_layout, .int i_tx, .int i_in, r_coin, .int i_messageIsThere])), (a_data, .inl (cy 0, 14928, .inl g_data)), (a_main, .inl (cy 1, 204, .inl u1))] sz) o v_o_sha r_signatures v_o_ripemd v_a_scriptEnd v_a_other v_a_taken r_layout r_coin a_data a_main i_otherHeight i_ops i_ifs i_ifsNotTaken i_free i_tx i_in i_messageIsThere g_data res) 0 0 (va_A [(o, .inr (6, [v_o_sha, r_signatures, v_o_ripemd, .ref a_data, v_a_scriptEnd, .ref a_main, v_a_other, v_a_taken, .int u0, .int i_otherHeight, .int i_ops, .int i_ifs, .int i_ifsNotTaken, .int i_free, r_layout, .int i_tx, .int i_in, r_coin, .int i_messageIsThere])), (a_data, .inl (cy 0, 14928, .inl g_data)), (a_main, .inl (cy 1, 204, .inl u1))] sz) :=
  q_met (Qc := fun A => q_Ma_compareTop D cy A o v_o_sha r_signatures v_o_ripemd v_a_scriptEnd v_a_other v_a_taken r_layout r_coin a_data a_main i_otherHeight i_ops i_ifs i_ifsNotTaken i_free i_tx i_in i_messageIsThere g_data res) (by decide) rfl rfl (Nat.le_of_ble_eq_true rfl) (fun p e s m below meth c ls F hP hD hS hl => we_Ma_compareTop (fu := fu) F a1 u0 u1 res hf _ _ _ hP hD hS hl) sz
abbrev b_Ma_fromOther : ByteArray := prog_7_method_21_code
theorem d_Ma_fromOther_0 : decode b_Ma_fromOther 0 = .ok (.aload_n 0, 1) := by decide +kernel
theorem d_Ma_fromOther_1 : decode b_Ma_fromOther 1 = .ok (.getfield 83, 3) := by decide +kernel
theorem d_Ma_fromOther_4 : decode b_Ma_fromOther 4 = .ok (.iconst 1, 1) := by decide +kernel
theorem d_Ma_fromOther_5 : decode b_Ma_fromOther 5 = .ok (.if_icmp .ge 5, 3) := by decide +kernel
theorem d_Ma_fromOther_8 : decode b_Ma_fromOther 8 = .ok (.iconst 0, 1) := by decide +kernel
theorem d_Ma_fromOther_9 : decode b_Ma_fromOther 9 = .ok (.ireturn, 1) := by decide +kernel
theorem d_Ma_fromOther_10 : decode b_Ma_fromOther 10 = .ok (.aload_n 0, 1) := by decide +kernel
theorem d_Ma_fromOther_11 : decode b_Ma_fromOther 11 = .ok (.dup, 1) := by decide +kernel
theorem d_Ma_fromOther_12 : decode b_Ma_fromOther 12 = .ok (.getfield 83, 3) := by decide +kernel
theorem d_Ma_fromOther_15 : decode b_Ma_fromOther 15 = .ok (.iconst 1, 1) := by decide +kernel
theorem d_Ma_fromOther_16 : decode b_Ma_fromOther 16 = .ok (.isub, 1) := by decide +kernel
theorem d_Ma_fromOther_17 : decode b_Ma_fromOther 17 = .ok (.putfield 83, 3) := by decide +kernel
theorem d_Ma_fromOther_20 : decode b_Ma_fromOther 20 = .ok (.aload_n 0, 1) := by decide +kernel
theorem d_Ma_fromOther_21 : decode b_Ma_fromOther 21 = .ok (.aload_n 0, 1) := by decide +kernel
theorem d_Ma_fromOther_22 : decode b_Ma_fromOther 22 = .ok (.getfield 29, 3) := by decide +kernel
theorem d_Ma_fromOther_25 : decode b_Ma_fromOther 25 = .ok (.aload_n 0, 1) := by decide +kernel
theorem d_Ma_fromOther_26 : decode b_Ma_fromOther 26 = .ok (.getfield 83, 3) := by decide +kernel
theorem d_Ma_fromOther_29 : decode b_Ma_fromOther 29 = .ok (.iaload, 1) := by decide +kernel
theorem d_Ma_fromOther_30 : decode b_Ma_fromOther 30 = .ok (.invokevirtual 95, 3) := by decide +kernel
theorem d_Ma_fromOther_33 : decode b_Ma_fromOther 33 = .ok (.iconst 1, 1) := by decide +kernel
theorem d_Ma_fromOther_34 : decode b_Ma_fromOther 34 = .ok (.ireturn, 1) := by decide +kernel
abbrev rm_Ma_fromOther : Room := { frames := 1, cells := 0, slots := 0, locals := 21 }
abbrev q_Ma_fromOther (D : va_G) (cy : Nat → ClassId) (A : Nat → Prop) (o : Nat) (v_o_sha : Value) (r_signatures : Value) (v_o_ripemd : Value) (v_a_data : Value) (v_a_scriptEnd : Value) (v_a_taken : Value) (r_layout : Value) (r_coin : Value) (a_main : Nat) (a_other : Nat) (i_ops : Int32) (i_ifs : Int32) (i_ifsNotTaken : Int32) (i_free : Int32) (i_tx : Int32) (i_in : Int32) (i_messageIsThere : Int32) (g_other : Nat → Int32) (res : Int32 × Int32 × Int32 × (Nat → Int32)) : Array Value → State → Outcome → State → Prop := va_Qi (fun r' (_ : Unit) => r' = res.1) (fun _ t => Po D cy A [(o, .inr (6, [v_o_sha, r_signatures, v_o_ripemd, v_a_data, v_a_scriptEnd, .ref a_main, .ref a_other, v_a_taken, .int res.2.1, .int res.2.2.1, .int i_ops, .int i_ifs, .int i_ifsNotTaken, .int i_free, r_layout, .int i_tx, .int i_in, r_coin, .int i_messageIsThere])), (a_main, .inl (cy 1, 204, .inl res.2.2.2)), (a_other, .inl (cy 1, 204, .inl g_other))] t) A
def I_Ma_fromOther_e (p : Program) (l : Launch) (e : Env) (s : State) (m : MethodId) (args : Array Value) (below : List Frame) (meth : Method) (c : Code) (D : va_G) (cy : Nat → ClassId) (A : Nat → Prop) (ad : Nat → Nat) (o : Nat) (v_o_sha : Value) (r_signatures : Value) (v_o_ripemd : Value) (v_a_data : Value) (v_a_scriptEnd : Value) (v_a_taken : Value) (r_layout : Value) (r_coin : Value) (a_main : Nat) (a_other : Nat) (i_ops : Int32) (i_ifs : Int32) (i_ifsNotTaken : Int32) (i_free : Int32) (i_tx : Int32) (i_in : Int32) (i_messageIsThere : Int32) (g_other : Nat → Int32) (k : Int32 → Int32 → (Nat → Int32) → Option (Int32 × Int32 × Int32 × (Nat → Int32))) : Prop :=
  ∀ (u0 : Int32) (u1 : Int32) (u2 : Nat → Int32) (res : Int32 × Int32 × Int32 × (Nat → Int32)), k u0 u1 u2 = some res → ∀ (H : Heap) (locs : List Loc) (ls : Array Slot), va_P D classes [(o, .inr (6, [v_o_sha, r_signatures, v_o_ripemd, v_a_data, v_a_scriptEnd, .ref a_main, .ref a_other, v_a_taken, .int u0, .int u1, .int i_ops, .int i_ifs, .int i_ifsNotTaken, .int i_free, r_layout, .int i_tx, .int i_in, r_coin, .int i_messageIsThere])), (a_main, .inl (cy 1, 204, .inl u2)), (a_other, .inl (cy 1, 204, .inl g_other))] H → va_D A [(o, .inr (6, [v_o_sha, r_signatures, v_o_ripemd, v_a_data, v_a_scriptEnd, .ref a_main, .ref a_other, v_a_taken, .int u0, .int u1, .int i_ops, .int i_ifs, .int i_ifsNotTaken, .int i_free, r_layout, .int i_tx, .int i_in, r_coin, .int i_messageIsThere])), (a_main, .inl (cy 1, 204, .inl u2)), (a_other, .inl (cy 1, 204, .inl g_other))] → va_S A s.heap H locs → lv_has ls 1 [(0, .ref o)] → W p l e rm_Ma_fromOther s m args below meth c H locs 0 0 (MQ below (q_Ma_fromOther D cy A o v_o_sha r_signatures v_o_ripemd v_a_data v_a_scriptEnd v_a_taken r_layout r_coin a_main a_other i_ops i_ifs i_ifsNotTaken i_free i_tx i_in i_messageIsThere g_other res) args s 0 0 A) (F0 m 0 ls [])
set_option maxHeartbeats 8000000 in
set_option maxRecDepth 100000 in
theorem we_Ma_fromOther {p : Program} {l : Launch} {e : Env} {s : State} {m : MethodId} {args : Array Value} {below : List Frame} {meth : Method} {c : Code} {D : va_G} {cy : Nat → ClassId} {A : Nat → Prop} {ad : Nat → Nat} {o : Nat} {v_o_sha : Value} {r_signatures : Value} {v_o_ripemd : Value} {v_a_data : Value} {v_a_scriptEnd : Value} {v_a_taken : Value} {r_layout : Value} {r_coin : Value} {a_main : Nat} {a_other : Nat} {i_ops : Int32} {i_ifs : Int32} {i_ifsNotTaken : Int32} {i_free : Int32} {i_tx : Int32} {i_in : Int32} {i_messageIsThere : Int32} {g_other : Nat → Int32} {fu : Nat} (F : Fx p s m args meth c b_Ma_fromOther 1 "CoinKeeper$Machine" "fromOther" (some .boolean) D cy ad A) : I_Ma_fromOther_e p l e s m args below meth c D cy A ad o v_o_sha r_signatures v_o_ripemd v_a_data v_a_scriptEnd v_a_taken r_layout r_coin a_main a_other i_ops i_ifs i_ifsNotTaken i_free i_tx i_in i_messageIsThere g_other (x_Ma_fromOther fu i_ops i_ifs i_ifsNotTaken i_free i_tx i_in i_messageIsThere g_other) := by
  obtain ⟨hx, hb, hr, hml, hown, hts, hlocks, hK, hA, hSt, hnm, hex⟩ := id F
  intro u0 u1 u2 res hf H locs ls hP hD hS hl
  unfold x_Ma_fromOther at hf
  refine lv_aload_n hx hb d_Ma_fromOther_0 rfl (lv_at hl 0 rfl) ?_
  refine va_get (D := D) (ci := 6) (v := .int u1) (C := "CoinKeeper$Machine") (T := F_6) (N := 19) hx hb hts i_6 hown hK hP 0 rfl rfl 9 (by decide) (hts _ gw_213) (fun _ h9 => h9) rfl d_Ma_fromOther_1 ?_
  refine lv_iconst (v := 1) hx hb d_Ma_fromOther_4 (by decide) ?_
  refine lv_icmp_ge (tgt := 10) hx hb d_Ma_fromOther_5 (by decide) (fun cx => ?_) (fun cx => ?_)
  · have hf := ifp cx hf
    refine lv_aload_n hx hb d_Ma_fromOther_10 rfl (lv_at hl 0 rfl) ?_
    refine lv_dup hx hb d_Ma_fromOther_11 rfl ?_
    refine va_get (D := D) (ci := 6) (v := .int u1) (C := "CoinKeeper$Machine") (T := F_6) (N := 19) hx hb hts i_6 hown hK hP 0 rfl rfl 9 (by decide) (hts _ gw_213) (fun _ h9 => h9) rfl d_Ma_fromOther_12 ?_
    refine lv_iconst (v := 1) hx hb d_Ma_fromOther_15 (by decide) ?_
    refine lv_isub hx hb d_Ma_fromOther_16 ?_
    refine lv_topi (fun v1 ev => ?_)
    have hf := bn ev hf
    clear ev
    refine va_put (D := D) (ci := 6) (v := .int v1) (ty := .int) (C := "CoinKeeper$Machine") (T := F_6) (N := 19) hx hb hts i_6 t_6 t_6_ok n_6 hown hK hP hD hS 0 rfl rfl 9 (by decide) (hts _ gw_213) (fun _ h9 => h9) rfl (by decide +kernel) rfl rfl (Nat.le_of_ble_eq_true rfl) d_Ma_fromOther_17 (fun H locs hP hD hS => ?_)
    have hP : va_P D classes [(o, .inr (6, [v_o_sha, r_signatures, v_o_ripemd, v_a_data, v_a_scriptEnd, .ref a_main, .ref a_other, v_a_taken, .int u0, .int v1, .int i_ops, .int i_ifs, .int i_ifsNotTaken, .int i_free, r_layout, .int i_tx, .int i_in, r_coin, .int i_messageIsThere])), (a_main, .inl (cy 1, 204, .inl u2)), (a_other, .inl (cy 1, 204, .inl g_other))] H := hP
    have hD : va_D A [(o, .inr (6, [v_o_sha, r_signatures, v_o_ripemd, v_a_data, v_a_scriptEnd, .ref a_main, .ref a_other, v_a_taken, .int u0, .int v1, .int i_ops, .int i_ifs, .int i_ifsNotTaken, .int i_free, r_layout, .int i_tx, .int i_in, r_coin, .int i_messageIsThere])), (a_main, .inl (cy 1, 204, .inl u2)), (a_other, .inl (cy 1, 204, .inl g_other))] := hD
    refine lv_aload_n hx hb d_Ma_fromOther_20 rfl (lv_at hl 0 rfl) ?_
    refine lv_aload_n hx hb d_Ma_fromOther_21 rfl (lv_at hl 0 rfl) ?_
    refine va_get (D := D) (ci := 6) (v := .ref a_other) (C := "CoinKeeper$Machine") (T := F_6) (N := 19) hx hb hts i_6 hown hK hP 0 rfl rfl 6 (by decide) (hts _ gw_210) (fun _ h9 => h9) rfl d_Ma_fromOther_22 ?_
    refine lv_aload_n hx hb d_Ma_fromOther_25 rfl (lv_at hl 0 rfl) ?_
    refine va_get (D := D) (ci := 6) (v := .int v1) (C := "CoinKeeper$Machine") (T := F_6) (N := 19) hx hb hts i_6 hown hK hP 0 rfl rfl 9 (by decide) (hts _ gw_213) (fun _ h9 => h9) rfl d_Ma_fromOther_26 ?_
    obtain ⟨hg, hf⟩ := gdp hf
    refine va_iald hx hb hK hP 2 1 rfl rfl (inb_in hg) d_Ma_fromOther_29 ?_
    refine lv_topi (fun v2 ev => ?_)
    have hf := bn ev hf
    clear ev
    obtain ⟨e3, f4, hc, hf⟩ := bdp2 hf
    refine q_av (wr := [(a_other, .inl (cy 1, 204, .inl g_other))]) (va_runV (C := "CoinKeeper$Machine") (As := [.int v2]) (rest := []) ⟨hx, hb, hml, hown, hts⟩ (c_Ma_push l D cy ad fu o v_o_sha r_signatures v_o_ripemd v_a_data v_a_scriptEnd (.ref a_other) v_a_taken r_layout r_coin a_main v1 i_ops i_ifs i_ifsNotTaken i_free i_tx i_in i_messageIsThere v2 u0 u2 _ hc H.size) ⟨q_cB hts gw_988 gw_6 gw_985 hdc_42 ⟨by decide, by decide⟩, hts _ gw_987, hts _ gs_28⟩ (q_preV (q_pre (hP.sub [0, 1] rfl) (hD.sub [0, 1] (by decide) rfl) hK hSt hS (va_free hD hS hA [0, 1] rfl) _) (va_recv hK (hP.sub [0, 1] rfl) (ci := 6) (q0 := 0) rfl rfl)) rfl rfl hl.1 rfl (lv_room (Nat.le_of_ble_eq_true rfl)) d_Ma_fromOther_30 ⟨Nat.le_of_ble_eq_true rfl, Nat.le_of_ble_eq_true rfl⟩) hP hD hS hA [0, 1] [2] rfl rfl (by decide) (by decide) (fun H locs hP hD hS => ?_)
    clear hc
    have hP : va_P D classes [(a_other, .inl (cy 1, 204, .inl g_other)), (o, .inr (6, [v_o_sha, r_signatures, v_o_ripemd, v_a_data, v_a_scriptEnd, .ref a_main, .ref a_other, v_a_taken, .int e3, .int v1, .int i_ops, .int i_ifs, .int i_ifsNotTaken, .int i_free, r_layout, .int i_tx, .int i_in, r_coin, .int i_messageIsThere])), (a_main, .inl (cy 1, 204, .inl f4))] H := hP
    have hD : va_D A [(a_other, .inl (cy 1, 204, .inl g_other)), (o, .inr (6, [v_o_sha, r_signatures, v_o_ripemd, v_a_data, v_a_scriptEnd, .ref a_main, .ref a_other, v_a_taken, .int e3, .int v1, .int i_ops, .int i_ifs, .int i_ifsNotTaken, .int i_free, r_layout, .int i_tx, .int i_in, r_coin, .int i_messageIsThere])), (a_main, .inl (cy 1, 204, .inl f4))] := hD
    refine lv_iconst (v := 1) hx hb d_Ma_fromOther_33 (by decide) ?_
    obtain rfl := Option.some.inj hf
    exact q_rz hx hb hr hlocks hK (hP.sub [1, 2, 0] rfl) (hD.sub [1, 2, 0] (by decide) rfl) hS (isb_n (v := 1) (by decide)) d_Ma_fromOther_34
  · have hf := ifn cx hf
    refine lv_iconst (v := 0) hx hb d_Ma_fromOther_8 (by decide) ?_
    obtain rfl := Option.some.inj hf
    exact q_rz hx hb hr hlocks hK hP hD hS (isb_n (v := 0) (by decide)) d_Ma_fromOther_9
theorem c_Ma_fromOther (l : Launch) (D : va_G) (cy : Nat → ClassId) (ad : Nat → Nat) (fu : Nat) (o : Nat) (v_o_sha : Value) (r_signatures : Value) (v_o_ripemd : Value) (v_a_data : Value) (v_a_scriptEnd : Value) (v_a_taken : Value) (r_layout : Value) (r_coin : Value) (a_main : Nat) (a_other : Nat) (i_ops : Int32) (i_ifs : Int32) (i_ifsNotTaken : Int32) (i_free : Int32) (i_tx : Int32) (i_in : Int32) (i_messageIsThere : Int32) (g_other : Nat → Int32) (u0 : Int32) (u1 : Int32) (u2 : Nat → Int32) (res : Int32 × Int32 × Int32 × (Nat → Int32)) (hf : x_Ma_fromOther fu i_ops i_ifs i_ifsNotTaken i_free i_tx i_in i_messageIsThere g_other u0 u1 u2 = some res) (sz : Nat) : Met l ({ cls := "CoinKeeper$Machine", name := "fromOther", desc := "()Z" } : Jvm.MethodName) (.code ({ cls := "CoinKeeper$Machine", name := "fromOther", desc := "()Z" } : Jvm.MethodName) b_Ma_fromOther 1 (some .boolean) :: gw) rm_Ma_fromOther (va_Pc [.ref o] (Pr D cy ad [(o, .inr (6, [v_o_sha, r_signatures, v_o_ripemd, v_a_data, v_a_scriptEnd, .ref a_main, .ref a_other, v_a_taken, .int u0, .int u1, .int i_ops, .int i_ifs, .int i_ifsNotTaken, .int i_free, r_layout, .int i_tx, .int i_in, r_coin, .int i_messageIsThere])), (a_main, .inl (cy 1, 204, .inl u2)), (a_other, .inl (cy 1, 204, .inl g_other))] sz)) (q_Ma_fromOther D cy (va_A [(o, .inr (6, [v_o_sha, r_signatures, v_o_ripemd, v_a_data, v_a_scriptEnd, .ref a_main, .ref a_other, v_a_taken, .int u0, .int u1, .int i_ops, .int i_ifs, .int i_ifsNotTaken, .int i_free, r_layout, .int i_tx, .int i_in, r_coin, .int i_messageIsThere])), (a_main, .inl (cy 1, 204, .inl u2)), (a_other, .inl (cy 1, 204, .inl g_other))] sz) o v_o_sha r_signatures v_o_ripemd v_a_data v_a_scriptEnd v_a_taken r_layout r_coin a_main a_other i_ops i_ifs i_ifsNotTaken i_free i_tx i_in i_messageIsThere g_other res) 0 0 (va_A [(o, .inr (6, [v_o_sha, r_signatures, v_o_ripemd, v_a_data, v_a_scriptEnd, .ref a_main, .ref a_other, v_a_taken, .int u0, .int u1, .int i_ops, .int i_ifs, .int i_ifsNotTaken, .int i_free, r_layout, .int i_tx, .int i_in, r_coin, .int i_messageIsThere])), (a_main, .inl (cy 1, 204, .inl u2)), (a_other, .inl (cy 1, 204, .inl g_other))] sz) :=
  q_met (Qc := fun A => q_Ma_fromOther D cy A o v_o_sha r_signatures v_o_ripemd v_a_data v_a_scriptEnd v_a_taken r_layout r_coin a_main a_other i_ops i_ifs i_ifsNotTaken i_free i_tx i_in i_messageIsThere g_other res) (by decide) rfl rfl (Nat.le_of_ble_eq_true rfl) (fun p e s m below meth c ls F hP hD hS hl => we_Ma_fromOther (fu := fu) F u0 u1 u2 res hf _ _ _ hP hD hS hl) sz
abbrev b_Ma_toOther : ByteArray := prog_7_method_20_code
theorem d_Ma_toOther_0 : decode b_Ma_toOther 0 = .ok (.aload_n 0, 1) := by decide +kernel
theorem d_Ma_toOther_1 : decode b_Ma_toOther 1 = .ok (.getfield 73, 3) := by decide +kernel
theorem d_Ma_toOther_4 : decode b_Ma_toOther 4 = .ok (.iconst 1, 1) := by decide +kernel
theorem d_Ma_toOther_5 : decode b_Ma_toOther 5 = .ok (.if_icmp .ge 5, 3) := by decide +kernel
theorem d_Ma_toOther_8 : decode b_Ma_toOther 8 = .ok (.iconst 0, 1) := by decide +kernel
theorem d_Ma_toOther_9 : decode b_Ma_toOther 9 = .ok (.ireturn, 1) := by decide +kernel
theorem d_Ma_toOther_10 : decode b_Ma_toOther 10 = .ok (.aload_n 0, 1) := by decide +kernel
theorem d_Ma_toOther_11 : decode b_Ma_toOther 11 = .ok (.dup, 1) := by decide +kernel
theorem d_Ma_toOther_12 : decode b_Ma_toOther 12 = .ok (.getfield 73, 3) := by decide +kernel
theorem d_Ma_toOther_15 : decode b_Ma_toOther 15 = .ok (.iconst 1, 1) := by decide +kernel
theorem d_Ma_toOther_16 : decode b_Ma_toOther 16 = .ok (.isub, 1) := by decide +kernel
theorem d_Ma_toOther_17 : decode b_Ma_toOther 17 = .ok (.putfield 73, 3) := by decide +kernel
theorem d_Ma_toOther_20 : decode b_Ma_toOther 20 = .ok (.aload_n 0, 1) := by decide +kernel
theorem d_Ma_toOther_21 : decode b_Ma_toOther 21 = .ok (.getfield 29, 3) := by decide +kernel
theorem d_Ma_toOther_24 : decode b_Ma_toOther 24 = .ok (.aload_n 0, 1) := by decide +kernel
theorem d_Ma_toOther_25 : decode b_Ma_toOther 25 = .ok (.getfield 83, 3) := by decide +kernel
theorem d_Ma_toOther_28 : decode b_Ma_toOther 28 = .ok (.aload_n 0, 1) := by decide +kernel
theorem d_Ma_toOther_29 : decode b_Ma_toOther 29 = .ok (.getfield 26, 3) := by decide +kernel
theorem d_Ma_toOther_32 : decode b_Ma_toOther 32 = .ok (.aload_n 0, 1) := by decide +kernel
theorem d_Ma_toOther_33 : decode b_Ma_toOther 33 = .ok (.getfield 73, 3) := by decide +kernel
theorem d_Ma_toOther_36 : decode b_Ma_toOther 36 = .ok (.iaload, 1) := by decide +kernel
theorem d_Ma_toOther_37 : decode b_Ma_toOther 37 = .ok (.iastore, 1) := by decide +kernel
theorem d_Ma_toOther_38 : decode b_Ma_toOther 38 = .ok (.aload_n 0, 1) := by decide +kernel
theorem d_Ma_toOther_39 : decode b_Ma_toOther 39 = .ok (.dup, 1) := by decide +kernel
theorem d_Ma_toOther_40 : decode b_Ma_toOther 40 = .ok (.getfield 83, 3) := by decide +kernel
theorem d_Ma_toOther_43 : decode b_Ma_toOther 43 = .ok (.iconst 1, 1) := by decide +kernel
theorem d_Ma_toOther_44 : decode b_Ma_toOther 44 = .ok (.iadd, 1) := by decide +kernel
theorem d_Ma_toOther_45 : decode b_Ma_toOther 45 = .ok (.putfield 83, 3) := by decide +kernel
theorem d_Ma_toOther_48 : decode b_Ma_toOther 48 = .ok (.iconst 1, 1) := by decide +kernel
theorem d_Ma_toOther_49 : decode b_Ma_toOther 49 = .ok (.ireturn, 1) := by decide +kernel
abbrev rm_Ma_toOther : Room := { frames := 0, cells := 0, slots := 0, locals := 0 }
abbrev q_Ma_toOther (D : va_G) (cy : Nat → ClassId) (A : Nat → Prop) (o : Nat) (v_o_sha : Value) (r_signatures : Value) (v_o_ripemd : Value) (v_a_data : Value) (v_a_scriptEnd : Value) (v_a_taken : Value) (r_layout : Value) (r_coin : Value) (a_main : Nat) (a_other : Nat) (i_ops : Int32) (i_ifs : Int32) (i_ifsNotTaken : Int32) (i_free : Int32) (i_tx : Int32) (i_in : Int32) (i_messageIsThere : Int32) (g_main : Nat → Int32) (res : Int32 × Int32 × Int32 × (Nat → Int32)) : Array Value → State → Outcome → State → Prop := va_Qi (fun r' (_ : Unit) => r' = res.1) (fun _ t => Po D cy A [(o, .inr (6, [v_o_sha, r_signatures, v_o_ripemd, v_a_data, v_a_scriptEnd, .ref a_main, .ref a_other, v_a_taken, .int res.2.1, .int res.2.2.1, .int i_ops, .int i_ifs, .int i_ifsNotTaken, .int i_free, r_layout, .int i_tx, .int i_in, r_coin, .int i_messageIsThere])), (a_main, .inl (cy 1, 204, .inl g_main)), (a_other, .inl (cy 1, 204, .inl res.2.2.2))] t) A
def I_Ma_toOther_e (p : Program) (l : Launch) (e : Env) (s : State) (m : MethodId) (args : Array Value) (below : List Frame) (meth : Method) (c : Code) (D : va_G) (cy : Nat → ClassId) (A : Nat → Prop) (ad : Nat → Nat) (o : Nat) (v_o_sha : Value) (r_signatures : Value) (v_o_ripemd : Value) (v_a_data : Value) (v_a_scriptEnd : Value) (v_a_taken : Value) (r_layout : Value) (r_coin : Value) (a_main : Nat) (a_other : Nat) (i_ops : Int32) (i_ifs : Int32) (i_ifsNotTaken : Int32) (i_free : Int32) (i_tx : Int32) (i_in : Int32) (i_messageIsThere : Int32) (g_main : Nat → Int32) (k : Int32 → Int32 → (Nat → Int32) → Option (Int32 × Int32 × Int32 × (Nat → Int32))) : Prop :=
  ∀ (u0 : Int32) (u1 : Int32) (u2 : Nat → Int32) (res : Int32 × Int32 × Int32 × (Nat → Int32)), k u0 u1 u2 = some res → ∀ (H : Heap) (locs : List Loc) (ls : Array Slot), va_P D classes [(o, .inr (6, [v_o_sha, r_signatures, v_o_ripemd, v_a_data, v_a_scriptEnd, .ref a_main, .ref a_other, v_a_taken, .int u0, .int u1, .int i_ops, .int i_ifs, .int i_ifsNotTaken, .int i_free, r_layout, .int i_tx, .int i_in, r_coin, .int i_messageIsThere])), (a_main, .inl (cy 1, 204, .inl g_main)), (a_other, .inl (cy 1, 204, .inl u2))] H → va_D A [(o, .inr (6, [v_o_sha, r_signatures, v_o_ripemd, v_a_data, v_a_scriptEnd, .ref a_main, .ref a_other, v_a_taken, .int u0, .int u1, .int i_ops, .int i_ifs, .int i_ifsNotTaken, .int i_free, r_layout, .int i_tx, .int i_in, r_coin, .int i_messageIsThere])), (a_main, .inl (cy 1, 204, .inl g_main)), (a_other, .inl (cy 1, 204, .inl u2))] → va_S A s.heap H locs → lv_has ls 1 [(0, .ref o)] → W p l e rm_Ma_toOther s m args below meth c H locs 0 0 (MQ below (q_Ma_toOther D cy A o v_o_sha r_signatures v_o_ripemd v_a_data v_a_scriptEnd v_a_taken r_layout r_coin a_main a_other i_ops i_ifs i_ifsNotTaken i_free i_tx i_in i_messageIsThere g_main res) args s 0 0 A) (F0 m 0 ls [])
set_option maxHeartbeats 8000000 in
set_option maxRecDepth 100000 in
theorem we_Ma_toOther {p : Program} {l : Launch} {e : Env} {s : State} {m : MethodId} {args : Array Value} {below : List Frame} {meth : Method} {c : Code} {D : va_G} {cy : Nat → ClassId} {A : Nat → Prop} {ad : Nat → Nat} {o : Nat} {v_o_sha : Value} {r_signatures : Value} {v_o_ripemd : Value} {v_a_data : Value} {v_a_scriptEnd : Value} {v_a_taken : Value} {r_layout : Value} {r_coin : Value} {a_main : Nat} {a_other : Nat} {i_ops : Int32} {i_ifs : Int32} {i_ifsNotTaken : Int32} {i_free : Int32} {i_tx : Int32} {i_in : Int32} {i_messageIsThere : Int32} {g_main : Nat → Int32} {fu : Nat} (F : Fx p s m args meth c b_Ma_toOther 1 "CoinKeeper$Machine" "toOther" (some .boolean) D cy ad A) : I_Ma_toOther_e p l e s m args below meth c D cy A ad o v_o_sha r_signatures v_o_ripemd v_a_data v_a_scriptEnd v_a_taken r_layout r_coin a_main a_other i_ops i_ifs i_ifsNotTaken i_free i_tx i_in i_messageIsThere g_main (x_Ma_toOther fu i_ops i_ifs i_ifsNotTaken i_free i_tx i_in i_messageIsThere g_main) := by
  obtain ⟨hx, hb, hr, hml, hown, hts, hlocks, hK, hA, hSt, hnm, hex⟩ := id F
  intro u0 u1 u2 res hf H locs ls hP hD hS hl
  unfold x_Ma_toOther at hf
  refine lv_aload_n hx hb d_Ma_toOther_0 rfl (lv_at hl 0 rfl) ?_
  refine va_get (D := D) (ci := 6) (v := .int u0) (C := "CoinKeeper$Machine") (T := F_6) (N := 19) hx hb hts i_6 hown hK hP 0 rfl rfl 8 (by decide) (hts _ gw_212) (fun _ h9 => h9) rfl d_Ma_toOther_1 ?_
  refine lv_iconst (v := 1) hx hb d_Ma_toOther_4 (by decide) ?_
  refine lv_icmp_ge (tgt := 10) hx hb d_Ma_toOther_5 (by decide) (fun cx => ?_) (fun cx => ?_)
  · have hf := ifp cx hf
    refine lv_aload_n hx hb d_Ma_toOther_10 rfl (lv_at hl 0 rfl) ?_
    refine lv_dup hx hb d_Ma_toOther_11 rfl ?_
    refine va_get (D := D) (ci := 6) (v := .int u0) (C := "CoinKeeper$Machine") (T := F_6) (N := 19) hx hb hts i_6 hown hK hP 0 rfl rfl 8 (by decide) (hts _ gw_212) (fun _ h9 => h9) rfl d_Ma_toOther_12 ?_
    refine lv_iconst (v := 1) hx hb d_Ma_toOther_15 (by decide) ?_
    refine lv_isub hx hb d_Ma_toOther_16 ?_
    refine lv_topi (fun v1 ev => ?_)
    have hf := bn ev hf
    clear ev
    refine va_put (D := D) (ci := 6) (v := .int v1) (ty := .int) (C := "CoinKeeper$Machine") (T := F_6) (N := 19) hx hb hts i_6 t_6 t_6_ok n_6 hown hK hP hD hS 0 rfl rfl 8 (by decide) (hts _ gw_212) (fun _ h9 => h9) rfl (by decide +kernel) rfl rfl (Nat.le_of_ble_eq_true rfl) d_Ma_toOther_17 (fun H locs hP hD hS => ?_)
    have hP : va_P D classes [(o, .inr (6, [v_o_sha, r_signatures, v_o_ripemd, v_a_data, v_a_scriptEnd, .ref a_main, .ref a_other, v_a_taken, .int v1, .int u1, .int i_ops, .int i_ifs, .int i_ifsNotTaken, .int i_free, r_layout, .int i_tx, .int i_in, r_coin, .int i_messageIsThere])), (a_main, .inl (cy 1, 204, .inl g_main)), (a_other, .inl (cy 1, 204, .inl u2))] H := hP
    have hD : va_D A [(o, .inr (6, [v_o_sha, r_signatures, v_o_ripemd, v_a_data, v_a_scriptEnd, .ref a_main, .ref a_other, v_a_taken, .int v1, .int u1, .int i_ops, .int i_ifs, .int i_ifsNotTaken, .int i_free, r_layout, .int i_tx, .int i_in, r_coin, .int i_messageIsThere])), (a_main, .inl (cy 1, 204, .inl g_main)), (a_other, .inl (cy 1, 204, .inl u2))] := hD
    refine lv_aload_n hx hb d_Ma_toOther_20 rfl (lv_at hl 0 rfl) ?_
    refine va_get (D := D) (ci := 6) (v := .ref a_other) (C := "CoinKeeper$Machine") (T := F_6) (N := 19) hx hb hts i_6 hown hK hP 0 rfl rfl 6 (by decide) (hts _ gw_210) (fun _ h9 => h9) rfl d_Ma_toOther_21 ?_
    refine lv_aload_n hx hb d_Ma_toOther_24 rfl (lv_at hl 0 rfl) ?_
    refine va_get (D := D) (ci := 6) (v := .int u1) (C := "CoinKeeper$Machine") (T := F_6) (N := 19) hx hb hts i_6 hown hK hP 0 rfl rfl 9 (by decide) (hts _ gw_213) (fun _ h9 => h9) rfl d_Ma_toOther_25 ?_
    refine lv_aload_n hx hb d_Ma_toOther_28 rfl (lv_at hl 0 rfl) ?_
    refine va_get (D := D) (ci := 6) (v := .ref a_main) (C := "CoinKeeper$Machine") (T := F_6) (N := 19) hx hb hts i_6 hown hK hP 0 rfl rfl 5 (by decide) (hts _ gw_209) (fun _ h9 => h9) rfl d_Ma_toOther_29 ?_
    refine lv_aload_n hx hb d_Ma_toOther_32 rfl (lv_at hl 0 rfl) ?_
    refine va_get (D := D) (ci := 6) (v := .int v1) (C := "CoinKeeper$Machine") (T := F_6) (N := 19) hx hb hts i_6 hown hK hP 0 rfl rfl 8 (by decide) (hts _ gw_212) (fun _ h9 => h9) rfl d_Ma_toOther_33 ?_
    obtain ⟨hg, hf⟩ := gdp hf
    refine va_iald hx hb hK hP 1 1 rfl rfl (inb_in hg) d_Ma_toOther_36 ?_
    refine lv_topi (fun v2 ev => ?_)
    have hf := bn ev hf
    clear ev
    obtain ⟨hg, hf⟩ := gdp hf
    refine va_iast hx hb hK hP hD hS 2 1 rfl rfl (inb_in hg) d_Ma_toOther_37 (fun H locs hP hD hS => ?_)
    obtain ⟨f3, ev, hf⟩ := bne hf
    have hP : va_P D classes [(o, .inr (6, [v_o_sha, r_signatures, v_o_ripemd, v_a_data, v_a_scriptEnd, .ref a_main, .ref a_other, v_a_taken, .int v1, .int u1, .int i_ops, .int i_ifs, .int i_ifsNotTaken, .int i_free, r_layout, .int i_tx, .int i_in, r_coin, .int i_messageIsThere])), (a_main, .inl (cy 1, 204, .inl g_main)), (a_other, .inl (cy 1, 204, .inl f3))] H := by rw [ev]; exact hP
    have hD : va_D A [(o, .inr (6, [v_o_sha, r_signatures, v_o_ripemd, v_a_data, v_a_scriptEnd, .ref a_main, .ref a_other, v_a_taken, .int v1, .int u1, .int i_ops, .int i_ifs, .int i_ifsNotTaken, .int i_free, r_layout, .int i_tx, .int i_in, r_coin, .int i_messageIsThere])), (a_main, .inl (cy 1, 204, .inl g_main)), (a_other, .inl (cy 1, 204, .inl f3))] := by rw [ev]; exact hD
    clear ev
    refine lv_aload_n hx hb d_Ma_toOther_38 rfl (lv_at hl 0 rfl) ?_
    refine lv_dup hx hb d_Ma_toOther_39 rfl ?_
    refine va_get (D := D) (ci := 6) (v := .int u1) (C := "CoinKeeper$Machine") (T := F_6) (N := 19) hx hb hts i_6 hown hK hP 0 rfl rfl 9 (by decide) (hts _ gw_213) (fun _ h9 => h9) rfl d_Ma_toOther_40 ?_
    refine lv_iconst (v := 1) hx hb d_Ma_toOther_43 (by decide) ?_
    refine lv_iadd hx hb d_Ma_toOther_44 ?_
    refine lv_topi (fun v4 ev => ?_)
    have hf := bn ev hf
    clear ev
    refine va_put (D := D) (ci := 6) (v := .int v4) (ty := .int) (C := "CoinKeeper$Machine") (T := F_6) (N := 19) hx hb hts i_6 t_6 t_6_ok n_6 hown hK hP hD hS 0 rfl rfl 9 (by decide) (hts _ gw_213) (fun _ h9 => h9) rfl (by decide +kernel) rfl rfl (Nat.le_of_ble_eq_true rfl) d_Ma_toOther_45 (fun H locs hP hD hS => ?_)
    have hP : va_P D classes [(o, .inr (6, [v_o_sha, r_signatures, v_o_ripemd, v_a_data, v_a_scriptEnd, .ref a_main, .ref a_other, v_a_taken, .int v1, .int v4, .int i_ops, .int i_ifs, .int i_ifsNotTaken, .int i_free, r_layout, .int i_tx, .int i_in, r_coin, .int i_messageIsThere])), (a_main, .inl (cy 1, 204, .inl g_main)), (a_other, .inl (cy 1, 204, .inl f3))] H := hP
    have hD : va_D A [(o, .inr (6, [v_o_sha, r_signatures, v_o_ripemd, v_a_data, v_a_scriptEnd, .ref a_main, .ref a_other, v_a_taken, .int v1, .int v4, .int i_ops, .int i_ifs, .int i_ifsNotTaken, .int i_free, r_layout, .int i_tx, .int i_in, r_coin, .int i_messageIsThere])), (a_main, .inl (cy 1, 204, .inl g_main)), (a_other, .inl (cy 1, 204, .inl f3))] := hD
    refine lv_iconst (v := 1) hx hb d_Ma_toOther_48 (by decide) ?_
    obtain rfl := Option.some.inj hf
    exact q_rz hx hb hr hlocks hK hP hD hS (isb_n (v := 1) (by decide)) d_Ma_toOther_49
  · have hf := ifn cx hf
    refine lv_iconst (v := 0) hx hb d_Ma_toOther_8 (by decide) ?_
    obtain rfl := Option.some.inj hf
    exact q_rz hx hb hr hlocks hK hP hD hS (isb_n (v := 0) (by decide)) d_Ma_toOther_9
theorem c_Ma_toOther (l : Launch) (D : va_G) (cy : Nat → ClassId) (ad : Nat → Nat) (fu : Nat) (o : Nat) (v_o_sha : Value) (r_signatures : Value) (v_o_ripemd : Value) (v_a_data : Value) (v_a_scriptEnd : Value) (v_a_taken : Value) (r_layout : Value) (r_coin : Value) (a_main : Nat) (a_other : Nat) (i_ops : Int32) (i_ifs : Int32) (i_ifsNotTaken : Int32) (i_free : Int32) (i_tx : Int32) (i_in : Int32) (i_messageIsThere : Int32) (g_main : Nat → Int32) (u0 : Int32) (u1 : Int32) (u2 : Nat → Int32) (res : Int32 × Int32 × Int32 × (Nat → Int32)) (hf : x_Ma_toOther fu i_ops i_ifs i_ifsNotTaken i_free i_tx i_in i_messageIsThere g_main u0 u1 u2 = some res) (sz : Nat) : Met l ({ cls := "CoinKeeper$Machine", name := "toOther", desc := "()Z" } : Jvm.MethodName) (.code ({ cls := "CoinKeeper$Machine", name := "toOther", desc := "()Z" } : Jvm.MethodName) b_Ma_toOther 1 (some .boolean) :: gw) rm_Ma_toOther (va_Pc [.ref o] (Pr D cy ad [(o, .inr (6, [v_o_sha, r_signatures, v_o_ripemd, v_a_data, v_a_scriptEnd, .ref a_main, .ref a_other, v_a_taken, .int u0, .int u1, .int i_ops, .int i_ifs, .int i_ifsNotTaken, .int i_free, r_layout, .int i_tx, .int i_in, r_coin, .int i_messageIsThere])), (a_main, .inl (cy 1, 204, .inl g_main)), (a_other, .inl (cy 1, 204, .inl u2))] sz)) (q_Ma_toOther D cy (va_A [(o, .inr (6, [v_o_sha, r_signatures, v_o_ripemd, v_a_data, v_a_scriptEnd, .ref a_main, .ref a_other, v_a_taken, .int u0, .int u1, .int i_ops, .int i_ifs, .int i_ifsNotTaken, .int i_free, r_layout, .int i_tx, .int i_in, r_coin, .int i_messageIsThere])), (a_main, .inl (cy 1, 204, .inl g_main)), (a_other, .inl (cy 1, 204, .inl u2))] sz) o v_o_sha r_signatures v_o_ripemd v_a_data v_a_scriptEnd v_a_taken r_layout r_coin a_main a_other i_ops i_ifs i_ifsNotTaken i_free i_tx i_in i_messageIsThere g_main res) 0 0 (va_A [(o, .inr (6, [v_o_sha, r_signatures, v_o_ripemd, v_a_data, v_a_scriptEnd, .ref a_main, .ref a_other, v_a_taken, .int u0, .int u1, .int i_ops, .int i_ifs, .int i_ifsNotTaken, .int i_free, r_layout, .int i_tx, .int i_in, r_coin, .int i_messageIsThere])), (a_main, .inl (cy 1, 204, .inl g_main)), (a_other, .inl (cy 1, 204, .inl u2))] sz) :=
  q_met (Qc := fun A => q_Ma_toOther D cy A o v_o_sha r_signatures v_o_ripemd v_a_data v_a_scriptEnd v_a_taken r_layout r_coin a_main a_other i_ops i_ifs i_ifsNotTaken i_free i_tx i_in i_messageIsThere g_main res) (by decide) rfl rfl (Nat.le_of_ble_eq_true rfl) (fun p e s m below meth c ls F hP hD hS hl => we_Ma_toOther (fu := fu) F u0 u1 u2 res hf _ _ _ hP hD hS hl) sz
